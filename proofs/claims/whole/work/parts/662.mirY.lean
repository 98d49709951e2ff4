/-! MIRRORS: the reference, exps -/
def rQ_named (rc233 : zS → Option (Int32 × zS)) (rc238 : zS → Option (Int32 × zS))  (N : Nat)  (S : zS) : Option (Int32 × zS) := (zb (rQ_node N 1 0 0 S) fun x1 S2 => (zb (rQ_refer N x1 1 S2) fun _ S5 => (zb (rQ_good N  S5) fun x7 S8 => (if x7 = (0 : Int32) then some (x1, S8) else (zb (rQ_isSign N 91 S8) fun x10 S11 => (if x10 = (0 : Int32) then some (x1, S11) else (if zok (zA S11 13) (zI S2 9) then (zb (rQ_deeper N  (zsA S11 13 (zs (zA S11 13) (zI S2 9) 0))) fun _ S14 => (zb (rQ_step N  S14) fun _ S17 => (if zok (zA S17 33) x1 then (zb (rc233  (zsA S17 33 (zs (zA S17 33) x1 3))) fun x19 S20 => (if zok (zA S20 36) x1 then (zb (rQ_good N  (zsA S20 36 (zs (zA S20 36) x1 x19))) fun x22 S23 => (if x22 = (0 : Int32) then (zb (rQ_sign N 93 S23) fun _ S26 => some (x1, (zsI S26 7 ((zI S26 7) - 1)))) else (zb (rQ_isSign N 44 S23) fun x28 S29 => (if x28 = (0 : Int32) then (zb (rQ_sign N 93 S29) fun _ S32 => some (x1, (zsI S32 7 ((zI S32 7) - 1)))) else (zb (rQ_step N  S29) fun _ S35 => (zb (rc233  S35) fun x37 S38 => (if zok (zA S38 33) x1 then (if zok (zB S38 34) x1 then (zb (rQ_sign N 93 (zsB (zsA S38 33 (zs (zA S38 33) x1 4)) 34 (zs (zB S38 34) x1 x37.toInt64))) fun _ S41 => some (x1, (zsI S41 7 ((zI S41 7) - 1)))) else none) else none))))))) else none)) else none))) else none)))))))
theorem trQ_named {X : List Int32} {D0 : List xE} {a : Nat} {p : Nat → Nat} (hG0 : ((209, .inl (14, 9, .ref a)) : xE) ∈ D0) (hG : ∀ e ∈ zgQ a p, e ∈ D0) {fr0 lo0 : Nat} {rc233 : zS → Option (Int32 × zS)} (hrc233 : ∀  {S S2 : zS} {r : Int32}, rc233  S = some (r, S2) → yK X fr0 lo0 233 [.ref 209] (zD zTQ (zaQ a p) S D0) 0 0 (zQi zTQ (zaQ a p) D0 r S2)) {rc238 : zS → Option (Int32 × zS)} (hrc238 : ∀  {S S2 : zS} {r : Int32}, rc238  S = some (r, S2) → yK X fr0 lo0 238 [.ref 209] (zD zTQ (zaQ a p) S D0) 0 0 (zQi zTQ (zaQ a p) D0 r S2))  {N fr lo : Nat} (hf0 : fr0 + 1 ≤ fr) (hl0 : lo0 + 22 ≤ lo) (hf : 7 ≤ fr) (hl : 207 ≤ lo)  {S S2 : zS} {r : Int32}  (h : rQ_named rc233 rc238 N  S = some (r, S2)) : yK X fr lo 243 [.ref 209] (zD zTQ (zaQ a p) S D0) 0 0 (zQi zTQ (zaQ a p) D0 r S2) := by
  unfold rQ_named at h
  refine yK.of rfl (yle rfl) (L := [_, _, _, _, _]) rfl ?_
  refine xt_pure rfl rfl rfl rfl ?_
  refine xt_pure rfl rfl rfl (st1 := .int 1 :: _) rfl ?_
  refine xt_pure rfl rfl rfl (st1 := .int 0 :: _) rfl ?_
  refine xt_pure rfl rfl rfl (st1 := .int 0 :: _) rfl ?_
  obtain ⟨x1, S2, hc3, h⟩ := zbi h
  refine zt_Vi rfl rfl rfl rfl (xmC 176 rfl) ⟨rfl, rfl, yle rfl, yle rfl⟩ (m := 5) rfl ⟨by omega, by omega⟩ (trQ_node hG0 hG (by omega) (by omega) hc3) (fr1 := fr - 1) (lo1 := lo - 24) ?_
  refine xt_pure rfl rfl rfl (L1 := [_, _, _, _, _]) rfl ?_
  refine xt_pure rfl rfl rfl rfl ?_
  refine zt_gI 9 rfl rfl rfl rfl (x := (zI S2 9)) rfl ?_
  refine xt_pure rfl rfl rfl (L1 := [_, _, _, _, _]) rfl ?_
  refine xt_pure rfl rfl rfl rfl ?_
  refine xt_pure rfl rfl rfl rfl ?_
  refine xt_pure rfl rfl rfl (st1 := .int 1 :: _) rfl ?_
  obtain ⟨_, S5, hc6, h⟩ := zbi h
  refine zt_Vv rfl rfl rfl rfl (xmC 176 rfl) ⟨rfl, rfl, yle rfl, yle rfl⟩ (m := 3) rfl ⟨by omega, by omega⟩ (trQ_refer hG0 hG (by omega) (by omega) hc6) (fr1 := fr - 1) (lo1 := lo - 22) ?_
  refine xt_pure rfl rfl rfl rfl ?_
  obtain ⟨x7, S8, hc9, h⟩ := zbi h
  refine zt_Vi rfl rfl rfl rfl (xmC 176 rfl) ⟨rfl, rfl, yle rfl, yle rfl⟩ (m := 1) rfl ⟨by omega, by omega⟩ (trQ_good hG0 hG (by omega) (by omega) hc9) (fr1 := fr - 1) (lo1 := lo - 20) ?_
  refine xt_if rfl rfl (fun hb => ?_) (fun hb => ?_)
  · replace h := zif_t (p := x7 = (0 : Int32)) hb h
    refine xt_pure rfl rfl rfl rfl ?_
    cases h
    exact xt_iret rfl rfl rfl rfl ⟨rfl, rfl⟩
  · replace h := zif_f (p := x7 = (0 : Int32)) hb h
    refine xt_pure rfl rfl rfl rfl ?_
    refine xt_pure rfl rfl rfl (st1 := .int 91 :: _) rfl ?_
    obtain ⟨x10, S11, hc12, h⟩ := zbi h
    refine zt_Vi rfl rfl rfl rfl (xmC 176 rfl) ⟨rfl, rfl, yle rfl, yle rfl⟩ (m := 2) rfl ⟨by omega, by omega⟩ (trQ_isSign hG0 hG (by omega) (by omega) hc12) (fr1 := fr - 1) (lo1 := lo - 21) ?_
    refine xt_if rfl rfl (fun hb => ?_) (fun hb => ?_)
    · replace h := zif_t (p := x10 = (0 : Int32)) hb h
      refine xt_pure rfl rfl rfl rfl ?_
      cases h
      exact xt_iret rfl rfl rfl rfl ⟨rfl, rfl⟩
    · replace h := zif_f (p := x10 = (0 : Int32)) hb h
      refine xt_pure rfl rfl rfl rfl ?_
      refine xt_getf rfl rfl (xmC 182 rfl) ?_
      refine xt_pure rfl rfl rfl rfl ?_
      refine xt_pure rfl rfl rfl (st1 := .int 0 :: _) rfl ?_
      obtain ⟨hg, h⟩ := zgd h
      refine zt_ist 13 rfl rfl rfl rfl (l := (zA S11 13)) rfl hg ?_
      refine xt_pure rfl rfl rfl rfl ?_
      obtain ⟨_, S14, hc15, h⟩ := zbi h
      refine zt_Vv rfl rfl rfl rfl (xmC 176 rfl) ⟨rfl, rfl, yle rfl, yle rfl⟩ (m := 1) rfl ⟨by omega, by omega⟩ (trQ_deeper hG0 hG (by omega) (by omega) hc15) (fr1 := fr - 1) (lo1 := lo - 20) ?_
      refine xt_pure rfl rfl rfl rfl ?_
      obtain ⟨_, S17, hc18, h⟩ := zbi h
      refine zt_Vv rfl rfl rfl rfl (xmC 176 rfl) ⟨rfl, rfl, yle rfl, yle rfl⟩ (m := 1) rfl ⟨by omega, by omega⟩ (trQ_step hG0 hG (by omega) (by omega) hc18) (fr1 := fr - 1) (lo1 := lo - 20) ?_
      refine xt_pure rfl rfl rfl rfl ?_
      refine xt_getf rfl rfl (zmr hG0) ?_
      refine xt_getf rfl rfl (zmr (ymm hG 12 rfl)) ?_
      refine xt_pure rfl rfl rfl rfl ?_
      refine xt_pure rfl rfl rfl (st1 := .int 3 :: _) rfl ?_
      obtain ⟨hg, h⟩ := zgd h
      refine zt_ist 33 rfl rfl rfl rfl (l := (zA S17 33)) rfl hg ?_
      refine xt_pure rfl rfl rfl rfl ?_
      obtain ⟨x19, S20, hc21, h⟩ := zbi h
      refine zt_Vi rfl rfl rfl rfl (xmC 176 rfl) ⟨rfl, rfl, yle rfl, yle rfl⟩ (m := 3) rfl ⟨by omega, by omega⟩ (hrc233 hc21) (fr1 := fr0) (lo1 := lo0) ?_
      refine xt_pure rfl rfl rfl (L1 := [_, _, _, _, _]) rfl ?_
      refine xt_pure rfl rfl rfl rfl ?_
      refine xt_getf rfl rfl (zmr hG0) ?_
      refine xt_getf rfl rfl (zmr (ymm hG 15 rfl)) ?_
      refine xt_pure rfl rfl rfl rfl ?_
      refine xt_pure rfl rfl rfl rfl ?_
      obtain ⟨hg, h⟩ := zgd h
      refine zt_ist 36 rfl rfl rfl rfl (l := (zA S20 36)) rfl hg ?_
      refine xt_pure rfl rfl rfl rfl ?_
      obtain ⟨x22, S23, hc24, h⟩ := zbi h
      refine zt_Vi rfl rfl rfl rfl (xmC 176 rfl) ⟨rfl, rfl, yle rfl, yle rfl⟩ (m := 1) rfl ⟨by omega, by omega⟩ (trQ_good hG0 hG (by omega) (by omega) hc24) (fr1 := fr - 1) (lo1 := lo - 20) ?_
      refine xt_if rfl rfl (fun hb => ?_) (fun hb => ?_)
      · replace h := zif_t (p := x22 = (0 : Int32)) hb h
        refine xt_pure rfl rfl rfl rfl ?_
        refine xt_pure rfl rfl rfl (st1 := .int 93 :: _) rfl ?_
        obtain ⟨_, S26, hc27, h⟩ := zbi h
        refine zt_Vv rfl rfl rfl rfl (xmC 176 rfl) ⟨rfl, rfl, yle rfl, yle rfl⟩ (m := 2) rfl ⟨by omega, by omega⟩ (trQ_sign hG0 hG (by omega) (by omega) hc27) (fr1 := fr - 1) (lo1 := lo - 21) ?_
        refine xt_pure rfl rfl rfl rfl ?_
        refine xt_pure rfl rfl rfl rfl ?_
        refine zt_gI 7 rfl rfl rfl rfl (x := (zI S26 7)) rfl ?_
        refine xt_pure rfl rfl rfl (st1 := .int 1 :: _) rfl ?_
        refine xt_pure rfl rfl rfl rfl ?_
        refine zt_pI 7 rfl rfl rfl rfl rfl rfl ?_
        refine xt_pure rfl rfl rfl rfl ?_
        cases h
        exact xt_iret rfl rfl rfl rfl ⟨rfl, rfl⟩
      · replace h := zif_f (p := x22 = (0 : Int32)) hb h
        refine xt_pure rfl rfl rfl rfl ?_
        refine xt_pure rfl rfl rfl (st1 := .int 44 :: _) rfl ?_
        obtain ⟨x28, S29, hc30, h⟩ := zbi h
        refine zt_Vi rfl rfl rfl rfl (xmC 176 rfl) ⟨rfl, rfl, yle rfl, yle rfl⟩ (m := 2) rfl ⟨by omega, by omega⟩ (trQ_isSign hG0 hG (by omega) (by omega) hc30) (fr1 := fr - 1) (lo1 := lo - 21) ?_
        refine xt_if rfl rfl (fun hb => ?_) (fun hb => ?_)
        · replace h := zif_t (p := x28 = (0 : Int32)) hb h
          refine xt_pure rfl rfl rfl rfl ?_
          refine xt_pure rfl rfl rfl (st1 := .int 93 :: _) rfl ?_
          obtain ⟨_, S32, hc33, h⟩ := zbi h
          refine zt_Vv rfl rfl rfl rfl (xmC 176 rfl) ⟨rfl, rfl, yle rfl, yle rfl⟩ (m := 2) rfl ⟨by omega, by omega⟩ (trQ_sign hG0 hG (by omega) (by omega) hc33) (fr1 := fr - 1) (lo1 := lo - 21) ?_
          refine xt_pure rfl rfl rfl rfl ?_
          refine xt_pure rfl rfl rfl rfl ?_
          refine zt_gI 7 rfl rfl rfl rfl (x := (zI S32 7)) rfl ?_
          refine xt_pure rfl rfl rfl (st1 := .int 1 :: _) rfl ?_
          refine xt_pure rfl rfl rfl rfl ?_
          refine zt_pI 7 rfl rfl rfl rfl rfl rfl ?_
          refine xt_pure rfl rfl rfl rfl ?_
          cases h
          exact xt_iret rfl rfl rfl rfl ⟨rfl, rfl⟩
        · replace h := zif_f (p := x28 = (0 : Int32)) hb h
          refine xt_pure rfl rfl rfl rfl ?_
          obtain ⟨_, S35, hc36, h⟩ := zbi h
          refine zt_Vv rfl rfl rfl rfl (xmC 176 rfl) ⟨rfl, rfl, yle rfl, yle rfl⟩ (m := 1) rfl ⟨by omega, by omega⟩ (trQ_step hG0 hG (by omega) (by omega) hc36) (fr1 := fr - 1) (lo1 := lo - 20) ?_
          refine xt_pure rfl rfl rfl rfl ?_
          obtain ⟨x37, S38, hc39, h⟩ := zbi h
          refine zt_Vi rfl rfl rfl rfl (xmC 176 rfl) ⟨rfl, rfl, yle rfl, yle rfl⟩ (m := 3) rfl ⟨by omega, by omega⟩ (hrc233 hc39) (fr1 := fr0) (lo1 := lo0) ?_
          refine xt_pure rfl rfl rfl (L1 := [_, _, _, _, _]) rfl ?_
          refine xt_pure rfl rfl rfl rfl ?_
          refine xt_getf rfl rfl (zmr hG0) ?_
          refine xt_getf rfl rfl (zmr (ymm hG 12 rfl)) ?_
          refine xt_pure rfl rfl rfl rfl ?_
          refine xt_pure rfl rfl rfl (st1 := .int 4 :: _) rfl ?_
          obtain ⟨hg, h⟩ := zgd h
          refine zt_ist 33 rfl rfl rfl rfl (l := (zA S38 33)) rfl hg ?_
          refine xt_pure rfl rfl rfl rfl ?_
          refine xt_getf rfl rfl (zmr hG0) ?_
          refine xt_getf rfl rfl (zmr (ymm hG 13 rfl)) ?_
          refine xt_pure rfl rfl rfl rfl ?_
          refine xt_pure rfl rfl rfl rfl ?_
          refine xt_pure rfl rfl rfl rfl ?_
          obtain ⟨hg, h⟩ := zgd h
          refine zt_lst 34 rfl rfl rfl rfl (l := (zB S38 34)) rfl hg ?_
          refine xt_pure rfl rfl rfl rfl ?_
          refine xt_pure rfl rfl rfl (st1 := .int 93 :: _) rfl ?_
          obtain ⟨_, S41, hc42, h⟩ := zbi h
          refine zt_Vv rfl rfl rfl rfl (xmC 176 rfl) ⟨rfl, rfl, yle rfl, yle rfl⟩ (m := 2) rfl ⟨by omega, by omega⟩ (trQ_sign hG0 hG (by omega) (by omega) hc42) (fr1 := fr - 1) (lo1 := lo - 21) ?_
          refine xt_pure rfl rfl rfl rfl ?_
          refine xt_pure rfl rfl rfl rfl ?_
          refine zt_gI 7 rfl rfl rfl rfl (x := (zI S41 7)) rfl ?_
          refine xt_pure rfl rfl rfl (st1 := .int 1 :: _) rfl ?_
          refine xt_pure rfl rfl rfl rfl ?_
          refine zt_pI 7 rfl rfl rfl rfl rfl rfl ?_
          refine xt_pure rfl rfl rfl rfl ?_
          cases h
          exact xt_iret rfl rfl rfl rfl ⟨rfl, rfl⟩
def rQ_base_91 (rc233 : zS → Option (Int32 × zS)) (rc238 : zS → Option (Int32 × zS))  (N : Nat)   (S : zS) : Option (Int32 × zS) := (zb (rS_isWord zs_50 N S) fun x13 S14 => (if x13 = (0 : Int32) then (zb (rQ_node N 6 0 0 S14) fun x16 S17 => (zb (rQ_counts N  S17) fun _ S20 => (zb (rQ_step N  S20) fun _ S23 => (zb (rQ_refer N x16 0 S23) fun _ S26 => some (x16, S26))))) else (zb (rQ_node N 5 0 0 S14) fun x28 S29 => (zb (rQ_counts N  S29) fun _ S32 => (zb (rQ_step N  S32) fun _ S35 => (zb (rQ_refer N x28 0 S35) fun _ S38 => some (x28, S38)))))))
theorem trQ_base_91 {X : List Int32} {D0 : List xE} {a : Nat} {p : Nat → Nat} (hG0 : ((209, .inl (14, 9, .ref a)) : xE) ∈ D0) (hG : ∀ e ∈ zgQ a p, e ∈ D0) {fr0 lo0 : Nat} {rc233 : zS → Option (Int32 × zS)} (hrc233 : ∀  {S S2 : zS} {r : Int32}, rc233  S = some (r, S2) → yK X fr0 lo0 233 [.ref 209] (zD zTQ (zaQ a p) S D0) 0 0 (zQi zTQ (zaQ a p) D0 r S2)) {rc238 : zS → Option (Int32 × zS)} (hrc238 : ∀  {S S2 : zS} {r : Int32}, rc238  S = some (r, S2) → yK X fr0 lo0 238 [.ref 209] (zD zTQ (zaQ a p) S D0) 0 0 (zQi zTQ (zaQ a p) D0 r S2))  {N fr lo : Nat}   (hf0 : fr0 + 2 ≤ fr) (hl0 : lo0 + 46 ≤ lo) (hf : 8 ≤ fr) (hl : 231 ≤ lo)   {S S2 : zS} {r : Int32}  (h : rQ_base_91 rc233 rc238 N  S = some (r, S2)) : yT X fr lo 242 91 [some (.ref 209), none, none] [] (zD zTQ (zaQ a p) S D0) 0 0 (zQi zTQ (zaQ a p) D0 r S2) := by
  unfold rQ_base_91 at h
  refine xt_pure rfl rfl rfl rfl ?_
  refine xt_pure rfl rfl rfl rfl ?_
  refine xt_pure rfl rfl rfl rfl ?_
  obtain ⟨x13, S14, hc15, h⟩ := zbi h
  refine zt_Vi rfl rfl rfl rfl (xmC 176 rfl) ⟨rfl, rfl, yle rfl, yle rfl⟩ (m := 3) rfl ⟨by omega, by omega⟩ (trS_isWord hG0 hG (List.mem_cons_of_mem _ (List.mem_of_getElem? (i := 73) rfl)) (List.mem_cons_of_mem _ (List.mem_of_getElem? (i := 74) rfl)) (List.mem_cons_of_mem _ (List.mem_of_getElem? (i := 75) rfl)) (by omega) (by omega) hc15) (fr1 := fr - 1) (lo1 := lo - 22) ?_
  refine xt_if rfl rfl (fun hb => ?_) (fun hb => ?_)
  · replace h := zif_t (p := x13 = (0 : Int32)) hb h
    refine xt_pure rfl rfl rfl (st1 := .int 6 :: _) rfl ?_
    refine xt_pure rfl rfl rfl (st1 := .int 0 :: _) rfl ?_
    refine xt_pure rfl rfl rfl (st1 := .int 0 :: _) rfl ?_
    obtain ⟨x16, S17, hc18, h⟩ := zbi h
    refine zt_Vi rfl rfl rfl rfl (xmC 176 rfl) ⟨rfl, rfl, yle rfl, yle rfl⟩ (m := 5) rfl ⟨by omega, by omega⟩ (trQ_node hG0 hG (by omega) (by omega) hc18) (fr1 := fr - 1) (lo1 := lo - 24) ?_
    refine xt_pure rfl rfl rfl (L1 := [_, _, _]) rfl ?_
    refine xt_pure rfl rfl rfl rfl ?_
    obtain ⟨_, S20, hc21, h⟩ := zbi h
    refine zt_Vv rfl rfl rfl rfl (xmC 176 rfl) ⟨rfl, rfl, yle rfl, yle rfl⟩ (m := 1) rfl ⟨by omega, by omega⟩ (trQ_counts hG0 hG (by omega) (by omega) hc21) (fr1 := fr - 1) (lo1 := lo - 20) ?_
    refine xt_pure rfl rfl rfl rfl ?_
    obtain ⟨_, S23, hc24, h⟩ := zbi h
    refine zt_Vv rfl rfl rfl rfl (xmC 176 rfl) ⟨rfl, rfl, yle rfl, yle rfl⟩ (m := 1) rfl ⟨by omega, by omega⟩ (trQ_step hG0 hG (by omega) (by omega) hc24) (fr1 := fr - 1) (lo1 := lo - 20) ?_
    refine xt_pure rfl rfl rfl rfl ?_
    refine xt_pure rfl rfl rfl rfl ?_
    refine xt_pure rfl rfl rfl (st1 := .int 0 :: _) rfl ?_
    obtain ⟨_, S26, hc27, h⟩ := zbi h
    refine zt_Vv rfl rfl rfl rfl (xmC 176 rfl) ⟨rfl, rfl, yle rfl, yle rfl⟩ (m := 3) rfl ⟨by omega, by omega⟩ (trQ_refer hG0 hG (by omega) (by omega) hc27) (fr1 := fr - 1) (lo1 := lo - 22) ?_
    refine xt_pure rfl rfl rfl rfl ?_
    cases h
    exact xt_iret rfl rfl rfl rfl ⟨rfl, rfl⟩
  · replace h := zif_f (p := x13 = (0 : Int32)) hb h
    refine xt_pure rfl rfl rfl (st1 := .int 5 :: _) rfl ?_
    refine xt_pure rfl rfl rfl rfl ?_
    refine xt_pure rfl rfl rfl (st1 := .int 0 :: _) rfl ?_
    refine xt_pure rfl rfl rfl (st1 := .int 0 :: _) rfl ?_
    obtain ⟨x28, S29, hc30, h⟩ := zbi h
    refine zt_Vi rfl rfl rfl rfl (xmC 176 rfl) ⟨rfl, rfl, yle rfl, yle rfl⟩ (m := 5) rfl ⟨by omega, by omega⟩ (trQ_node hG0 hG (by omega) (by omega) hc30) (fr1 := fr - 1) (lo1 := lo - 24) ?_
    refine xt_pure rfl rfl rfl (L1 := [_, _, _]) rfl ?_
    refine xt_pure rfl rfl rfl rfl ?_
    obtain ⟨_, S32, hc33, h⟩ := zbi h
    refine zt_Vv rfl rfl rfl rfl (xmC 176 rfl) ⟨rfl, rfl, yle rfl, yle rfl⟩ (m := 1) rfl ⟨by omega, by omega⟩ (trQ_counts hG0 hG (by omega) (by omega) hc33) (fr1 := fr - 1) (lo1 := lo - 20) ?_
    refine xt_pure rfl rfl rfl rfl ?_
    obtain ⟨_, S35, hc36, h⟩ := zbi h
    refine zt_Vv rfl rfl rfl rfl (xmC 176 rfl) ⟨rfl, rfl, yle rfl, yle rfl⟩ (m := 1) rfl ⟨by omega, by omega⟩ (trQ_step hG0 hG (by omega) (by omega) hc36) (fr1 := fr - 1) (lo1 := lo - 20) ?_
    refine xt_pure rfl rfl rfl rfl ?_
    refine xt_pure rfl rfl rfl rfl ?_
    refine xt_pure rfl rfl rfl (st1 := .int 0 :: _) rfl ?_
    obtain ⟨_, S38, hc39, h⟩ := zbi h
    refine zt_Vv rfl rfl rfl rfl (xmC 176 rfl) ⟨rfl, rfl, yle rfl, yle rfl⟩ (m := 3) rfl ⟨by omega, by omega⟩ (trQ_refer hG0 hG (by omega) (by omega) hc39) (fr1 := fr - 1) (lo1 := lo - 22) ?_
    refine xt_pure rfl rfl rfl rfl ?_
    cases h
    exact xt_iret rfl rfl rfl rfl ⟨rfl, rfl⟩
def rQ_base (rc233 : zS → Option (Int32 × zS)) (rc238 : zS → Option (Int32 × zS))  (N : Nat)  (S : zS) : Option (Int32 × zS) := (if (zI S 2) ≠ (2 : Int32) then (zb (rQ_isName N  S) fun x1 S2 => (if x1 = (0 : Int32) then (zb (rQ_isSign N 40 S2) fun x4 S5 => (if x4 = (0 : Int32) then (zb (rS_isWord zs_58 N S5) fun x7 S8 => (if x7 = (0 : Int32) then (zb (rS_isWord zs_50 N S8) fun x10 S11 => (if x10 ≠ (0 : Int32) then rQ_base_91 rc233 rc238 N  S11 else (zb (rS_isWord zs_52 N S11) fun x40 S41 => (if x40 = (0 : Int32) then (zb (rS_isWord zs_54 N S41) fun x43 S44 => (if x43 = (0 : Int32) then (zb (rS_isWord zs_56 N S44) fun x46 S47 => (if x46 = (0 : Int32) then (zb (rQ_wrong N  S47) fun _ S50 => some (0, S50)) else (zb (rQ_node N 8 0 0 S47) fun x52 S53 => (zb (rQ_counts N  S53) fun _ S56 => (zb (rQ_step N  S56) fun _ S59 => (zb (rQ_refer N x52 0 S59) fun _ S62 => (zb (rQ_good N  S62) fun x64 S65 => (if x64 = (0 : Int32) then some (x52, S65) else (zb (rQ_isSign N 91 S65) fun x67 S68 => (if x67 = (0 : Int32) then some (x52, S68) else (zb (rQ_deeper N  S68) fun _ S71 => (zb (rQ_step N  S71) fun _ S74 => (zb (rc233  S74) fun x76 S77 => (if zok (zA S77 33) x52 then (if zok (zA S77 36) x52 then (zb (rQ_sign N 93 (zsA (zsA S77 33 (zs (zA S77 33) x52 9)) 36 (zs (zA S77 36) x52 x76))) fun _ S80 => some (x52, (zsI S80 7 ((zI S80 7) - 1)))) else none) else none)))))))))))))) else (zb (rQ_sorted N  S44) fun x82 S83 => some (x82, S83)))) else rQ_base_91 rc233 rc238 N  S41)))) else (zb (rQ_counts N  S8) fun _ S86 => (zb (rQ_deeper N  S86) fun _ S89 => (zb (rQ_step N  S89) fun _ S92 => (zb (rc238  S92) fun x94 S95 => (zb (rQ_word N  S95) fun _ S98 => (zb (rc238  S98) fun x100 S101 => (zb (rQ_node N 10 x94 x100 (zsI S101 7 ((zI S101 7) - 1))) fun x103 S104 => some (x103, S104)))))))))) else (zb (rQ_deeper N  S5) fun _ S107 => (zb (rQ_step N  S107) fun _ S110 => (zb (rc233  S110) fun x112 S113 => (zb (rQ_sign N 41 S113) fun _ S116 => some (x112, (zsI S116 7 ((zI S116 7) - 1))))))))) else (zb (rQ_named rc233 rc238 N  S2) fun x118 S119 => some (x118, S119)))) else (zb (rQ_counts N  S) fun _ S122 => (zb (rQ_node N 0 0 0 S122) fun x124 S125 => (if zok (zB S125 34) x124 then (zb (rQ_step N  (zsB S125 34 (zs (zB S125 34) x124 ((zI S125 5).toInt64)))) fun _ S128 => some (x124, S128)) else none))))
theorem trQ_base {X : List Int32} {D0 : List xE} {a : Nat} {p : Nat → Nat} (hG0 : ((209, .inl (14, 9, .ref a)) : xE) ∈ D0) (hG : ∀ e ∈ zgQ a p, e ∈ D0) {fr0 lo0 : Nat} {rc233 : zS → Option (Int32 × zS)} (hrc233 : ∀  {S S2 : zS} {r : Int32}, rc233  S = some (r, S2) → yK X fr0 lo0 233 [.ref 209] (zD zTQ (zaQ a p) S D0) 0 0 (zQi zTQ (zaQ a p) D0 r S2)) {rc238 : zS → Option (Int32 × zS)} (hrc238 : ∀  {S S2 : zS} {r : Int32}, rc238  S = some (r, S2) → yK X fr0 lo0 238 [.ref 209] (zD zTQ (zaQ a p) S D0) 0 0 (zQi zTQ (zaQ a p) D0 r S2))  {N fr lo : Nat} (hf0 : fr0 + 2 ≤ fr) (hl0 : lo0 + 46 ≤ lo) (hf : 8 ≤ fr) (hl : 231 ≤ lo)  {S S2 : zS} {r : Int32}  (h : rQ_base rc233 rc238 N  S = some (r, S2)) : yK X fr lo 242 [.ref 209] (zD zTQ (zaQ a p) S D0) 0 0 (zQi zTQ (zaQ a p) D0 r S2) := by
  unfold rQ_base at h
  refine yK.of rfl (yle rfl) (L := [_, _, _]) rfl ?_
  refine xt_pure rfl rfl rfl rfl ?_
  refine zt_gI 2 rfl rfl rfl rfl (x := (zI S 2)) rfl ?_
  refine xt_pure rfl rfl rfl (st1 := .int 2 :: _) rfl ?_
  refine xt_ic rfl rfl (fun hb => ?_) (fun hb => ?_)
  · replace h := zif_t (p := (zI S 2) ≠ (2 : Int32)) hb h
    refine xt_pure rfl rfl rfl rfl ?_
    obtain ⟨x1, S2, hc3, h⟩ := zbi h
    refine zt_Vi rfl rfl rfl rfl (xmC 176 rfl) ⟨rfl, rfl, yle rfl, yle rfl⟩ (m := 2) rfl ⟨by omega, by omega⟩ (trQ_isName hG0 hG (by omega) (by omega) hc3) (fr1 := fr - 1) (lo1 := lo - 21) ?_
    refine xt_if rfl rfl (fun hb => ?_) (fun hb => ?_)
    · replace h := zif_t (p := x1 = (0 : Int32)) hb h
      refine xt_pure rfl rfl rfl rfl ?_
      refine xt_pure rfl rfl rfl (st1 := .int 40 :: _) rfl ?_
      obtain ⟨x4, S5, hc6, h⟩ := zbi h
      refine zt_Vi rfl rfl rfl rfl (xmC 176 rfl) ⟨rfl, rfl, yle rfl, yle rfl⟩ (m := 2) rfl ⟨by omega, by omega⟩ (trQ_isSign hG0 hG (by omega) (by omega) hc6) (fr1 := fr - 1) (lo1 := lo - 21) ?_
      refine xt_if rfl rfl (fun hb => ?_) (fun hb => ?_)
      · replace h := zif_t (p := x4 = (0 : Int32)) hb h
        refine xt_pure rfl rfl rfl rfl ?_
        refine xt_pure rfl rfl rfl rfl ?_
        obtain ⟨x7, S8, hc9, h⟩ := zbi h
        refine zt_Vi rfl rfl rfl rfl (xmC 176 rfl) ⟨rfl, rfl, yle rfl, yle rfl⟩ (m := 3) rfl ⟨by omega, by omega⟩ (trS_isWord hG0 hG (List.mem_cons_of_mem _ (List.mem_of_getElem? (i := 85) rfl)) (List.mem_cons_of_mem _ (List.mem_of_getElem? (i := 86) rfl)) (List.mem_cons_of_mem _ (List.mem_of_getElem? (i := 87) rfl)) (by omega) (by omega) hc9) (fr1 := fr - 1) (lo1 := lo - 22) ?_
        refine xt_if rfl rfl (fun hb => ?_) (fun hb => ?_)
        · replace h := zif_t (p := x7 = (0 : Int32)) hb h
          refine xt_pure rfl rfl rfl rfl ?_
          refine xt_pure rfl rfl rfl rfl ?_
          obtain ⟨x10, S11, hc12, h⟩ := zbi h
          refine zt_Vi rfl rfl rfl rfl (xmC 176 rfl) ⟨rfl, rfl, yle rfl, yle rfl⟩ (m := 3) rfl ⟨by omega, by omega⟩ (trS_isWord hG0 hG (List.mem_cons_of_mem _ (List.mem_of_getElem? (i := 73) rfl)) (List.mem_cons_of_mem _ (List.mem_of_getElem? (i := 74) rfl)) (List.mem_cons_of_mem _ (List.mem_of_getElem? (i := 75) rfl)) (by omega) (by omega) hc12) (fr1 := fr - 1) (lo1 := lo - 22) ?_
          refine xt_if rfl rfl (fun hb => ?_) (fun hb => ?_)
          · replace h := zif_t (p := x10 ≠ (0 : Int32)) hb h
            exact trQ_base_91 hG0 hG hrc233 hrc238 hf0 hl0 hf hl h
          · replace h := zif_f (p := x10 ≠ (0 : Int32)) hb h
            refine xt_pure rfl rfl rfl rfl ?_
            refine xt_pure rfl rfl rfl rfl ?_
            obtain ⟨x40, S41, hc42, h⟩ := zbi h
            refine zt_Vi rfl rfl rfl rfl (xmC 176 rfl) ⟨rfl, rfl, yle rfl, yle rfl⟩ (m := 3) rfl ⟨by omega, by omega⟩ (trS_isWord hG0 hG (List.mem_cons_of_mem _ (List.mem_of_getElem? (i := 76) rfl)) (List.mem_cons_of_mem _ (List.mem_of_getElem? (i := 77) rfl)) (List.mem_cons_of_mem _ (List.mem_of_getElem? (i := 78) rfl)) (by omega) (by omega) hc42) (fr1 := fr - 1) (lo1 := lo - 22) ?_
            refine xt_if rfl rfl (fun hb => ?_) (fun hb => ?_)
            · replace h := zif_t (p := x40 = (0 : Int32)) hb h
              refine xt_pure rfl rfl rfl rfl ?_
              refine xt_pure rfl rfl rfl rfl ?_
              obtain ⟨x43, S44, hc45, h⟩ := zbi h
              refine zt_Vi rfl rfl rfl rfl (xmC 176 rfl) ⟨rfl, rfl, yle rfl, yle rfl⟩ (m := 3) rfl ⟨by omega, by omega⟩ (trS_isWord hG0 hG (List.mem_cons_of_mem _ (List.mem_of_getElem? (i := 79) rfl)) (List.mem_cons_of_mem _ (List.mem_of_getElem? (i := 80) rfl)) (List.mem_cons_of_mem _ (List.mem_of_getElem? (i := 81) rfl)) (by omega) (by omega) hc45) (fr1 := fr - 1) (lo1 := lo - 22) ?_
              refine xt_if rfl rfl (fun hb => ?_) (fun hb => ?_)
              · replace h := zif_t (p := x43 = (0 : Int32)) hb h
                refine xt_pure rfl rfl rfl rfl ?_
                refine xt_pure rfl rfl rfl rfl ?_
                obtain ⟨x46, S47, hc48, h⟩ := zbi h
                refine zt_Vi rfl rfl rfl rfl (xmC 176 rfl) ⟨rfl, rfl, yle rfl, yle rfl⟩ (m := 3) rfl ⟨by omega, by omega⟩ (trS_isWord hG0 hG (List.mem_cons_of_mem _ (List.mem_of_getElem? (i := 82) rfl)) (List.mem_cons_of_mem _ (List.mem_of_getElem? (i := 83) rfl)) (List.mem_cons_of_mem _ (List.mem_of_getElem? (i := 84) rfl)) (by omega) (by omega) hc48) (fr1 := fr - 1) (lo1 := lo - 22) ?_
                refine xt_if rfl rfl (fun hb => ?_) (fun hb => ?_)
                · replace h := zif_t (p := x46 = (0 : Int32)) hb h
                  refine xt_pure rfl rfl rfl rfl ?_
                  obtain ⟨_, S50, hc51, h⟩ := zbi h
                  refine zt_Vv rfl rfl rfl rfl (xmC 176 rfl) ⟨rfl, rfl, yle rfl, yle rfl⟩ (m := 1) rfl ⟨by omega, by omega⟩ (trQ_wrong hG0 hG (by omega) (by omega) hc51) (fr1 := fr - 1) (lo1 := lo - 20) ?_
                  refine xt_pure rfl rfl rfl (st1 := .int 0 :: _) rfl ?_
                  cases h
                  exact xt_iret rfl rfl rfl rfl ⟨rfl, rfl⟩
                · replace h := zif_f (p := x46 = (0 : Int32)) hb h
                  refine xt_pure rfl rfl rfl rfl ?_
                  refine xt_pure rfl rfl rfl (st1 := .int 8 :: _) rfl ?_
                  refine xt_pure rfl rfl rfl (st1 := .int 0 :: _) rfl ?_
                  refine xt_pure rfl rfl rfl (st1 := .int 0 :: _) rfl ?_
                  obtain ⟨x52, S53, hc54, h⟩ := zbi h
                  refine zt_Vi rfl rfl rfl rfl (xmC 176 rfl) ⟨rfl, rfl, yle rfl, yle rfl⟩ (m := 5) rfl ⟨by omega, by omega⟩ (trQ_node hG0 hG (by omega) (by omega) hc54) (fr1 := fr - 1) (lo1 := lo - 24) ?_
                  refine xt_pure rfl rfl rfl (L1 := [_, _, _]) rfl ?_
                  refine xt_pure rfl rfl rfl rfl ?_
                  obtain ⟨_, S56, hc57, h⟩ := zbi h
                  refine zt_Vv rfl rfl rfl rfl (xmC 176 rfl) ⟨rfl, rfl, yle rfl, yle rfl⟩ (m := 1) rfl ⟨by omega, by omega⟩ (trQ_counts hG0 hG (by omega) (by omega) hc57) (fr1 := fr - 1) (lo1 := lo - 20) ?_
                  refine xt_pure rfl rfl rfl rfl ?_
                  obtain ⟨_, S59, hc60, h⟩ := zbi h
                  refine zt_Vv rfl rfl rfl rfl (xmC 176 rfl) ⟨rfl, rfl, yle rfl, yle rfl⟩ (m := 1) rfl ⟨by omega, by omega⟩ (trQ_step hG0 hG (by omega) (by omega) hc60) (fr1 := fr - 1) (lo1 := lo - 20) ?_
                  refine xt_pure rfl rfl rfl rfl ?_
                  refine xt_pure rfl rfl rfl rfl ?_
                  refine xt_pure rfl rfl rfl (st1 := .int 0 :: _) rfl ?_
                  obtain ⟨_, S62, hc63, h⟩ := zbi h
                  refine zt_Vv rfl rfl rfl rfl (xmC 176 rfl) ⟨rfl, rfl, yle rfl, yle rfl⟩ (m := 3) rfl ⟨by omega, by omega⟩ (trQ_refer hG0 hG (by omega) (by omega) hc63) (fr1 := fr - 1) (lo1 := lo - 22) ?_
                  refine xt_pure rfl rfl rfl rfl ?_
                  obtain ⟨x64, S65, hc66, h⟩ := zbi h
                  refine zt_Vi rfl rfl rfl rfl (xmC 176 rfl) ⟨rfl, rfl, yle rfl, yle rfl⟩ (m := 1) rfl ⟨by omega, by omega⟩ (trQ_good hG0 hG (by omega) (by omega) hc66) (fr1 := fr - 1) (lo1 := lo - 20) ?_
                  refine xt_if rfl rfl (fun hb => ?_) (fun hb => ?_)
                  · replace h := zif_t (p := x64 = (0 : Int32)) hb h
                    refine xt_pure rfl rfl rfl rfl ?_
                    cases h
                    exact xt_iret rfl rfl rfl rfl ⟨rfl, rfl⟩
                  · replace h := zif_f (p := x64 = (0 : Int32)) hb h
                    refine xt_pure rfl rfl rfl rfl ?_
                    refine xt_pure rfl rfl rfl (st1 := .int 91 :: _) rfl ?_
                    obtain ⟨x67, S68, hc69, h⟩ := zbi h
                    refine zt_Vi rfl rfl rfl rfl (xmC 176 rfl) ⟨rfl, rfl, yle rfl, yle rfl⟩ (m := 2) rfl ⟨by omega, by omega⟩ (trQ_isSign hG0 hG (by omega) (by omega) hc69) (fr1 := fr - 1) (lo1 := lo - 21) ?_
                    refine xt_if rfl rfl (fun hb => ?_) (fun hb => ?_)
                    · replace h := zif_t (p := x67 = (0 : Int32)) hb h
                      refine xt_pure rfl rfl rfl rfl ?_
                      cases h
                      exact xt_iret rfl rfl rfl rfl ⟨rfl, rfl⟩
                    · replace h := zif_f (p := x67 = (0 : Int32)) hb h
                      refine xt_pure rfl rfl rfl rfl ?_
                      obtain ⟨_, S71, hc72, h⟩ := zbi h
                      refine zt_Vv rfl rfl rfl rfl (xmC 176 rfl) ⟨rfl, rfl, yle rfl, yle rfl⟩ (m := 1) rfl ⟨by omega, by omega⟩ (trQ_deeper hG0 hG (by omega) (by omega) hc72) (fr1 := fr - 1) (lo1 := lo - 20) ?_
                      refine xt_pure rfl rfl rfl rfl ?_
                      obtain ⟨_, S74, hc75, h⟩ := zbi h
                      refine zt_Vv rfl rfl rfl rfl (xmC 176 rfl) ⟨rfl, rfl, yle rfl, yle rfl⟩ (m := 1) rfl ⟨by omega, by omega⟩ (trQ_step hG0 hG (by omega) (by omega) hc75) (fr1 := fr - 1) (lo1 := lo - 20) ?_
                      refine xt_pure rfl rfl rfl rfl ?_
                      obtain ⟨x76, S77, hc78, h⟩ := zbi h
                      refine zt_Vi rfl rfl rfl rfl (xmC 176 rfl) ⟨rfl, rfl, yle rfl, yle rfl⟩ (m := 3) rfl ⟨by omega, by omega⟩ (hrc233 hc78) (fr1 := fr0) (lo1 := lo0) ?_
                      refine xt_pure rfl rfl rfl (L1 := [_, _, _]) rfl ?_
                      refine xt_pure rfl rfl rfl rfl ?_
                      refine xt_getf rfl rfl (zmr hG0) ?_
                      refine xt_getf rfl rfl (zmr (ymm hG 12 rfl)) ?_
                      refine xt_pure rfl rfl rfl rfl ?_
                      refine xt_pure rfl rfl rfl (st1 := .int 9 :: _) rfl ?_
                      obtain ⟨hg, h⟩ := zgd h
                      refine zt_ist 33 rfl rfl rfl rfl (l := (zA S77 33)) rfl hg ?_
                      refine xt_pure rfl rfl rfl rfl ?_
                      refine xt_getf rfl rfl (zmr hG0) ?_
                      refine xt_getf rfl rfl (zmr (ymm hG 15 rfl)) ?_
                      refine xt_pure rfl rfl rfl rfl ?_
                      refine xt_pure rfl rfl rfl rfl ?_
                      obtain ⟨hg, h⟩ := zgd h
                      refine zt_ist 36 rfl rfl rfl rfl (l := (zA S77 36)) rfl hg ?_
                      refine xt_pure rfl rfl rfl rfl ?_
                      refine xt_pure rfl rfl rfl (st1 := .int 93 :: _) rfl ?_
                      obtain ⟨_, S80, hc81, h⟩ := zbi h
                      refine zt_Vv rfl rfl rfl rfl (xmC 176 rfl) ⟨rfl, rfl, yle rfl, yle rfl⟩ (m := 2) rfl ⟨by omega, by omega⟩ (trQ_sign hG0 hG (by omega) (by omega) hc81) (fr1 := fr - 1) (lo1 := lo - 21) ?_
                      refine xt_pure rfl rfl rfl rfl ?_
                      refine xt_pure rfl rfl rfl rfl ?_
                      refine zt_gI 7 rfl rfl rfl rfl (x := (zI S80 7)) rfl ?_
                      refine xt_pure rfl rfl rfl (st1 := .int 1 :: _) rfl ?_
                      refine xt_pure rfl rfl rfl rfl ?_
                      refine zt_pI 7 rfl rfl rfl rfl rfl rfl ?_
                      refine xt_pure rfl rfl rfl rfl ?_
                      cases h
                      exact xt_iret rfl rfl rfl rfl ⟨rfl, rfl⟩
              · replace h := zif_f (p := x43 = (0 : Int32)) hb h
                refine xt_pure rfl rfl rfl rfl ?_
                obtain ⟨x82, S83, hc84, h⟩ := zbi h
                refine zt_Vi rfl rfl rfl rfl (xmC 176 rfl) ⟨rfl, rfl, yle rfl, yle rfl⟩ (m := 4) rfl ⟨by omega, by omega⟩ (trQ_sorted hG0 hG (by omega) (by omega) hc84) (fr1 := fr - 1) (lo1 := lo - 23) ?_
                cases h
                exact xt_iret rfl rfl rfl rfl ⟨rfl, rfl⟩
            · replace h := zif_f (p := x40 = (0 : Int32)) hb h
              exact trQ_base_91 hG0 hG hrc233 hrc238 hf0 hl0 hf hl h
        · replace h := zif_f (p := x7 = (0 : Int32)) hb h
          refine xt_pure rfl rfl rfl rfl ?_
          obtain ⟨_, S86, hc87, h⟩ := zbi h
          refine zt_Vv rfl rfl rfl rfl (xmC 176 rfl) ⟨rfl, rfl, yle rfl, yle rfl⟩ (m := 1) rfl ⟨by omega, by omega⟩ (trQ_counts hG0 hG (by omega) (by omega) hc87) (fr1 := fr - 1) (lo1 := lo - 20) ?_
          refine xt_pure rfl rfl rfl rfl ?_
          obtain ⟨_, S89, hc90, h⟩ := zbi h
          refine zt_Vv rfl rfl rfl rfl (xmC 176 rfl) ⟨rfl, rfl, yle rfl, yle rfl⟩ (m := 1) rfl ⟨by omega, by omega⟩ (trQ_deeper hG0 hG (by omega) (by omega) hc90) (fr1 := fr - 1) (lo1 := lo - 20) ?_
          refine xt_pure rfl rfl rfl rfl ?_
          obtain ⟨_, S92, hc93, h⟩ := zbi h
          refine zt_Vv rfl rfl rfl rfl (xmC 176 rfl) ⟨rfl, rfl, yle rfl, yle rfl⟩ (m := 1) rfl ⟨by omega, by omega⟩ (trQ_step hG0 hG (by omega) (by omega) hc93) (fr1 := fr - 1) (lo1 := lo - 20) ?_
          refine xt_pure rfl rfl rfl rfl ?_
          obtain ⟨x94, S95, hc96, h⟩ := zbi h
          refine zt_Vi rfl rfl rfl rfl (xmC 176 rfl) ⟨rfl, rfl, yle rfl, yle rfl⟩ (m := 3) rfl ⟨by omega, by omega⟩ (hrc238 hc96) (fr1 := fr0) (lo1 := lo0) ?_
          refine xt_pure rfl rfl rfl (L1 := [_, _, _]) rfl ?_
          refine xt_pure rfl rfl rfl rfl ?_
          refine xt_pure rfl rfl rfl rfl ?_
          obtain ⟨_, S98, hc99, h⟩ := zbi h
          refine zt_Vv rfl rfl rfl rfl (xmC 176 rfl) ⟨rfl, rfl, yle rfl, yle rfl⟩ (m := 2) rfl ⟨by omega, by omega⟩ (trQ_word hG0 hG (by omega) (by omega) hc99) (fr1 := fr - 1) (lo1 := lo - 21) ?_
          refine xt_pure rfl rfl rfl rfl ?_
          obtain ⟨x100, S101, hc102, h⟩ := zbi h
          refine zt_Vi rfl rfl rfl rfl (xmC 176 rfl) ⟨rfl, rfl, yle rfl, yle rfl⟩ (m := 3) rfl ⟨by omega, by omega⟩ (hrc238 hc102) (fr1 := fr0) (lo1 := lo0) ?_
          refine xt_pure rfl rfl rfl (L1 := [_, _, _]) rfl ?_
          refine xt_pure rfl rfl rfl rfl ?_
          refine xt_pure rfl rfl rfl rfl ?_
          refine zt_gI 7 rfl rfl rfl rfl (x := (zI S101 7)) rfl ?_
          refine xt_pure rfl rfl rfl (st1 := .int 1 :: _) rfl ?_
          refine xt_pure rfl rfl rfl rfl ?_
          refine zt_pI 7 rfl rfl rfl rfl rfl rfl ?_
          refine xt_pure rfl rfl rfl rfl ?_
          refine xt_pure rfl rfl rfl (st1 := .int 10 :: _) rfl ?_
          refine xt_pure rfl rfl rfl rfl ?_
          refine xt_pure rfl rfl rfl rfl ?_
          obtain ⟨x103, S104, hc105, h⟩ := zbi h
          refine zt_Vi rfl rfl rfl rfl (xmC 176 rfl) ⟨rfl, rfl, yle rfl, yle rfl⟩ (m := 5) rfl ⟨by omega, by omega⟩ (trQ_node hG0 hG (by omega) (by omega) hc105) (fr1 := fr - 1) (lo1 := lo - 24) ?_
          cases h
          exact xt_iret rfl rfl rfl rfl ⟨rfl, rfl⟩
      · replace h := zif_f (p := x4 = (0 : Int32)) hb h
        refine xt_pure rfl rfl rfl rfl ?_
        obtain ⟨_, S107, hc108, h⟩ := zbi h
        refine zt_Vv rfl rfl rfl rfl (xmC 176 rfl) ⟨rfl, rfl, yle rfl, yle rfl⟩ (m := 1) rfl ⟨by omega, by omega⟩ (trQ_deeper hG0 hG (by omega) (by omega) hc108) (fr1 := fr - 1) (lo1 := lo - 20) ?_
        refine xt_pure rfl rfl rfl rfl ?_
        obtain ⟨_, S110, hc111, h⟩ := zbi h
        refine zt_Vv rfl rfl rfl rfl (xmC 176 rfl) ⟨rfl, rfl, yle rfl, yle rfl⟩ (m := 1) rfl ⟨by omega, by omega⟩ (trQ_step hG0 hG (by omega) (by omega) hc111) (fr1 := fr - 1) (lo1 := lo - 20) ?_
        refine xt_pure rfl rfl rfl rfl ?_
        obtain ⟨x112, S113, hc114, h⟩ := zbi h
        refine zt_Vi rfl rfl rfl rfl (xmC 176 rfl) ⟨rfl, rfl, yle rfl, yle rfl⟩ (m := 3) rfl ⟨by omega, by omega⟩ (hrc233 hc114) (fr1 := fr0) (lo1 := lo0) ?_
        refine xt_pure rfl rfl rfl (L1 := [_, _, _]) rfl ?_
        refine xt_pure rfl rfl rfl rfl ?_
        refine xt_pure rfl rfl rfl (st1 := .int 41 :: _) rfl ?_
        obtain ⟨_, S116, hc117, h⟩ := zbi h
        refine zt_Vv rfl rfl rfl rfl (xmC 176 rfl) ⟨rfl, rfl, yle rfl, yle rfl⟩ (m := 2) rfl ⟨by omega, by omega⟩ (trQ_sign hG0 hG (by omega) (by omega) hc117) (fr1 := fr - 1) (lo1 := lo - 21) ?_
        refine xt_pure rfl rfl rfl rfl ?_
        refine xt_pure rfl rfl rfl rfl ?_
        refine zt_gI 7 rfl rfl rfl rfl (x := (zI S116 7)) rfl ?_
        refine xt_pure rfl rfl rfl (st1 := .int 1 :: _) rfl ?_
        refine xt_pure rfl rfl rfl rfl ?_
        refine zt_pI 7 rfl rfl rfl rfl rfl rfl ?_
        refine xt_pure rfl rfl rfl rfl ?_
        cases h
        exact xt_iret rfl rfl rfl rfl ⟨rfl, rfl⟩
    · replace h := zif_f (p := x1 = (0 : Int32)) hb h
      refine xt_pure rfl rfl rfl rfl ?_
      obtain ⟨x118, S119, hc120, h⟩ := zbi h
      refine zt_Vi rfl rfl rfl rfl (xmC 176 rfl) ⟨rfl, rfl, yle rfl, yle rfl⟩ (m := 5) rfl ⟨by omega, by omega⟩ (trQ_named hG0 hG hrc233 hrc238 (by omega) (by omega) (by omega) (by omega) hc120) (fr1 := fr - 1) (lo1 := lo - 24) ?_
      cases h
      exact xt_iret rfl rfl rfl rfl ⟨rfl, rfl⟩
  · replace h := zif_f (p := (zI S 2) ≠ (2 : Int32)) hb h
    refine xt_pure rfl rfl rfl rfl ?_
    obtain ⟨_, S122, hc123, h⟩ := zbi h
    refine zt_Vv rfl rfl rfl rfl (xmC 176 rfl) ⟨rfl, rfl, yle rfl, yle rfl⟩ (m := 1) rfl ⟨by omega, by omega⟩ (trQ_counts hG0 hG (by omega) (by omega) hc123) (fr1 := fr - 1) (lo1 := lo - 20) ?_
    refine xt_pure rfl rfl rfl rfl ?_
    refine xt_pure rfl rfl rfl (st1 := .int 0 :: _) rfl ?_
    refine xt_pure rfl rfl rfl (st1 := .int 0 :: _) rfl ?_
    refine xt_pure rfl rfl rfl (st1 := .int 0 :: _) rfl ?_
    obtain ⟨x124, S125, hc126, h⟩ := zbi h
    refine zt_Vi rfl rfl rfl rfl (xmC 176 rfl) ⟨rfl, rfl, yle rfl, yle rfl⟩ (m := 5) rfl ⟨by omega, by omega⟩ (trQ_node hG0 hG (by omega) (by omega) hc126) (fr1 := fr - 1) (lo1 := lo - 24) ?_
    refine xt_pure rfl rfl rfl (L1 := [_, _, _]) rfl ?_
    refine xt_pure rfl rfl rfl rfl ?_
    refine xt_getf rfl rfl (zmr hG0) ?_
    refine xt_getf rfl rfl (zmr (ymm hG 13 rfl)) ?_
    refine xt_pure rfl rfl rfl rfl ?_
    refine xt_pure rfl rfl rfl rfl ?_
    refine zt_gI 5 rfl rfl rfl rfl (x := (zI S125 5)) rfl ?_
    refine xt_pure rfl rfl rfl rfl ?_
    obtain ⟨hg, h⟩ := zgd h
    refine zt_lst 34 rfl rfl rfl rfl (l := (zB S125 34)) rfl hg ?_
    refine xt_pure rfl rfl rfl rfl ?_
    obtain ⟨_, S128, hc129, h⟩ := zbi h
    refine zt_Vv rfl rfl rfl rfl (xmC 176 rfl) ⟨rfl, rfl, yle rfl, yle rfl⟩ (m := 1) rfl ⟨by omega, by omega⟩ (trQ_step hG0 hG (by omega) (by omega) hc129) (fr1 := fr - 1) (lo1 := lo - 20) ?_
    refine xt_pure rfl rfl rfl rfl ?_
    cases h
    exact xt_iret rfl rfl rfl rfl ⟨rfl, rfl⟩
def rQ_one_20 (rc233 : zS → Option (Int32 × zS)) (rc238 : zS → Option (Int32 × zS))  (N : Nat)  (s0 : Int32) (S : zS) : Option (Int32 × zS) := (zb (rQ_counts N  S) fun _ S11 => (zb (rQ_deeper N  S11) fun _ S14 => (zb (rQ_step N  S14) fun _ S17 => (zb (rc238  S17) fun x19 S20 => (zb (rQ_node N s0 x19 0 (zsI S20 7 ((zI S20 7) - 1))) fun x22 S23 => some (x22, S23))))))
theorem trQ_one_20 {X : List Int32} {D0 : List xE} {a : Nat} {p : Nat → Nat} (hG0 : ((209, .inl (14, 9, .ref a)) : xE) ∈ D0) (hG : ∀ e ∈ zgQ a p, e ∈ D0) {fr0 lo0 : Nat} {rc233 : zS → Option (Int32 × zS)} (hrc233 : ∀  {S S2 : zS} {r : Int32}, rc233  S = some (r, S2) → yK X fr0 lo0 233 [.ref 209] (zD zTQ (zaQ a p) S D0) 0 0 (zQi zTQ (zaQ a p) D0 r S2)) {rc238 : zS → Option (Int32 × zS)} (hrc238 : ∀  {S S2 : zS} {r : Int32}, rc238  S = some (r, S2) → yK X fr0 lo0 238 [.ref 209] (zD zTQ (zaQ a p) S D0) 0 0 (zQi zTQ (zaQ a p) D0 r S2))  {N fr lo : Nat}   (hf0 : fr0 + 3 ≤ fr) (hl0 : lo0 + 68 ≤ lo) (hf : 9 ≤ fr) (hl : 253 ≤ lo) {s0 : Int32}  {S S2 : zS} {r : Int32}  (h : rQ_one_20 rc233 rc238 N s0 S = some (r, S2)) : yT X fr lo 238 20 [some (.ref 209), none, none] [.int s0] (zD zTQ (zaQ a p) S D0) 0 0 (zQi zTQ (zaQ a p) D0 r S2) := by
  unfold rQ_one_20 at h
  refine xt_pure rfl rfl rfl (L1 := [_, _, _]) rfl ?_
  refine xt_pure rfl rfl rfl rfl ?_
  obtain ⟨_, S11, hc12, h⟩ := zbi h
  refine zt_Vv rfl rfl rfl rfl (xmC 176 rfl) ⟨rfl, rfl, yle rfl, yle rfl⟩ (m := 1) rfl ⟨by omega, by omega⟩ (trQ_counts hG0 hG (by omega) (by omega) hc12) (fr1 := fr - 1) (lo1 := lo - 20) ?_
  refine xt_pure rfl rfl rfl rfl ?_
  obtain ⟨_, S14, hc15, h⟩ := zbi h
  refine zt_Vv rfl rfl rfl rfl (xmC 176 rfl) ⟨rfl, rfl, yle rfl, yle rfl⟩ (m := 1) rfl ⟨by omega, by omega⟩ (trQ_deeper hG0 hG (by omega) (by omega) hc15) (fr1 := fr - 1) (lo1 := lo - 20) ?_
  refine xt_pure rfl rfl rfl rfl ?_
  obtain ⟨_, S17, hc18, h⟩ := zbi h
  refine zt_Vv rfl rfl rfl rfl (xmC 176 rfl) ⟨rfl, rfl, yle rfl, yle rfl⟩ (m := 1) rfl ⟨by omega, by omega⟩ (trQ_step hG0 hG (by omega) (by omega) hc18) (fr1 := fr - 1) (lo1 := lo - 20) ?_
  refine xt_pure rfl rfl rfl rfl ?_
  obtain ⟨x19, S20, hc21, h⟩ := zbi h
  refine zt_Vi rfl rfl rfl rfl (xmC 176 rfl) ⟨rfl, rfl, yle rfl, yle rfl⟩ (m := 3) rfl ⟨by omega, by omega⟩ (hrc238 hc21) (fr1 := fr0) (lo1 := lo0) ?_
  refine xt_pure rfl rfl rfl (L1 := [_, _, _]) rfl ?_
  refine xt_pure rfl rfl rfl rfl ?_
  refine xt_pure rfl rfl rfl rfl ?_
  refine zt_gI 7 rfl rfl rfl rfl (x := (zI S20 7)) rfl ?_
  refine xt_pure rfl rfl rfl (st1 := .int 1 :: _) rfl ?_
  refine xt_pure rfl rfl rfl rfl ?_
  refine zt_pI 7 rfl rfl rfl rfl rfl rfl ?_
  refine xt_pure rfl rfl rfl rfl ?_
  refine xt_pure rfl rfl rfl rfl ?_
  refine xt_pure rfl rfl rfl rfl ?_
  refine xt_pure rfl rfl rfl (st1 := .int 0 :: _) rfl ?_
  obtain ⟨x22, S23, hc24, h⟩ := zbi h
  refine zt_Vi rfl rfl rfl rfl (xmC 176 rfl) ⟨rfl, rfl, yle rfl, yle rfl⟩ (m := 5) rfl ⟨by omega, by omega⟩ (trQ_node hG0 hG (by omega) (by omega) hc24) (fr1 := fr - 1) (lo1 := lo - 24) ?_
  cases h
  exact xt_iret rfl rfl rfl rfl ⟨rfl, rfl⟩
def rQ_one (rc233 : zS → Option (Int32 × zS)) (rc238 : zS → Option (Int32 × zS))  (N : Nat)  (S : zS) : Option (Int32 × zS) := (zb (rQ_good N  S) fun x1 S2 => (if x1 ≠ (0 : Int32) then (zb (rQ_isSign N 45 S2) fun x4 S5 => (if x4 ≠ (0 : Int32) then (zb (rQ_isSign N 45 S5) fun x7 S8 => (if x7 = (0 : Int32) then rQ_one_20 rc233 rc238 N 13 S8 else rQ_one_20 rc233 rc238 N 14 S8)) else (zb (rS_isWord zs_48 N S5) fun x25 S26 => (if x25 = (0 : Int32) then (zb (rQ_base rc233 rc238 N  S26) fun x28 S29 => some (x28, S29)) else (zb (rQ_isSign N 45 S26) fun x31 S32 => (if x31 = (0 : Int32) then rQ_one_20 rc233 rc238 N 13 S32 else rQ_one_20 rc233 rc238 N 14 S32)))))) else some (0, S2)))
theorem trQ_one {X : List Int32} {D0 : List xE} {a : Nat} {p : Nat → Nat} (hG0 : ((209, .inl (14, 9, .ref a)) : xE) ∈ D0) (hG : ∀ e ∈ zgQ a p, e ∈ D0) {fr0 lo0 : Nat} {rc233 : zS → Option (Int32 × zS)} (hrc233 : ∀  {S S2 : zS} {r : Int32}, rc233  S = some (r, S2) → yK X fr0 lo0 233 [.ref 209] (zD zTQ (zaQ a p) S D0) 0 0 (zQi zTQ (zaQ a p) D0 r S2)) {rc238 : zS → Option (Int32 × zS)} (hrc238 : ∀  {S S2 : zS} {r : Int32}, rc238  S = some (r, S2) → yK X fr0 lo0 238 [.ref 209] (zD zTQ (zaQ a p) S D0) 0 0 (zQi zTQ (zaQ a p) D0 r S2))  {N fr lo : Nat} (hf0 : fr0 + 3 ≤ fr) (hl0 : lo0 + 68 ≤ lo) (hf : 9 ≤ fr) (hl : 253 ≤ lo)  {S S2 : zS} {r : Int32}  (h : rQ_one rc233 rc238 N  S = some (r, S2)) : yK X fr lo 238 [.ref 209] (zD zTQ (zaQ a p) S D0) 0 0 (zQi zTQ (zaQ a p) D0 r S2) := by
  unfold rQ_one at h
  refine yK.of rfl (yle rfl) (L := [_, _, _]) rfl ?_
  refine xt_pure rfl rfl rfl rfl ?_
  obtain ⟨x1, S2, hc3, h⟩ := zbi h
  refine zt_Vi rfl rfl rfl rfl (xmC 176 rfl) ⟨rfl, rfl, yle rfl, yle rfl⟩ (m := 1) rfl ⟨by omega, by omega⟩ (trQ_good hG0 hG (by omega) (by omega) hc3) (fr1 := fr - 1) (lo1 := lo - 20) ?_
  refine xt_if rfl rfl (fun hb => ?_) (fun hb => ?_)
  · replace h := zif_t (p := x1 ≠ (0 : Int32)) hb h
    refine xt_pure rfl rfl rfl rfl ?_
    refine xt_pure rfl rfl rfl (st1 := .int 45 :: _) rfl ?_
    obtain ⟨x4, S5, hc6, h⟩ := zbi h
    refine zt_Vi rfl rfl rfl rfl (xmC 176 rfl) ⟨rfl, rfl, yle rfl, yle rfl⟩ (m := 2) rfl ⟨by omega, by omega⟩ (trQ_isSign hG0 hG (by omega) (by omega) hc6) (fr1 := fr - 1) (lo1 := lo - 21) ?_
    refine xt_if rfl rfl (fun hb => ?_) (fun hb => ?_)
    · replace h := zif_t (p := x4 ≠ (0 : Int32)) hb h
      refine xt_pure rfl rfl rfl rfl ?_
      refine xt_pure rfl rfl rfl (st1 := .int 45 :: _) rfl ?_
      obtain ⟨x7, S8, hc9, h⟩ := zbi h
      refine zt_Vi rfl rfl rfl rfl (xmC 176 rfl) ⟨rfl, rfl, yle rfl, yle rfl⟩ (m := 2) rfl ⟨by omega, by omega⟩ (trQ_isSign hG0 hG (by omega) (by omega) hc9) (fr1 := fr - 1) (lo1 := lo - 21) ?_
      refine xt_if rfl rfl (fun hb => ?_) (fun hb => ?_)
      · replace h := zif_t (p := x7 = (0 : Int32)) hb h
        refine xt_pure rfl rfl rfl (st1 := .int 13 :: _) rfl ?_
        exact trQ_one_20 hG0 hG hrc233 hrc238 hf0 hl0 hf hl h
      · replace h := zif_f (p := x7 = (0 : Int32)) hb h
        refine xt_pure rfl rfl rfl (st1 := .int 14 :: _) rfl ?_
        refine xt_pure rfl rfl rfl rfl ?_
        exact trQ_one_20 hG0 hG hrc233 hrc238 hf0 hl0 hf hl h
    · replace h := zif_f (p := x4 ≠ (0 : Int32)) hb h
      refine xt_pure rfl rfl rfl rfl ?_
      refine xt_pure rfl rfl rfl rfl ?_
      obtain ⟨x25, S26, hc27, h⟩ := zbi h
      refine zt_Vi rfl rfl rfl rfl (xmC 176 rfl) ⟨rfl, rfl, yle rfl, yle rfl⟩ (m := 3) rfl ⟨by omega, by omega⟩ (trS_isWord hG0 hG (List.mem_cons_of_mem _ (List.mem_of_getElem? (i := 70) rfl)) (List.mem_cons_of_mem _ (List.mem_of_getElem? (i := 71) rfl)) (List.mem_cons_of_mem _ (List.mem_of_getElem? (i := 72) rfl)) (by omega) (by omega) hc27) (fr1 := fr - 1) (lo1 := lo - 22) ?_
      refine xt_if rfl rfl (fun hb => ?_) (fun hb => ?_)
      · replace h := zif_t (p := x25 = (0 : Int32)) hb h
        refine xt_pure rfl rfl rfl rfl ?_
        obtain ⟨x28, S29, hc30, h⟩ := zbi h
        refine zt_Vi rfl rfl rfl rfl (xmC 176 rfl) ⟨rfl, rfl, yle rfl, yle rfl⟩ (m := 3) rfl ⟨by omega, by omega⟩ (trQ_base hG0 hG hrc233 hrc238 (by omega) (by omega) (by omega) (by omega) hc30) (fr1 := fr - 1) (lo1 := lo - 22) ?_
        cases h
        exact xt_iret rfl rfl rfl rfl ⟨rfl, rfl⟩
      · replace h := zif_f (p := x25 = (0 : Int32)) hb h
        refine xt_pure rfl rfl rfl rfl ?_
        refine xt_pure rfl rfl rfl (st1 := .int 45 :: _) rfl ?_
        obtain ⟨x31, S32, hc33, h⟩ := zbi h
        refine zt_Vi rfl rfl rfl rfl (xmC 176 rfl) ⟨rfl, rfl, yle rfl, yle rfl⟩ (m := 2) rfl ⟨by omega, by omega⟩ (trQ_isSign hG0 hG (by omega) (by omega) hc33) (fr1 := fr - 1) (lo1 := lo - 21) ?_
        refine xt_if rfl rfl (fun hb => ?_) (fun hb => ?_)
        · replace h := zif_t (p := x31 = (0 : Int32)) hb h
          refine xt_pure rfl rfl rfl (st1 := .int 13 :: _) rfl ?_
          exact trQ_one_20 hG0 hG hrc233 hrc238 hf0 hl0 hf hl h
        · replace h := zif_f (p := x31 = (0 : Int32)) hb h
          refine xt_pure rfl rfl rfl (st1 := .int 14 :: _) rfl ?_
          refine xt_pure rfl rfl rfl rfl ?_
          exact trQ_one_20 hG0 hG hrc233 hrc238 hf0 hl0 hf hl h
  · replace h := zif_f (p := x1 ≠ (0 : Int32)) hb h
    refine xt_pure rfl rfl rfl (st1 := .int 0 :: _) rfl ?_
    cases h
    exact xt_iret rfl rfl rfl rfl ⟨rfl, rfl⟩
def rQ_prod_31 (rc233 : zS → Option (Int32 × zS)) (rc238 : zS → Option (Int32 × zS))  (N : Nat) (k3 : Int32 → zS → Option (Int32 × zS)) (l1 : Int32) (s0 : Int32) (S : zS) : Option (Int32 × zS) := (zb (rQ_counts N  S) fun _ S17 => (zb (rQ_step N  S17) fun _ S20 => (zb (rc238  S20) fun x22 S23 => (zb (rQ_node N s0 l1 x22 S23) fun x25 S26 => k3 x25 S26))))
theorem trQ_prod_31 {X : List Int32} {D0 : List xE} {a : Nat} {p : Nat → Nat} (hG0 : ((209, .inl (14, 9, .ref a)) : xE) ∈ D0) (hG : ∀ e ∈ zgQ a p, e ∈ D0) {fr0 lo0 : Nat} {rc233 : zS → Option (Int32 × zS)} (hrc233 : ∀  {S S2 : zS} {r : Int32}, rc233  S = some (r, S2) → yK X fr0 lo0 233 [.ref 209] (zD zTQ (zaQ a p) S D0) 0 0 (zQi zTQ (zaQ a p) D0 r S2)) {rc238 : zS → Option (Int32 × zS)} (hrc238 : ∀  {S S2 : zS} {r : Int32}, rc238  S = some (r, S2) → yK X fr0 lo0 238 [.ref 209] (zD zTQ (zaQ a p) S D0) 0 0 (zQi zTQ (zaQ a p) D0 r S2))  {N fr lo : Nat} {k3 : Int32 → zS → Option (Int32 × zS)} (hk3 : ∀ {l1 : Int32} {u2 : Option Value} {u3 : Option Value} {S S2 : zS} {r : Int32} , k3 l1 S = some (r, S2) → yT X fr lo 237 3 [some (.ref 209), some (.int l1), u2, u3] [] (zD zTQ (zaQ a p) S D0) 0 0 (zQi zTQ (zaQ a p) D0 r S2)) (hf0 : fr0 + 1 ≤ fr) (hl0 : lo0 + 22 ≤ lo) (hf : 3 ≤ fr) (hl : 64 ≤ lo) {l1 : Int32} {s0 : Int32} {u2 : Option Value} {u3 : Option Value} {S S2 : zS} {r : Int32}  (h : rQ_prod_31 rc233 rc238 N k3 l1 s0 S = some (r, S2)) : yT X fr lo 237 31 [some (.ref 209), some (.int l1), u2, u3] [.int s0] (zD zTQ (zaQ a p) S D0) 0 0 (zQi zTQ (zaQ a p) D0 r S2) := by
  unfold rQ_prod_31 at h
  refine xt_pure rfl rfl rfl (L1 := [_, _, _, _]) rfl ?_
  refine xt_pure rfl rfl rfl rfl ?_
  obtain ⟨_, S17, hc18, h⟩ := zbi h
  refine zt_Vv rfl rfl rfl rfl (xmC 176 rfl) ⟨rfl, rfl, yle rfl, yle rfl⟩ (m := 1) rfl ⟨by omega, by omega⟩ (trQ_counts hG0 hG (by omega) (by omega) hc18) (fr1 := fr - 1) (lo1 := lo - 20) ?_
  refine xt_pure rfl rfl rfl rfl ?_
  obtain ⟨_, S20, hc21, h⟩ := zbi h
  refine zt_Vv rfl rfl rfl rfl (xmC 176 rfl) ⟨rfl, rfl, yle rfl, yle rfl⟩ (m := 1) rfl ⟨by omega, by omega⟩ (trQ_step hG0 hG (by omega) (by omega) hc21) (fr1 := fr - 1) (lo1 := lo - 20) ?_
  refine xt_pure rfl rfl rfl rfl ?_
  obtain ⟨x22, S23, hc24, h⟩ := zbi h
  refine zt_Vi rfl rfl rfl rfl (xmC 176 rfl) ⟨rfl, rfl, yle rfl, yle rfl⟩ (m := 3) rfl ⟨by omega, by omega⟩ (hrc238 hc24) (fr1 := fr0) (lo1 := lo0) ?_
  refine xt_pure rfl rfl rfl (L1 := [_, _, _, _]) rfl ?_
  refine xt_pure rfl rfl rfl rfl ?_
  refine xt_pure rfl rfl rfl rfl ?_
  refine xt_pure rfl rfl rfl rfl ?_
  refine xt_pure rfl rfl rfl rfl ?_
  obtain ⟨x25, S26, hc27, h⟩ := zbi h
  refine zt_Vi rfl rfl rfl rfl (xmC 176 rfl) ⟨rfl, rfl, yle rfl, yle rfl⟩ (m := 5) rfl ⟨by omega, by omega⟩ (trQ_node hG0 hG (by omega) (by omega) hc27) (fr1 := fr - 1) (lo1 := lo - 24) ?_
  refine xt_pure rfl rfl rfl (L1 := [_, _, _, _]) rfl ?_
  refine xt_pure rfl rfl rfl rfl ?_
  exact hk3 h
def rQ_prod_18 (rc233 : zS → Option (Int32 × zS)) (rc238 : zS → Option (Int32 × zS))  (N : Nat) (k3 : Int32 → zS → Option (Int32 × zS)) (l1 : Int32) (S : zS) : Option (Int32 × zS) := (zb (rQ_isSign N 42 S) fun x10 S11 => (if x10 = (0 : Int32) then (zb (rQ_isSign N 47 S11) fun x13 S14 => (if x13 = (0 : Int32) then rQ_prod_31 rc233 rc238 N k3 l1 19 S14 else rQ_prod_31 rc233 rc238 N k3 l1 18 S14)) else rQ_prod_31 rc233 rc238 N k3 l1 17 S11))
theorem trQ_prod_18 {X : List Int32} {D0 : List xE} {a : Nat} {p : Nat → Nat} (hG0 : ((209, .inl (14, 9, .ref a)) : xE) ∈ D0) (hG : ∀ e ∈ zgQ a p, e ∈ D0) {fr0 lo0 : Nat} {rc233 : zS → Option (Int32 × zS)} (hrc233 : ∀  {S S2 : zS} {r : Int32}, rc233  S = some (r, S2) → yK X fr0 lo0 233 [.ref 209] (zD zTQ (zaQ a p) S D0) 0 0 (zQi zTQ (zaQ a p) D0 r S2)) {rc238 : zS → Option (Int32 × zS)} (hrc238 : ∀  {S S2 : zS} {r : Int32}, rc238  S = some (r, S2) → yK X fr0 lo0 238 [.ref 209] (zD zTQ (zaQ a p) S D0) 0 0 (zQi zTQ (zaQ a p) D0 r S2))  {N fr lo : Nat} {k3 : Int32 → zS → Option (Int32 × zS)} (hk3 : ∀ {l1 : Int32} {u2 : Option Value} {u3 : Option Value} {S S2 : zS} {r : Int32} , k3 l1 S = some (r, S2) → yT X fr lo 237 3 [some (.ref 209), some (.int l1), u2, u3] [] (zD zTQ (zaQ a p) S D0) 0 0 (zQi zTQ (zaQ a p) D0 r S2)) (hf0 : fr0 + 1 ≤ fr) (hl0 : lo0 + 22 ≤ lo) (hf : 3 ≤ fr) (hl : 64 ≤ lo) {l1 : Int32} {u2 : Option Value} {u3 : Option Value} {S S2 : zS} {r : Int32}  (h : rQ_prod_18 rc233 rc238 N k3 l1 S = some (r, S2)) : yT X fr lo 237 18 [some (.ref 209), some (.int l1), u2, u3] [] (zD zTQ (zaQ a p) S D0) 0 0 (zQi zTQ (zaQ a p) D0 r S2) := by
  unfold rQ_prod_18 at h
  refine xt_pure rfl rfl rfl rfl ?_
  refine xt_pure rfl rfl rfl (st1 := .int 42 :: _) rfl ?_
  obtain ⟨x10, S11, hc12, h⟩ := zbi h
  refine zt_Vi rfl rfl rfl rfl (xmC 176 rfl) ⟨rfl, rfl, yle rfl, yle rfl⟩ (m := 2) rfl ⟨by omega, by omega⟩ (trQ_isSign hG0 hG (by omega) (by omega) hc12) (fr1 := fr - 1) (lo1 := lo - 21) ?_
  refine xt_if rfl rfl (fun hb => ?_) (fun hb => ?_)
  · replace h := zif_t (p := x10 = (0 : Int32)) hb h
    refine xt_pure rfl rfl rfl rfl ?_
    refine xt_pure rfl rfl rfl (st1 := .int 47 :: _) rfl ?_
    obtain ⟨x13, S14, hc15, h⟩ := zbi h
    refine zt_Vi rfl rfl rfl rfl (xmC 176 rfl) ⟨rfl, rfl, yle rfl, yle rfl⟩ (m := 2) rfl ⟨by omega, by omega⟩ (trQ_isSign hG0 hG (by omega) (by omega) hc15) (fr1 := fr - 1) (lo1 := lo - 21) ?_
    refine xt_if rfl rfl (fun hb => ?_) (fun hb => ?_)
    · replace h := zif_t (p := x13 = (0 : Int32)) hb h
      refine xt_pure rfl rfl rfl (st1 := .int 19 :: _) rfl ?_
      exact trQ_prod_31 hG0 hG hrc233 hrc238 hk3 hf0 hl0 hf hl h
    · replace h := zif_f (p := x13 = (0 : Int32)) hb h
      refine xt_pure rfl rfl rfl (st1 := .int 18 :: _) rfl ?_
      refine xt_pure rfl rfl rfl rfl ?_
      exact trQ_prod_31 hG0 hG hrc233 hrc238 hk3 hf0 hl0 hf hl h
  · replace h := zif_f (p := x10 = (0 : Int32)) hb h
    refine xt_pure rfl rfl rfl (st1 := .int 17 :: _) rfl ?_
    refine xt_pure rfl rfl rfl rfl ?_
    exact trQ_prod_31 hG0 hG hrc233 hrc238 hk3 hf0 hl0 hf hl h
def rQ_prod_3 (rc233 : zS → Option (Int32 × zS)) (rc238 : zS → Option (Int32 × zS))  (N : Nat)  : Nat → Int32 → zS → Option (Int32 × zS)
  | 0, _, _ => none
  | n + 1, l1, S => (zb (rQ_good N  S) fun x4 S5 => (if x4 = (0 : Int32) then some (l1, S5) else (zb (rQ_isSign N 42 S5) fun x7 S8 => (if x7 ≠ (0 : Int32) then rQ_prod_18 rc233 rc238 N (rQ_prod_3 rc233 rc238 N n) l1 S8 else (zb (rQ_isSign N 47 S8) fun x28 S29 => (if x28 ≠ (0 : Int32) then rQ_prod_18 rc233 rc238 N (rQ_prod_3 rc233 rc238 N n) l1 S29 else (zb (rQ_isSign N 37 S29) fun x31 S32 => (if x31 = (0 : Int32) then some (l1, S32) else rQ_prod_18 rc233 rc238 N (rQ_prod_3 rc233 rc238 N n) l1 S32))))))))
theorem trQ_prod_3 {X : List Int32} {D0 : List xE} {a : Nat} {p : Nat → Nat} (hG0 : ((209, .inl (14, 9, .ref a)) : xE) ∈ D0) (hG : ∀ e ∈ zgQ a p, e ∈ D0) {fr0 lo0 : Nat} {rc233 : zS → Option (Int32 × zS)} (hrc233 : ∀  {S S2 : zS} {r : Int32}, rc233  S = some (r, S2) → yK X fr0 lo0 233 [.ref 209] (zD zTQ (zaQ a p) S D0) 0 0 (zQi zTQ (zaQ a p) D0 r S2)) {rc238 : zS → Option (Int32 × zS)} (hrc238 : ∀  {S S2 : zS} {r : Int32}, rc238  S = some (r, S2) → yK X fr0 lo0 238 [.ref 209] (zD zTQ (zaQ a p) S D0) 0 0 (zQi zTQ (zaQ a p) D0 r S2))  {N fr lo : Nat}   (hf0 : fr0 + 1 ≤ fr) (hl0 : lo0 + 22 ≤ lo) (hf : 3 ≤ fr) (hl : 64 ≤ lo)  : ∀ {n : Nat} {l1 : Int32} {u2 : Option Value} {u3 : Option Value} {S S2 : zS} {r : Int32} , rQ_prod_3 rc233 rc238 N n l1 S = some (r, S2) → yT X fr lo 237 3 [some (.ref 209), some (.int l1), u2, u3] [] (zD zTQ (zaQ a p) S D0) 0 0 (zQi zTQ (zaQ a p) D0 r S2) := by
  intro n
  induction n with
  | zero =>
    intro l1 u2 u3 S S2 r  h
    have h : (none : Option (Int32 × zS)) = some (r, S2) := h
    cases h
  | succ n ih =>
    intro l1 u2 u3 S S2 r  h
    rw [rQ_prod_3] at h
    refine xt_pure rfl rfl rfl rfl ?_
    obtain ⟨x4, S5, hc6, h⟩ := zbi h
    refine zt_Vi rfl rfl rfl rfl (xmC 176 rfl) ⟨rfl, rfl, yle rfl, yle rfl⟩ (m := 1) rfl ⟨by omega, by omega⟩ (trQ_good hG0 hG (by omega) (by omega) hc6) (fr1 := fr - 1) (lo1 := lo - 20) ?_
    refine xt_if rfl rfl (fun hb => ?_) (fun hb => ?_)
    · replace h := zif_t (p := x4 = (0 : Int32)) hb h
      refine xt_pure rfl rfl rfl rfl ?_
      cases h
      exact xt_iret rfl rfl rfl rfl ⟨rfl, rfl⟩
    · replace h := zif_f (p := x4 = (0 : Int32)) hb h
      refine xt_pure rfl rfl rfl rfl ?_
      refine xt_pure rfl rfl rfl (st1 := .int 42 :: _) rfl ?_
      obtain ⟨x7, S8, hc9, h⟩ := zbi h
      refine zt_Vi rfl rfl rfl rfl (xmC 176 rfl) ⟨rfl, rfl, yle rfl, yle rfl⟩ (m := 2) rfl ⟨by omega, by omega⟩ (trQ_isSign hG0 hG (by omega) (by omega) hc9) (fr1 := fr - 1) (lo1 := lo - 21) ?_
      refine xt_if rfl rfl (fun hb => ?_) (fun hb => ?_)
      · replace h := zif_t (p := x7 ≠ (0 : Int32)) hb h
        exact trQ_prod_18 hG0 hG hrc233 hrc238 (fun h => ih h) hf0 hl0 hf hl h
      · replace h := zif_f (p := x7 ≠ (0 : Int32)) hb h
        refine xt_pure rfl rfl rfl rfl ?_
        refine xt_pure rfl rfl rfl (st1 := .int 47 :: _) rfl ?_
        obtain ⟨x28, S29, hc30, h⟩ := zbi h
        refine zt_Vi rfl rfl rfl rfl (xmC 176 rfl) ⟨rfl, rfl, yle rfl, yle rfl⟩ (m := 2) rfl ⟨by omega, by omega⟩ (trQ_isSign hG0 hG (by omega) (by omega) hc30) (fr1 := fr - 1) (lo1 := lo - 21) ?_
        refine xt_if rfl rfl (fun hb => ?_) (fun hb => ?_)
        · replace h := zif_t (p := x28 ≠ (0 : Int32)) hb h
          exact trQ_prod_18 hG0 hG hrc233 hrc238 (fun h => ih h) hf0 hl0 hf hl h
        · replace h := zif_f (p := x28 ≠ (0 : Int32)) hb h
          refine xt_pure rfl rfl rfl rfl ?_
          refine xt_pure rfl rfl rfl (st1 := .int 37 :: _) rfl ?_
          obtain ⟨x31, S32, hc33, h⟩ := zbi h
          refine zt_Vi rfl rfl rfl rfl (xmC 176 rfl) ⟨rfl, rfl, yle rfl, yle rfl⟩ (m := 2) rfl ⟨by omega, by omega⟩ (trQ_isSign hG0 hG (by omega) (by omega) hc33) (fr1 := fr - 1) (lo1 := lo - 21) ?_
          refine xt_if rfl rfl (fun hb => ?_) (fun hb => ?_)
          · replace h := zif_t (p := x31 = (0 : Int32)) hb h
            refine xt_pure rfl rfl rfl rfl ?_
            cases h
            exact xt_iret rfl rfl rfl rfl ⟨rfl, rfl⟩
          · replace h := zif_f (p := x31 = (0 : Int32)) hb h
            exact trQ_prod_18 hG0 hG hrc233 hrc238 (fun h => ih h) hf0 hl0 hf hl h
def rQ_prod (rc233 : zS → Option (Int32 × zS)) (rc238 : zS → Option (Int32 × zS))  (N : Nat)  (S : zS) : Option (Int32 × zS) := (zb (rc238  S) fun x1 S2 => rQ_prod_3 rc233 rc238 N N x1 S2)
theorem trQ_prod {X : List Int32} {D0 : List xE} {a : Nat} {p : Nat → Nat} (hG0 : ((209, .inl (14, 9, .ref a)) : xE) ∈ D0) (hG : ∀ e ∈ zgQ a p, e ∈ D0) {fr0 lo0 : Nat} {rc233 : zS → Option (Int32 × zS)} (hrc233 : ∀  {S S2 : zS} {r : Int32}, rc233  S = some (r, S2) → yK X fr0 lo0 233 [.ref 209] (zD zTQ (zaQ a p) S D0) 0 0 (zQi zTQ (zaQ a p) D0 r S2)) {rc238 : zS → Option (Int32 × zS)} (hrc238 : ∀  {S S2 : zS} {r : Int32}, rc238  S = some (r, S2) → yK X fr0 lo0 238 [.ref 209] (zD zTQ (zaQ a p) S D0) 0 0 (zQi zTQ (zaQ a p) D0 r S2))  {N fr lo : Nat} (hf0 : fr0 + 1 ≤ fr) (hl0 : lo0 + 22 ≤ lo) (hf : 3 ≤ fr) (hl : 64 ≤ lo)  {S S2 : zS} {r : Int32}  (h : rQ_prod rc233 rc238 N  S = some (r, S2)) : yK X fr lo 237 [.ref 209] (zD zTQ (zaQ a p) S D0) 0 0 (zQi zTQ (zaQ a p) D0 r S2) := by
  unfold rQ_prod at h
  refine yK.of rfl (yle rfl) (L := [_, _, _, _]) rfl ?_
  refine xt_pure rfl rfl rfl rfl ?_
  obtain ⟨x1, S2, hc3, h⟩ := zbi h
  refine zt_Vi rfl rfl rfl rfl (xmC 176 rfl) ⟨rfl, rfl, yle rfl, yle rfl⟩ (m := 3) rfl ⟨by omega, by omega⟩ (hrc238 hc3) (fr1 := fr0) (lo1 := lo0) ?_
  refine xt_pure rfl rfl rfl (L1 := [_, _, _, _]) rfl ?_
  exact trQ_prod_3 hG0 hG hrc233 hrc238 hf0 hl0 hf hl h
def rQ_sum_21 (rc233 : zS → Option (Int32 × zS)) (rc238 : zS → Option (Int32 × zS))  (N : Nat) (k3 : Int32 → zS → Option (Int32 × zS)) (l1 : Int32) (s0 : Int32) (S : zS) : Option (Int32 × zS) := (zb (rQ_counts N  S) fun _ S14 => (zb (rQ_step N  S14) fun _ S17 => (zb (rQ_prod rc233 rc238 N  S17) fun x19 S20 => (zb (rQ_node N s0 l1 x19 S20) fun x22 S23 => k3 x22 S23))))
theorem trQ_sum_21 {X : List Int32} {D0 : List xE} {a : Nat} {p : Nat → Nat} (hG0 : ((209, .inl (14, 9, .ref a)) : xE) ∈ D0) (hG : ∀ e ∈ zgQ a p, e ∈ D0) {fr0 lo0 : Nat} {rc233 : zS → Option (Int32 × zS)} (hrc233 : ∀  {S S2 : zS} {r : Int32}, rc233  S = some (r, S2) → yK X fr0 lo0 233 [.ref 209] (zD zTQ (zaQ a p) S D0) 0 0 (zQi zTQ (zaQ a p) D0 r S2)) {rc238 : zS → Option (Int32 × zS)} (hrc238 : ∀  {S S2 : zS} {r : Int32}, rc238  S = some (r, S2) → yK X fr0 lo0 238 [.ref 209] (zD zTQ (zaQ a p) S D0) 0 0 (zQi zTQ (zaQ a p) D0 r S2))  {N fr lo : Nat} {k3 : Int32 → zS → Option (Int32 × zS)} (hk3 : ∀ {l1 : Int32} {u2 : Option Value} {u3 : Option Value} {S S2 : zS} {r : Int32} , k3 l1 S = some (r, S2) → yT X fr lo 236 3 [some (.ref 209), some (.int l1), u2, u3] [] (zD zTQ (zaQ a p) S D0) 0 0 (zQi zTQ (zaQ a p) D0 r S2)) (hf0 : fr0 + 2 ≤ fr) (hl0 : lo0 + 45 ≤ lo) (hf : 4 ≤ fr) (hl : 87 ≤ lo) {l1 : Int32} {s0 : Int32} {u2 : Option Value} {u3 : Option Value} {S S2 : zS} {r : Int32}  (h : rQ_sum_21 rc233 rc238 N k3 l1 s0 S = some (r, S2)) : yT X fr lo 236 21 [some (.ref 209), some (.int l1), u2, u3] [.int s0] (zD zTQ (zaQ a p) S D0) 0 0 (zQi zTQ (zaQ a p) D0 r S2) := by
  unfold rQ_sum_21 at h
  refine xt_pure rfl rfl rfl (L1 := [_, _, _, _]) rfl ?_
  refine xt_pure rfl rfl rfl rfl ?_
  obtain ⟨_, S14, hc15, h⟩ := zbi h
  refine zt_Vv rfl rfl rfl rfl (xmC 176 rfl) ⟨rfl, rfl, yle rfl, yle rfl⟩ (m := 1) rfl ⟨by omega, by omega⟩ (trQ_counts hG0 hG (by omega) (by omega) hc15) (fr1 := fr - 1) (lo1 := lo - 20) ?_
  refine xt_pure rfl rfl rfl rfl ?_
  obtain ⟨_, S17, hc18, h⟩ := zbi h
  refine zt_Vv rfl rfl rfl rfl (xmC 176 rfl) ⟨rfl, rfl, yle rfl, yle rfl⟩ (m := 1) rfl ⟨by omega, by omega⟩ (trQ_step hG0 hG (by omega) (by omega) hc18) (fr1 := fr - 1) (lo1 := lo - 20) ?_
  refine xt_pure rfl rfl rfl rfl ?_
  obtain ⟨x19, S20, hc21, h⟩ := zbi h
  refine zt_Vi rfl rfl rfl rfl (xmC 176 rfl) ⟨rfl, rfl, yle rfl, yle rfl⟩ (m := 4) rfl ⟨by omega, by omega⟩ (trQ_prod hG0 hG hrc233 hrc238 (by omega) (by omega) (by omega) (by omega) hc21) (fr1 := fr - 1) (lo1 := lo - 23) ?_
  refine xt_pure rfl rfl rfl (L1 := [_, _, _, _]) rfl ?_
  refine xt_pure rfl rfl rfl rfl ?_
  refine xt_pure rfl rfl rfl rfl ?_
  refine xt_pure rfl rfl rfl rfl ?_
  refine xt_pure rfl rfl rfl rfl ?_
  obtain ⟨x22, S23, hc24, h⟩ := zbi h
  refine zt_Vi rfl rfl rfl rfl (xmC 176 rfl) ⟨rfl, rfl, yle rfl, yle rfl⟩ (m := 5) rfl ⟨by omega, by omega⟩ (trQ_node hG0 hG (by omega) (by omega) hc24) (fr1 := fr - 1) (lo1 := lo - 24) ?_
  refine xt_pure rfl rfl rfl (L1 := [_, _, _, _]) rfl ?_
  refine xt_pure rfl rfl rfl rfl ?_
  exact hk3 h
def rQ_sum_3 (rc233 : zS → Option (Int32 × zS)) (rc238 : zS → Option (Int32 × zS))  (N : Nat)  : Nat → Int32 → zS → Option (Int32 × zS)
  | 0, _, _ => none
  | n + 1, l1, S => (zb (rQ_good N  S) fun x4 S5 => (if x4 = (0 : Int32) then some (l1, S5) else (zb (rQ_isSign N 43 S5) fun x7 S8 => (if x7 ≠ (0 : Int32) then (zb (rQ_isSign N 43 S8) fun x10 S11 => (if x10 = (0 : Int32) then rQ_sum_21 rc233 rc238 N (rQ_sum_3 rc233 rc238 N n) l1 16 S11 else rQ_sum_21 rc233 rc238 N (rQ_sum_3 rc233 rc238 N n) l1 15 S11)) else (zb (rQ_isSign N 45 S8) fun x25 S26 => (if x25 = (0 : Int32) then some (l1, S26) else (zb (rQ_isSign N 43 S26) fun x28 S29 => (if x28 = (0 : Int32) then rQ_sum_21 rc233 rc238 N (rQ_sum_3 rc233 rc238 N n) l1 16 S29 else rQ_sum_21 rc233 rc238 N (rQ_sum_3 rc233 rc238 N n) l1 15 S29))))))))
theorem trQ_sum_3 {X : List Int32} {D0 : List xE} {a : Nat} {p : Nat → Nat} (hG0 : ((209, .inl (14, 9, .ref a)) : xE) ∈ D0) (hG : ∀ e ∈ zgQ a p, e ∈ D0) {fr0 lo0 : Nat} {rc233 : zS → Option (Int32 × zS)} (hrc233 : ∀  {S S2 : zS} {r : Int32}, rc233  S = some (r, S2) → yK X fr0 lo0 233 [.ref 209] (zD zTQ (zaQ a p) S D0) 0 0 (zQi zTQ (zaQ a p) D0 r S2)) {rc238 : zS → Option (Int32 × zS)} (hrc238 : ∀  {S S2 : zS} {r : Int32}, rc238  S = some (r, S2) → yK X fr0 lo0 238 [.ref 209] (zD zTQ (zaQ a p) S D0) 0 0 (zQi zTQ (zaQ a p) D0 r S2))  {N fr lo : Nat}   (hf0 : fr0 + 2 ≤ fr) (hl0 : lo0 + 45 ≤ lo) (hf : 4 ≤ fr) (hl : 87 ≤ lo)  : ∀ {n : Nat} {l1 : Int32} {u2 : Option Value} {u3 : Option Value} {S S2 : zS} {r : Int32} , rQ_sum_3 rc233 rc238 N n l1 S = some (r, S2) → yT X fr lo 236 3 [some (.ref 209), some (.int l1), u2, u3] [] (zD zTQ (zaQ a p) S D0) 0 0 (zQi zTQ (zaQ a p) D0 r S2) := by
  intro n
  induction n with
  | zero =>
    intro l1 u2 u3 S S2 r  h
    have h : (none : Option (Int32 × zS)) = some (r, S2) := h
    cases h
  | succ n ih =>
    intro l1 u2 u3 S S2 r  h
    rw [rQ_sum_3] at h
    refine xt_pure rfl rfl rfl rfl ?_
    obtain ⟨x4, S5, hc6, h⟩ := zbi h
    refine zt_Vi rfl rfl rfl rfl (xmC 176 rfl) ⟨rfl, rfl, yle rfl, yle rfl⟩ (m := 1) rfl ⟨by omega, by omega⟩ (trQ_good hG0 hG (by omega) (by omega) hc6) (fr1 := fr - 1) (lo1 := lo - 20) ?_
    refine xt_if rfl rfl (fun hb => ?_) (fun hb => ?_)
    · replace h := zif_t (p := x4 = (0 : Int32)) hb h
      refine xt_pure rfl rfl rfl rfl ?_
      cases h
      exact xt_iret rfl rfl rfl rfl ⟨rfl, rfl⟩
    · replace h := zif_f (p := x4 = (0 : Int32)) hb h
      refine xt_pure rfl rfl rfl rfl ?_
      refine xt_pure rfl rfl rfl (st1 := .int 43 :: _) rfl ?_
      obtain ⟨x7, S8, hc9, h⟩ := zbi h
      refine zt_Vi rfl rfl rfl rfl (xmC 176 rfl) ⟨rfl, rfl, yle rfl, yle rfl⟩ (m := 2) rfl ⟨by omega, by omega⟩ (trQ_isSign hG0 hG (by omega) (by omega) hc9) (fr1 := fr - 1) (lo1 := lo - 21) ?_
      refine xt_if rfl rfl (fun hb => ?_) (fun hb => ?_)
      · replace h := zif_t (p := x7 ≠ (0 : Int32)) hb h
        refine xt_pure rfl rfl rfl rfl ?_
        refine xt_pure rfl rfl rfl (st1 := .int 43 :: _) rfl ?_
        obtain ⟨x10, S11, hc12, h⟩ := zbi h
        refine zt_Vi rfl rfl rfl rfl (xmC 176 rfl) ⟨rfl, rfl, yle rfl, yle rfl⟩ (m := 2) rfl ⟨by omega, by omega⟩ (trQ_isSign hG0 hG (by omega) (by omega) hc12) (fr1 := fr - 1) (lo1 := lo - 21) ?_
        refine xt_if rfl rfl (fun hb => ?_) (fun hb => ?_)
        · replace h := zif_t (p := x10 = (0 : Int32)) hb h
          refine xt_pure rfl rfl rfl (st1 := .int 16 :: _) rfl ?_
          exact trQ_sum_21 hG0 hG hrc233 hrc238 (fun h => ih h) hf0 hl0 hf hl h
        · replace h := zif_f (p := x10 = (0 : Int32)) hb h
          refine xt_pure rfl rfl rfl (st1 := .int 15 :: _) rfl ?_
          refine xt_pure rfl rfl rfl rfl ?_
          exact trQ_sum_21 hG0 hG hrc233 hrc238 (fun h => ih h) hf0 hl0 hf hl h
      · replace h := zif_f (p := x7 ≠ (0 : Int32)) hb h
        refine xt_pure rfl rfl rfl rfl ?_
        refine xt_pure rfl rfl rfl (st1 := .int 45 :: _) rfl ?_
        obtain ⟨x25, S26, hc27, h⟩ := zbi h
        refine zt_Vi rfl rfl rfl rfl (xmC 176 rfl) ⟨rfl, rfl, yle rfl, yle rfl⟩ (m := 2) rfl ⟨by omega, by omega⟩ (trQ_isSign hG0 hG (by omega) (by omega) hc27) (fr1 := fr - 1) (lo1 := lo - 21) ?_
        refine xt_if rfl rfl (fun hb => ?_) (fun hb => ?_)
        · replace h := zif_t (p := x25 = (0 : Int32)) hb h
          refine xt_pure rfl rfl rfl rfl ?_
          cases h
          exact xt_iret rfl rfl rfl rfl ⟨rfl, rfl⟩
        · replace h := zif_f (p := x25 = (0 : Int32)) hb h
          refine xt_pure rfl rfl rfl rfl ?_
          refine xt_pure rfl rfl rfl (st1 := .int 43 :: _) rfl ?_
          obtain ⟨x28, S29, hc30, h⟩ := zbi h
          refine zt_Vi rfl rfl rfl rfl (xmC 176 rfl) ⟨rfl, rfl, yle rfl, yle rfl⟩ (m := 2) rfl ⟨by omega, by omega⟩ (trQ_isSign hG0 hG (by omega) (by omega) hc30) (fr1 := fr - 1) (lo1 := lo - 21) ?_
          refine xt_if rfl rfl (fun hb => ?_) (fun hb => ?_)
          · replace h := zif_t (p := x28 = (0 : Int32)) hb h
            refine xt_pure rfl rfl rfl (st1 := .int 16 :: _) rfl ?_
            exact trQ_sum_21 hG0 hG hrc233 hrc238 (fun h => ih h) hf0 hl0 hf hl h
          · replace h := zif_f (p := x28 = (0 : Int32)) hb h
            refine xt_pure rfl rfl rfl (st1 := .int 15 :: _) rfl ?_
            refine xt_pure rfl rfl rfl rfl ?_
            exact trQ_sum_21 hG0 hG hrc233 hrc238 (fun h => ih h) hf0 hl0 hf hl h
def rQ_sum (rc233 : zS → Option (Int32 × zS)) (rc238 : zS → Option (Int32 × zS))  (N : Nat)  (S : zS) : Option (Int32 × zS) := (zb (rQ_prod rc233 rc238 N  S) fun x1 S2 => rQ_sum_3 rc233 rc238 N N x1 S2)
theorem trQ_sum {X : List Int32} {D0 : List xE} {a : Nat} {p : Nat → Nat} (hG0 : ((209, .inl (14, 9, .ref a)) : xE) ∈ D0) (hG : ∀ e ∈ zgQ a p, e ∈ D0) {fr0 lo0 : Nat} {rc233 : zS → Option (Int32 × zS)} (hrc233 : ∀  {S S2 : zS} {r : Int32}, rc233  S = some (r, S2) → yK X fr0 lo0 233 [.ref 209] (zD zTQ (zaQ a p) S D0) 0 0 (zQi zTQ (zaQ a p) D0 r S2)) {rc238 : zS → Option (Int32 × zS)} (hrc238 : ∀  {S S2 : zS} {r : Int32}, rc238  S = some (r, S2) → yK X fr0 lo0 238 [.ref 209] (zD zTQ (zaQ a p) S D0) 0 0 (zQi zTQ (zaQ a p) D0 r S2))  {N fr lo : Nat} (hf0 : fr0 + 2 ≤ fr) (hl0 : lo0 + 45 ≤ lo) (hf : 4 ≤ fr) (hl : 87 ≤ lo)  {S S2 : zS} {r : Int32}  (h : rQ_sum rc233 rc238 N  S = some (r, S2)) : yK X fr lo 236 [.ref 209] (zD zTQ (zaQ a p) S D0) 0 0 (zQi zTQ (zaQ a p) D0 r S2) := by
  unfold rQ_sum at h
  refine yK.of rfl (yle rfl) (L := [_, _, _, _]) rfl ?_
  refine xt_pure rfl rfl rfl rfl ?_
  obtain ⟨x1, S2, hc3, h⟩ := zbi h
  refine zt_Vi rfl rfl rfl rfl (xmC 176 rfl) ⟨rfl, rfl, yle rfl, yle rfl⟩ (m := 4) rfl ⟨by omega, by omega⟩ (trQ_prod hG0 hG hrc233 hrc238 (by omega) (by omega) (by omega) (by omega) hc3) (fr1 := fr - 1) (lo1 := lo - 23) ?_
  refine xt_pure rfl rfl rfl (L1 := [_, _, _, _]) rfl ?_
  exact trQ_sum_3 hG0 hG hrc233 hrc238 hf0 hl0 hf hl h
def rQ_comp_31 (rc233 : zS → Option (Int32 × zS)) (rc238 : zS → Option (Int32 × zS))  (N : Nat)  (l1 : Int32) (s0 : Int32) (S : zS) : Option (Int32 × zS) := (zb (rQ_counts N  S) fun _ S17 => (zb (rQ_step N  S17) fun _ S20 => (zb (rQ_sum rc233 rc238 N  S20) fun x22 S23 => (zb (rQ_node N s0 l1 x22 S23) fun x25 S26 => some (x25, S26)))))
theorem trQ_comp_31 {X : List Int32} {D0 : List xE} {a : Nat} {p : Nat → Nat} (hG0 : ((209, .inl (14, 9, .ref a)) : xE) ∈ D0) (hG : ∀ e ∈ zgQ a p, e ∈ D0) {fr0 lo0 : Nat} {rc233 : zS → Option (Int32 × zS)} (hrc233 : ∀  {S S2 : zS} {r : Int32}, rc233  S = some (r, S2) → yK X fr0 lo0 233 [.ref 209] (zD zTQ (zaQ a p) S D0) 0 0 (zQi zTQ (zaQ a p) D0 r S2)) {rc238 : zS → Option (Int32 × zS)} (hrc238 : ∀  {S S2 : zS} {r : Int32}, rc238  S = some (r, S2) → yK X fr0 lo0 238 [.ref 209] (zD zTQ (zaQ a p) S D0) 0 0 (zQi zTQ (zaQ a p) D0 r S2))  {N fr lo : Nat}   (hf0 : fr0 + 3 ≤ fr) (hl0 : lo0 + 68 ≤ lo) (hf : 5 ≤ fr) (hl : 110 ≤ lo) {l1 : Int32} {s0 : Int32}  {S S2 : zS} {r : Int32}  (h : rQ_comp_31 rc233 rc238 N l1 s0 S = some (r, S2)) : yT X fr lo 235 31 [some (.ref 209), some (.int l1), none, none] [.int s0] (zD zTQ (zaQ a p) S D0) 0 0 (zQi zTQ (zaQ a p) D0 r S2) := by
  unfold rQ_comp_31 at h
  refine xt_pure rfl rfl rfl (L1 := [_, _, _, _]) rfl ?_
  refine xt_pure rfl rfl rfl rfl ?_
  obtain ⟨_, S17, hc18, h⟩ := zbi h
  refine zt_Vv rfl rfl rfl rfl (xmC 176 rfl) ⟨rfl, rfl, yle rfl, yle rfl⟩ (m := 1) rfl ⟨by omega, by omega⟩ (trQ_counts hG0 hG (by omega) (by omega) hc18) (fr1 := fr - 1) (lo1 := lo - 20) ?_
  refine xt_pure rfl rfl rfl rfl ?_
  obtain ⟨_, S20, hc21, h⟩ := zbi h
  refine zt_Vv rfl rfl rfl rfl (xmC 176 rfl) ⟨rfl, rfl, yle rfl, yle rfl⟩ (m := 1) rfl ⟨by omega, by omega⟩ (trQ_step hG0 hG (by omega) (by omega) hc21) (fr1 := fr - 1) (lo1 := lo - 20) ?_
  refine xt_pure rfl rfl rfl rfl ?_
  obtain ⟨x22, S23, hc24, h⟩ := zbi h
  refine zt_Vi rfl rfl rfl rfl (xmC 176 rfl) ⟨rfl, rfl, yle rfl, yle rfl⟩ (m := 4) rfl ⟨by omega, by omega⟩ (trQ_sum hG0 hG hrc233 hrc238 (by omega) (by omega) (by omega) (by omega) hc24) (fr1 := fr - 1) (lo1 := lo - 23) ?_
  refine xt_pure rfl rfl rfl (L1 := [_, _, _, _]) rfl ?_
  refine xt_pure rfl rfl rfl rfl ?_
  refine xt_pure rfl rfl rfl rfl ?_
  refine xt_pure rfl rfl rfl rfl ?_
  refine xt_pure rfl rfl rfl rfl ?_
  obtain ⟨x25, S26, hc27, h⟩ := zbi h
  refine zt_Vi rfl rfl rfl rfl (xmC 176 rfl) ⟨rfl, rfl, yle rfl, yle rfl⟩ (m := 5) rfl ⟨by omega, by omega⟩ (trQ_node hG0 hG (by omega) (by omega) hc27) (fr1 := fr - 1) (lo1 := lo - 24) ?_
  refine xt_pure rfl rfl rfl (L1 := [_, _, _, _]) rfl ?_
  refine xt_pure rfl rfl rfl rfl ?_
  cases h
  exact xt_iret rfl rfl rfl rfl ⟨rfl, rfl⟩
def rQ_comp_18 (rc233 : zS → Option (Int32 × zS)) (rc238 : zS → Option (Int32 × zS))  (N : Nat)  (l1 : Int32) (S : zS) : Option (Int32 × zS) := (zb (rQ_isSign N 61 S) fun x10 S11 => (if x10 = (0 : Int32) then (zb (rQ_isSign N 60 S11) fun x13 S14 => (if x13 = (0 : Int32) then rQ_comp_31 rc233 rc238 N l1 22 S14 else rQ_comp_31 rc233 rc238 N l1 21 S14)) else rQ_comp_31 rc233 rc238 N l1 20 S11))
theorem trQ_comp_18 {X : List Int32} {D0 : List xE} {a : Nat} {p : Nat → Nat} (hG0 : ((209, .inl (14, 9, .ref a)) : xE) ∈ D0) (hG : ∀ e ∈ zgQ a p, e ∈ D0) {fr0 lo0 : Nat} {rc233 : zS → Option (Int32 × zS)} (hrc233 : ∀  {S S2 : zS} {r : Int32}, rc233  S = some (r, S2) → yK X fr0 lo0 233 [.ref 209] (zD zTQ (zaQ a p) S D0) 0 0 (zQi zTQ (zaQ a p) D0 r S2)) {rc238 : zS → Option (Int32 × zS)} (hrc238 : ∀  {S S2 : zS} {r : Int32}, rc238  S = some (r, S2) → yK X fr0 lo0 238 [.ref 209] (zD zTQ (zaQ a p) S D0) 0 0 (zQi zTQ (zaQ a p) D0 r S2))  {N fr lo : Nat}   (hf0 : fr0 + 3 ≤ fr) (hl0 : lo0 + 68 ≤ lo) (hf : 5 ≤ fr) (hl : 110 ≤ lo) {l1 : Int32}  {S S2 : zS} {r : Int32}  (h : rQ_comp_18 rc233 rc238 N l1 S = some (r, S2)) : yT X fr lo 235 18 [some (.ref 209), some (.int l1), none, none] [] (zD zTQ (zaQ a p) S D0) 0 0 (zQi zTQ (zaQ a p) D0 r S2) := by
  unfold rQ_comp_18 at h
  refine xt_pure rfl rfl rfl rfl ?_
  refine xt_pure rfl rfl rfl (st1 := .int 61 :: _) rfl ?_
  obtain ⟨x10, S11, hc12, h⟩ := zbi h
  refine zt_Vi rfl rfl rfl rfl (xmC 176 rfl) ⟨rfl, rfl, yle rfl, yle rfl⟩ (m := 2) rfl ⟨by omega, by omega⟩ (trQ_isSign hG0 hG (by omega) (by omega) hc12) (fr1 := fr - 1) (lo1 := lo - 21) ?_
  refine xt_if rfl rfl (fun hb => ?_) (fun hb => ?_)
  · replace h := zif_t (p := x10 = (0 : Int32)) hb h
    refine xt_pure rfl rfl rfl rfl ?_
    refine xt_pure rfl rfl rfl (st1 := .int 60 :: _) rfl ?_
    obtain ⟨x13, S14, hc15, h⟩ := zbi h
    refine zt_Vi rfl rfl rfl rfl (xmC 176 rfl) ⟨rfl, rfl, yle rfl, yle rfl⟩ (m := 2) rfl ⟨by omega, by omega⟩ (trQ_isSign hG0 hG (by omega) (by omega) hc15) (fr1 := fr - 1) (lo1 := lo - 21) ?_
    refine xt_if rfl rfl (fun hb => ?_) (fun hb => ?_)
    · replace h := zif_t (p := x13 = (0 : Int32)) hb h
      refine xt_pure rfl rfl rfl (st1 := .int 22 :: _) rfl ?_
      exact trQ_comp_31 hG0 hG hrc233 hrc238 hf0 hl0 hf hl h
    · replace h := zif_f (p := x13 = (0 : Int32)) hb h
      refine xt_pure rfl rfl rfl (st1 := .int 21 :: _) rfl ?_
      refine xt_pure rfl rfl rfl rfl ?_
      exact trQ_comp_31 hG0 hG hrc233 hrc238 hf0 hl0 hf hl h
  · replace h := zif_f (p := x10 = (0 : Int32)) hb h
    refine xt_pure rfl rfl rfl (st1 := .int 20 :: _) rfl ?_
    refine xt_pure rfl rfl rfl rfl ?_
    exact trQ_comp_31 hG0 hG hrc233 hrc238 hf0 hl0 hf hl h
def rQ_comp (rc233 : zS → Option (Int32 × zS)) (rc238 : zS → Option (Int32 × zS))  (N : Nat)  (S : zS) : Option (Int32 × zS) := (zb (rQ_sum rc233 rc238 N  S) fun x1 S2 => (zb (rQ_good N  S2) fun x4 S5 => (if x4 = (0 : Int32) then some (x1, S5) else (zb (rQ_isSign N 61 S5) fun x7 S8 => (if x7 ≠ (0 : Int32) then rQ_comp_18 rc233 rc238 N x1 S8 else (zb (rQ_isSign N 60 S8) fun x28 S29 => (if x28 ≠ (0 : Int32) then rQ_comp_18 rc233 rc238 N x1 S29 else (zb (rQ_isSign N 62 S29) fun x31 S32 => (if x31 = (0 : Int32) then some (x1, S32) else rQ_comp_18 rc233 rc238 N x1 S32)))))))))
theorem trQ_comp {X : List Int32} {D0 : List xE} {a : Nat} {p : Nat → Nat} (hG0 : ((209, .inl (14, 9, .ref a)) : xE) ∈ D0) (hG : ∀ e ∈ zgQ a p, e ∈ D0) {fr0 lo0 : Nat} {rc233 : zS → Option (Int32 × zS)} (hrc233 : ∀  {S S2 : zS} {r : Int32}, rc233  S = some (r, S2) → yK X fr0 lo0 233 [.ref 209] (zD zTQ (zaQ a p) S D0) 0 0 (zQi zTQ (zaQ a p) D0 r S2)) {rc238 : zS → Option (Int32 × zS)} (hrc238 : ∀  {S S2 : zS} {r : Int32}, rc238  S = some (r, S2) → yK X fr0 lo0 238 [.ref 209] (zD zTQ (zaQ a p) S D0) 0 0 (zQi zTQ (zaQ a p) D0 r S2))  {N fr lo : Nat} (hf0 : fr0 + 3 ≤ fr) (hl0 : lo0 + 68 ≤ lo) (hf : 5 ≤ fr) (hl : 110 ≤ lo)  {S S2 : zS} {r : Int32}  (h : rQ_comp rc233 rc238 N  S = some (r, S2)) : yK X fr lo 235 [.ref 209] (zD zTQ (zaQ a p) S D0) 0 0 (zQi zTQ (zaQ a p) D0 r S2) := by
  unfold rQ_comp at h
  refine yK.of rfl (yle rfl) (L := [_, _, _, _]) rfl ?_
  refine xt_pure rfl rfl rfl rfl ?_
  obtain ⟨x1, S2, hc3, h⟩ := zbi h
  refine zt_Vi rfl rfl rfl rfl (xmC 176 rfl) ⟨rfl, rfl, yle rfl, yle rfl⟩ (m := 4) rfl ⟨by omega, by omega⟩ (trQ_sum hG0 hG hrc233 hrc238 (by omega) (by omega) (by omega) (by omega) hc3) (fr1 := fr - 1) (lo1 := lo - 23) ?_
  refine xt_pure rfl rfl rfl (L1 := [_, _, _, _]) rfl ?_
  refine xt_pure rfl rfl rfl rfl ?_
  obtain ⟨x4, S5, hc6, h⟩ := zbi h
  refine zt_Vi rfl rfl rfl rfl (xmC 176 rfl) ⟨rfl, rfl, yle rfl, yle rfl⟩ (m := 1) rfl ⟨by omega, by omega⟩ (trQ_good hG0 hG (by omega) (by omega) hc6) (fr1 := fr - 1) (lo1 := lo - 20) ?_
  refine xt_if rfl rfl (fun hb => ?_) (fun hb => ?_)
  · replace h := zif_t (p := x4 = (0 : Int32)) hb h
    refine xt_pure rfl rfl rfl rfl ?_
    cases h
    exact xt_iret rfl rfl rfl rfl ⟨rfl, rfl⟩
  · replace h := zif_f (p := x4 = (0 : Int32)) hb h
    refine xt_pure rfl rfl rfl rfl ?_
    refine xt_pure rfl rfl rfl (st1 := .int 61 :: _) rfl ?_
    obtain ⟨x7, S8, hc9, h⟩ := zbi h
    refine zt_Vi rfl rfl rfl rfl (xmC 176 rfl) ⟨rfl, rfl, yle rfl, yle rfl⟩ (m := 2) rfl ⟨by omega, by omega⟩ (trQ_isSign hG0 hG (by omega) (by omega) hc9) (fr1 := fr - 1) (lo1 := lo - 21) ?_
    refine xt_if rfl rfl (fun hb => ?_) (fun hb => ?_)
    · replace h := zif_t (p := x7 ≠ (0 : Int32)) hb h
      exact trQ_comp_18 hG0 hG hrc233 hrc238 hf0 hl0 hf hl h
    · replace h := zif_f (p := x7 ≠ (0 : Int32)) hb h
      refine xt_pure rfl rfl rfl rfl ?_
      refine xt_pure rfl rfl rfl (st1 := .int 60 :: _) rfl ?_
      obtain ⟨x28, S29, hc30, h⟩ := zbi h
      refine zt_Vi rfl rfl rfl rfl (xmC 176 rfl) ⟨rfl, rfl, yle rfl, yle rfl⟩ (m := 2) rfl ⟨by omega, by omega⟩ (trQ_isSign hG0 hG (by omega) (by omega) hc30) (fr1 := fr - 1) (lo1 := lo - 21) ?_
      refine xt_if rfl rfl (fun hb => ?_) (fun hb => ?_)
      · replace h := zif_t (p := x28 ≠ (0 : Int32)) hb h
        exact trQ_comp_18 hG0 hG hrc233 hrc238 hf0 hl0 hf hl h
      · replace h := zif_f (p := x28 ≠ (0 : Int32)) hb h
        refine xt_pure rfl rfl rfl rfl ?_
        refine xt_pure rfl rfl rfl (st1 := .int 62 :: _) rfl ?_
        obtain ⟨x31, S32, hc33, h⟩ := zbi h
        refine zt_Vi rfl rfl rfl rfl (xmC 176 rfl) ⟨rfl, rfl, yle rfl, yle rfl⟩ (m := 2) rfl ⟨by omega, by omega⟩ (trQ_isSign hG0 hG (by omega) (by omega) hc33) (fr1 := fr - 1) (lo1 := lo - 21) ?_
        refine xt_if rfl rfl (fun hb => ?_) (fun hb => ?_)
        · replace h := zif_t (p := x31 = (0 : Int32)) hb h
          refine xt_pure rfl rfl rfl rfl ?_
          cases h
          exact xt_iret rfl rfl rfl rfl ⟨rfl, rfl⟩
        · replace h := zif_f (p := x31 = (0 : Int32)) hb h
          exact trQ_comp_18 hG0 hG hrc233 hrc238 hf0 hl0 hf hl h
def rQ_every_3 (rc233 : zS → Option (Int32 × zS)) (rc238 : zS → Option (Int32 × zS))  (N : Nat)  : Nat → Int32 → zS → Option (Int32 × zS)
  | 0, _, _ => none
  | n + 1, l1, S => (zb (rQ_good N  S) fun x4 S5 => (if x4 = (0 : Int32) then some (l1, S5) else (zb (rS_isWord zs_46 N S5) fun x7 S8 => (if x7 = (0 : Int32) then some (l1, S8) else (zb (rQ_counts N  S8) fun _ S11 => (zb (rQ_step N  S11) fun _ S14 => (zb (rQ_comp rc233 rc238 N  S14) fun x16 S17 => (zb (rQ_node N 12 l1 x16 S17) fun x19 S20 => (rQ_every_3 rc233 rc238 N n) x19 S20))))))))
theorem trQ_every_3 {X : List Int32} {D0 : List xE} {a : Nat} {p : Nat → Nat} (hG0 : ((209, .inl (14, 9, .ref a)) : xE) ∈ D0) (hG : ∀ e ∈ zgQ a p, e ∈ D0) {fr0 lo0 : Nat} {rc233 : zS → Option (Int32 × zS)} (hrc233 : ∀  {S S2 : zS} {r : Int32}, rc233  S = some (r, S2) → yK X fr0 lo0 233 [.ref 209] (zD zTQ (zaQ a p) S D0) 0 0 (zQi zTQ (zaQ a p) D0 r S2)) {rc238 : zS → Option (Int32 × zS)} (hrc238 : ∀  {S S2 : zS} {r : Int32}, rc238  S = some (r, S2) → yK X fr0 lo0 238 [.ref 209] (zD zTQ (zaQ a p) S D0) 0 0 (zQi zTQ (zaQ a p) D0 r S2))  {N fr lo : Nat}   (hf0 : fr0 + 4 ≤ fr) (hl0 : lo0 + 91 ≤ lo) (hf : 6 ≤ fr) (hl : 164 ≤ lo)  : ∀ {n : Nat} {l1 : Int32} {u2 : Option Value} {S S2 : zS} {r : Int32} , rQ_every_3 rc233 rc238 N n l1 S = some (r, S2) → yT X fr lo 234 3 [some (.ref 209), some (.int l1), u2] [] (zD zTQ (zaQ a p) S D0) 0 0 (zQi zTQ (zaQ a p) D0 r S2) := by
  intro n
  induction n with
  | zero =>
    intro l1 u2 S S2 r  h
    have h : (none : Option (Int32 × zS)) = some (r, S2) := h
    cases h
  | succ n ih =>
    intro l1 u2 S S2 r  h
    rw [rQ_every_3] at h
    refine xt_pure rfl rfl rfl rfl ?_
    obtain ⟨x4, S5, hc6, h⟩ := zbi h
    refine zt_Vi rfl rfl rfl rfl (xmC 176 rfl) ⟨rfl, rfl, yle rfl, yle rfl⟩ (m := 1) rfl ⟨by omega, by omega⟩ (trQ_good hG0 hG (by omega) (by omega) hc6) (fr1 := fr - 1) (lo1 := lo - 20) ?_
    refine xt_if rfl rfl (fun hb => ?_) (fun hb => ?_)
    · replace h := zif_t (p := x4 = (0 : Int32)) hb h
      refine xt_pure rfl rfl rfl rfl ?_
      cases h
      exact xt_iret rfl rfl rfl rfl ⟨rfl, rfl⟩
    · replace h := zif_f (p := x4 = (0 : Int32)) hb h
      refine xt_pure rfl rfl rfl rfl ?_
      refine xt_pure rfl rfl rfl rfl ?_
      obtain ⟨x7, S8, hc9, h⟩ := zbi h
      refine zt_Vi rfl rfl rfl rfl (xmC 176 rfl) ⟨rfl, rfl, yle rfl, yle rfl⟩ (m := 3) rfl ⟨by omega, by omega⟩ (trS_isWord hG0 hG (List.mem_cons_of_mem _ (List.mem_of_getElem? (i := 67) rfl)) (List.mem_cons_of_mem _ (List.mem_of_getElem? (i := 68) rfl)) (List.mem_cons_of_mem _ (List.mem_of_getElem? (i := 69) rfl)) (by omega) (by omega) hc9) (fr1 := fr - 1) (lo1 := lo - 22) ?_
      refine xt_if rfl rfl (fun hb => ?_) (fun hb => ?_)
      · replace h := zif_t (p := x7 = (0 : Int32)) hb h
        refine xt_pure rfl rfl rfl rfl ?_
        cases h
        exact xt_iret rfl rfl rfl rfl ⟨rfl, rfl⟩
      · replace h := zif_f (p := x7 = (0 : Int32)) hb h
        refine xt_pure rfl rfl rfl rfl ?_
        obtain ⟨_, S11, hc12, h⟩ := zbi h
        refine zt_Vv rfl rfl rfl rfl (xmC 176 rfl) ⟨rfl, rfl, yle rfl, yle rfl⟩ (m := 1) rfl ⟨by omega, by omega⟩ (trQ_counts hG0 hG (by omega) (by omega) hc12) (fr1 := fr - 1) (lo1 := lo - 20) ?_
        refine xt_pure rfl rfl rfl rfl ?_
        obtain ⟨_, S14, hc15, h⟩ := zbi h
        refine zt_Vv rfl rfl rfl rfl (xmC 176 rfl) ⟨rfl, rfl, yle rfl, yle rfl⟩ (m := 1) rfl ⟨by omega, by omega⟩ (trQ_step hG0 hG (by omega) (by omega) hc15) (fr1 := fr - 1) (lo1 := lo - 20) ?_
        refine xt_pure rfl rfl rfl rfl ?_
        obtain ⟨x16, S17, hc18, h⟩ := zbi h
        refine zt_Vi rfl rfl rfl rfl (xmC 176 rfl) ⟨rfl, rfl, yle rfl, yle rfl⟩ (m := 4) rfl ⟨by omega, by omega⟩ (trQ_comp hG0 hG hrc233 hrc238 (by omega) (by omega) (by omega) (by omega) hc18) (fr1 := fr - 1) (lo1 := lo - 23) ?_
        refine xt_pure rfl rfl rfl (L1 := [_, _, _]) rfl ?_
        refine xt_pure rfl rfl rfl rfl ?_
        refine xt_pure rfl rfl rfl (st1 := .int 12 :: _) rfl ?_
        refine xt_pure rfl rfl rfl rfl ?_
        refine xt_pure rfl rfl rfl rfl ?_
        obtain ⟨x19, S20, hc21, h⟩ := zbi h
        refine zt_Vi rfl rfl rfl rfl (xmC 176 rfl) ⟨rfl, rfl, yle rfl, yle rfl⟩ (m := 5) rfl ⟨by omega, by omega⟩ (trQ_node hG0 hG (by omega) (by omega) hc21) (fr1 := fr - 1) (lo1 := lo - 24) ?_
        refine xt_pure rfl rfl rfl (L1 := [_, _, _]) rfl ?_
        refine xt_pure rfl rfl rfl rfl ?_
        exact ih h
def rQ_every (rc233 : zS → Option (Int32 × zS)) (rc238 : zS → Option (Int32 × zS))  (N : Nat)  (S : zS) : Option (Int32 × zS) := (zb (rQ_comp rc233 rc238 N  S) fun x1 S2 => rQ_every_3 rc233 rc238 N N x1 S2)
theorem trQ_every {X : List Int32} {D0 : List xE} {a : Nat} {p : Nat → Nat} (hG0 : ((209, .inl (14, 9, .ref a)) : xE) ∈ D0) (hG : ∀ e ∈ zgQ a p, e ∈ D0) {fr0 lo0 : Nat} {rc233 : zS → Option (Int32 × zS)} (hrc233 : ∀  {S S2 : zS} {r : Int32}, rc233  S = some (r, S2) → yK X fr0 lo0 233 [.ref 209] (zD zTQ (zaQ a p) S D0) 0 0 (zQi zTQ (zaQ a p) D0 r S2)) {rc238 : zS → Option (Int32 × zS)} (hrc238 : ∀  {S S2 : zS} {r : Int32}, rc238  S = some (r, S2) → yK X fr0 lo0 238 [.ref 209] (zD zTQ (zaQ a p) S D0) 0 0 (zQi zTQ (zaQ a p) D0 r S2))  {N fr lo : Nat} (hf0 : fr0 + 4 ≤ fr) (hl0 : lo0 + 91 ≤ lo) (hf : 6 ≤ fr) (hl : 164 ≤ lo)  {S S2 : zS} {r : Int32}  (h : rQ_every rc233 rc238 N  S = some (r, S2)) : yK X fr lo 234 [.ref 209] (zD zTQ (zaQ a p) S D0) 0 0 (zQi zTQ (zaQ a p) D0 r S2) := by
  unfold rQ_every at h
  refine yK.of rfl (yle rfl) (L := [_, _, _]) rfl ?_
  refine xt_pure rfl rfl rfl rfl ?_
  obtain ⟨x1, S2, hc3, h⟩ := zbi h
  refine zt_Vi rfl rfl rfl rfl (xmC 176 rfl) ⟨rfl, rfl, yle rfl, yle rfl⟩ (m := 4) rfl ⟨by omega, by omega⟩ (trQ_comp hG0 hG hrc233 hrc238 (by omega) (by omega) (by omega) (by omega) hc3) (fr1 := fr - 1) (lo1 := lo - 23) ?_
  refine xt_pure rfl rfl rfl (L1 := [_, _, _]) rfl ?_
  exact trQ_every_3 hG0 hG hrc233 hrc238 hf0 hl0 hf hl h
def rQ_exp_3 (rc233 : zS → Option (Int32 × zS)) (rc238 : zS → Option (Int32 × zS))  (N : Nat)  : Nat → Int32 → zS → Option (Int32 × zS)
  | 0, _, _ => none
  | n + 1, l1, S => (zb (rQ_good N  S) fun x4 S5 => (if x4 = (0 : Int32) then some (l1, S5) else (zb (rS_isWord zs_44 N S5) fun x7 S8 => (if x7 = (0 : Int32) then some (l1, S8) else (zb (rQ_counts N  S8) fun _ S11 => (zb (rQ_step N  S11) fun _ S14 => (zb (rQ_every rc233 rc238 N  S14) fun x16 S17 => (zb (rQ_node N 11 l1 x16 S17) fun x19 S20 => (rQ_exp_3 rc233 rc238 N n) x19 S20))))))))
theorem trQ_exp_3 {X : List Int32} {D0 : List xE} {a : Nat} {p : Nat → Nat} (hG0 : ((209, .inl (14, 9, .ref a)) : xE) ∈ D0) (hG : ∀ e ∈ zgQ a p, e ∈ D0) {fr0 lo0 : Nat} {rc233 : zS → Option (Int32 × zS)} (hrc233 : ∀  {S S2 : zS} {r : Int32}, rc233  S = some (r, S2) → yK X fr0 lo0 233 [.ref 209] (zD zTQ (zaQ a p) S D0) 0 0 (zQi zTQ (zaQ a p) D0 r S2)) {rc238 : zS → Option (Int32 × zS)} (hrc238 : ∀  {S S2 : zS} {r : Int32}, rc238  S = some (r, S2) → yK X fr0 lo0 238 [.ref 209] (zD zTQ (zaQ a p) S D0) 0 0 (zQi zTQ (zaQ a p) D0 r S2))  {N fr lo : Nat}   (hf0 : fr0 + 5 ≤ fr) (hl0 : lo0 + 113 ≤ lo) (hf : 7 ≤ fr) (hl : 186 ≤ lo)  : ∀ {n : Nat} {l1 : Int32} {u2 : Option Value} {S S2 : zS} {r : Int32} , rQ_exp_3 rc233 rc238 N n l1 S = some (r, S2) → yT X fr lo 233 3 [some (.ref 209), some (.int l1), u2] [] (zD zTQ (zaQ a p) S D0) 0 0 (zQi zTQ (zaQ a p) D0 r S2) := by
  intro n
  induction n with
  | zero =>
    intro l1 u2 S S2 r  h
    have h : (none : Option (Int32 × zS)) = some (r, S2) := h
    cases h
  | succ n ih =>
    intro l1 u2 S S2 r  h
    rw [rQ_exp_3] at h
    refine xt_pure rfl rfl rfl rfl ?_
    obtain ⟨x4, S5, hc6, h⟩ := zbi h
    refine zt_Vi rfl rfl rfl rfl (xmC 176 rfl) ⟨rfl, rfl, yle rfl, yle rfl⟩ (m := 1) rfl ⟨by omega, by omega⟩ (trQ_good hG0 hG (by omega) (by omega) hc6) (fr1 := fr - 1) (lo1 := lo - 20) ?_
    refine xt_if rfl rfl (fun hb => ?_) (fun hb => ?_)
    · replace h := zif_t (p := x4 = (0 : Int32)) hb h
      refine xt_pure rfl rfl rfl rfl ?_
      cases h
      exact xt_iret rfl rfl rfl rfl ⟨rfl, rfl⟩
    · replace h := zif_f (p := x4 = (0 : Int32)) hb h
      refine xt_pure rfl rfl rfl rfl ?_
      refine xt_pure rfl rfl rfl rfl ?_
      obtain ⟨x7, S8, hc9, h⟩ := zbi h
      refine zt_Vi rfl rfl rfl rfl (xmC 176 rfl) ⟨rfl, rfl, yle rfl, yle rfl⟩ (m := 3) rfl ⟨by omega, by omega⟩ (trS_isWord hG0 hG (List.mem_cons_of_mem _ (List.mem_of_getElem? (i := 64) rfl)) (List.mem_cons_of_mem _ (List.mem_of_getElem? (i := 65) rfl)) (List.mem_cons_of_mem _ (List.mem_of_getElem? (i := 66) rfl)) (by omega) (by omega) hc9) (fr1 := fr - 1) (lo1 := lo - 22) ?_
      refine xt_if rfl rfl (fun hb => ?_) (fun hb => ?_)
      · replace h := zif_t (p := x7 = (0 : Int32)) hb h
        refine xt_pure rfl rfl rfl rfl ?_
        cases h
        exact xt_iret rfl rfl rfl rfl ⟨rfl, rfl⟩
      · replace h := zif_f (p := x7 = (0 : Int32)) hb h
        refine xt_pure rfl rfl rfl rfl ?_
        obtain ⟨_, S11, hc12, h⟩ := zbi h
        refine zt_Vv rfl rfl rfl rfl (xmC 176 rfl) ⟨rfl, rfl, yle rfl, yle rfl⟩ (m := 1) rfl ⟨by omega, by omega⟩ (trQ_counts hG0 hG (by omega) (by omega) hc12) (fr1 := fr - 1) (lo1 := lo - 20) ?_
        refine xt_pure rfl rfl rfl rfl ?_
        obtain ⟨_, S14, hc15, h⟩ := zbi h
        refine zt_Vv rfl rfl rfl rfl (xmC 176 rfl) ⟨rfl, rfl, yle rfl, yle rfl⟩ (m := 1) rfl ⟨by omega, by omega⟩ (trQ_step hG0 hG (by omega) (by omega) hc15) (fr1 := fr - 1) (lo1 := lo - 20) ?_
        refine xt_pure rfl rfl rfl rfl ?_
        obtain ⟨x16, S17, hc18, h⟩ := zbi h
        refine zt_Vi rfl rfl rfl rfl (xmC 176 rfl) ⟨rfl, rfl, yle rfl, yle rfl⟩ (m := 3) rfl ⟨by omega, by omega⟩ (trQ_every hG0 hG hrc233 hrc238 (by omega) (by omega) (by omega) (by omega) hc18) (fr1 := fr - 1) (lo1 := lo - 22) ?_
        refine xt_pure rfl rfl rfl (L1 := [_, _, _]) rfl ?_
        refine xt_pure rfl rfl rfl rfl ?_
        refine xt_pure rfl rfl rfl (st1 := .int 11 :: _) rfl ?_
        refine xt_pure rfl rfl rfl rfl ?_
        refine xt_pure rfl rfl rfl rfl ?_
        obtain ⟨x19, S20, hc21, h⟩ := zbi h
        refine zt_Vi rfl rfl rfl rfl (xmC 176 rfl) ⟨rfl, rfl, yle rfl, yle rfl⟩ (m := 5) rfl ⟨by omega, by omega⟩ (trQ_node hG0 hG (by omega) (by omega) hc21) (fr1 := fr - 1) (lo1 := lo - 24) ?_
        refine xt_pure rfl rfl rfl (L1 := [_, _, _]) rfl ?_
        refine xt_pure rfl rfl rfl rfl ?_
        exact ih h
def rQ_exp (rc233 : zS → Option (Int32 × zS)) (rc238 : zS → Option (Int32 × zS))  (N : Nat)  (S : zS) : Option (Int32 × zS) := (zb (rQ_every rc233 rc238 N  S) fun x1 S2 => rQ_exp_3 rc233 rc238 N N x1 S2)
theorem trQ_exp {X : List Int32} {D0 : List xE} {a : Nat} {p : Nat → Nat} (hG0 : ((209, .inl (14, 9, .ref a)) : xE) ∈ D0) (hG : ∀ e ∈ zgQ a p, e ∈ D0) {fr0 lo0 : Nat} {rc233 : zS → Option (Int32 × zS)} (hrc233 : ∀  {S S2 : zS} {r : Int32}, rc233  S = some (r, S2) → yK X fr0 lo0 233 [.ref 209] (zD zTQ (zaQ a p) S D0) 0 0 (zQi zTQ (zaQ a p) D0 r S2)) {rc238 : zS → Option (Int32 × zS)} (hrc238 : ∀  {S S2 : zS} {r : Int32}, rc238  S = some (r, S2) → yK X fr0 lo0 238 [.ref 209] (zD zTQ (zaQ a p) S D0) 0 0 (zQi zTQ (zaQ a p) D0 r S2))  {N fr lo : Nat} (hf0 : fr0 + 5 ≤ fr) (hl0 : lo0 + 113 ≤ lo) (hf : 7 ≤ fr) (hl : 186 ≤ lo)  {S S2 : zS} {r : Int32}  (h : rQ_exp rc233 rc238 N  S = some (r, S2)) : yK X fr lo 233 [.ref 209] (zD zTQ (zaQ a p) S D0) 0 0 (zQi zTQ (zaQ a p) D0 r S2) := by
  unfold rQ_exp at h
  refine yK.of rfl (yle rfl) (L := [_, _, _]) rfl ?_
  refine xt_pure rfl rfl rfl rfl ?_
  obtain ⟨x1, S2, hc3, h⟩ := zbi h
  refine zt_Vi rfl rfl rfl rfl (xmC 176 rfl) ⟨rfl, rfl, yle rfl, yle rfl⟩ (m := 3) rfl ⟨by omega, by omega⟩ (trQ_every hG0 hG hrc233 hrc238 (by omega) (by omega) (by omega) (by omega) hc3) (fr1 := fr - 1) (lo1 := lo - 22) ?_
  refine xt_pure rfl rfl rfl (L1 := [_, _, _]) rfl ?_
  exact trQ_exp_3 hG0 hG hrc233 hrc238 hf0 hl0 hf hl h
def rQ_fix (N : Nat) : Nat → (zS → Option (Int32 × zS)) × (zS → Option (Int32 × zS))
  | 0 => (fun _ => none, fun _ => none)
  | n + 1 => (fun  S => rQ_exp (rQ_fix N n).1 (rQ_fix N n).2 N  S, fun  S => rQ_one (rQ_fix N n).1 (rQ_fix N n).2 N  S)
theorem trQ_fix {X : List Int32} {D0 : List xE} {a : Nat} {p : Nat → Nat} (hG0 : ((209, .inl (14, 9, .ref a)) : xE) ∈ D0) (hG : ∀ e ∈ zgQ a p, e ∈ D0) {N : Nat} : ∀ {n fr lo : Nat}, 9 + 5 * n ≤ fr → 253 + 113 * n ≤ lo → (∀  {S S2 : zS} {r : Int32}, (rQ_fix N n).1  S = some (r, S2) → yK X fr lo 233 [.ref 209] (zD zTQ (zaQ a p) S D0) 0 0 (zQi zTQ (zaQ a p) D0 r S2)) ∧ (∀  {S S2 : zS} {r : Int32}, (rQ_fix N n).2  S = some (r, S2) → yK X fr lo 238 [.ref 209] (zD zTQ (zaQ a p) S D0) 0 0 (zQi zTQ (zaQ a p) D0 r S2)) := by
  intro n
  induction n with
  | zero =>
    intro fr lo hf hl
    exact ⟨fun h => absurd h (by intro h; cases h), fun h => absurd h (by intro h; cases h)⟩
  | succ n ih =>
    intro fr lo hf hl
    exact ⟨fun h => trQ_exp hG0 hG (fun h => (ih (fr := fr - 5) (lo := lo - 113) (by omega) (by omega)).1 h) (fun h => (ih (fr := fr - 5) (lo := lo - 113) (by omega) (by omega)).2 h) (by omega) (by omega) (by omega) (by omega) h, fun h => trQ_one hG0 hG (fun h => (ih (fr := fr - 5) (lo := lo - 113) (by omega) (by omega)).1 h) (fun h => (ih (fr := fr - 5) (lo := lo - 113) (by omega) (by omega)).2 h) (by omega) (by omega) (by omega) (by omega) h⟩
