/-! MIRRORS: the reference, parts and rules -/
def rQ_when  (N : Nat) (v1 : Int32) (S : zS) : Option (Unit × zS) := (zb (rQ_good N  S) fun x1 S2 => (if x1 = (0 : Int32) then some ((), S2) else (zb (rS_isWord zs_14 N S2) fun x4 S5 => (if x4 = (0 : Int32) then some ((), S5) else (zb (rQ_next N  S5) fun _ S8 => (zb ((rQ_fix N (N / 16)).1  S8) fun x10 S11 => (if zok (zA S11 22) v1 then some ((), (zsA S11 22 (zs (zA S11 22) v1 x10))) else none)))))))
theorem trQ_when {X : List Int32} {D0 : List xE} {a : Nat} {p : Nat → Nat} (hG0 : ((209, .inl (14, 9, .ref a)) : xE) ∈ D0) (hG : ∀ e ∈ zgQ a p, e ∈ D0)  {N fr lo : Nat} (hf : 10 + 5 * (N / 16) ≤ fr) (hl : 275 + 113 * (N / 16) ≤ lo) {v1 : Int32} {S S2 : zS} {r : Unit}  (h : rQ_when N v1 S = some (r, S2)) : yK X fr lo 232 [.ref 209, .int v1] (zD zTQ (zaQ a p) S D0) 0 0 (zQv zTQ (zaQ a p) D0 r S2) := by
  unfold rQ_when at h
  refine yK.of rfl (yle rfl) (L := [_, _, _]) rfl ?_
  refine xt_pure rfl rfl rfl rfl ?_
  obtain ⟨x1, S2, hc3, h⟩ := zbi h
  refine zt_Vi rfl rfl rfl rfl (xmC 176 rfl) ⟨rfl, rfl, yle rfl, yle rfl⟩ (m := 1) rfl ⟨by omega, by omega⟩ (trQ_good hG0 hG (by omega) (by omega) hc3) (fr1 := fr - 1) (lo1 := lo - 20) ?_
  refine xt_if rfl rfl (fun hb => ?_) (fun hb => ?_)
  · replace h := zif_t (p := x1 = (0 : Int32)) hb h
    cases h
    exact xt_vret rfl rfl rfl ⟨rfl, rfl⟩
  · replace h := zif_f (p := x1 = (0 : Int32)) hb h
    refine xt_pure rfl rfl rfl rfl ?_
    refine xt_pure rfl rfl rfl rfl ?_
    obtain ⟨x4, S5, hc6, h⟩ := zbi h
    refine zt_Vi rfl rfl rfl rfl (xmC 176 rfl) ⟨rfl, rfl, yle rfl, yle rfl⟩ (m := 3) rfl ⟨by omega, by omega⟩ (trS_isWord hG0 hG (List.mem_cons_of_mem _ (List.mem_of_getElem? (i := 19) rfl)) (List.mem_cons_of_mem _ (List.mem_of_getElem? (i := 20) rfl)) (List.mem_cons_of_mem _ (List.mem_of_getElem? (i := 21) rfl)) (by omega) (by omega) hc6) (fr1 := fr - 1) (lo1 := lo - 22) ?_
    refine xt_if rfl rfl (fun hb => ?_) (fun hb => ?_)
    · replace h := zif_t (p := x4 = (0 : Int32)) hb h
      cases h
      exact xt_vret rfl rfl rfl ⟨rfl, rfl⟩
    · replace h := zif_f (p := x4 = (0 : Int32)) hb h
      refine xt_pure rfl rfl rfl rfl ?_
      obtain ⟨_, S8, hc9, h⟩ := zbi h
      refine zt_Vv rfl rfl rfl rfl (xmC 176 rfl) ⟨rfl, rfl, yle rfl, yle rfl⟩ (m := 4) rfl ⟨by omega, by omega⟩ (trQ_next hG0 hG (by omega) (by omega) hc9) (fr1 := fr - 1) (lo1 := lo - 23) ?_
      refine xt_pure rfl rfl rfl rfl ?_
      obtain ⟨x10, S11, hc12, h⟩ := zbi h
      refine zt_Vi rfl rfl rfl rfl (xmC 176 rfl) ⟨rfl, rfl, yle rfl, yle rfl⟩ (m := 3) rfl ⟨by omega, by omega⟩ ((trQ_fix hG0 hG (by omega) (by omega)).1 hc12) (fr1 := fr - 1) (lo1 := lo - 22) ?_
      refine xt_pure rfl rfl rfl (L1 := [_, _, _]) rfl ?_
      refine xt_pure rfl rfl rfl rfl ?_
      refine xt_getf rfl rfl (zmr hG0) ?_
      refine xt_getf rfl rfl (zmr (ymm hG 7 rfl)) ?_
      refine xt_pure rfl rfl rfl rfl ?_
      refine xt_pure rfl rfl rfl rfl ?_
      obtain ⟨hg, h⟩ := zgd h
      refine zt_ist 22 rfl rfl rfl rfl (l := (zA S11 22)) rfl hg ?_
      cases h
      exact xt_vret rfl rfl rfl ⟨rfl, rfl⟩
def rQ_part_59 (rc222 : Int32 → zS → Option (Unit × zS))  (N : Nat)  (l1 : Int32) (l2 : Int32) (S : zS) : Option (Unit × zS) := (zb (rQ_kindAtHand N  S) fun x7 S8 => (if x7 ≠ ((-9) : Int32) then (zb (rQ_next N  S8) fun _ S11 => (zb (rQ_freshPart N  S11) fun x13 S14 => (if zok (zA S14 16) x13 then (if zok (zA S14 17) x13 then (if zok (zA S14 18) x13 ∧ (l2 = 0 ∨ l2 = 1) then (zb (rQ_bounds N x13 x7 (zsA (zsA (zsA S14 16 (zs (zA S14 16) x13 x7)) 17 (zs (zA S14 17) x13 l1)) 18 (zs (zA S14 18) x13 l2))) fun _ S17 => (zb (rQ_when N x13 S17) fun _ S20 => (zb (rQ_sign N 59 S20) fun _ S23 => some ((), S23)))) else none) else none) else none))) else (zb (rQ_wrong N  S8) fun _ S26 => some ((), S26))))
theorem trQ_part_59 {X : List Int32} {D0 : List xE} {a : Nat} {p : Nat → Nat} (hG0 : ((209, .inl (14, 9, .ref a)) : xE) ∈ D0) (hG : ∀ e ∈ zgQ a p, e ∈ D0) {fr0 lo0 : Nat} {rc222 : Int32 → zS → Option (Unit × zS)} (hrc222 : ∀ {b0 : Int32} {S S2 : zS} {r : Unit}, rc222 b0 S = some (r, S2) → yK X fr0 lo0 222 [.ref 209, .int b0] (zD zTQ (zaQ a p) S D0) 0 0 (zQv zTQ (zaQ a p) D0 r S2))  {N fr lo : Nat}   (hf0 : fr0 + 1 ≤ fr) (hl0 : lo0 + 21 ≤ lo) (hf : 11 + 5 * (N / 16) ≤ fr) (hl : 297 + 113 * (N / 16) ≤ lo) {l1 : Int32} {l2 : Int32}  {S S2 : zS} {r : Unit}  (h : rQ_part_59 rc222 N l1 l2 S = some (r, S2)) : yT X fr lo 225 59 [some (.ref 209), some (.int l1), some (.int l2), none, none] [] (zD zTQ (zaQ a p) S D0) 0 0 (zQv zTQ (zaQ a p) D0 r S2) := by
  unfold rQ_part_59 at h
  refine xt_pure rfl rfl rfl rfl ?_
  obtain ⟨x7, S8, hc9, h⟩ := zbi h
  refine zt_Vi rfl rfl rfl rfl (xmC 176 rfl) ⟨rfl, rfl, yle rfl, yle rfl⟩ (m := 2) rfl ⟨by omega, by omega⟩ (trQ_kindAtHand hG0 hG (by omega) (by omega) hc9) (fr1 := fr - 1) (lo1 := lo - 21) ?_
  refine xt_pure rfl rfl rfl (L1 := [_, _, _, _, _]) rfl ?_
  refine xt_pure rfl rfl rfl rfl ?_
  refine xt_pure rfl rfl rfl (st1 := .int (-9) :: _) rfl ?_
  refine xt_ic rfl rfl (fun hb => ?_) (fun hb => ?_)
  · replace h := zif_t (p := x7 ≠ ((-9) : Int32)) hb h
    refine xt_pure rfl rfl rfl rfl ?_
    obtain ⟨_, S11, hc12, h⟩ := zbi h
    refine zt_Vv rfl rfl rfl rfl (xmC 176 rfl) ⟨rfl, rfl, yle rfl, yle rfl⟩ (m := 4) rfl ⟨by omega, by omega⟩ (trQ_next hG0 hG (by omega) (by omega) hc12) (fr1 := fr - 1) (lo1 := lo - 23) ?_
    refine xt_pure rfl rfl rfl rfl ?_
    obtain ⟨x13, S14, hc15, h⟩ := zbi h
    refine zt_Vi rfl rfl rfl rfl (xmC 176 rfl) ⟨rfl, rfl, yle rfl, yle rfl⟩ (m := 2) rfl ⟨by omega, by omega⟩ (trQ_freshPart hG0 hG (by omega) (by omega) hc15) (fr1 := fr - 1) (lo1 := lo - 21) ?_
    refine xt_pure rfl rfl rfl (L1 := [_, _, _, _, _]) rfl ?_
    refine xt_pure rfl rfl rfl rfl ?_
    refine xt_getf rfl rfl (zmr hG0) ?_
    refine xt_getf rfl rfl (zmr (ymm hG 1 rfl)) ?_
    refine xt_pure rfl rfl rfl rfl ?_
    refine xt_pure rfl rfl rfl rfl ?_
    obtain ⟨hg, h⟩ := zgd h
    refine zt_ist 16 rfl rfl rfl rfl (l := (zA S14 16)) rfl hg ?_
    refine xt_pure rfl rfl rfl rfl ?_
    refine xt_getf rfl rfl (zmr hG0) ?_
    refine xt_getf rfl rfl (zmr (ymm hG 2 rfl)) ?_
    refine xt_pure rfl rfl rfl rfl ?_
    refine xt_pure rfl rfl rfl rfl ?_
    obtain ⟨hg, h⟩ := zgd h
    refine zt_ist 17 rfl rfl rfl rfl (l := (zA S14 17)) rfl hg ?_
    refine xt_pure rfl rfl rfl rfl ?_
    refine xt_getf rfl rfl (zmr hG0) ?_
    refine xt_getf rfl rfl (zmr (ymm hG 3 rfl)) ?_
    refine xt_pure rfl rfl rfl rfl ?_
    refine xt_pure rfl rfl rfl rfl ?_
    obtain ⟨hg, h⟩ := zgd h
    refine zt_bst 18 rfl rfl (Or.inr ⟨rfl, by rcases hg.2 with hg | hg <;> rw [hg] <;> rfl⟩) rfl rfl (l := (zA S14 18)) rfl hg.1 ?_
    refine xt_pure rfl rfl rfl rfl ?_
    refine xt_pure rfl rfl rfl rfl ?_
    refine xt_pure rfl rfl rfl rfl ?_
    obtain ⟨_, S17, hc18, h⟩ := zbi h
    refine zt_Vv rfl rfl rfl rfl (xmC 176 rfl) ⟨rfl, rfl, yle rfl, yle rfl⟩ (m := 5) rfl ⟨by omega, by omega⟩ (trQ_bounds hG0 hG (by omega) (by omega) hc18) (fr1 := fr - 1) (lo1 := lo - 24) ?_
    refine xt_pure rfl rfl rfl rfl ?_
    refine xt_pure rfl rfl rfl rfl ?_
    obtain ⟨_, S20, hc21, h⟩ := zbi h
    refine zt_Vv rfl rfl rfl rfl (xmC 176 rfl) ⟨rfl, rfl, yle rfl, yle rfl⟩ (m := 3) rfl ⟨by omega, by omega⟩ (trQ_when hG0 hG (by omega) (by omega) hc21) (fr1 := fr - 1) (lo1 := lo - 22) ?_
    refine xt_pure rfl rfl rfl rfl ?_
    refine xt_pure rfl rfl rfl (st1 := .int 59 :: _) rfl ?_
    obtain ⟨_, S23, hc24, h⟩ := zbi h
    refine zt_Vv rfl rfl rfl rfl (xmC 176 rfl) ⟨rfl, rfl, yle rfl, yle rfl⟩ (m := 2) rfl ⟨by omega, by omega⟩ (trQ_sign hG0 hG (by omega) (by omega) hc24) (fr1 := fr - 1) (lo1 := lo - 21) ?_
    cases h
    exact xt_vret rfl rfl rfl ⟨rfl, rfl⟩
  · replace h := zif_f (p := x7 ≠ ((-9) : Int32)) hb h
    refine xt_pure rfl rfl rfl rfl ?_
    obtain ⟨_, S26, hc27, h⟩ := zbi h
    refine zt_Vv rfl rfl rfl rfl (xmC 176 rfl) ⟨rfl, rfl, yle rfl, yle rfl⟩ (m := 1) rfl ⟨by omega, by omega⟩ (trQ_wrong hG0 hG (by omega) (by omega) hc27) (fr1 := fr - 1) (lo1 := lo - 20) ?_
    cases h
    exact xt_vret rfl rfl rfl ⟨rfl, rfl⟩
def rQ_part_11 (rc222 : Int32 → zS → Option (Unit × zS))  (N : Nat)  (l1 : Int32) (S : zS) : Option (Unit × zS) := (zb (rQ_freshPart N  S) fun x37 S38 => (if zok (zA S38 16) x37 then (if zok (zA S38 17) x37 then (if zok (zA S38 18) x37 then (zb (rQ_when N x37 (zsA (zsA (zsA S38 16 (zs (zA S38 16) x37 11)) 17 (zs (zA S38 17) x37 l1)) 18 (zs (zA S38 18) x37 0))) fun _ S41 => (zb (rQ_sign N 123 S41) fun _ S44 => (zb (rc222 x37 S44) fun _ S47 => (zb (rQ_sign N 125 S47) fun _ S50 => some ((), (zsI S50 7 ((zI S50 7) - 1))))))) else none) else none) else none))
theorem trQ_part_11 {X : List Int32} {D0 : List xE} {a : Nat} {p : Nat → Nat} (hG0 : ((209, .inl (14, 9, .ref a)) : xE) ∈ D0) (hG : ∀ e ∈ zgQ a p, e ∈ D0) {fr0 lo0 : Nat} {rc222 : Int32 → zS → Option (Unit × zS)} (hrc222 : ∀ {b0 : Int32} {S S2 : zS} {r : Unit}, rc222 b0 S = some (r, S2) → yK X fr0 lo0 222 [.ref 209, .int b0] (zD zTQ (zaQ a p) S D0) 0 0 (zQv zTQ (zaQ a p) D0 r S2))  {N fr lo : Nat}   (hf0 : fr0 + 1 ≤ fr) (hl0 : lo0 + 21 ≤ lo) (hf : 11 + 5 * (N / 16) ≤ fr) (hl : 297 + 113 * (N / 16) ≤ lo) {l1 : Int32}  {S S2 : zS} {r : Unit}  (h : rQ_part_11 rc222 N l1 S = some (r, S2)) : yT X fr lo 225 11 [some (.ref 209), some (.int l1), none, none, none] [] (zD zTQ (zaQ a p) S D0) 0 0 (zQv zTQ (zaQ a p) D0 r S2) := by
  unfold rQ_part_11 at h
  refine xt_pure rfl rfl rfl rfl ?_
  obtain ⟨x37, S38, hc39, h⟩ := zbi h
  refine zt_Vi rfl rfl rfl rfl (xmC 176 rfl) ⟨rfl, rfl, yle rfl, yle rfl⟩ (m := 2) rfl ⟨by omega, by omega⟩ (trQ_freshPart hG0 hG (by omega) (by omega) hc39) (fr1 := fr - 1) (lo1 := lo - 21) ?_
  refine xt_pure rfl rfl rfl (L1 := [_, _, _, _, _]) rfl ?_
  refine xt_pure rfl rfl rfl rfl ?_
  refine xt_getf rfl rfl (zmr hG0) ?_
  refine xt_getf rfl rfl (zmr (ymm hG 1 rfl)) ?_
  refine xt_pure rfl rfl rfl rfl ?_
  refine xt_pure rfl rfl rfl (st1 := .int 11 :: _) rfl ?_
  obtain ⟨hg, h⟩ := zgd h
  refine zt_ist 16 rfl rfl rfl rfl (l := (zA S38 16)) rfl hg ?_
  refine xt_pure rfl rfl rfl rfl ?_
  refine xt_getf rfl rfl (zmr hG0) ?_
  refine xt_getf rfl rfl (zmr (ymm hG 2 rfl)) ?_
  refine xt_pure rfl rfl rfl rfl ?_
  refine xt_pure rfl rfl rfl rfl ?_
  obtain ⟨hg, h⟩ := zgd h
  refine zt_ist 17 rfl rfl rfl rfl (l := (zA S38 17)) rfl hg ?_
  refine xt_pure rfl rfl rfl rfl ?_
  refine xt_getf rfl rfl (zmr hG0) ?_
  refine xt_getf rfl rfl (zmr (ymm hG 3 rfl)) ?_
  refine xt_pure rfl rfl rfl rfl ?_
  refine xt_pure rfl rfl rfl (st1 := .int 0 :: _) rfl ?_
  obtain ⟨hg, h⟩ := zgd h
  refine zt_bst 18 rfl rfl (by decide) rfl rfl (l := (zA S38 18)) rfl hg ?_
  refine xt_pure rfl rfl rfl rfl ?_
  refine xt_pure rfl rfl rfl rfl ?_
  obtain ⟨_, S41, hc42, h⟩ := zbi h
  refine zt_Vv rfl rfl rfl rfl (xmC 176 rfl) ⟨rfl, rfl, yle rfl, yle rfl⟩ (m := 3) rfl ⟨by omega, by omega⟩ (trQ_when hG0 hG (by omega) (by omega) hc42) (fr1 := fr - 1) (lo1 := lo - 22) ?_
  refine xt_pure rfl rfl rfl rfl ?_
  refine xt_pure rfl rfl rfl (st1 := .int 123 :: _) rfl ?_
  obtain ⟨_, S44, hc45, h⟩ := zbi h
  refine zt_Vv rfl rfl rfl rfl (xmC 176 rfl) ⟨rfl, rfl, yle rfl, yle rfl⟩ (m := 2) rfl ⟨by omega, by omega⟩ (trQ_sign hG0 hG (by omega) (by omega) hc45) (fr1 := fr - 1) (lo1 := lo - 21) ?_
  refine xt_pure rfl rfl rfl rfl ?_
  refine xt_pure rfl rfl rfl rfl ?_
  obtain ⟨_, S47, hc48, h⟩ := zbi h
  refine zt_Vv rfl rfl rfl rfl (xmC 176 rfl) ⟨rfl, rfl, yle rfl, yle rfl⟩ (m := 2) rfl ⟨by omega, by omega⟩ (hrc222 hc48) (fr1 := fr0) (lo1 := lo0) ?_
  refine xt_pure rfl rfl rfl rfl ?_
  refine xt_pure rfl rfl rfl (st1 := .int 125 :: _) rfl ?_
  obtain ⟨_, S50, hc51, h⟩ := zbi h
  refine zt_Vv rfl rfl rfl rfl (xmC 176 rfl) ⟨rfl, rfl, yle rfl, yle rfl⟩ (m := 2) rfl ⟨by omega, by omega⟩ (trQ_sign hG0 hG (by omega) (by omega) hc51) (fr1 := fr - 1) (lo1 := lo - 21) ?_
  refine xt_pure rfl rfl rfl rfl ?_
  refine xt_pure rfl rfl rfl rfl ?_
  refine zt_gI 7 rfl rfl rfl rfl (x := (zI S50 7)) rfl ?_
  refine xt_pure rfl rfl rfl (st1 := .int 1 :: _) rfl ?_
  refine xt_pure rfl rfl rfl rfl ?_
  refine zt_pI 7 rfl rfl rfl rfl rfl rfl ?_
  cases h
  exact xt_vret rfl rfl rfl ⟨rfl, rfl⟩
def rQ_part (rc222 : Int32 → zS → Option (Unit × zS))  (N : Nat) (v1 : Int32) (S : zS) : Option (Unit × zS) := (zb (rS_isWord zs_16 N S) fun x1 S2 => (if x1 = (0 : Int32) then (zb (rS_isWord zs_12 N S2) fun x4 S5 => (if x4 = (0 : Int32) then rQ_part_59 rc222 N v1 x4 S5 else (zb (rQ_next N  S5) fun _ S29 => rQ_part_59 rc222 N v1 x4 S29))) else (zb (rQ_deeper N  S2) fun _ S32 => (zb (rQ_good N  S32) fun x34 S35 => (if x34 = (0 : Int32) then rQ_part_11 rc222 N v1 S35 else (zb (rQ_next N  S35) fun _ S53 => rQ_part_11 rc222 N v1 S53))))))
theorem trQ_part {X : List Int32} {D0 : List xE} {a : Nat} {p : Nat → Nat} (hG0 : ((209, .inl (14, 9, .ref a)) : xE) ∈ D0) (hG : ∀ e ∈ zgQ a p, e ∈ D0) {fr0 lo0 : Nat} {rc222 : Int32 → zS → Option (Unit × zS)} (hrc222 : ∀ {b0 : Int32} {S S2 : zS} {r : Unit}, rc222 b0 S = some (r, S2) → yK X fr0 lo0 222 [.ref 209, .int b0] (zD zTQ (zaQ a p) S D0) 0 0 (zQv zTQ (zaQ a p) D0 r S2))  {N fr lo : Nat} (hf0 : fr0 + 1 ≤ fr) (hl0 : lo0 + 21 ≤ lo) (hf : 11 + 5 * (N / 16) ≤ fr) (hl : 297 + 113 * (N / 16) ≤ lo) {v1 : Int32} {S S2 : zS} {r : Unit}  (h : rQ_part rc222 N v1 S = some (r, S2)) : yK X fr lo 225 [.ref 209, .int v1] (zD zTQ (zaQ a p) S D0) 0 0 (zQv zTQ (zaQ a p) D0 r S2) := by
  unfold rQ_part at h
  refine yK.of rfl (yle rfl) (L := [_, _, _, _, _]) rfl ?_
  refine xt_pure rfl rfl rfl rfl ?_
  refine xt_pure rfl rfl rfl rfl ?_
  obtain ⟨x1, S2, hc3, h⟩ := zbi h
  refine zt_Vi rfl rfl rfl rfl (xmC 176 rfl) ⟨rfl, rfl, yle rfl, yle rfl⟩ (m := 3) rfl ⟨by omega, by omega⟩ (trS_isWord hG0 hG (List.mem_cons_of_mem _ (List.mem_of_getElem? (i := 22) rfl)) (List.mem_cons_of_mem _ (List.mem_of_getElem? (i := 23) rfl)) (List.mem_cons_of_mem _ (List.mem_of_getElem? (i := 24) rfl)) (by omega) (by omega) hc3) (fr1 := fr - 1) (lo1 := lo - 22) ?_
  refine xt_if rfl rfl (fun hb => ?_) (fun hb => ?_)
  · replace h := zif_t (p := x1 = (0 : Int32)) hb h
    refine xt_pure rfl rfl rfl rfl ?_
    refine xt_pure rfl rfl rfl rfl ?_
    obtain ⟨x4, S5, hc6, h⟩ := zbi h
    refine zt_Vi rfl rfl rfl rfl (xmC 176 rfl) ⟨rfl, rfl, yle rfl, yle rfl⟩ (m := 3) rfl ⟨by omega, by omega⟩ (trS_isWord hG0 hG (List.mem_cons_of_mem _ (List.mem_of_getElem? (i := 16) rfl)) (List.mem_cons_of_mem _ (List.mem_of_getElem? (i := 17) rfl)) (List.mem_cons_of_mem _ (List.mem_of_getElem? (i := 18) rfl)) (by omega) (by omega) hc6) (fr1 := fr - 1) (lo1 := lo - 22) ?_
    refine xt_pure rfl rfl rfl (L1 := [_, _, _, _, _]) rfl ?_
    refine xt_pure rfl rfl rfl rfl ?_
    refine xt_if rfl rfl (fun hb => ?_) (fun hb => ?_)
    · replace h := zif_t (p := x4 = (0 : Int32)) hb h
      exact trQ_part_59 hG0 hG hrc222 hf0 hl0 hf hl h
    · replace h := zif_f (p := x4 = (0 : Int32)) hb h
      refine xt_pure rfl rfl rfl rfl ?_
      obtain ⟨_, S29, hc30, h⟩ := zbi h
      refine zt_Vv rfl rfl rfl rfl (xmC 176 rfl) ⟨rfl, rfl, yle rfl, yle rfl⟩ (m := 4) rfl ⟨by omega, by omega⟩ (trQ_next hG0 hG (by omega) (by omega) hc30) (fr1 := fr - 1) (lo1 := lo - 23) ?_
      exact trQ_part_59 hG0 hG hrc222 hf0 hl0 hf hl h
  · replace h := zif_f (p := x1 = (0 : Int32)) hb h
    refine xt_pure rfl rfl rfl rfl ?_
    obtain ⟨_, S32, hc33, h⟩ := zbi h
    refine zt_Vv rfl rfl rfl rfl (xmC 176 rfl) ⟨rfl, rfl, yle rfl, yle rfl⟩ (m := 1) rfl ⟨by omega, by omega⟩ (trQ_deeper hG0 hG (by omega) (by omega) hc33) (fr1 := fr - 1) (lo1 := lo - 20) ?_
    refine xt_pure rfl rfl rfl rfl ?_
    obtain ⟨x34, S35, hc36, h⟩ := zbi h
    refine zt_Vi rfl rfl rfl rfl (xmC 176 rfl) ⟨rfl, rfl, yle rfl, yle rfl⟩ (m := 1) rfl ⟨by omega, by omega⟩ (trQ_good hG0 hG (by omega) (by omega) hc36) (fr1 := fr - 1) (lo1 := lo - 20) ?_
    refine xt_if rfl rfl (fun hb => ?_) (fun hb => ?_)
    · replace h := zif_t (p := x34 = (0 : Int32)) hb h
      exact trQ_part_11 hG0 hG hrc222 hf0 hl0 hf hl h
    · replace h := zif_f (p := x34 = (0 : Int32)) hb h
      refine xt_pure rfl rfl rfl rfl ?_
      obtain ⟨_, S53, hc54, h⟩ := zbi h
      refine zt_Vv rfl rfl rfl rfl (xmC 176 rfl) ⟨rfl, rfl, yle rfl, yle rfl⟩ (m := 4) rfl ⟨by omega, by omega⟩ (trQ_next hG0 hG (by omega) (by omega) hc54) (fr1 := fr - 1) (lo1 := lo - 23) ?_
      exact trQ_part_11 hG0 hG hrc222 hf0 hl0 hf hl h
def rQ_parts_0 (rc222 : Int32 → zS → Option (Unit × zS))  (N : Nat)  : Nat → Int32 → zS → Option (Unit × zS)
  | 0, _, _ => none
  | n + 1, l1, S => (zb (rQ_good N  S) fun x10 S11 => (if x10 = (0 : Int32) then some ((), S11) else (zb (rS_isWord zs_12 N S11) fun x13 S14 => (if x13 ≠ (0 : Int32) then (zb (rQ_part rc222 N l1 S14) fun _ S17 => (rQ_parts_0 rc222 N n) l1 S17) else (zb (rS_isWord zs_16 N S14) fun x19 S20 => (if x19 ≠ (0 : Int32) then (zb (rQ_part rc222 N l1 S20) fun _ S23 => (rQ_parts_0 rc222 N n) l1 S23) else (zb (rQ_isKind N  S20) fun x25 S26 => (if x25 = (0 : Int32) then some ((), S26) else (zb (rQ_part rc222 N l1 S26) fun _ S29 => (rQ_parts_0 rc222 N n) l1 S29)))))))))
theorem trQ_parts_0 {X : List Int32} {D0 : List xE} {a : Nat} {p : Nat → Nat} (hG0 : ((209, .inl (14, 9, .ref a)) : xE) ∈ D0) (hG : ∀ e ∈ zgQ a p, e ∈ D0) {fr0 lo0 : Nat} {rc222 : Int32 → zS → Option (Unit × zS)} (hrc222 : ∀ {b0 : Int32} {S S2 : zS} {r : Unit}, rc222 b0 S = some (r, S2) → yK X fr0 lo0 222 [.ref 209, .int b0] (zD zTQ (zaQ a p) S D0) 0 0 (zQv zTQ (zaQ a p) D0 r S2))  {N fr lo : Nat}   (hf0 : fr0 + 2 ≤ fr) (hl0 : lo0 + 45 ≤ lo) (hf : 12 + 5 * (N / 16) ≤ fr) (hl : 321 + 113 * (N / 16) ≤ lo)  : ∀ {n : Nat} {l1 : Int32}  {S S2 : zS} {r : Unit} , rQ_parts_0 rc222 N n l1 S = some (r, S2) → yT X fr lo 222 0 [some (.ref 209), some (.int l1)] [] (zD zTQ (zaQ a p) S D0) 0 0 (zQv zTQ (zaQ a p) D0 r S2) := by
  intro n
  induction n with
  | zero =>
    intro l1  S S2 r  h
    have h : (none : Option (Unit × zS)) = some (r, S2) := h
    cases h
  | succ n ih =>
    intro l1  S S2 r  h
    rw [rQ_parts_0] at h
    refine xt_pure rfl rfl rfl rfl ?_
    obtain ⟨x10, S11, hc12, h⟩ := zbi h
    refine zt_Vi rfl rfl rfl rfl (xmC 176 rfl) ⟨rfl, rfl, yle rfl, yle rfl⟩ (m := 1) rfl ⟨by omega, by omega⟩ (trQ_good hG0 hG (by omega) (by omega) hc12) (fr1 := fr - 1) (lo1 := lo - 20) ?_
    refine xt_if rfl rfl (fun hb => ?_) (fun hb => ?_)
    · replace h := zif_t (p := x10 = (0 : Int32)) hb h
      cases h
      exact xt_vret rfl rfl rfl ⟨rfl, rfl⟩
    · replace h := zif_f (p := x10 = (0 : Int32)) hb h
      refine xt_pure rfl rfl rfl rfl ?_
      refine xt_pure rfl rfl rfl rfl ?_
      obtain ⟨x13, S14, hc15, h⟩ := zbi h
      refine zt_Vi rfl rfl rfl rfl (xmC 176 rfl) ⟨rfl, rfl, yle rfl, yle rfl⟩ (m := 3) rfl ⟨by omega, by omega⟩ (trS_isWord hG0 hG (List.mem_cons_of_mem _ (List.mem_of_getElem? (i := 16) rfl)) (List.mem_cons_of_mem _ (List.mem_of_getElem? (i := 17) rfl)) (List.mem_cons_of_mem _ (List.mem_of_getElem? (i := 18) rfl)) (by omega) (by omega) hc15) (fr1 := fr - 1) (lo1 := lo - 22) ?_
      refine xt_if rfl rfl (fun hb => ?_) (fun hb => ?_)
      · replace h := zif_t (p := x13 ≠ (0 : Int32)) hb h
        refine xt_pure rfl rfl rfl rfl ?_
        refine xt_pure rfl rfl rfl rfl ?_
        obtain ⟨_, S17, hc18, h⟩ := zbi h
        refine zt_Vv rfl rfl rfl rfl (xmC 176 rfl) ⟨rfl, rfl, yle rfl, yle rfl⟩ (m := 5) rfl ⟨by omega, by omega⟩ (trQ_part hG0 hG hrc222 (by omega) (by omega) (by omega) (by omega) hc18) (fr1 := fr - 1) (lo1 := lo - 24) ?_
        refine xt_pure rfl rfl rfl rfl ?_
        exact ih h
      · replace h := zif_f (p := x13 ≠ (0 : Int32)) hb h
        refine xt_pure rfl rfl rfl rfl ?_
        refine xt_pure rfl rfl rfl rfl ?_
        obtain ⟨x19, S20, hc21, h⟩ := zbi h
        refine zt_Vi rfl rfl rfl rfl (xmC 176 rfl) ⟨rfl, rfl, yle rfl, yle rfl⟩ (m := 3) rfl ⟨by omega, by omega⟩ (trS_isWord hG0 hG (List.mem_cons_of_mem _ (List.mem_of_getElem? (i := 22) rfl)) (List.mem_cons_of_mem _ (List.mem_of_getElem? (i := 23) rfl)) (List.mem_cons_of_mem _ (List.mem_of_getElem? (i := 24) rfl)) (by omega) (by omega) hc21) (fr1 := fr - 1) (lo1 := lo - 22) ?_
        refine xt_if rfl rfl (fun hb => ?_) (fun hb => ?_)
        · replace h := zif_t (p := x19 ≠ (0 : Int32)) hb h
          refine xt_pure rfl rfl rfl rfl ?_
          refine xt_pure rfl rfl rfl rfl ?_
          obtain ⟨_, S23, hc24, h⟩ := zbi h
          refine zt_Vv rfl rfl rfl rfl (xmC 176 rfl) ⟨rfl, rfl, yle rfl, yle rfl⟩ (m := 5) rfl ⟨by omega, by omega⟩ (trQ_part hG0 hG hrc222 (by omega) (by omega) (by omega) (by omega) hc24) (fr1 := fr - 1) (lo1 := lo - 24) ?_
          refine xt_pure rfl rfl rfl rfl ?_
          exact ih h
        · replace h := zif_f (p := x19 ≠ (0 : Int32)) hb h
          refine xt_pure rfl rfl rfl rfl ?_
          obtain ⟨x25, S26, hc27, h⟩ := zbi h
          refine zt_Vi rfl rfl rfl rfl (xmC 176 rfl) ⟨rfl, rfl, yle rfl, yle rfl⟩ (m := 1) rfl ⟨by omega, by omega⟩ (trQ_isKind hG0 hG (by omega) (by omega) hc27) (fr1 := fr - 1) (lo1 := lo - 20) ?_
          refine xt_if rfl rfl (fun hb => ?_) (fun hb => ?_)
          · replace h := zif_t (p := x25 = (0 : Int32)) hb h
            cases h
            exact xt_vret rfl rfl rfl ⟨rfl, rfl⟩
          · replace h := zif_f (p := x25 = (0 : Int32)) hb h
            refine xt_pure rfl rfl rfl rfl ?_
            refine xt_pure rfl rfl rfl rfl ?_
            obtain ⟨_, S29, hc30, h⟩ := zbi h
            refine zt_Vv rfl rfl rfl rfl (xmC 176 rfl) ⟨rfl, rfl, yle rfl, yle rfl⟩ (m := 5) rfl ⟨by omega, by omega⟩ (trQ_part hG0 hG hrc222 (by omega) (by omega) (by omega) (by omega) hc30) (fr1 := fr - 1) (lo1 := lo - 24) ?_
            refine xt_pure rfl rfl rfl rfl ?_
            exact ih h
def rQ_parts (rc222 : Int32 → zS → Option (Unit × zS))  (N : Nat) (v1 : Int32) (S : zS) : Option (Unit × zS) := (zb (rQ_good N  S) fun x1 S2 => (if x1 = (0 : Int32) then some ((), S2) else (zb (rS_isWord zs_12 N S2) fun x4 S5 => (if x4 ≠ (0 : Int32) then (zb (rQ_part rc222 N v1 S5) fun _ S8 => rQ_parts_0 rc222 N N v1 S8) else (zb (rS_isWord zs_16 N S5) fun x31 S32 => (if x31 ≠ (0 : Int32) then (zb (rQ_part rc222 N v1 S32) fun _ S35 => rQ_parts_0 rc222 N N v1 S35) else (zb (rQ_isKind N  S32) fun x37 S38 => (if x37 = (0 : Int32) then some ((), S38) else (zb (rQ_part rc222 N v1 S38) fun _ S41 => rQ_parts_0 rc222 N N v1 S41)))))))))
theorem trQ_parts {X : List Int32} {D0 : List xE} {a : Nat} {p : Nat → Nat} (hG0 : ((209, .inl (14, 9, .ref a)) : xE) ∈ D0) (hG : ∀ e ∈ zgQ a p, e ∈ D0) {fr0 lo0 : Nat} {rc222 : Int32 → zS → Option (Unit × zS)} (hrc222 : ∀ {b0 : Int32} {S S2 : zS} {r : Unit}, rc222 b0 S = some (r, S2) → yK X fr0 lo0 222 [.ref 209, .int b0] (zD zTQ (zaQ a p) S D0) 0 0 (zQv zTQ (zaQ a p) D0 r S2))  {N fr lo : Nat} (hf0 : fr0 + 2 ≤ fr) (hl0 : lo0 + 45 ≤ lo) (hf : 12 + 5 * (N / 16) ≤ fr) (hl : 321 + 113 * (N / 16) ≤ lo) {v1 : Int32} {S S2 : zS} {r : Unit}  (h : rQ_parts rc222 N v1 S = some (r, S2)) : yK X fr lo 222 [.ref 209, .int v1] (zD zTQ (zaQ a p) S D0) 0 0 (zQv zTQ (zaQ a p) D0 r S2) := by
  unfold rQ_parts at h
  refine yK.of rfl (yle rfl) (L := [_, _]) rfl ?_
  refine xt_pure rfl rfl rfl rfl ?_
  obtain ⟨x1, S2, hc3, h⟩ := zbi h
  refine zt_Vi rfl rfl rfl rfl (xmC 176 rfl) ⟨rfl, rfl, yle rfl, yle rfl⟩ (m := 1) rfl ⟨by omega, by omega⟩ (trQ_good hG0 hG (by omega) (by omega) hc3) (fr1 := fr - 1) (lo1 := lo - 20) ?_
  refine xt_if rfl rfl (fun hb => ?_) (fun hb => ?_)
  · replace h := zif_t (p := x1 = (0 : Int32)) hb h
    cases h
    exact xt_vret rfl rfl rfl ⟨rfl, rfl⟩
  · replace h := zif_f (p := x1 = (0 : Int32)) hb h
    refine xt_pure rfl rfl rfl rfl ?_
    refine xt_pure rfl rfl rfl rfl ?_
    obtain ⟨x4, S5, hc6, h⟩ := zbi h
    refine zt_Vi rfl rfl rfl rfl (xmC 176 rfl) ⟨rfl, rfl, yle rfl, yle rfl⟩ (m := 3) rfl ⟨by omega, by omega⟩ (trS_isWord hG0 hG (List.mem_cons_of_mem _ (List.mem_of_getElem? (i := 16) rfl)) (List.mem_cons_of_mem _ (List.mem_of_getElem? (i := 17) rfl)) (List.mem_cons_of_mem _ (List.mem_of_getElem? (i := 18) rfl)) (by omega) (by omega) hc6) (fr1 := fr - 1) (lo1 := lo - 22) ?_
    refine xt_if rfl rfl (fun hb => ?_) (fun hb => ?_)
    · replace h := zif_t (p := x4 ≠ (0 : Int32)) hb h
      refine xt_pure rfl rfl rfl rfl ?_
      refine xt_pure rfl rfl rfl rfl ?_
      obtain ⟨_, S8, hc9, h⟩ := zbi h
      refine zt_Vv rfl rfl rfl rfl (xmC 176 rfl) ⟨rfl, rfl, yle rfl, yle rfl⟩ (m := 5) rfl ⟨by omega, by omega⟩ (trQ_part hG0 hG hrc222 (by omega) (by omega) (by omega) (by omega) hc9) (fr1 := fr - 1) (lo1 := lo - 24) ?_
      refine xt_pure rfl rfl rfl rfl ?_
      exact trQ_parts_0 hG0 hG hrc222 hf0 hl0 hf hl h
    · replace h := zif_f (p := x4 ≠ (0 : Int32)) hb h
      refine xt_pure rfl rfl rfl rfl ?_
      refine xt_pure rfl rfl rfl rfl ?_
      obtain ⟨x31, S32, hc33, h⟩ := zbi h
      refine zt_Vi rfl rfl rfl rfl (xmC 176 rfl) ⟨rfl, rfl, yle rfl, yle rfl⟩ (m := 3) rfl ⟨by omega, by omega⟩ (trS_isWord hG0 hG (List.mem_cons_of_mem _ (List.mem_of_getElem? (i := 22) rfl)) (List.mem_cons_of_mem _ (List.mem_of_getElem? (i := 23) rfl)) (List.mem_cons_of_mem _ (List.mem_of_getElem? (i := 24) rfl)) (by omega) (by omega) hc33) (fr1 := fr - 1) (lo1 := lo - 22) ?_
      refine xt_if rfl rfl (fun hb => ?_) (fun hb => ?_)
      · replace h := zif_t (p := x31 ≠ (0 : Int32)) hb h
        refine xt_pure rfl rfl rfl rfl ?_
        refine xt_pure rfl rfl rfl rfl ?_
        obtain ⟨_, S35, hc36, h⟩ := zbi h
        refine zt_Vv rfl rfl rfl rfl (xmC 176 rfl) ⟨rfl, rfl, yle rfl, yle rfl⟩ (m := 5) rfl ⟨by omega, by omega⟩ (trQ_part hG0 hG hrc222 (by omega) (by omega) (by omega) (by omega) hc36) (fr1 := fr - 1) (lo1 := lo - 24) ?_
        refine xt_pure rfl rfl rfl rfl ?_
        exact trQ_parts_0 hG0 hG hrc222 hf0 hl0 hf hl h
      · replace h := zif_f (p := x31 ≠ (0 : Int32)) hb h
        refine xt_pure rfl rfl rfl rfl ?_
        obtain ⟨x37, S38, hc39, h⟩ := zbi h
        refine zt_Vi rfl rfl rfl rfl (xmC 176 rfl) ⟨rfl, rfl, yle rfl, yle rfl⟩ (m := 1) rfl ⟨by omega, by omega⟩ (trQ_isKind hG0 hG (by omega) (by omega) hc39) (fr1 := fr - 1) (lo1 := lo - 20) ?_
        refine xt_if rfl rfl (fun hb => ?_) (fun hb => ?_)
        · replace h := zif_t (p := x37 = (0 : Int32)) hb h
          cases h
          exact xt_vret rfl rfl rfl ⟨rfl, rfl⟩
        · replace h := zif_f (p := x37 = (0 : Int32)) hb h
          refine xt_pure rfl rfl rfl rfl ?_
          refine xt_pure rfl rfl rfl rfl ?_
          obtain ⟨_, S41, hc42, h⟩ := zbi h
          refine zt_Vv rfl rfl rfl rfl (xmC 176 rfl) ⟨rfl, rfl, yle rfl, yle rfl⟩ (m := 5) rfl ⟨by omega, by omega⟩ (trQ_part hG0 hG hrc222 (by omega) (by omega) (by omega) (by omega) hc42) (fr1 := fr - 1) (lo1 := lo - 24) ?_
          refine xt_pure rfl rfl rfl rfl ?_
          exact trQ_parts_0 hG0 hG hrc222 hf0 hl0 hf hl h
def rQ_pfix (N : Nat) : Nat → (Int32 → zS → Option (Unit × zS))
  | 0 => fun _ _ => none
  | n + 1 => fun y0 S => rQ_parts (rQ_pfix N n) N y0 S
theorem trQ_pfix {X : List Int32} {D0 : List xE} {a : Nat} {p : Nat → Nat} (hG0 : ((209, .inl (14, 9, .ref a)) : xE) ∈ D0) (hG : ∀ e ∈ zgQ a p, e ∈ D0) {N : Nat} : ∀ {n fr lo : Nat}, 12 + 5 * (N / 16) + 2 * n ≤ fr → 321 + 113 * (N / 16) + 45 * n ≤ lo → (∀ {b0 : Int32} {S S2 : zS} {r : Unit}, rQ_pfix N n b0 S = some (r, S2) → yK X fr lo 222 [.ref 209, .int b0] (zD zTQ (zaQ a p) S D0) 0 0 (zQv zTQ (zaQ a p) D0 r S2)) := by
  intro n
  induction n with
  | zero =>
    intro fr lo hf hl
    exact fun h => absurd h (by intro h; cases h)
  | succ n ih =>
    intro fr lo hf hl
    exact fun h => trQ_parts hG0 hG (fun h => (ih (fr := fr - 2) (lo := lo - 45) (by omega) (by omega)) h) (by omega) (by omega) (by omega) (by omega) h
def rQ_rule_89  (N : Nat)   (S : zS) : Option (Unit × zS) := (zb (rQ_number N 0 999999 S) fun x7 S8 => (zb ((rQ_fix N (N / 16)).1  S8) fun x10 S11 => (zb (rQ_sign N 59 S11) fun _ S14 => (zb (rQ_good N  S14) fun x16 S17 => (if x16 = (0 : Int32) then some ((), S17) else (if zok (zA S17 27) (zI S17 26) then (if zok (zA S17 28) (zI S17 26) then some ((), (zsI (zsA (zsA S17 27 (zs (zA S17 27) (zI S17 26) x7)) 28 (zs (zA S17 28) (zI S17 26) x10)) 26 ((zI S17 26) + 1))) else none) else none))))))
theorem trQ_rule_89 {X : List Int32} {D0 : List xE} {a : Nat} {p : Nat → Nat} (hG0 : ((209, .inl (14, 9, .ref a)) : xE) ∈ D0) (hG : ∀ e ∈ zgQ a p, e ∈ D0)  {N fr lo : Nat}   (hf : 10 + 5 * (N / 16) ≤ fr) (hl : 275 + 113 * (N / 16) ≤ lo)   {S S2 : zS} {r : Unit}  (h : rQ_rule_89 N  S = some (r, S2)) : yT X fr lo 247 89 [some (.ref 209), none, none, none] [] (zD zTQ (zaQ a p) S D0) 0 0 (zQv zTQ (zaQ a p) D0 r S2) := by
  unfold rQ_rule_89 at h
  refine xt_pure rfl rfl rfl rfl ?_
  refine xt_pure rfl rfl rfl (st1 := .int 0 :: _) rfl ?_
  refine xt_pure rfl rfl rfl (st1 := .int 999999 :: _) rfl ?_
  obtain ⟨x7, S8, hc9, h⟩ := zbi h
  refine zt_Vi rfl rfl rfl rfl (xmC 176 rfl) ⟨rfl, rfl, yle rfl, yle rfl⟩ (m := 4) rfl ⟨by omega, by omega⟩ (trQ_number hG0 hG (by omega) (by omega) hc9) (fr1 := fr - 1) (lo1 := lo - 23) ?_
  refine xt_pure rfl rfl rfl (L1 := [_, _, _, _]) rfl ?_
  refine xt_pure rfl rfl rfl rfl ?_
  obtain ⟨x10, S11, hc12, h⟩ := zbi h
  refine zt_Vi rfl rfl rfl rfl (xmC 176 rfl) ⟨rfl, rfl, yle rfl, yle rfl⟩ (m := 3) rfl ⟨by omega, by omega⟩ ((trQ_fix hG0 hG (by omega) (by omega)).1 hc12) (fr1 := fr - 1) (lo1 := lo - 22) ?_
  refine xt_pure rfl rfl rfl (L1 := [_, _, _, _]) rfl ?_
  refine xt_pure rfl rfl rfl rfl ?_
  refine xt_pure rfl rfl rfl (st1 := .int 59 :: _) rfl ?_
  obtain ⟨_, S14, hc15, h⟩ := zbi h
  refine zt_Vv rfl rfl rfl rfl (xmC 176 rfl) ⟨rfl, rfl, yle rfl, yle rfl⟩ (m := 2) rfl ⟨by omega, by omega⟩ (trQ_sign hG0 hG (by omega) (by omega) hc15) (fr1 := fr - 1) (lo1 := lo - 21) ?_
  refine xt_pure rfl rfl rfl rfl ?_
  obtain ⟨x16, S17, hc18, h⟩ := zbi h
  refine zt_Vi rfl rfl rfl rfl (xmC 176 rfl) ⟨rfl, rfl, yle rfl, yle rfl⟩ (m := 1) rfl ⟨by omega, by omega⟩ (trQ_good hG0 hG (by omega) (by omega) hc18) (fr1 := fr - 1) (lo1 := lo - 20) ?_
  refine xt_if rfl rfl (fun hb => ?_) (fun hb => ?_)
  · replace h := zif_t (p := x16 = (0 : Int32)) hb h
    cases h
    exact xt_vret rfl rfl rfl ⟨rfl, rfl⟩
  · replace h := zif_f (p := x16 = (0 : Int32)) hb h
    refine xt_pure rfl rfl rfl rfl ?_
    refine xt_getf rfl rfl (zmr hG0) ?_
    refine xt_getf rfl rfl (zmr (ymm hG 10 rfl)) ?_
    refine xt_pure rfl rfl rfl rfl ?_
    refine xt_getf rfl rfl (zmr hG0) ?_
    refine zt_gI 26 rfl rfl rfl rfl (x := (zI S17 26)) rfl ?_
    refine xt_pure rfl rfl rfl rfl ?_
    obtain ⟨hg, h⟩ := zgd h
    refine zt_ist 27 rfl rfl rfl rfl (l := (zA S17 27)) rfl hg ?_
    refine xt_pure rfl rfl rfl rfl ?_
    refine xt_getf rfl rfl (zmr hG0) ?_
    refine xt_getf rfl rfl (zmr (ymm hG 11 rfl)) ?_
    refine xt_pure rfl rfl rfl rfl ?_
    refine xt_getf rfl rfl (zmr hG0) ?_
    refine zt_gI 26 rfl rfl rfl rfl (x := (zI S17 26)) rfl ?_
    refine xt_pure rfl rfl rfl rfl ?_
    obtain ⟨hg, h⟩ := zgd h
    refine zt_ist 28 rfl rfl rfl rfl (l := (zA S17 28)) rfl hg ?_
    refine xt_pure rfl rfl rfl rfl ?_
    refine xt_getf rfl rfl (zmr hG0) ?_
    refine xt_pure rfl rfl rfl rfl ?_
    refine zt_gI 26 rfl rfl rfl rfl (x := (zI S17 26)) rfl ?_
    refine xt_pure rfl rfl rfl (st1 := .int 1 :: _) rfl ?_
    refine xt_pure rfl rfl rfl rfl ?_
    refine zt_pI 26 rfl rfl rfl rfl rfl rfl ?_
    cases h
    exact xt_vret rfl rfl rfl ⟨rfl, rfl⟩
def rQ_rule_44  (N : Nat)  (l1 : Int64) (S : zS) : Option (Unit × zS) := (zb (rQ_sign N 61 S) fun _ S38 => (zb ((rQ_fix N (N / 16)).1  S38) fun x40 S41 => (zb (rQ_sign N 59 S41) fun _ S44 => (zb (rQ_good N  S44) fun x46 S47 => (if x46 = (0 : Int32) then some ((), S47) else (if zok (zB S47 24) (zI S47 23) then (if zok (zA S47 25) (zI S47 23) then some ((), (zsI (zsA (zsB S47 24 (zs (zB S47 24) (zI S47 23) l1)) 25 (zs (zA S47 25) (zI S47 23) x40)) 23 ((zI S47 23) + 1))) else none) else none))))))
theorem trQ_rule_44 {X : List Int32} {D0 : List xE} {a : Nat} {p : Nat → Nat} (hG0 : ((209, .inl (14, 9, .ref a)) : xE) ∈ D0) (hG : ∀ e ∈ zgQ a p, e ∈ D0)  {N fr lo : Nat}   (hf : 10 + 5 * (N / 16) ≤ fr) (hl : 275 + 113 * (N / 16) ≤ lo) {l1 : Int64}  {S S2 : zS} {r : Unit}  (h : rQ_rule_44 N l1 S = some (r, S2)) : yT X fr lo 247 44 [some (.ref 209), some (.long l1), none, none] [] (zD zTQ (zaQ a p) S D0) 0 0 (zQv zTQ (zaQ a p) D0 r S2) := by
  unfold rQ_rule_44 at h
  refine xt_pure rfl rfl rfl rfl ?_
  refine xt_pure rfl rfl rfl (st1 := .int 61 :: _) rfl ?_
  obtain ⟨_, S38, hc39, h⟩ := zbi h
  refine zt_Vv rfl rfl rfl rfl (xmC 176 rfl) ⟨rfl, rfl, yle rfl, yle rfl⟩ (m := 2) rfl ⟨by omega, by omega⟩ (trQ_sign hG0 hG (by omega) (by omega) hc39) (fr1 := fr - 1) (lo1 := lo - 21) ?_
  refine xt_pure rfl rfl rfl rfl ?_
  obtain ⟨x40, S41, hc42, h⟩ := zbi h
  refine zt_Vi rfl rfl rfl rfl (xmC 176 rfl) ⟨rfl, rfl, yle rfl, yle rfl⟩ (m := 3) rfl ⟨by omega, by omega⟩ ((trQ_fix hG0 hG (by omega) (by omega)).1 hc42) (fr1 := fr - 1) (lo1 := lo - 22) ?_
  refine xt_pure rfl rfl rfl (L1 := [_, _, _, _]) rfl ?_
  refine xt_pure rfl rfl rfl rfl ?_
  refine xt_pure rfl rfl rfl (st1 := .int 59 :: _) rfl ?_
  obtain ⟨_, S44, hc45, h⟩ := zbi h
  refine zt_Vv rfl rfl rfl rfl (xmC 176 rfl) ⟨rfl, rfl, yle rfl, yle rfl⟩ (m := 2) rfl ⟨by omega, by omega⟩ (trQ_sign hG0 hG (by omega) (by omega) hc45) (fr1 := fr - 1) (lo1 := lo - 21) ?_
  refine xt_pure rfl rfl rfl rfl ?_
  obtain ⟨x46, S47, hc48, h⟩ := zbi h
  refine zt_Vi rfl rfl rfl rfl (xmC 176 rfl) ⟨rfl, rfl, yle rfl, yle rfl⟩ (m := 1) rfl ⟨by omega, by omega⟩ (trQ_good hG0 hG (by omega) (by omega) hc48) (fr1 := fr - 1) (lo1 := lo - 20) ?_
  refine xt_if rfl rfl (fun hb => ?_) (fun hb => ?_)
  · replace h := zif_t (p := x46 = (0 : Int32)) hb h
    cases h
    exact xt_vret rfl rfl rfl ⟨rfl, rfl⟩
  · replace h := zif_f (p := x46 = (0 : Int32)) hb h
    refine xt_pure rfl rfl rfl rfl ?_
    refine xt_getf rfl rfl (zmr hG0) ?_
    refine xt_getf rfl rfl (zmr (ymm hG 8 rfl)) ?_
    refine xt_pure rfl rfl rfl rfl ?_
    refine xt_getf rfl rfl (zmr hG0) ?_
    refine zt_gI 23 rfl rfl rfl rfl (x := (zI S47 23)) rfl ?_
    refine xt_pure rfl rfl rfl rfl ?_
    obtain ⟨hg, h⟩ := zgd h
    refine zt_lst 24 rfl rfl rfl rfl (l := (zB S47 24)) rfl hg ?_
    refine xt_pure rfl rfl rfl rfl ?_
    refine xt_getf rfl rfl (zmr hG0) ?_
    refine xt_getf rfl rfl (zmr (ymm hG 9 rfl)) ?_
    refine xt_pure rfl rfl rfl rfl ?_
    refine xt_getf rfl rfl (zmr hG0) ?_
    refine zt_gI 23 rfl rfl rfl rfl (x := (zI S47 23)) rfl ?_
    refine xt_pure rfl rfl rfl rfl ?_
    obtain ⟨hg, h⟩ := zgd h
    refine zt_ist 25 rfl rfl rfl rfl (l := (zA S47 25)) rfl hg ?_
    refine xt_pure rfl rfl rfl rfl ?_
    refine xt_getf rfl rfl (zmr hG0) ?_
    refine xt_pure rfl rfl rfl rfl ?_
    refine zt_gI 23 rfl rfl rfl rfl (x := (zI S47 23)) rfl ?_
    refine xt_pure rfl rfl rfl (st1 := .int 1 :: _) rfl ?_
    refine xt_pure rfl rfl rfl rfl ?_
    refine zt_pI 23 rfl rfl rfl rfl rfl rfl ?_
    cases h
    exact xt_vret rfl rfl rfl ⟨rfl, rfl⟩
def rQ_rule_31  (N : Nat)   (S : zS) : Option (Unit × zS) := (zb (rQ_good N  S) fun x31 S32 => (if x31 = (0 : Int32) then (zb (rQ_good N  S32) fun x34 S35 => (if x34 = (0 : Int32) then rQ_rule_44 N 0 S35 else (zb (rQ_next N  S35) fun _ S50 => rQ_rule_44 N 0 S50))) else (zb (rQ_name N  S32) fun x52 S53 => (zb (rQ_good N  S53) fun x55 S56 => (if x55 = (0 : Int32) then rQ_rule_44 N x52 S56 else (zb (rQ_next N  S56) fun _ S59 => rQ_rule_44 N x52 S59))))))
theorem trQ_rule_31 {X : List Int32} {D0 : List xE} {a : Nat} {p : Nat → Nat} (hG0 : ((209, .inl (14, 9, .ref a)) : xE) ∈ D0) (hG : ∀ e ∈ zgQ a p, e ∈ D0)  {N fr lo : Nat}   (hf : 10 + 5 * (N / 16) ≤ fr) (hl : 275 + 113 * (N / 16) ≤ lo)   {S S2 : zS} {r : Unit}  (h : rQ_rule_31 N  S = some (r, S2)) : yT X fr lo 247 31 [some (.ref 209), none, none, none] [] (zD zTQ (zaQ a p) S D0) 0 0 (zQv zTQ (zaQ a p) D0 r S2) := by
  unfold rQ_rule_31 at h
  refine xt_pure rfl rfl rfl rfl ?_
  obtain ⟨x31, S32, hc33, h⟩ := zbi h
  refine zt_Vi rfl rfl rfl rfl (xmC 176 rfl) ⟨rfl, rfl, yle rfl, yle rfl⟩ (m := 1) rfl ⟨by omega, by omega⟩ (trQ_good hG0 hG (by omega) (by omega) hc33) (fr1 := fr - 1) (lo1 := lo - 20) ?_
  refine xt_if rfl rfl (fun hb => ?_) (fun hb => ?_)
  · replace h := zif_t (p := x31 = (0 : Int32)) hb h
    refine xt_pure rfl rfl rfl (st1 := .long 0 :: _) rfl ?_
    refine xt_pure rfl rfl rfl (L1 := [_, _, _, _]) rfl ?_
    refine xt_pure rfl rfl rfl rfl ?_
    obtain ⟨x34, S35, hc36, h⟩ := zbi h
    refine zt_Vi rfl rfl rfl rfl (xmC 176 rfl) ⟨rfl, rfl, yle rfl, yle rfl⟩ (m := 1) rfl ⟨by omega, by omega⟩ (trQ_good hG0 hG (by omega) (by omega) hc36) (fr1 := fr - 1) (lo1 := lo - 20) ?_
    refine xt_if rfl rfl (fun hb => ?_) (fun hb => ?_)
    · replace h := zif_t (p := x34 = (0 : Int32)) hb h
      exact trQ_rule_44 hG0 hG hf hl h
    · replace h := zif_f (p := x34 = (0 : Int32)) hb h
      refine xt_pure rfl rfl rfl rfl ?_
      obtain ⟨_, S50, hc51, h⟩ := zbi h
      refine zt_Vv rfl rfl rfl rfl (xmC 176 rfl) ⟨rfl, rfl, yle rfl, yle rfl⟩ (m := 4) rfl ⟨by omega, by omega⟩ (trQ_next hG0 hG (by omega) (by omega) hc51) (fr1 := fr - 1) (lo1 := lo - 23) ?_
      exact trQ_rule_44 hG0 hG hf hl h
  · replace h := zif_f (p := x31 = (0 : Int32)) hb h
    refine xt_pure rfl rfl rfl rfl ?_
    obtain ⟨x52, S53, hc54, h⟩ := zbi h
    refine zt_Vl rfl rfl rfl rfl (xmC 176 rfl) ⟨rfl, rfl, yle rfl, yle rfl⟩ (m := 4) rfl ⟨by omega, by omega⟩ (trQ_name hG0 hG (by omega) (by omega) hc54) (fr1 := fr - 1) (lo1 := lo - 23) ?_
    refine xt_pure rfl rfl rfl rfl ?_
    refine xt_pure rfl rfl rfl (L1 := [_, _, _, _]) rfl ?_
    refine xt_pure rfl rfl rfl rfl ?_
    obtain ⟨x55, S56, hc57, h⟩ := zbi h
    refine zt_Vi rfl rfl rfl rfl (xmC 176 rfl) ⟨rfl, rfl, yle rfl, yle rfl⟩ (m := 1) rfl ⟨by omega, by omega⟩ (trQ_good hG0 hG (by omega) (by omega) hc57) (fr1 := fr - 1) (lo1 := lo - 20) ?_
    refine xt_if rfl rfl (fun hb => ?_) (fun hb => ?_)
    · replace h := zif_t (p := x55 = (0 : Int32)) hb h
      exact trQ_rule_44 hG0 hG hf hl h
    · replace h := zif_f (p := x55 = (0 : Int32)) hb h
      refine xt_pure rfl rfl rfl rfl ?_
      obtain ⟨_, S59, hc60, h⟩ := zbi h
      refine zt_Vv rfl rfl rfl rfl (xmC 176 rfl) ⟨rfl, rfl, yle rfl, yle rfl⟩ (m := 4) rfl ⟨by omega, by omega⟩ (trQ_next hG0 hG (by omega) (by omega) hc60) (fr1 := fr - 1) (lo1 := lo - 23) ?_
      exact trQ_rule_44 hG0 hG hf hl h
def rQ_rule  (N : Nat)  (S : zS) : Option (Unit × zS) := (zb (rS_isWord zs_40 N S) fun x1 S2 => (if x1 = (0 : Int32) then (zb (rQ_next N  S2) fun _ S5 => (if (zI S5 26) ≠ (12 : Int32) then rQ_rule_89 N  S5 else (zb (rQ_wrong N  S5) fun _ S20 => rQ_rule_89 N  S20))) else (zb (rQ_next N  S2) fun _ S23 => (zb (rQ_good N  S23) fun x25 S26 => (if x25 = (0 : Int32) then (zb (rQ_wrong N  S26) fun _ S29 => rQ_rule_31 N  S29) else (zb (rQ_isName N  S26) fun x61 S62 => (if x61 = (0 : Int32) then (zb (rQ_wrong N  S62) fun _ S65 => rQ_rule_31 N  S65) else (if (zI S62 23) = (12 : Int32) then (zb (rQ_wrong N  S62) fun _ S68 => rQ_rule_31 N  S68) else (zb (rQ_name N  S62) fun x70 S71 => (zb (rQ_partOf N x70 S71) fun x73 S74 => (if x73 ≠ ((-9) : Int32) then (zb (rQ_wrong N  S74) fun _ S77 => rQ_rule_31 N  S77) else (zb (rQ_name N  S74) fun x79 S80 => (zb (rQ_figureOf N x79 S80) fun x82 S83 => (if x82 = ((-9) : Int32) then rQ_rule_31 N  S83 else (zb (rQ_wrong N  S83) fun _ S86 => rQ_rule_31 N  S86)))))))))))))))
theorem trQ_rule {X : List Int32} {D0 : List xE} {a : Nat} {p : Nat → Nat} (hG0 : ((209, .inl (14, 9, .ref a)) : xE) ∈ D0) (hG : ∀ e ∈ zgQ a p, e ∈ D0)  {N fr lo : Nat} (hf : 10 + 5 * (N / 16) ≤ fr) (hl : 275 + 113 * (N / 16) ≤ lo)  {S S2 : zS} {r : Unit}  (h : rQ_rule N  S = some (r, S2)) : yK X fr lo 247 [.ref 209] (zD zTQ (zaQ a p) S D0) 0 0 (zQv zTQ (zaQ a p) D0 r S2) := by
  unfold rQ_rule at h
  refine yK.of rfl (yle rfl) (L := [_, _, _, _]) rfl ?_
  refine xt_pure rfl rfl rfl rfl ?_
  refine xt_pure rfl rfl rfl rfl ?_
  obtain ⟨x1, S2, hc3, h⟩ := zbi h
  refine zt_Vi rfl rfl rfl rfl (xmC 176 rfl) ⟨rfl, rfl, yle rfl, yle rfl⟩ (m := 3) rfl ⟨by omega, by omega⟩ (trS_isWord hG0 hG (List.mem_cons_of_mem _ (List.mem_of_getElem? (i := 58) rfl)) (List.mem_cons_of_mem _ (List.mem_of_getElem? (i := 59) rfl)) (List.mem_cons_of_mem _ (List.mem_of_getElem? (i := 60) rfl)) (by omega) (by omega) hc3) (fr1 := fr - 1) (lo1 := lo - 22) ?_
  refine xt_if rfl rfl (fun hb => ?_) (fun hb => ?_)
  · replace h := zif_t (p := x1 = (0 : Int32)) hb h
    refine xt_pure rfl rfl rfl rfl ?_
    obtain ⟨_, S5, hc6, h⟩ := zbi h
    refine zt_Vv rfl rfl rfl rfl (xmC 176 rfl) ⟨rfl, rfl, yle rfl, yle rfl⟩ (m := 4) rfl ⟨by omega, by omega⟩ (trQ_next hG0 hG (by omega) (by omega) hc6) (fr1 := fr - 1) (lo1 := lo - 23) ?_
    refine xt_pure rfl rfl rfl rfl ?_
    refine xt_getf rfl rfl (zmr hG0) ?_
    refine zt_gI 26 rfl rfl rfl rfl (x := (zI S5 26)) rfl ?_
    refine xt_pure rfl rfl rfl (st1 := .int 12 :: _) rfl ?_
    refine xt_ic rfl rfl (fun hb => ?_) (fun hb => ?_)
    · replace h := zif_t (p := (zI S5 26) ≠ (12 : Int32)) hb h
      exact trQ_rule_89 hG0 hG hf hl h
    · replace h := zif_f (p := (zI S5 26) ≠ (12 : Int32)) hb h
      refine xt_pure rfl rfl rfl rfl ?_
      obtain ⟨_, S20, hc21, h⟩ := zbi h
      refine zt_Vv rfl rfl rfl rfl (xmC 176 rfl) ⟨rfl, rfl, yle rfl, yle rfl⟩ (m := 1) rfl ⟨by omega, by omega⟩ (trQ_wrong hG0 hG (by omega) (by omega) hc21) (fr1 := fr - 1) (lo1 := lo - 20) ?_
      exact trQ_rule_89 hG0 hG hf hl h
  · replace h := zif_f (p := x1 = (0 : Int32)) hb h
    refine xt_pure rfl rfl rfl rfl ?_
    obtain ⟨_, S23, hc24, h⟩ := zbi h
    refine zt_Vv rfl rfl rfl rfl (xmC 176 rfl) ⟨rfl, rfl, yle rfl, yle rfl⟩ (m := 4) rfl ⟨by omega, by omega⟩ (trQ_next hG0 hG (by omega) (by omega) hc24) (fr1 := fr - 1) (lo1 := lo - 23) ?_
    refine xt_pure rfl rfl rfl rfl ?_
    obtain ⟨x25, S26, hc27, h⟩ := zbi h
    refine zt_Vi rfl rfl rfl rfl (xmC 176 rfl) ⟨rfl, rfl, yle rfl, yle rfl⟩ (m := 1) rfl ⟨by omega, by omega⟩ (trQ_good hG0 hG (by omega) (by omega) hc27) (fr1 := fr - 1) (lo1 := lo - 20) ?_
    refine xt_if rfl rfl (fun hb => ?_) (fun hb => ?_)
    · replace h := zif_t (p := x25 = (0 : Int32)) hb h
      refine xt_pure rfl rfl rfl rfl ?_
      obtain ⟨_, S29, hc30, h⟩ := zbi h
      refine zt_Vv rfl rfl rfl rfl (xmC 176 rfl) ⟨rfl, rfl, yle rfl, yle rfl⟩ (m := 1) rfl ⟨by omega, by omega⟩ (trQ_wrong hG0 hG (by omega) (by omega) hc30) (fr1 := fr - 1) (lo1 := lo - 20) ?_
      exact trQ_rule_31 hG0 hG hf hl h
    · replace h := zif_f (p := x25 = (0 : Int32)) hb h
      refine xt_pure rfl rfl rfl rfl ?_
      obtain ⟨x61, S62, hc63, h⟩ := zbi h
      refine zt_Vi rfl rfl rfl rfl (xmC 176 rfl) ⟨rfl, rfl, yle rfl, yle rfl⟩ (m := 2) rfl ⟨by omega, by omega⟩ (trQ_isName hG0 hG (by omega) (by omega) hc63) (fr1 := fr - 1) (lo1 := lo - 21) ?_
      refine xt_if rfl rfl (fun hb => ?_) (fun hb => ?_)
      · replace h := zif_t (p := x61 = (0 : Int32)) hb h
        refine xt_pure rfl rfl rfl rfl ?_
        obtain ⟨_, S65, hc66, h⟩ := zbi h
        refine zt_Vv rfl rfl rfl rfl (xmC 176 rfl) ⟨rfl, rfl, yle rfl, yle rfl⟩ (m := 1) rfl ⟨by omega, by omega⟩ (trQ_wrong hG0 hG (by omega) (by omega) hc66) (fr1 := fr - 1) (lo1 := lo - 20) ?_
        exact trQ_rule_31 hG0 hG hf hl h
      · replace h := zif_f (p := x61 = (0 : Int32)) hb h
        refine xt_pure rfl rfl rfl rfl ?_
        refine xt_getf rfl rfl (zmr hG0) ?_
        refine zt_gI 23 rfl rfl rfl rfl (x := (zI S62 23)) rfl ?_
        refine xt_pure rfl rfl rfl (st1 := .int 12 :: _) rfl ?_
        refine xt_ic rfl rfl (fun hb => ?_) (fun hb => ?_)
        · replace h := zif_t (p := (zI S62 23) = (12 : Int32)) hb h
          refine xt_pure rfl rfl rfl rfl ?_
          obtain ⟨_, S68, hc69, h⟩ := zbi h
          refine zt_Vv rfl rfl rfl rfl (xmC 176 rfl) ⟨rfl, rfl, yle rfl, yle rfl⟩ (m := 1) rfl ⟨by omega, by omega⟩ (trQ_wrong hG0 hG (by omega) (by omega) hc69) (fr1 := fr - 1) (lo1 := lo - 20) ?_
          exact trQ_rule_31 hG0 hG hf hl h
        · replace h := zif_f (p := (zI S62 23) = (12 : Int32)) hb h
          refine xt_pure rfl rfl rfl rfl ?_
          refine xt_pure rfl rfl rfl rfl ?_
          obtain ⟨x70, S71, hc72, h⟩ := zbi h
          refine zt_Vl rfl rfl rfl rfl (xmC 176 rfl) ⟨rfl, rfl, yle rfl, yle rfl⟩ (m := 4) rfl ⟨by omega, by omega⟩ (trQ_name hG0 hG (by omega) (by omega) hc72) (fr1 := fr - 1) (lo1 := lo - 23) ?_
          obtain ⟨x73, S74, hc75, h⟩ := zbi h
          refine zt_Vi rfl rfl rfl rfl (xmC 176 rfl) ⟨rfl, rfl, yle rfl, yle rfl⟩ (m := 4) rfl ⟨by omega, by omega⟩ (trQ_partOf hG0 hG (by omega) (by omega) hc75) (fr1 := fr - 1) (lo1 := lo - 23) ?_
          refine xt_pure rfl rfl rfl (st1 := .int (-9) :: _) rfl ?_
          refine xt_ic rfl rfl (fun hb => ?_) (fun hb => ?_)
          · replace h := zif_t (p := x73 ≠ ((-9) : Int32)) hb h
            refine xt_pure rfl rfl rfl rfl ?_
            obtain ⟨_, S77, hc78, h⟩ := zbi h
            refine zt_Vv rfl rfl rfl rfl (xmC 176 rfl) ⟨rfl, rfl, yle rfl, yle rfl⟩ (m := 1) rfl ⟨by omega, by omega⟩ (trQ_wrong hG0 hG (by omega) (by omega) hc78) (fr1 := fr - 1) (lo1 := lo - 20) ?_
            exact trQ_rule_31 hG0 hG hf hl h
          · replace h := zif_f (p := x73 ≠ ((-9) : Int32)) hb h
            refine xt_pure rfl rfl rfl rfl ?_
            refine xt_pure rfl rfl rfl rfl ?_
            obtain ⟨x79, S80, hc81, h⟩ := zbi h
            refine zt_Vl rfl rfl rfl rfl (xmC 176 rfl) ⟨rfl, rfl, yle rfl, yle rfl⟩ (m := 4) rfl ⟨by omega, by omega⟩ (trQ_name hG0 hG (by omega) (by omega) hc81) (fr1 := fr - 1) (lo1 := lo - 23) ?_
            obtain ⟨x82, S83, hc84, h⟩ := zbi h
            refine zt_Vi rfl rfl rfl rfl (xmC 176 rfl) ⟨rfl, rfl, yle rfl, yle rfl⟩ (m := 4) rfl ⟨by omega, by omega⟩ (trQ_figureOf hG0 hG (by omega) (by omega) hc84) (fr1 := fr - 1) (lo1 := lo - 23) ?_
            refine xt_pure rfl rfl rfl (st1 := .int (-9) :: _) rfl ?_
            refine xt_ic rfl rfl (fun hb => ?_) (fun hb => ?_)
            · replace h := zif_t (p := x82 = ((-9) : Int32)) hb h
              exact trQ_rule_31 hG0 hG hf hl h
            · replace h := zif_f (p := x82 = ((-9) : Int32)) hb h
              refine xt_pure rfl rfl rfl rfl ?_
              obtain ⟨_, S86, hc87, h⟩ := zbi h
              refine zt_Vv rfl rfl rfl rfl (xmC 176 rfl) ⟨rfl, rfl, yle rfl, yle rfl⟩ (m := 1) rfl ⟨by omega, by omega⟩ (trQ_wrong hG0 hG (by omega) (by omega) hc87) (fr1 := fr - 1) (lo1 := lo - 20) ?_
              exact trQ_rule_31 hG0 hG hf hl h
def rQ_settle_64  (N : Nat) (k2 : Int32 → zS → Option (Unit × zS)) (l1 : Int32) (S : zS) : Option (Unit × zS) := (if (zI S 8).toInt < 0 then (zg (gI (zA S 11) l1) fun x10 => k2 (l1 + 1) (zsI S 8 x10)) else (zg (gI (zA S 11) l1) fun x11 => (if (zI S 8).toInt ≤ x11.toInt then k2 (l1 + 1) (zsI S 8 (zI S 8)) else (zg (gI (zA S 11) l1) fun x12 => k2 (l1 + 1) (zsI S 8 x12)))))
theorem trQ_settle_64 {X : List Int32} {D0 : List xE} {a : Nat} {p : Nat → Nat} (hG0 : ((209, .inl (14, 9, .ref a)) : xE) ∈ D0) (hG : ∀ e ∈ zgQ a p, e ∈ D0)  {N fr lo : Nat} {k2 : Int32 → zS → Option (Unit × zS)} (hk2 : ∀ {l1 : Int32} {u2 : Option Value} {u3 : Option Value} {u4 : Option Value} {S S2 : zS} {r : Unit} , k2 l1 S = some (r, S2) → yT X fr lo 248 2 [some (.ref 209), some (.int l1), u2, u3, u4] [] (zD zTQ (zaQ a p) S D0) 0 0 (zQv zTQ (zaQ a p) D0 r S2)) (hf : 1 ≤ fr) (hl : 23 ≤ lo) {l1 : Int32} {d2 : Int32} {d3 : Int32} {d4 : Int32} {S S2 : zS} {r : Unit}  (h : rQ_settle_64 N k2 l1 S = some (r, S2)) : yT X fr lo 248 64 [some (.ref 209), some (.int l1), some (.int d2), some (.int d3), some (.int d4)] [] (zD zTQ (zaQ a p) S D0) 0 0 (zQv zTQ (zaQ a p) D0 r S2) := by
  unfold rQ_settle_64 at h
  refine xt_pure rfl rfl rfl rfl ?_
  refine xt_pure rfl rfl rfl rfl ?_
  refine zt_gI 8 rfl rfl rfl rfl (x := (zI S 8)) rfl ?_
  refine xt_if rfl rfl (fun hb => ?_) (fun hb => ?_)
  · replace h := zif_t (p := (zI S 8).toInt < 0) hb h
    refine xt_pure rfl rfl rfl rfl ?_
    refine xt_getf rfl rfl (xmC 180 rfl) ?_
    refine xt_pure rfl rfl rfl rfl ?_
    obtain ⟨x10, hx10, h⟩ := zgi h
    refine zr_ild (l := (zA S 11)) rfl rfl (zmA 11 rfl rfl (l := (zA S 11)) rfl) hx10 ?_
    refine xt_pure rfl rfl rfl rfl ?_
    refine zt_pI 8 rfl rfl rfl rfl rfl rfl ?_
    refine xt_pure rfl rfl rfl (L1 := [_, some (.int (_ + 1)), _, _, _]) rfl ?_
    refine xt_pure rfl rfl rfl rfl ?_
    exact hk2 h
  · replace h := zif_f (p := (zI S 8).toInt < 0) hb h
    refine xt_pure rfl rfl rfl rfl ?_
    refine xt_getf rfl rfl (xmC 180 rfl) ?_
    refine xt_pure rfl rfl rfl rfl ?_
    obtain ⟨x11, hx11, h⟩ := zgi h
    refine zr_ild (l := (zA S 11)) rfl rfl (zmA 11 rfl rfl (l := (zA S 11)) rfl) hx11 ?_
    refine xt_pure rfl rfl rfl rfl ?_
    refine zt_gI 8 rfl rfl rfl rfl (x := (zI S 8)) rfl ?_
    refine xt_ic rfl rfl (fun hb => ?_) (fun hb => ?_)
    · replace h := zif_t (p := (zI S 8).toInt ≤ x11.toInt) hb h
      refine xt_pure rfl rfl rfl rfl ?_
      refine zt_gI 8 rfl rfl rfl rfl (x := (zI S 8)) rfl ?_
      refine zt_pI 8 rfl rfl rfl rfl rfl rfl ?_
      refine xt_pure rfl rfl rfl (L1 := [_, some (.int (_ + 1)), _, _, _]) rfl ?_
      refine xt_pure rfl rfl rfl rfl ?_
      exact hk2 h
    · replace h := zif_f (p := (zI S 8).toInt ≤ x11.toInt) hb h
      refine xt_pure rfl rfl rfl rfl ?_
      refine xt_getf rfl rfl (xmC 180 rfl) ?_
      refine xt_pure rfl rfl rfl rfl ?_
      obtain ⟨x12, hx12, h⟩ := zgi h
      refine zr_ild (l := (zA S 11)) rfl rfl (zmA 11 rfl rfl (l := (zA S 11)) rfl) hx12 ?_
      refine xt_pure rfl rfl rfl rfl ?_
      refine zt_pI 8 rfl rfl rfl rfl rfl rfl ?_
      refine xt_pure rfl rfl rfl (L1 := [_, some (.int (_ + 1)), _, _, _]) rfl ?_
      refine xt_pure rfl rfl rfl rfl ?_
      exact hk2 h
def rQ_settle_47  (N : Nat) (k2 : Int32 → zS → Option (Unit × zS)) (l1 : Int32) (l2 : Int32) (l4 : Int32) (S : zS) : Option (Unit × zS) := (if l2 = ((-9) : Int32) then rQ_settle_64 N k2 l1 S else (zg (gI (zA S 16) l2) fun x13 => (if x13 = (11 : Int32) then rQ_settle_64 N k2 l1 S else (if zok (zA S 35) l4 then k2 (l1 + 1) (zsA S 35 (zs (zA S 35) l4 l2)) else none))))
theorem trQ_settle_47 {X : List Int32} {D0 : List xE} {a : Nat} {p : Nat → Nat} (hG0 : ((209, .inl (14, 9, .ref a)) : xE) ∈ D0) (hG : ∀ e ∈ zgQ a p, e ∈ D0)  {N fr lo : Nat} {k2 : Int32 → zS → Option (Unit × zS)} (hk2 : ∀ {l1 : Int32} {u2 : Option Value} {u3 : Option Value} {u4 : Option Value} {S S2 : zS} {r : Unit} , k2 l1 S = some (r, S2) → yT X fr lo 248 2 [some (.ref 209), some (.int l1), u2, u3, u4] [] (zD zTQ (zaQ a p) S D0) 0 0 (zQv zTQ (zaQ a p) D0 r S2)) (hf : 1 ≤ fr) (hl : 23 ≤ lo) {l1 : Int32} {l2 : Int32} {l4 : Int32} {d3 : Int32} {S S2 : zS} {r : Unit}  (h : rQ_settle_47 N k2 l1 l2 l4 S = some (r, S2)) : yT X fr lo 248 47 [some (.ref 209), some (.int l1), some (.int l2), some (.int d3), some (.int l4)] [] (zD zTQ (zaQ a p) S D0) 0 0 (zQv zTQ (zaQ a p) D0 r S2) := by
  unfold rQ_settle_47 at h
  refine xt_pure rfl rfl rfl rfl ?_
  refine xt_pure rfl rfl rfl (st1 := .int (-9) :: _) rfl ?_
  refine xt_ic rfl rfl (fun hb => ?_) (fun hb => ?_)
  · replace h := zif_t (p := l2 = ((-9) : Int32)) hb h
    exact trQ_settle_64 hG0 hG hk2 hf hl h
  · replace h := zif_f (p := l2 = ((-9) : Int32)) hb h
    refine xt_pure rfl rfl rfl rfl ?_
    refine xt_getf rfl rfl (zmr hG0) ?_
    refine xt_getf rfl rfl (zmr (ymm hG 1 rfl)) ?_
    refine xt_pure rfl rfl rfl rfl ?_
    obtain ⟨x13, hx13, h⟩ := zgi h
    refine zr_ild (l := (zA S 16)) rfl rfl (zmA 16 rfl rfl (l := (zA S 16)) rfl) hx13 ?_
    refine xt_pure rfl rfl rfl (st1 := .int 11 :: _) rfl ?_
    refine xt_ic rfl rfl (fun hb => ?_) (fun hb => ?_)
    · replace h := zif_t (p := x13 = (11 : Int32)) hb h
      exact trQ_settle_64 hG0 hG hk2 hf hl h
    · replace h := zif_f (p := x13 = (11 : Int32)) hb h
      refine xt_pure rfl rfl rfl rfl ?_
      refine xt_getf rfl rfl (zmr hG0) ?_
      refine xt_getf rfl rfl (zmr (ymm hG 14 rfl)) ?_
      refine xt_pure rfl rfl rfl rfl ?_
      refine xt_pure rfl rfl rfl rfl ?_
      obtain ⟨hg, h⟩ := zgd h
      refine zt_ist 35 rfl rfl rfl rfl (l := (zA S 35)) rfl hg ?_
      refine xt_pure rfl rfl rfl rfl ?_
      refine xt_pure rfl rfl rfl (L1 := [_, some (.int (_ + 1)), _, _, _]) rfl ?_
      refine xt_pure rfl rfl rfl rfl ?_
      exact hk2 h
def rQ_settle_2  (N : Nat)  : Nat → Int32 → zS → Option (Unit × zS)
  | 0, _, _ => none
  | n + 1, l1, S => (if (zI S 9).toInt ≤ l1.toInt then some ((), S) else (zg (gI (zB S 10) l1) fun x1 => (zb (rQ_partOf N x1 S) fun x2 S3 => (zg (gI (zB S3 10) l1) fun x5 => (zb (rQ_figureOf N x5 S3) fun x6 S7 => (zg (gI (zA S7 12) l1) fun x9 => (if x6 = ((-9) : Int32) then rQ_settle_47 N (rQ_settle_2 N n) l1 x2 x9 S7 else (zg (gI (zA S7 13) l1) fun x14 => (if x14.toInt ≤ x6.toInt then rQ_settle_47 N (rQ_settle_2 N n) l1 x2 x9 S7 else (if zok (zA S7 33) x9 then (if zok (zA S7 35) x9 then (rQ_settle_2 N n) (l1 + 1) (zsA (zsA S7 33 (zs (zA S7 33) x9 2)) 35 (zs (zA S7 35) x9 x6)) else none) else none))))))))))
theorem trQ_settle_2 {X : List Int32} {D0 : List xE} {a : Nat} {p : Nat → Nat} (hG0 : ((209, .inl (14, 9, .ref a)) : xE) ∈ D0) (hG : ∀ e ∈ zgQ a p, e ∈ D0)  {N fr lo : Nat}   (hf : 1 ≤ fr) (hl : 23 ≤ lo)  : ∀ {n : Nat} {l1 : Int32} {u2 : Option Value} {u3 : Option Value} {u4 : Option Value} {S S2 : zS} {r : Unit} , rQ_settle_2 N n l1 S = some (r, S2) → yT X fr lo 248 2 [some (.ref 209), some (.int l1), u2, u3, u4] [] (zD zTQ (zaQ a p) S D0) 0 0 (zQv zTQ (zaQ a p) D0 r S2) := by
  intro n
  induction n with
  | zero =>
    intro l1 u2 u3 u4 S S2 r  h
    have h : (none : Option (Unit × zS)) = some (r, S2) := h
    cases h
  | succ n ih =>
    intro l1 u2 u3 u4 S S2 r  h
    rw [rQ_settle_2] at h
    refine xt_pure rfl rfl rfl rfl ?_
    refine xt_pure rfl rfl rfl rfl ?_
    refine zt_gI 9 rfl rfl rfl rfl (x := (zI S 9)) rfl ?_
    refine xt_ic rfl rfl (fun hb => ?_) (fun hb => ?_)
    · replace h := zif_t (p := (zI S 9).toInt ≤ l1.toInt) hb h
      cases h
      exact xt_vret rfl rfl rfl ⟨rfl, rfl⟩
    · replace h := zif_f (p := (zI S 9).toInt ≤ l1.toInt) hb h
      refine xt_pure rfl rfl rfl rfl ?_
      refine xt_pure rfl rfl rfl rfl ?_
      refine xt_getf rfl rfl (xmC 179 rfl) ?_
      refine xt_pure rfl rfl rfl rfl ?_
      obtain ⟨x1, hx1, h⟩ := zgi h
      refine zr_lld (l := (zB S 10)) rfl rfl (zmB 10 rfl rfl (l := (zB S 10)) rfl) hx1 ?_
      obtain ⟨x2, S3, hc4, h⟩ := zbi h
      refine zt_Vi rfl rfl rfl rfl (xmC 176 rfl) ⟨rfl, rfl, yle rfl, yle rfl⟩ (m := 4) rfl ⟨by omega, by omega⟩ (trQ_partOf hG0 hG (by omega) (by omega) hc4) (fr1 := fr - 1) (lo1 := lo - 23) ?_
      refine xt_pure rfl rfl rfl (L1 := [_, _, _, _, _]) rfl ?_
      refine xt_pure rfl rfl rfl rfl ?_
      refine xt_pure rfl rfl rfl rfl ?_
      refine xt_getf rfl rfl (xmC 179 rfl) ?_
      refine xt_pure rfl rfl rfl rfl ?_
      obtain ⟨x5, hx5, h⟩ := zgi h
      refine zr_lld (l := (zB S3 10)) rfl rfl (zmB 10 rfl rfl (l := (zB S3 10)) rfl) hx5 ?_
      obtain ⟨x6, S7, hc8, h⟩ := zbi h
      refine zt_Vi rfl rfl rfl rfl (xmC 176 rfl) ⟨rfl, rfl, yle rfl, yle rfl⟩ (m := 4) rfl ⟨by omega, by omega⟩ (trQ_figureOf hG0 hG (by omega) (by omega) hc8) (fr1 := fr - 1) (lo1 := lo - 23) ?_
      refine xt_pure rfl rfl rfl (L1 := [_, _, _, _, _]) rfl ?_
      refine xt_pure rfl rfl rfl rfl ?_
      refine xt_getf rfl rfl (xmC 181 rfl) ?_
      refine xt_pure rfl rfl rfl rfl ?_
      obtain ⟨x9, hx9, h⟩ := zgi h
      refine zr_ild (l := (zA S7 12)) rfl rfl (zmA 12 rfl rfl (l := (zA S7 12)) rfl) hx9 ?_
      refine xt_pure rfl rfl rfl (L1 := [_, _, _, _, _]) rfl ?_
      refine xt_pure rfl rfl rfl rfl ?_
      refine xt_pure rfl rfl rfl (st1 := .int (-9) :: _) rfl ?_
      refine xt_ic rfl rfl (fun hb => ?_) (fun hb => ?_)
      · replace h := zif_t (p := x6 = ((-9) : Int32)) hb h
        exact trQ_settle_47 hG0 hG (fun h => ih h) hf hl h
      · replace h := zif_f (p := x6 = ((-9) : Int32)) hb h
        refine xt_pure rfl rfl rfl rfl ?_
        refine xt_pure rfl rfl rfl rfl ?_
        refine xt_getf rfl rfl (xmC 182 rfl) ?_
        refine xt_pure rfl rfl rfl rfl ?_
        obtain ⟨x14, hx14, h⟩ := zgi h
        refine zr_ild (l := (zA S7 13)) rfl rfl (zmA 13 rfl rfl (l := (zA S7 13)) rfl) hx14 ?_
        refine xt_ic rfl rfl (fun hb => ?_) (fun hb => ?_)
        · replace h := zif_t (p := x14.toInt ≤ x6.toInt) hb h
          exact trQ_settle_47 hG0 hG (fun h => ih h) hf hl h
        · replace h := zif_f (p := x14.toInt ≤ x6.toInt) hb h
          refine xt_pure rfl rfl rfl rfl ?_
          refine xt_getf rfl rfl (zmr hG0) ?_
          refine xt_getf rfl rfl (zmr (ymm hG 12 rfl)) ?_
          refine xt_pure rfl rfl rfl rfl ?_
          refine xt_pure rfl rfl rfl (st1 := .int 2 :: _) rfl ?_
          obtain ⟨hg, h⟩ := zgd h
          refine zt_ist 33 rfl rfl rfl rfl (l := (zA S7 33)) rfl hg ?_
          refine xt_pure rfl rfl rfl rfl ?_
          refine xt_getf rfl rfl (zmr hG0) ?_
          refine xt_getf rfl rfl (zmr (ymm hG 14 rfl)) ?_
          refine xt_pure rfl rfl rfl rfl ?_
          refine xt_pure rfl rfl rfl rfl ?_
          obtain ⟨hg, h⟩ := zgd h
          refine zt_ist 35 rfl rfl rfl rfl (l := (zA S7 35)) rfl hg ?_
          refine xt_pure rfl rfl rfl rfl ?_
          refine xt_pure rfl rfl rfl (L1 := [_, some (.int (_ + 1)), _, _, _]) rfl ?_
          refine xt_pure rfl rfl rfl rfl ?_
          exact ih h
def rQ_settle  (N : Nat)  (S : zS) : Option (Unit × zS) := rQ_settle_2 N N 0 S
theorem trQ_settle {X : List Int32} {D0 : List xE} {a : Nat} {p : Nat → Nat} (hG0 : ((209, .inl (14, 9, .ref a)) : xE) ∈ D0) (hG : ∀ e ∈ zgQ a p, e ∈ D0)  {N fr lo : Nat} (hf : 1 ≤ fr) (hl : 23 ≤ lo)  {S S2 : zS} {r : Unit}  (h : rQ_settle N  S = some (r, S2)) : yK X fr lo 248 [.ref 209] (zD zTQ (zaQ a p) S D0) 0 0 (zQv zTQ (zaQ a p) D0 r S2) := by
  unfold rQ_settle at h
  refine yK.of rfl (yle rfl) (L := [_, _, _, _, _]) rfl ?_
  refine xt_pure rfl rfl rfl (st1 := .int 0 :: _) rfl ?_
  refine xt_pure rfl rfl rfl (L1 := [_, _, _, _, _]) rfl ?_
  exact trQ_settle_2 hG0 hG hf hl h
