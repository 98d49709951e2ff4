/-! MIRRORS: the reader, parts and rules -/
def cP_readExp  (N : Nat) (v1 : Int32) (S : zS) : Option (Int32 × zS) := (zb ((cP_fix N (N / 16)).1 0 v1 S) fun _ S2 => (zb (cP_emit N 0 0 S2) fun x4 S5 => some ((zI S 32), S5)))
theorem tcP_readExp {X : List Int32} {D0 : List xE} {a : Nat} {p : Nat → Nat} (hG0 : ((85, .inl (7, 1, .ref a)) : xE) ∈ D0) (hG : ∀ e ∈ zgP a p, e ∈ D0)  {N fr lo : Nat} (hf : 6 + 4 * (N / 16) ≤ fr) (hl : 195 + 93 * (N / 16) ≤ lo) {v1 : Int32} {S S2 : zS} {r : Int32}  (h : cP_readExp N v1 S = some (r, S2)) : yK X fr lo 65 [.ref 85, .int v1] (zD zTP (zaP a p) S D0) 0 0 (zQi zTP (zaP a p) D0 r S2) := by
  unfold cP_readExp at h
  refine yK.of rfl (yle rfl) (L := [_, _, _]) rfl ?_
  refine xt_pure rfl rfl rfl rfl ?_
  refine xt_getf rfl rfl (zmr hG0) ?_
  refine zt_gI 32 rfl rfl rfl rfl (x := (zI S 32)) rfl ?_
  refine xt_pure rfl rfl rfl (L1 := [_, _, _]) rfl ?_
  refine xt_pure rfl rfl rfl rfl ?_
  refine xt_pure rfl rfl rfl (st1 := .int 0 :: _) rfl ?_
  refine xt_pure rfl rfl rfl rfl ?_
  obtain ⟨_, S2, hc3, h⟩ := zbi h
  refine zt_Vv rfl rfl rfl rfl (xmC 133 rfl) ⟨rfl, rfl, yle rfl, yle rfl⟩ (m := 7) rfl ⟨by omega, by omega⟩ ((tcP_fix hG0 hG (by omega) (by omega)).1 hc3) (fr1 := fr - 1) (lo1 := lo - 26) ?_
  refine xt_pure rfl rfl rfl rfl ?_
  refine xt_getf rfl rfl (zmr hG0) ?_
  refine xt_pure rfl rfl rfl (st1 := .int 0 :: _) rfl ?_
  refine xt_pure rfl rfl rfl (st1 := .int 0 :: _) rfl ?_
  obtain ⟨x4, S5, hc6, h⟩ := zbi h
  refine zt_Vi rfl rfl rfl rfl (zmr (ymm hG 0 rfl)) ⟨rfl, rfl, yle rfl, yle rfl⟩ (m := 4) rfl ⟨by omega, by omega⟩ (tcP_emit hG0 hG (by omega) (by omega) hc6) (fr1 := fr - 1) (lo1 := lo - 23) ?_
  refine xt_pure rfl rfl rfl rfl ?_
  refine xt_pure rfl rfl rfl rfl ?_
  cases h
  exact xt_iret rfl rfl rfl rfl ⟨rfl, rfl⟩
def cP_readWhen  (N : Nat) (v1 : Int32) (v2 : Int32) (S : zS) : Option (Unit × zS) := (zb (cP_sees N  S) fun x1 S2 => (if x1 ≠ (204 : Int32) then some ((), S2) else (zb (cP_next N  S2) fun _ S5 => (zb (cP_readExp N v2 S5) fun x7 S8 => (if zok (zA S8 21) v1 then some ((), (zsA S8 21 (zs (zA S8 21) v1 x7))) else none)))))
theorem tcP_readWhen {X : List Int32} {D0 : List xE} {a : Nat} {p : Nat → Nat} (hG0 : ((85, .inl (7, 1, .ref a)) : xE) ∈ D0) (hG : ∀ e ∈ zgP a p, e ∈ D0)  {N fr lo : Nat} (hf : 7 + 4 * (N / 16) ≤ fr) (hl : 217 + 93 * (N / 16) ≤ lo) {v1 : Int32} {v2 : Int32} {S S2 : zS} {r : Unit}  (h : cP_readWhen N v1 v2 S = some (r, S2)) : yK X fr lo 64 [.ref 85, .int v1, .int v2] (zD zTP (zaP a p) S D0) 0 0 (zQv zTP (zaP a p) D0 r S2) := by
  unfold cP_readWhen at h
  refine yK.of rfl (yle rfl) (L := [_, _, _]) rfl ?_
  refine xt_pure rfl rfl rfl rfl ?_
  obtain ⟨x1, S2, hc3, h⟩ := zbi h
  refine zt_Vi rfl rfl rfl rfl (xmC 133 rfl) ⟨rfl, rfl, yle rfl, yle rfl⟩ (m := 1) rfl ⟨by omega, by omega⟩ (tcP_sees hG0 hG (by omega) (by omega) hc3) (fr1 := fr - 1) (lo1 := lo - 20) ?_
  refine xt_pure rfl rfl rfl (st1 := .int 204 :: _) rfl ?_
  refine xt_ic rfl rfl (fun hb => ?_) (fun hb => ?_)
  · replace h := zif_t (p := x1 ≠ (204 : Int32)) hb h
    cases h
    exact xt_vret rfl rfl rfl ⟨rfl, rfl⟩
  · replace h := zif_f (p := x1 ≠ (204 : Int32)) hb h
    refine xt_pure rfl rfl rfl rfl ?_
    obtain ⟨_, S5, hc6, h⟩ := zbi h
    refine zt_Vv rfl rfl rfl rfl (xmC 133 rfl) ⟨rfl, rfl, yle rfl, yle rfl⟩ (m := 1) rfl ⟨by omega, by omega⟩ (tcP_next hG0 hG (by omega) (by omega) hc6) (fr1 := fr - 1) (lo1 := lo - 20) ?_
    refine xt_pure rfl rfl rfl rfl ?_
    refine xt_getf rfl rfl (zmr hG0) ?_
    refine xt_getf rfl rfl (zmr (ymm hG 6 rfl)) ?_
    refine xt_pure rfl rfl rfl rfl ?_
    refine xt_pure rfl rfl rfl rfl ?_
    refine xt_pure rfl rfl rfl rfl ?_
    obtain ⟨x7, S8, hc9, h⟩ := zbi h
    refine zt_Vi rfl rfl rfl rfl (xmC 133 rfl) ⟨rfl, rfl, yle rfl, yle rfl⟩ (m := 3) rfl ⟨by omega, by omega⟩ (tcP_readExp hG0 hG (by omega) (by omega) hc9) (fr1 := fr - 1) (lo1 := lo - 22) ?_
    obtain ⟨hg, h⟩ := zgd h
    refine zt_ist 21 rfl rfl rfl rfl (l := (zA S8 21)) rfl hg ?_
    cases h
    exact xt_vret rfl rfl rfl ⟨rfl, rfl⟩
def cP_readPlain_13  (N : Nat)  (l1 : Int32) (l2 : Int32) (S : zS) : Option (Int32 × zS) := (zb (cP_seesKind N  S) fun x4 S5 => (if x4 ≠ (0 : Int32) then (zb (cP_sees N  S5) fun x7 S8 => (zb (cP_next N  S8) fun _ S11 => (zb (cP_readNewPart N (x7 - 206) l1 l2 S11) fun x13 S14 => (if (zI S14 6) ≠ ((-9) : Int32) then some (x13, S14) else (zb (cP_readBounds N x13 (x7 - 206) S14) fun _ S17 => some (x13, S17)))))) else (zb (cP_refuse N  S5) fun _ S20 => some (0, S20))))
theorem tcP_readPlain_13 {X : List Int32} {D0 : List xE} {a : Nat} {p : Nat → Nat} (hG0 : ((85, .inl (7, 1, .ref a)) : xE) ∈ D0) (hG : ∀ e ∈ zgP a p, e ∈ D0)  {N fr lo : Nat}   (hf : 3 ≤ fr) (hl : 73 ≤ lo) {l1 : Int32} {l2 : Int32}  {S S2 : zS} {r : Int32}  (h : cP_readPlain_13 N l1 l2 S = some (r, S2)) : yT X fr lo 79 13 [some (.ref 85), some (.int l1), some (.int l2), none, none] [] (zD zTP (zaP a p) S D0) 0 0 (zQi zTP (zaP a p) D0 r S2) := by
  unfold cP_readPlain_13 at h
  refine xt_pure rfl rfl rfl rfl ?_
  obtain ⟨x4, S5, hc6, h⟩ := zbi h
  refine zt_Vi rfl rfl rfl rfl (xmC 133 rfl) ⟨rfl, rfl, yle rfl, yle rfl⟩ (m := 1) rfl ⟨by omega, by omega⟩ (tcP_seesKind hG0 hG (by omega) (by omega) hc6) (fr1 := fr - 1) (lo1 := lo - 20) ?_
  refine xt_if rfl rfl (fun hb => ?_) (fun hb => ?_)
  · replace h := zif_t (p := x4 ≠ (0 : Int32)) hb h
    refine xt_pure rfl rfl rfl rfl ?_
    obtain ⟨x7, S8, hc9, h⟩ := zbi h
    refine zt_Vi rfl rfl rfl rfl (xmC 133 rfl) ⟨rfl, rfl, yle rfl, yle rfl⟩ (m := 1) rfl ⟨by omega, by omega⟩ (tcP_sees hG0 hG (by omega) (by omega) hc9) (fr1 := fr - 1) (lo1 := lo - 20) ?_
    refine xt_pure rfl rfl rfl (st1 := .int 206 :: _) rfl ?_
    refine xt_pure rfl rfl rfl rfl ?_
    refine xt_pure rfl rfl rfl (L1 := [_, _, _, _, _]) rfl ?_
    refine xt_pure rfl rfl rfl rfl ?_
    obtain ⟨_, S11, hc12, h⟩ := zbi h
    refine zt_Vv rfl rfl rfl rfl (xmC 133 rfl) ⟨rfl, rfl, yle rfl, yle rfl⟩ (m := 1) rfl ⟨by omega, by omega⟩ (tcP_next hG0 hG (by omega) (by omega) hc12) (fr1 := fr - 1) (lo1 := lo - 20) ?_
    refine xt_pure rfl rfl rfl rfl ?_
    refine xt_pure rfl rfl rfl rfl ?_
    refine xt_pure rfl rfl rfl rfl ?_
    refine xt_pure rfl rfl rfl rfl ?_
    obtain ⟨x13, S14, hc15, h⟩ := zbi h
    refine zt_Vi rfl rfl rfl rfl (xmC 133 rfl) ⟨rfl, rfl, yle rfl, yle rfl⟩ (m := 7) rfl ⟨by omega, by omega⟩ (tcP_readNewPart hG0 hG (by omega) (by omega) hc15) (fr1 := fr - 1) (lo1 := lo - 26) ?_
    refine xt_pure rfl rfl rfl (L1 := [_, _, _, _, _]) rfl ?_
    refine xt_pure rfl rfl rfl rfl ?_
    refine zt_gI 6 rfl rfl rfl rfl (x := (zI S14 6)) rfl ?_
    refine xt_pure rfl rfl rfl (st1 := .int (-9) :: _) rfl ?_
    refine xt_ic rfl rfl (fun hb => ?_) (fun hb => ?_)
    · replace h := zif_t (p := (zI S14 6) ≠ ((-9) : Int32)) hb h
      refine xt_pure rfl rfl rfl rfl ?_
      cases h
      exact xt_iret rfl rfl rfl rfl ⟨rfl, rfl⟩
    · replace h := zif_f (p := (zI S14 6) ≠ ((-9) : Int32)) hb h
      refine xt_pure rfl rfl rfl rfl ?_
      refine xt_pure rfl rfl rfl rfl ?_
      refine xt_pure rfl rfl rfl rfl ?_
      obtain ⟨_, S17, hc18, h⟩ := zbi h
      refine zt_Vv rfl rfl rfl rfl (xmC 133 rfl) ⟨rfl, rfl, yle rfl, yle rfl⟩ (m := 6) rfl ⟨by omega, by omega⟩ (tcP_readBounds hG0 hG (by omega) (by omega) hc18) (fr1 := fr - 1) (lo1 := lo - 25) ?_
      refine xt_pure rfl rfl rfl rfl ?_
      cases h
      exact xt_iret rfl rfl rfl rfl ⟨rfl, rfl⟩
  · replace h := zif_f (p := x4 ≠ (0 : Int32)) hb h
    refine xt_pure rfl rfl rfl rfl ?_
    obtain ⟨_, S20, hc21, h⟩ := zbi h
    refine zt_Vv rfl rfl rfl rfl (xmC 133 rfl) ⟨rfl, rfl, yle rfl, yle rfl⟩ (m := 1) rfl ⟨by omega, by omega⟩ (tcP_refuse hG0 hG (by omega) (by omega) hc21) (fr1 := fr - 1) (lo1 := lo - 20) ?_
    refine xt_pure rfl rfl rfl (st1 := .int 0 :: _) rfl ?_
    cases h
    exact xt_iret rfl rfl rfl rfl ⟨rfl, rfl⟩
def cP_readPlain  (N : Nat) (v1 : Int32) (S : zS) : Option (Int32 × zS) := (zb (cP_sees N  S) fun x1 S2 => (if x1 ≠ (203 : Int32) then cP_readPlain_13 N v1 0 S2 else (zb (cP_next N  S2) fun _ S23 => cP_readPlain_13 N v1 1 S23)))
theorem tcP_readPlain {X : List Int32} {D0 : List xE} {a : Nat} {p : Nat → Nat} (hG0 : ((85, .inl (7, 1, .ref a)) : xE) ∈ D0) (hG : ∀ e ∈ zgP a p, e ∈ D0)  {N fr lo : Nat} (hf : 3 ≤ fr) (hl : 73 ≤ lo) {v1 : Int32} {S S2 : zS} {r : Int32}  (h : cP_readPlain N v1 S = some (r, S2)) : yK X fr lo 79 [.ref 85, .int v1] (zD zTP (zaP a p) S D0) 0 0 (zQi zTP (zaP a p) D0 r S2) := by
  unfold cP_readPlain at h
  refine yK.of rfl (yle rfl) (L := [_, _, _, _, _]) rfl ?_
  refine xt_pure rfl rfl rfl rfl ?_
  obtain ⟨x1, S2, hc3, h⟩ := zbi h
  refine zt_Vi rfl rfl rfl rfl (xmC 133 rfl) ⟨rfl, rfl, yle rfl, yle rfl⟩ (m := 1) rfl ⟨by omega, by omega⟩ (tcP_sees hG0 hG (by omega) (by omega) hc3) (fr1 := fr - 1) (lo1 := lo - 20) ?_
  refine xt_pure rfl rfl rfl (st1 := .int 203 :: _) rfl ?_
  refine xt_ic rfl rfl (fun hb => ?_) (fun hb => ?_)
  · replace h := zif_t (p := x1 ≠ (203 : Int32)) hb h
    refine xt_pure rfl rfl rfl (st1 := .int 0 :: _) rfl ?_
    refine xt_pure rfl rfl rfl (L1 := [_, _, _, _, _]) rfl ?_
    refine xt_pure rfl rfl rfl rfl ?_
    refine xt_pure rfl rfl rfl (st1 := .int 1 :: _) rfl ?_
    refine xt_pure rfl rfl rfl rfl ?_
    exact tcP_readPlain_13 hG0 hG hf hl h
  · replace h := zif_f (p := x1 ≠ (203 : Int32)) hb h
    refine xt_pure rfl rfl rfl (st1 := .int 1 :: _) rfl ?_
    refine xt_pure rfl rfl rfl rfl ?_
    refine xt_pure rfl rfl rfl (L1 := [_, _, _, _, _]) rfl ?_
    refine xt_pure rfl rfl rfl rfl ?_
    refine xt_pure rfl rfl rfl (st1 := .int 1 :: _) rfl ?_
    refine xt_pure rfl rfl rfl rfl ?_
    refine xt_pure rfl rfl rfl rfl ?_
    obtain ⟨_, S23, hc24, h⟩ := zbi h
    refine zt_Vv rfl rfl rfl rfl (xmC 133 rfl) ⟨rfl, rfl, yle rfl, yle rfl⟩ (m := 1) rfl ⟨by omega, by omega⟩ (tcP_next hG0 hG (by omega) (by omega) hc24) (fr1 := fr - 1) (lo1 := lo - 20) ?_
    exact tcP_readPlain_13 hG0 hG hf hl h
def cP_readParts_18  (N : Nat) (k6 : Int32 → Int32 → Int32 → zS → Option (Unit × zS)) (l1 : Int32) (l2 : Int32) (l3 : Int32) (S : zS) : Option (Unit × zS) := (zb (cP_sees N  S) fun x7 S8 => (if x7 ≠ (125 : Int32) then (zb (cP_sees N  S8) fun x10 S11 => (if x10 ≠ (205 : Int32) then (zb (cP_readPlain N l1 S11) fun x13 S14 => (zb (cP_readWhen N x13 l2 S14) fun _ S17 => (zb (cP_want N 59 S17) fun _ S20 => k6 l1 l2 (l3 + 1) S20))) else (zb (cP_enter N l2 S11) fun _ S23 => (zb (cP_next N  S23) fun _ S26 => (zb (cP_readNewPart N 11 l1 0 S26) fun x28 S29 => (zb (cP_readWhen N x28 (l2 + 1) S29) fun _ S32 => (zb (cP_want N 123 S32) fun _ S35 => k6 x28 (l2 + 1) (l3 + 1) S35))))))) else (zb (cP_next N  S8) fun _ S38 => (zg (gI (zA S38 16) l1) fun x40 => k6 x40 (l2 + (-1)) (l3 + 1) S38))))
theorem tcP_readParts_18 {X : List Int32} {D0 : List xE} {a : Nat} {p : Nat → Nat} (hG0 : ((85, .inl (7, 1, .ref a)) : xE) ∈ D0) (hG : ∀ e ∈ zgP a p, e ∈ D0)  {N fr lo : Nat} {k6 : Int32 → Int32 → Int32 → zS → Option (Unit × zS)} (hk6 : ∀ {l1 : Int32} {l2 : Int32} {l3 : Int32} {u4 : Option Value} {S S2 : zS} {r : Unit} , k6 l1 l2 l3 S = some (r, S2) → yT X fr lo 57 6 [some (.ref 85), some (.int l1), some (.int l2), some (.int l3), u4] [] (zD zTP (zaP a p) S D0) 0 0 (zQv zTP (zaP a p) D0 r S2)) (hf : 8 + 4 * (N / 16) ≤ fr) (hl : 239 + 93 * (N / 16) ≤ lo) {l1 : Int32} {l2 : Int32} {l3 : Int32} {u4 : Option Value} {S S2 : zS} {r : Unit}  (h : cP_readParts_18 N k6 l1 l2 l3 S = some (r, S2)) : yT X fr lo 57 18 [some (.ref 85), some (.int l1), some (.int l2), some (.int l3), u4] [] (zD zTP (zaP a p) S D0) 0 0 (zQv zTP (zaP a p) D0 r S2) := by
  unfold cP_readParts_18 at h
  refine xt_pure rfl rfl rfl rfl ?_
  obtain ⟨x7, S8, hc9, h⟩ := zbi h
  refine zt_Vi rfl rfl rfl rfl (xmC 133 rfl) ⟨rfl, rfl, yle rfl, yle rfl⟩ (m := 1) rfl ⟨by omega, by omega⟩ (tcP_sees hG0 hG (by omega) (by omega) hc9) (fr1 := fr - 1) (lo1 := lo - 20) ?_
  refine xt_pure rfl rfl rfl (st1 := .int 125 :: _) rfl ?_
  refine xt_ic rfl rfl (fun hb => ?_) (fun hb => ?_)
  · replace h := zif_t (p := x7 ≠ (125 : Int32)) hb h
    refine xt_pure rfl rfl rfl rfl ?_
    obtain ⟨x10, S11, hc12, h⟩ := zbi h
    refine zt_Vi rfl rfl rfl rfl (xmC 133 rfl) ⟨rfl, rfl, yle rfl, yle rfl⟩ (m := 1) rfl ⟨by omega, by omega⟩ (tcP_sees hG0 hG (by omega) (by omega) hc12) (fr1 := fr - 1) (lo1 := lo - 20) ?_
    refine xt_pure rfl rfl rfl (st1 := .int 205 :: _) rfl ?_
    refine xt_ic rfl rfl (fun hb => ?_) (fun hb => ?_)
    · replace h := zif_t (p := x10 ≠ (205 : Int32)) hb h
      refine xt_pure rfl rfl rfl rfl ?_
      refine xt_pure rfl rfl rfl rfl ?_
      obtain ⟨x13, S14, hc15, h⟩ := zbi h
      refine zt_Vi rfl rfl rfl rfl (xmC 133 rfl) ⟨rfl, rfl, yle rfl, yle rfl⟩ (m := 5) rfl ⟨by omega, by omega⟩ (tcP_readPlain hG0 hG (by omega) (by omega) hc15) (fr1 := fr - 1) (lo1 := lo - 24) ?_
      refine xt_pure rfl rfl rfl (L1 := [_, _, _, _, _]) rfl ?_
      refine xt_pure rfl rfl rfl rfl ?_
      refine xt_pure rfl rfl rfl rfl ?_
      refine xt_pure rfl rfl rfl rfl ?_
      obtain ⟨_, S17, hc18, h⟩ := zbi h
      refine zt_Vv rfl rfl rfl rfl (xmC 133 rfl) ⟨rfl, rfl, yle rfl, yle rfl⟩ (m := 3) rfl ⟨by omega, by omega⟩ (tcP_readWhen hG0 hG (by omega) (by omega) hc18) (fr1 := fr - 1) (lo1 := lo - 22) ?_
      refine xt_pure rfl rfl rfl rfl ?_
      refine xt_pure rfl rfl rfl (st1 := .int 59 :: _) rfl ?_
      obtain ⟨_, S20, hc21, h⟩ := zbi h
      refine zt_Vv rfl rfl rfl rfl (xmC 133 rfl) ⟨rfl, rfl, yle rfl, yle rfl⟩ (m := 2) rfl ⟨by omega, by omega⟩ (tcP_want hG0 hG (by omega) (by omega) hc21) (fr1 := fr - 1) (lo1 := lo - 21) ?_
      refine xt_pure rfl rfl rfl (L1 := [_, _, _, some (.int (_ + 1)), _]) rfl ?_
      refine xt_pure rfl rfl rfl rfl ?_
      exact hk6 h
    · replace h := zif_f (p := x10 ≠ (205 : Int32)) hb h
      refine xt_pure rfl rfl rfl rfl ?_
      refine xt_pure rfl rfl rfl rfl ?_
      obtain ⟨_, S23, hc24, h⟩ := zbi h
      refine zt_Vv rfl rfl rfl rfl (xmC 133 rfl) ⟨rfl, rfl, yle rfl, yle rfl⟩ (m := 2) rfl ⟨by omega, by omega⟩ (tcP_enter hG0 hG (by omega) (by omega) hc24) (fr1 := fr - 1) (lo1 := lo - 21) ?_
      refine xt_pure rfl rfl rfl rfl ?_
      obtain ⟨_, S26, hc27, h⟩ := zbi h
      refine zt_Vv rfl rfl rfl rfl (xmC 133 rfl) ⟨rfl, rfl, yle rfl, yle rfl⟩ (m := 1) rfl ⟨by omega, by omega⟩ (tcP_next hG0 hG (by omega) (by omega) hc27) (fr1 := fr - 1) (lo1 := lo - 20) ?_
      refine xt_pure rfl rfl rfl rfl ?_
      refine xt_pure rfl rfl rfl (st1 := .int 11 :: _) rfl ?_
      refine xt_pure rfl rfl rfl rfl ?_
      refine xt_pure rfl rfl rfl (st1 := .int 0 :: _) rfl ?_
      obtain ⟨x28, S29, hc30, h⟩ := zbi h
      refine zt_Vi rfl rfl rfl rfl (xmC 133 rfl) ⟨rfl, rfl, yle rfl, yle rfl⟩ (m := 7) rfl ⟨by omega, by omega⟩ (tcP_readNewPart hG0 hG (by omega) (by omega) hc30) (fr1 := fr - 1) (lo1 := lo - 26) ?_
      refine xt_pure rfl rfl rfl (L1 := [_, _, _, _, _]) rfl ?_
      refine xt_pure rfl rfl rfl (L1 := [_, _, some (.int (_ + 1)), _, _]) rfl ?_
      refine xt_pure rfl rfl rfl rfl ?_
      refine xt_pure rfl rfl rfl rfl ?_
      refine xt_pure rfl rfl rfl rfl ?_
      obtain ⟨_, S32, hc33, h⟩ := zbi h
      refine zt_Vv rfl rfl rfl rfl (xmC 133 rfl) ⟨rfl, rfl, yle rfl, yle rfl⟩ (m := 3) rfl ⟨by omega, by omega⟩ (tcP_readWhen hG0 hG (by omega) (by omega) hc33) (fr1 := fr - 1) (lo1 := lo - 22) ?_
      refine xt_pure rfl rfl rfl rfl ?_
      refine xt_pure rfl rfl rfl (st1 := .int 123 :: _) rfl ?_
      obtain ⟨_, S35, hc36, h⟩ := zbi h
      refine zt_Vv rfl rfl rfl rfl (xmC 133 rfl) ⟨rfl, rfl, yle rfl, yle rfl⟩ (m := 2) rfl ⟨by omega, by omega⟩ (tcP_want hG0 hG (by omega) (by omega) hc36) (fr1 := fr - 1) (lo1 := lo - 21) ?_
      refine xt_pure rfl rfl rfl rfl ?_
      refine xt_pure rfl rfl rfl (L1 := [_, _, _, some (.int (_ + 1)), _]) rfl ?_
      refine xt_pure rfl rfl rfl rfl ?_
      exact hk6 h
  · replace h := zif_f (p := x7 ≠ (125 : Int32)) hb h
    refine xt_pure rfl rfl rfl rfl ?_
    obtain ⟨_, S38, hc39, h⟩ := zbi h
    refine zt_Vv rfl rfl rfl rfl (xmC 133 rfl) ⟨rfl, rfl, yle rfl, yle rfl⟩ (m := 1) rfl ⟨by omega, by omega⟩ (tcP_next hG0 hG (by omega) (by omega) hc39) (fr1 := fr - 1) (lo1 := lo - 20) ?_
    refine xt_pure rfl rfl rfl rfl ?_
    refine xt_getf rfl rfl (zmr hG0) ?_
    refine xt_getf rfl rfl (zmr (ymm hG 1 rfl)) ?_
    refine xt_pure rfl rfl rfl rfl ?_
    obtain ⟨x40, hx40, h⟩ := zgi h
    refine zr_ild (l := (zA S38 16)) rfl rfl (zmA 16 rfl rfl (l := (zA S38 16)) rfl) hx40 ?_
    refine xt_pure rfl rfl rfl (L1 := [_, _, _, _, _]) rfl ?_
    refine xt_pure rfl rfl rfl (L1 := [_, _, some (.int (_ + (-1))), _, _]) rfl ?_
    refine xt_pure rfl rfl rfl rfl ?_
    refine xt_pure rfl rfl rfl (L1 := [_, _, _, some (.int (_ + 1)), _]) rfl ?_
    refine xt_pure rfl rfl rfl rfl ?_
    exact hk6 h
def cP_readParts_6  (N : Nat)  : Nat → Int32 → Int32 → Int32 → zS → Option (Unit × zS)
  | 0, _, _, _, _ => none
  | n + 1, l1, l2, l3, S => (if 40 < l3.toInt then (if l2.toInt ≤ 0 then some ((), S) else (zb (cP_refuse N  S) fun _ S2 => some ((), S2))) else (zb (cP_seesPart N  S) fun x4 S5 => (if x4 ≠ (0 : Int32) then cP_readParts_18 N (cP_readParts_6 N n) l1 l2 l3 S5 else (if l2.toInt ≤ 0 then (if l2.toInt ≤ 0 then some ((), S5) else (zb (cP_refuse N  S5) fun _ S42 => some ((), S42))) else (zb (cP_sees N  S5) fun x44 S45 => (if x44 ≠ (125 : Int32) then (if l2.toInt ≤ 0 then some ((), S45) else (zb (cP_refuse N  S45) fun _ S48 => some ((), S48))) else cP_readParts_18 N (cP_readParts_6 N n) l1 l2 l3 S45))))))
theorem tcP_readParts_6 {X : List Int32} {D0 : List xE} {a : Nat} {p : Nat → Nat} (hG0 : ((85, .inl (7, 1, .ref a)) : xE) ∈ D0) (hG : ∀ e ∈ zgP a p, e ∈ D0)  {N fr lo : Nat}   (hf : 8 + 4 * (N / 16) ≤ fr) (hl : 239 + 93 * (N / 16) ≤ lo)  : ∀ {n : Nat} {l1 : Int32} {l2 : Int32} {l3 : Int32} {u4 : Option Value} {S S2 : zS} {r : Unit} , cP_readParts_6 N n l1 l2 l3 S = some (r, S2) → yT X fr lo 57 6 [some (.ref 85), some (.int l1), some (.int l2), some (.int l3), u4] [] (zD zTP (zaP a p) S D0) 0 0 (zQv zTP (zaP a p) D0 r S2) := by
  intro n
  induction n with
  | zero =>
    intro l1 l2 l3 u4 S S2 r  h
    have h : (none : Option (Unit × zS)) = some (r, S2) := h
    cases h
  | succ n ih =>
    intro l1 l2 l3 u4 S S2 r  h
    rw [cP_readParts_6] at h
    refine xt_pure rfl rfl rfl rfl ?_
    refine xt_pure rfl rfl rfl (st1 := .int 40 :: _) rfl ?_
    refine xt_ic rfl rfl (fun hb => ?_) (fun hb => ?_)
    · replace h := zif_t (p := 40 < l3.toInt) hb h
      refine xt_pure rfl rfl rfl rfl ?_
      refine xt_if rfl rfl (fun hb => ?_) (fun hb => ?_)
      · replace h := zif_t (p := l2.toInt ≤ 0) hb h
        cases h
        exact xt_vret rfl rfl rfl ⟨rfl, rfl⟩
      · replace h := zif_f (p := l2.toInt ≤ 0) hb h
        refine xt_pure rfl rfl rfl rfl ?_
        obtain ⟨_, S2, hc3, h⟩ := zbi h
        refine zt_Vv rfl rfl rfl rfl (xmC 133 rfl) ⟨rfl, rfl, yle rfl, yle rfl⟩ (m := 1) rfl ⟨by omega, by omega⟩ (tcP_refuse hG0 hG (by omega) (by omega) hc3) (fr1 := fr - 1) (lo1 := lo - 20) ?_
        cases h
        exact xt_vret rfl rfl rfl ⟨rfl, rfl⟩
    · replace h := zif_f (p := 40 < l3.toInt) hb h
      refine xt_pure rfl rfl rfl rfl ?_
      obtain ⟨x4, S5, hc6, h⟩ := zbi h
      refine zt_Vi rfl rfl rfl rfl (xmC 133 rfl) ⟨rfl, rfl, yle rfl, yle rfl⟩ (m := 1) rfl ⟨by omega, by omega⟩ (tcP_seesPart hG0 hG (by omega) (by omega) hc6) (fr1 := fr - 1) (lo1 := lo - 20) ?_
      refine xt_if rfl rfl (fun hb => ?_) (fun hb => ?_)
      · replace h := zif_t (p := x4 ≠ (0 : Int32)) hb h
        exact tcP_readParts_18 hG0 hG (fun h => ih h) hf hl h
      · replace h := zif_f (p := x4 ≠ (0 : Int32)) hb h
        refine xt_pure rfl rfl rfl rfl ?_
        refine xt_if rfl rfl (fun hb => ?_) (fun hb => ?_)
        · replace h := zif_t (p := l2.toInt ≤ 0) hb h
          refine xt_pure rfl rfl rfl rfl ?_
          refine xt_if rfl rfl (fun hb => ?_) (fun hb => ?_)
          · replace h := zif_t (p := l2.toInt ≤ 0) hb h
            cases h
            exact xt_vret rfl rfl rfl ⟨rfl, rfl⟩
          · replace h := zif_f (p := l2.toInt ≤ 0) hb h
            refine xt_pure rfl rfl rfl rfl ?_
            obtain ⟨_, S42, hc43, h⟩ := zbi h
            refine zt_Vv rfl rfl rfl rfl (xmC 133 rfl) ⟨rfl, rfl, yle rfl, yle rfl⟩ (m := 1) rfl ⟨by omega, by omega⟩ (tcP_refuse hG0 hG (by omega) (by omega) hc43) (fr1 := fr - 1) (lo1 := lo - 20) ?_
            cases h
            exact xt_vret rfl rfl rfl ⟨rfl, rfl⟩
        · replace h := zif_f (p := l2.toInt ≤ 0) hb h
          refine xt_pure rfl rfl rfl rfl ?_
          obtain ⟨x44, S45, hc46, h⟩ := zbi h
          refine zt_Vi rfl rfl rfl rfl (xmC 133 rfl) ⟨rfl, rfl, yle rfl, yle rfl⟩ (m := 1) rfl ⟨by omega, by omega⟩ (tcP_sees hG0 hG (by omega) (by omega) hc46) (fr1 := fr - 1) (lo1 := lo - 20) ?_
          refine xt_pure rfl rfl rfl (st1 := .int 125 :: _) rfl ?_
          refine xt_ic rfl rfl (fun hb => ?_) (fun hb => ?_)
          · replace h := zif_t (p := x44 ≠ (125 : Int32)) hb h
            refine xt_pure rfl rfl rfl rfl ?_
            refine xt_if rfl rfl (fun hb => ?_) (fun hb => ?_)
            · replace h := zif_t (p := l2.toInt ≤ 0) hb h
              cases h
              exact xt_vret rfl rfl rfl ⟨rfl, rfl⟩
            · replace h := zif_f (p := l2.toInt ≤ 0) hb h
              refine xt_pure rfl rfl rfl rfl ?_
              obtain ⟨_, S48, hc49, h⟩ := zbi h
              refine zt_Vv rfl rfl rfl rfl (xmC 133 rfl) ⟨rfl, rfl, yle rfl, yle rfl⟩ (m := 1) rfl ⟨by omega, by omega⟩ (tcP_refuse hG0 hG (by omega) (by omega) hc49) (fr1 := fr - 1) (lo1 := lo - 20) ?_
              cases h
              exact xt_vret rfl rfl rfl ⟨rfl, rfl⟩
          · replace h := zif_f (p := x44 ≠ (125 : Int32)) hb h
            exact tcP_readParts_18 hG0 hG (fun h => ih h) hf hl h
def cP_readParts  (N : Nat)  (S : zS) : Option (Unit × zS) := cP_readParts_6 N N (-9) 0 0 S
theorem tcP_readParts {X : List Int32} {D0 : List xE} {a : Nat} {p : Nat → Nat} (hG0 : ((85, .inl (7, 1, .ref a)) : xE) ∈ D0) (hG : ∀ e ∈ zgP a p, e ∈ D0)  {N fr lo : Nat} (hf : 8 + 4 * (N / 16) ≤ fr) (hl : 239 + 93 * (N / 16) ≤ lo)  {S S2 : zS} {r : Unit}  (h : cP_readParts N  S = some (r, S2)) : yK X fr lo 57 [.ref 85] (zD zTP (zaP a p) S D0) 0 0 (zQv zTP (zaP a p) D0 r S2) := by
  unfold cP_readParts at h
  refine yK.of rfl (yle rfl) (L := [_, _, _, _, _]) rfl ?_
  refine xt_pure rfl rfl rfl (st1 := .int (-9) :: _) rfl ?_
  refine xt_pure rfl rfl rfl (L1 := [_, _, _, _, _]) rfl ?_
  refine xt_pure rfl rfl rfl (st1 := .int 0 :: _) rfl ?_
  refine xt_pure rfl rfl rfl (L1 := [_, _, _, _, _]) rfl ?_
  refine xt_pure rfl rfl rfl (st1 := .int 0 :: _) rfl ?_
  refine xt_pure rfl rfl rfl (L1 := [_, _, _, _, _]) rfl ?_
  exact tcP_readParts_6 hG0 hG hf hl h
def cP_readFigure_13  (N : Nat)  (l1 : Int32) (s1 : Int32) (S : zS) : Option (Unit × zS) := (zb (cP_readNewName N s1 S) fun x4 S5 => (zb (cP_want N 61 S5) fun _ S8 => (zb (cP_readExp N 0 S8) fun x10 S11 => (zb (cP_want N 59 S11) fun _ S14 => (if (zI S14 6) ≠ ((-9) : Int32) then some ((), S14) else (if zok (zB S14 9) l1 then (if zok (zA S14 23) l1 then some ((), (zsI (zsA (zsB S14 9 (zs (zB S14 9) l1 x4)) 23 (zs (zA S14 23) l1 x10)) 22 ((zI S14 22) + 1))) else none) else none))))))
theorem tcP_readFigure_13 {X : List Int32} {D0 : List xE} {a : Nat} {p : Nat → Nat} (hG0 : ((85, .inl (7, 1, .ref a)) : xE) ∈ D0) (hG : ∀ e ∈ zgP a p, e ∈ D0)  {N fr lo : Nat}   (hf : 7 + 4 * (N / 16) ≤ fr) (hl : 217 + 93 * (N / 16) ≤ lo) {l1 : Int32} {s1 : Int32}  {S S2 : zS} {r : Unit}  (h : cP_readFigure_13 N l1 s1 S = some (r, S2)) : yT X fr lo 82 13 [some (.ref 85), some (.int l1), none, none, none] [.int s1, .ref 85] (zD zTP (zaP a p) S D0) 0 0 (zQv zTP (zaP a p) D0 r S2) := by
  unfold cP_readFigure_13 at h
  obtain ⟨x4, S5, hc6, h⟩ := zbi h
  refine zt_Vl rfl rfl rfl rfl (xmC 133 rfl) ⟨rfl, rfl, yle rfl, yle rfl⟩ (m := 4) rfl ⟨by omega, by omega⟩ (tcP_readNewName hG0 hG (by omega) (by omega) hc6) (fr1 := fr - 1) (lo1 := lo - 23) ?_
  refine xt_pure rfl rfl rfl (L1 := [_, _, _, _, _]) rfl ?_
  refine xt_pure rfl rfl rfl rfl ?_
  refine xt_pure rfl rfl rfl (st1 := .int 61 :: _) rfl ?_
  obtain ⟨_, S8, hc9, h⟩ := zbi h
  refine zt_Vv rfl rfl rfl rfl (xmC 133 rfl) ⟨rfl, rfl, yle rfl, yle rfl⟩ (m := 2) rfl ⟨by omega, by omega⟩ (tcP_want hG0 hG (by omega) (by omega) hc9) (fr1 := fr - 1) (lo1 := lo - 21) ?_
  refine xt_pure rfl rfl rfl rfl ?_
  refine xt_pure rfl rfl rfl (st1 := .int 0 :: _) rfl ?_
  obtain ⟨x10, S11, hc12, h⟩ := zbi h
  refine zt_Vi rfl rfl rfl rfl (xmC 133 rfl) ⟨rfl, rfl, yle rfl, yle rfl⟩ (m := 3) rfl ⟨by omega, by omega⟩ (tcP_readExp hG0 hG (by omega) (by omega) hc12) (fr1 := fr - 1) (lo1 := lo - 22) ?_
  refine xt_pure rfl rfl rfl (L1 := [_, _, _, _, _]) rfl ?_
  refine xt_pure rfl rfl rfl rfl ?_
  refine xt_pure rfl rfl rfl (st1 := .int 59 :: _) rfl ?_
  obtain ⟨_, S14, hc15, h⟩ := zbi h
  refine zt_Vv rfl rfl rfl rfl (xmC 133 rfl) ⟨rfl, rfl, yle rfl, yle rfl⟩ (m := 2) rfl ⟨by omega, by omega⟩ (tcP_want hG0 hG (by omega) (by omega) hc15) (fr1 := fr - 1) (lo1 := lo - 21) ?_
  refine xt_pure rfl rfl rfl rfl ?_
  refine zt_gI 6 rfl rfl rfl rfl (x := (zI S14 6)) rfl ?_
  refine xt_pure rfl rfl rfl (st1 := .int (-9) :: _) rfl ?_
  refine xt_ic rfl rfl (fun hb => ?_) (fun hb => ?_)
  · replace h := zif_t (p := (zI S14 6) ≠ ((-9) : Int32)) hb h
    cases h
    exact xt_vret rfl rfl rfl ⟨rfl, rfl⟩
  · replace h := zif_f (p := (zI S14 6) ≠ ((-9) : Int32)) hb h
    refine xt_pure rfl rfl rfl rfl ?_
    refine xt_getf rfl rfl (xmC 135 rfl) ?_
    refine xt_pure rfl rfl rfl rfl ?_
    refine xt_pure rfl rfl rfl rfl ?_
    obtain ⟨hg, h⟩ := zgd h
    refine zt_lst 9 rfl rfl rfl rfl (l := (zB S14 9)) rfl hg ?_
    refine xt_pure rfl rfl rfl rfl ?_
    refine xt_getf rfl rfl (zmr hG0) ?_
    refine xt_getf rfl rfl (zmr (ymm hG 7 rfl)) ?_
    refine xt_pure rfl rfl rfl rfl ?_
    refine xt_pure rfl rfl rfl rfl ?_
    obtain ⟨hg, h⟩ := zgd h
    refine zt_ist 23 rfl rfl rfl rfl (l := (zA S14 23)) rfl hg ?_
    refine xt_pure rfl rfl rfl rfl ?_
    refine xt_getf rfl rfl (zmr hG0) ?_
    refine xt_pure rfl rfl rfl rfl ?_
    refine zt_gI 22 rfl rfl rfl rfl (x := (zI S14 22)) rfl ?_
    refine xt_pure rfl rfl rfl (st1 := .int 1 :: _) rfl ?_
    refine xt_pure rfl rfl rfl rfl ?_
    refine zt_pI 22 rfl rfl rfl rfl rfl rfl ?_
    cases h
    exact xt_vret rfl rfl rfl ⟨rfl, rfl⟩
def cP_readFigure  (N : Nat)  (S : zS) : Option (Unit × zS) := (zb (cP_next N  S) fun _ S2 => (if 12 ≤ (zI S2 22).toInt then cP_readFigure_13 N (zI S2 22) 0 S2 else cP_readFigure_13 N (zI S2 22) 1 S2))
theorem tcP_readFigure {X : List Int32} {D0 : List xE} {a : Nat} {p : Nat → Nat} (hG0 : ((85, .inl (7, 1, .ref a)) : xE) ∈ D0) (hG : ∀ e ∈ zgP a p, e ∈ D0)  {N fr lo : Nat} (hf : 7 + 4 * (N / 16) ≤ fr) (hl : 217 + 93 * (N / 16) ≤ lo)  {S S2 : zS} {r : Unit}  (h : cP_readFigure N  S = some (r, S2)) : yK X fr lo 82 [.ref 85] (zD zTP (zaP a p) S D0) 0 0 (zQv zTP (zaP a p) D0 r S2) := by
  unfold cP_readFigure at h
  refine yK.of rfl (yle rfl) (L := [_, _, _, _, _]) rfl ?_
  refine xt_pure rfl rfl rfl rfl ?_
  obtain ⟨_, S2, hc3, h⟩ := zbi h
  refine zt_Vv rfl rfl rfl rfl (xmC 133 rfl) ⟨rfl, rfl, yle rfl, yle rfl⟩ (m := 1) rfl ⟨by omega, by omega⟩ (tcP_next hG0 hG (by omega) (by omega) hc3) (fr1 := fr - 1) (lo1 := lo - 20) ?_
  refine xt_pure rfl rfl rfl rfl ?_
  refine xt_getf rfl rfl (zmr hG0) ?_
  refine zt_gI 22 rfl rfl rfl rfl (x := (zI S2 22)) rfl ?_
  refine xt_pure rfl rfl rfl (L1 := [_, _, _, _, _]) rfl ?_
  refine xt_pure rfl rfl rfl rfl ?_
  refine xt_pure rfl rfl rfl rfl ?_
  refine xt_pure rfl rfl rfl (st1 := .int 12 :: _) rfl ?_
  refine xt_ic rfl rfl (fun hb => ?_) (fun hb => ?_)
  · replace h := zif_t (p := 12 ≤ (zI S2 22).toInt) hb h
    refine xt_pure rfl rfl rfl (st1 := .int 0 :: _) rfl ?_
    exact tcP_readFigure_13 hG0 hG hf hl h
  · replace h := zif_f (p := 12 ≤ (zI S2 22).toInt) hb h
    refine xt_pure rfl rfl rfl (st1 := .int 1 :: _) rfl ?_
    refine xt_pure rfl rfl rfl rfl ?_
    exact tcP_readFigure_13 hG0 hG hf hl h
def cP_readCheck_11  (N : Nat)  (l1 : Int32) (S : zS) : Option (Unit × zS) := (zb (cP_readNumber N 0 999999 S) fun x4 S5 => (zb (cP_readExp N 0 S5) fun x7 S8 => (zb (cP_want N 59 S8) fun _ S11 => (if (zI S11 6) ≠ ((-9) : Int32) then some ((), S11) else (if zok (zA S11 25) l1 then (if zok (zA S11 26) l1 then some ((), (zsI (zsA (zsA S11 25 (zs (zA S11 25) l1 x4)) 26 (zs (zA S11 26) l1 x7)) 24 ((zI S11 24) + 1))) else none) else none)))))
theorem tcP_readCheck_11 {X : List Int32} {D0 : List xE} {a : Nat} {p : Nat → Nat} (hG0 : ((85, .inl (7, 1, .ref a)) : xE) ∈ D0) (hG : ∀ e ∈ zgP a p, e ∈ D0)  {N fr lo : Nat}   (hf : 7 + 4 * (N / 16) ≤ fr) (hl : 217 + 93 * (N / 16) ≤ lo) {l1 : Int32}  {S S2 : zS} {r : Unit}  (h : cP_readCheck_11 N l1 S = some (r, S2)) : yT X fr lo 83 11 [some (.ref 85), some (.int l1), none, none] [] (zD zTP (zaP a p) S D0) 0 0 (zQv zTP (zaP a p) D0 r S2) := by
  unfold cP_readCheck_11 at h
  refine xt_pure rfl rfl rfl rfl ?_
  refine xt_pure rfl rfl rfl (st1 := .int 0 :: _) rfl ?_
  refine xt_pure rfl rfl rfl (st1 := .int 999999 :: _) rfl ?_
  obtain ⟨x4, S5, hc6, h⟩ := zbi h
  refine zt_Vi rfl rfl rfl rfl (xmC 133 rfl) ⟨rfl, rfl, yle rfl, yle rfl⟩ (m := 5) rfl ⟨by omega, by omega⟩ (tcP_readNumber hG0 hG (by omega) (by omega) hc6) (fr1 := fr - 1) (lo1 := lo - 24) ?_
  refine xt_pure rfl rfl rfl (L1 := [_, _, _, _]) rfl ?_
  refine xt_pure rfl rfl rfl rfl ?_
  refine xt_pure rfl rfl rfl (st1 := .int 0 :: _) rfl ?_
  obtain ⟨x7, S8, hc9, h⟩ := zbi h
  refine zt_Vi rfl rfl rfl rfl (xmC 133 rfl) ⟨rfl, rfl, yle rfl, yle rfl⟩ (m := 3) rfl ⟨by omega, by omega⟩ (tcP_readExp hG0 hG (by omega) (by omega) hc9) (fr1 := fr - 1) (lo1 := lo - 22) ?_
  refine xt_pure rfl rfl rfl (L1 := [_, _, _, _]) rfl ?_
  refine xt_pure rfl rfl rfl rfl ?_
  refine xt_pure rfl rfl rfl (st1 := .int 59 :: _) rfl ?_
  obtain ⟨_, S11, hc12, h⟩ := zbi h
  refine zt_Vv rfl rfl rfl rfl (xmC 133 rfl) ⟨rfl, rfl, yle rfl, yle rfl⟩ (m := 2) rfl ⟨by omega, by omega⟩ (tcP_want hG0 hG (by omega) (by omega) hc12) (fr1 := fr - 1) (lo1 := lo - 21) ?_
  refine xt_pure rfl rfl rfl rfl ?_
  refine zt_gI 6 rfl rfl rfl rfl (x := (zI S11 6)) rfl ?_
  refine xt_pure rfl rfl rfl (st1 := .int (-9) :: _) rfl ?_
  refine xt_ic rfl rfl (fun hb => ?_) (fun hb => ?_)
  · replace h := zif_t (p := (zI S11 6) ≠ ((-9) : Int32)) hb h
    cases h
    exact xt_vret rfl rfl rfl ⟨rfl, rfl⟩
  · replace h := zif_f (p := (zI S11 6) ≠ ((-9) : Int32)) hb h
    refine xt_pure rfl rfl rfl rfl ?_
    refine xt_getf rfl rfl (zmr hG0) ?_
    refine xt_getf rfl rfl (zmr (ymm hG 8 rfl)) ?_
    refine xt_pure rfl rfl rfl rfl ?_
    refine xt_pure rfl rfl rfl rfl ?_
    obtain ⟨hg, h⟩ := zgd h
    refine zt_ist 25 rfl rfl rfl rfl (l := (zA S11 25)) rfl hg ?_
    refine xt_pure rfl rfl rfl rfl ?_
    refine xt_getf rfl rfl (zmr hG0) ?_
    refine xt_getf rfl rfl (zmr (ymm hG 9 rfl)) ?_
    refine xt_pure rfl rfl rfl rfl ?_
    refine xt_pure rfl rfl rfl rfl ?_
    obtain ⟨hg, h⟩ := zgd h
    refine zt_ist 26 rfl rfl rfl rfl (l := (zA S11 26)) rfl hg ?_
    refine xt_pure rfl rfl rfl rfl ?_
    refine xt_getf rfl rfl (zmr hG0) ?_
    refine xt_pure rfl rfl rfl rfl ?_
    refine zt_gI 24 rfl rfl rfl rfl (x := (zI S11 24)) rfl ?_
    refine xt_pure rfl rfl rfl (st1 := .int 1 :: _) rfl ?_
    refine xt_pure rfl rfl rfl rfl ?_
    refine zt_pI 24 rfl rfl rfl rfl rfl rfl ?_
    cases h
    exact xt_vret rfl rfl rfl ⟨rfl, rfl⟩
def cP_readCheck  (N : Nat)  (S : zS) : Option (Unit × zS) := (zb (cP_next N  S) fun _ S2 => (if (zI S2 24).toInt < 12 then cP_readCheck_11 N (zI S2 24) S2 else (zb (cP_refuse N  S2) fun _ S14 => cP_readCheck_11 N (zI S2 24) S14)))
theorem tcP_readCheck {X : List Int32} {D0 : List xE} {a : Nat} {p : Nat → Nat} (hG0 : ((85, .inl (7, 1, .ref a)) : xE) ∈ D0) (hG : ∀ e ∈ zgP a p, e ∈ D0)  {N fr lo : Nat} (hf : 7 + 4 * (N / 16) ≤ fr) (hl : 217 + 93 * (N / 16) ≤ lo)  {S S2 : zS} {r : Unit}  (h : cP_readCheck N  S = some (r, S2)) : yK X fr lo 83 [.ref 85] (zD zTP (zaP a p) S D0) 0 0 (zQv zTP (zaP a p) D0 r S2) := by
  unfold cP_readCheck at h
  refine yK.of rfl (yle rfl) (L := [_, _, _, _]) rfl ?_
  refine xt_pure rfl rfl rfl rfl ?_
  obtain ⟨_, S2, hc3, h⟩ := zbi h
  refine zt_Vv rfl rfl rfl rfl (xmC 133 rfl) ⟨rfl, rfl, yle rfl, yle rfl⟩ (m := 1) rfl ⟨by omega, by omega⟩ (tcP_next hG0 hG (by omega) (by omega) hc3) (fr1 := fr - 1) (lo1 := lo - 20) ?_
  refine xt_pure rfl rfl rfl rfl ?_
  refine xt_getf rfl rfl (zmr hG0) ?_
  refine zt_gI 24 rfl rfl rfl rfl (x := (zI S2 24)) rfl ?_
  refine xt_pure rfl rfl rfl (L1 := [_, _, _, _]) rfl ?_
  refine xt_pure rfl rfl rfl rfl ?_
  refine xt_pure rfl rfl rfl (st1 := .int 12 :: _) rfl ?_
  refine xt_ic rfl rfl (fun hb => ?_) (fun hb => ?_)
  · replace h := zif_t (p := (zI S2 24).toInt < 12) hb h
    exact tcP_readCheck_11 hG0 hG hf hl h
  · replace h := zif_f (p := (zI S2 24).toInt < 12) hb h
    refine xt_pure rfl rfl rfl rfl ?_
    obtain ⟨_, S14, hc15, h⟩ := zbi h
    refine zt_Vv rfl rfl rfl rfl (xmC 133 rfl) ⟨rfl, rfl, yle rfl, yle rfl⟩ (m := 1) rfl ⟨by omega, by omega⟩ (tcP_refuse hG0 hG (by omega) (by omega) hc15) (fr1 := fr - 1) (lo1 := lo - 20) ?_
    exact tcP_readCheck_11 hG0 hG hf hl h
def cP_readRules_13  (N : Nat) (k2 : Int32 → zS → Option (Unit × zS)) (l1 : Int32) (S : zS) : Option (Unit × zS) := (zb (cP_sees N  S) fun x4 S5 => (if x4 ≠ (217 : Int32) then (zb (cP_readCheck N  S5) fun _ S8 => k2 (l1 + 1) S8) else (zb (cP_readFigure N  S5) fun _ S11 => k2 (l1 + 1) S11)))
theorem tcP_readRules_13 {X : List Int32} {D0 : List xE} {a : Nat} {p : Nat → Nat} (hG0 : ((85, .inl (7, 1, .ref a)) : xE) ∈ D0) (hG : ∀ e ∈ zgP a p, e ∈ D0)  {N fr lo : Nat} {k2 : Int32 → zS → Option (Unit × zS)} (hk2 : ∀ {l1 : Int32}  {S S2 : zS} {r : Unit} , k2 l1 S = some (r, S2) → yT X fr lo 81 2 [some (.ref 85), some (.int l1)] [] (zD zTP (zaP a p) S D0) 0 0 (zQv zTP (zaP a p) D0 r S2)) (hf : 8 + 4 * (N / 16) ≤ fr) (hl : 241 + 93 * (N / 16) ≤ lo) {l1 : Int32}  {S S2 : zS} {r : Unit}  (h : cP_readRules_13 N k2 l1 S = some (r, S2)) : yT X fr lo 81 13 [some (.ref 85), some (.int l1)] [] (zD zTP (zaP a p) S D0) 0 0 (zQv zTP (zaP a p) D0 r S2) := by
  unfold cP_readRules_13 at h
  refine xt_pure rfl rfl rfl rfl ?_
  obtain ⟨x4, S5, hc6, h⟩ := zbi h
  refine zt_Vi rfl rfl rfl rfl (xmC 133 rfl) ⟨rfl, rfl, yle rfl, yle rfl⟩ (m := 1) rfl ⟨by omega, by omega⟩ (tcP_sees hG0 hG (by omega) (by omega) hc6) (fr1 := fr - 1) (lo1 := lo - 20) ?_
  refine xt_pure rfl rfl rfl (st1 := .int 217 :: _) rfl ?_
  refine xt_ic rfl rfl (fun hb => ?_) (fun hb => ?_)
  · replace h := zif_t (p := x4 ≠ (217 : Int32)) hb h
    refine xt_pure rfl rfl rfl rfl ?_
    obtain ⟨_, S8, hc9, h⟩ := zbi h
    refine zt_Vv rfl rfl rfl rfl (xmC 133 rfl) ⟨rfl, rfl, yle rfl, yle rfl⟩ (m := 4) rfl ⟨by omega, by omega⟩ (tcP_readCheck hG0 hG (by omega) (by omega) hc9) (fr1 := fr - 1) (lo1 := lo - 23) ?_
    refine xt_pure rfl rfl rfl (L1 := [_, some (.int (_ + 1))]) rfl ?_
    refine xt_pure rfl rfl rfl rfl ?_
    exact hk2 h
  · replace h := zif_f (p := x4 ≠ (217 : Int32)) hb h
    refine xt_pure rfl rfl rfl rfl ?_
    obtain ⟨_, S11, hc12, h⟩ := zbi h
    refine zt_Vv rfl rfl rfl rfl (xmC 133 rfl) ⟨rfl, rfl, yle rfl, yle rfl⟩ (m := 5) rfl ⟨by omega, by omega⟩ (tcP_readFigure hG0 hG (by omega) (by omega) hc12) (fr1 := fr - 1) (lo1 := lo - 24) ?_
    refine xt_pure rfl rfl rfl rfl ?_
    refine xt_pure rfl rfl rfl (L1 := [_, some (.int (_ + 1))]) rfl ?_
    refine xt_pure rfl rfl rfl rfl ?_
    exact hk2 h
def cP_readRules_2  (N : Nat)  : Nat → Int32 → zS → Option (Unit × zS)
  | 0, _, _ => none
  | n + 1, l1, S => (if 24 < l1.toInt then some ((), S) else (zb (cP_sees N  S) fun x1 S2 => (if x1 = (217 : Int32) then cP_readRules_13 N (cP_readRules_2 N n) l1 S2 else (zb (cP_sees N  S2) fun x13 S14 => (if x13 ≠ (218 : Int32) then some ((), S14) else cP_readRules_13 N (cP_readRules_2 N n) l1 S14)))))
theorem tcP_readRules_2 {X : List Int32} {D0 : List xE} {a : Nat} {p : Nat → Nat} (hG0 : ((85, .inl (7, 1, .ref a)) : xE) ∈ D0) (hG : ∀ e ∈ zgP a p, e ∈ D0)  {N fr lo : Nat}   (hf : 8 + 4 * (N / 16) ≤ fr) (hl : 241 + 93 * (N / 16) ≤ lo)  : ∀ {n : Nat} {l1 : Int32}  {S S2 : zS} {r : Unit} , cP_readRules_2 N n l1 S = some (r, S2) → yT X fr lo 81 2 [some (.ref 85), some (.int l1)] [] (zD zTP (zaP a p) S D0) 0 0 (zQv zTP (zaP a p) D0 r S2) := by
  intro n
  induction n with
  | zero =>
    intro l1  S S2 r  h
    have h : (none : Option (Unit × zS)) = some (r, S2) := h
    cases h
  | succ n ih =>
    intro l1  S S2 r  h
    rw [cP_readRules_2] at h
    refine xt_pure rfl rfl rfl rfl ?_
    refine xt_pure rfl rfl rfl (st1 := .int 24 :: _) rfl ?_
    refine xt_ic rfl rfl (fun hb => ?_) (fun hb => ?_)
    · replace h := zif_t (p := 24 < l1.toInt) hb h
      cases h
      exact xt_vret rfl rfl rfl ⟨rfl, rfl⟩
    · replace h := zif_f (p := 24 < l1.toInt) hb h
      refine xt_pure rfl rfl rfl rfl ?_
      obtain ⟨x1, S2, hc3, h⟩ := zbi h
      refine zt_Vi rfl rfl rfl rfl (xmC 133 rfl) ⟨rfl, rfl, yle rfl, yle rfl⟩ (m := 1) rfl ⟨by omega, by omega⟩ (tcP_sees hG0 hG (by omega) (by omega) hc3) (fr1 := fr - 1) (lo1 := lo - 20) ?_
      refine xt_pure rfl rfl rfl (st1 := .int 217 :: _) rfl ?_
      refine xt_ic rfl rfl (fun hb => ?_) (fun hb => ?_)
      · replace h := zif_t (p := x1 = (217 : Int32)) hb h
        exact tcP_readRules_13 hG0 hG (fun h => ih h) hf hl h
      · replace h := zif_f (p := x1 = (217 : Int32)) hb h
        refine xt_pure rfl rfl rfl rfl ?_
        obtain ⟨x13, S14, hc15, h⟩ := zbi h
        refine zt_Vi rfl rfl rfl rfl (xmC 133 rfl) ⟨rfl, rfl, yle rfl, yle rfl⟩ (m := 1) rfl ⟨by omega, by omega⟩ (tcP_sees hG0 hG (by omega) (by omega) hc15) (fr1 := fr - 1) (lo1 := lo - 20) ?_
        refine xt_pure rfl rfl rfl (st1 := .int 218 :: _) rfl ?_
        refine xt_ic rfl rfl (fun hb => ?_) (fun hb => ?_)
        · replace h := zif_t (p := x13 ≠ (218 : Int32)) hb h
          cases h
          exact xt_vret rfl rfl rfl ⟨rfl, rfl⟩
        · replace h := zif_f (p := x13 ≠ (218 : Int32)) hb h
          exact tcP_readRules_13 hG0 hG (fun h => ih h) hf hl h
def cP_readRules  (N : Nat)  (S : zS) : Option (Unit × zS) := cP_readRules_2 N N 0 S
theorem tcP_readRules {X : List Int32} {D0 : List xE} {a : Nat} {p : Nat → Nat} (hG0 : ((85, .inl (7, 1, .ref a)) : xE) ∈ D0) (hG : ∀ e ∈ zgP a p, e ∈ D0)  {N fr lo : Nat} (hf : 8 + 4 * (N / 16) ≤ fr) (hl : 241 + 93 * (N / 16) ≤ lo)  {S S2 : zS} {r : Unit}  (h : cP_readRules N  S = some (r, S2)) : yK X fr lo 81 [.ref 85] (zD zTP (zaP a p) S D0) 0 0 (zQv zTP (zaP a p) D0 r S2) := by
  unfold cP_readRules at h
  refine yK.of rfl (yle rfl) (L := [_, _]) rfl ?_
  refine xt_pure rfl rfl rfl (st1 := .int 0 :: _) rfl ?_
  refine xt_pure rfl rfl rfl (L1 := [_, _]) rfl ?_
  exact tcP_readRules_2 hG0 hG hf hl h
def cP_findNames_2  (N : Nat)  : Nat → Int32 → zS → Option (Unit × zS)
  | 0, _, _ => none
  | n + 1, l1, S => (if (zI S 7).toInt ≤ l1.toInt then some ((), S) else (if (zI S 6) ≠ ((-9) : Int32) then some ((), S) else (zg (gI (zA S 13) l1) fun x1 => (zg (gI (zB S 11) l1) fun x2 => (zb (cP_find_63_87 N x1 x2 S) fun x3 S4 => (zg (gI (zB S4 11) l1) fun x6 => (zb (cP_find_63_86 N (zI S4 14) x6 S4) fun x7 S8 => (zg (gI (zA S8 12) l1) fun x10 => (if x3 = ((-9) : Int32) then (if x7 = ((-9) : Int32) then (zg (gI (zA S8 10) l1) fun x11 => (cP_findNames_2 N n) (l1 + 1) (zsI S8 6 x11)) else (zb (cP_isAnswered N x7 S8) fun x12 S13 => (if x12 = (0 : Int32) then (zg (gI (zA S13 10) l1) fun x15 => (cP_findNames_2 N n) (l1 + 1) (zsI S13 6 x15)) else (zg (gI (zA S13 31) x10) fun x16 => (if zok (zA S13 31) x10 then (cP_findNames_2 N n) (l1 + 1) (zsA S13 31 (zs (zA S13 31) x10 (x16 + (x7 * 8)))) else none))))) else (if zok (zA S8 30) x10 then (if zok (zA S8 31) x10 then (cP_findNames_2 N n) (l1 + 1) (zsA (zsA S8 30 (zs (zA S8 30) x10 2)) 31 (zs (zA S8 31) x10 x3)) else none) else none))))))))))
theorem tcP_findNames_2 {X : List Int32} {D0 : List xE} {a : Nat} {p : Nat → Nat} (hG0 : ((85, .inl (7, 1, .ref a)) : xE) ∈ D0) (hG : ∀ e ∈ zgP a p, e ∈ D0)  {N fr lo : Nat}   (hf : 1 ≤ fr) (hl : 24 ≤ lo)  : ∀ {n : Nat} {l1 : Int32} {u2 : Option Value} {u3 : Option Value} {u4 : Option Value} {S S2 : zS} {r : Unit} , cP_findNames_2 N n l1 S = some (r, S2) → yT X fr lo 84 2 [some (.ref 85), some (.int l1), u2, u3, u4] [] (zD zTP (zaP a p) S D0) 0 0 (zQv zTP (zaP a p) D0 r S2) := by
  intro n
  induction n with
  | zero =>
    intro l1 u2 u3 u4 S S2 r  h
    have h : (none : Option (Unit × zS)) = some (r, S2) := h
    cases h
  | succ n ih =>
    intro l1 u2 u3 u4 S S2 r  h
    rw [cP_findNames_2] at h
    refine xt_pure rfl rfl rfl rfl ?_
    refine xt_pure rfl rfl rfl rfl ?_
    refine zt_gI 7 rfl rfl rfl rfl (x := (zI S 7)) rfl ?_
    refine xt_ic rfl rfl (fun hb => ?_) (fun hb => ?_)
    · replace h := zif_t (p := (zI S 7).toInt ≤ l1.toInt) hb h
      cases h
      exact xt_vret rfl rfl rfl ⟨rfl, rfl⟩
    · replace h := zif_f (p := (zI S 7).toInt ≤ l1.toInt) hb h
      refine xt_pure rfl rfl rfl rfl ?_
      refine zt_gI 6 rfl rfl rfl rfl (x := (zI S 6)) rfl ?_
      refine xt_pure rfl rfl rfl (st1 := .int (-9) :: _) rfl ?_
      refine xt_ic rfl rfl (fun hb => ?_) (fun hb => ?_)
      · replace h := zif_t (p := (zI S 6) ≠ ((-9) : Int32)) hb h
        cases h
        exact xt_vret rfl rfl rfl ⟨rfl, rfl⟩
      · replace h := zif_f (p := (zI S 6) ≠ ((-9) : Int32)) hb h
        refine xt_pure rfl rfl rfl rfl ?_
        refine xt_getf rfl rfl (xmC 135 rfl) ?_
        refine xt_pure rfl rfl rfl rfl ?_
        refine xt_getf rfl rfl (xmC 139 rfl) ?_
        refine xt_pure rfl rfl rfl rfl ?_
        obtain ⟨x1, hx1, h⟩ := zgi h
        refine zr_ild (l := (zA S 13)) rfl rfl (zmA 13 rfl rfl (l := (zA S 13)) rfl) hx1 ?_
        refine xt_pure rfl rfl rfl rfl ?_
        refine xt_getf rfl rfl (xmC 137 rfl) ?_
        refine xt_pure rfl rfl rfl rfl ?_
        obtain ⟨x2, hx2, h⟩ := zgi h
        refine zr_lld (l := (zB S 11)) rfl rfl (zmB 11 rfl rfl (l := (zB S 11)) rfl) hx2 ?_
        obtain ⟨x3, S4, hc5, h⟩ := zbi h
        refine zt_Si rfl rfl (by decide) rfl rfl ⟨rfl, yle rfl, yle rfl⟩ (m := 5) rfl ⟨by omega, by omega⟩ (tcP_find_63_87 hG0 hG (by omega) (by omega) hc5) (fr1 := fr - 1) (lo1 := lo - 24) ?_
        refine xt_pure rfl rfl rfl (L1 := [_, _, _, _, _]) rfl ?_
        refine xt_pure rfl rfl rfl rfl ?_
        refine xt_getf rfl rfl (xmC 134 rfl) ?_
        refine xt_pure rfl rfl rfl rfl ?_
        refine xt_getf rfl rfl (zmr hG0) ?_
        refine zt_gI 14 rfl rfl rfl rfl (x := (zI S4 14)) rfl ?_
        refine xt_pure rfl rfl rfl rfl ?_
        refine xt_getf rfl rfl (xmC 137 rfl) ?_
        refine xt_pure rfl rfl rfl rfl ?_
        obtain ⟨x6, hx6, h⟩ := zgi h
        refine zr_lld (l := (zB S4 11)) rfl rfl (zmB 11 rfl rfl (l := (zB S4 11)) rfl) hx6 ?_
        obtain ⟨x7, S8, hc9, h⟩ := zbi h
        refine zt_Si rfl rfl (by decide) rfl rfl ⟨rfl, yle rfl, yle rfl⟩ (m := 5) rfl ⟨by omega, by omega⟩ (tcP_find_63_86 hG0 hG (by omega) (by omega) hc9) (fr1 := fr - 1) (lo1 := lo - 24) ?_
        refine xt_pure rfl rfl rfl (L1 := [_, _, _, _, _]) rfl ?_
        refine xt_pure rfl rfl rfl rfl ?_
        refine xt_getf rfl rfl (xmC 138 rfl) ?_
        refine xt_pure rfl rfl rfl rfl ?_
        obtain ⟨x10, hx10, h⟩ := zgi h
        refine zr_ild (l := (zA S8 12)) rfl rfl (zmA 12 rfl rfl (l := (zA S8 12)) rfl) hx10 ?_
        refine xt_pure rfl rfl rfl (L1 := [_, _, _, _, _]) rfl ?_
        refine xt_pure rfl rfl rfl rfl ?_
        refine xt_pure rfl rfl rfl (st1 := .int (-9) :: _) rfl ?_
        refine xt_ic rfl rfl (fun hb => ?_) (fun hb => ?_)
        · replace h := zif_t (p := x3 = ((-9) : Int32)) hb h
          refine xt_pure rfl rfl rfl rfl ?_
          refine xt_pure rfl rfl rfl (st1 := .int (-9) :: _) rfl ?_
          refine xt_ic rfl rfl (fun hb => ?_) (fun hb => ?_)
          · replace h := zif_t (p := x7 = ((-9) : Int32)) hb h
            refine xt_pure rfl rfl rfl rfl ?_
            refine xt_pure rfl rfl rfl rfl ?_
            refine xt_getf rfl rfl (xmC 136 rfl) ?_
            refine xt_pure rfl rfl rfl rfl ?_
            obtain ⟨x11, hx11, h⟩ := zgi h
            refine zr_ild (l := (zA S8 10)) rfl rfl (zmA 10 rfl rfl (l := (zA S8 10)) rfl) hx11 ?_
            refine zt_pI 6 rfl rfl rfl rfl rfl rfl ?_
            refine xt_pure rfl rfl rfl (L1 := [_, some (.int (_ + 1)), _, _, _]) rfl ?_
            refine xt_pure rfl rfl rfl rfl ?_
            exact ih h
          · replace h := zif_f (p := x7 = ((-9) : Int32)) hb h
            refine xt_pure rfl rfl rfl rfl ?_
            refine xt_getf rfl rfl (zmr hG0) ?_
            refine xt_pure rfl rfl rfl rfl ?_
            obtain ⟨x12, S13, hc14, h⟩ := zbi h
            refine zt_Vi rfl rfl rfl rfl (zmr (ymm hG 0 rfl)) ⟨rfl, rfl, yle rfl, yle rfl⟩ (m := 2) rfl ⟨by omega, by omega⟩ (tcP_isAnswered hG0 hG (by omega) (by omega) hc14) (fr1 := fr - 1) (lo1 := lo - 21) ?_
            refine xt_if rfl rfl (fun hb => ?_) (fun hb => ?_)
            · replace h := zif_t (p := x12 = (0 : Int32)) hb h
              refine xt_pure rfl rfl rfl rfl ?_
              refine xt_pure rfl rfl rfl rfl ?_
              refine xt_getf rfl rfl (xmC 136 rfl) ?_
              refine xt_pure rfl rfl rfl rfl ?_
              obtain ⟨x15, hx15, h⟩ := zgi h
              refine zr_ild (l := (zA S13 10)) rfl rfl (zmA 10 rfl rfl (l := (zA S13 10)) rfl) hx15 ?_
              refine zt_pI 6 rfl rfl rfl rfl rfl rfl ?_
              refine xt_pure rfl rfl rfl (L1 := [_, some (.int (_ + 1)), _, _, _]) rfl ?_
              refine xt_pure rfl rfl rfl rfl ?_
              exact ih h
            · replace h := zif_f (p := x12 = (0 : Int32)) hb h
              refine xt_pure rfl rfl rfl rfl ?_
              refine xt_getf rfl rfl (zmr hG0) ?_
              refine xt_getf rfl rfl (zmr (ymm hG 11 rfl)) ?_
              refine xt_pure rfl rfl rfl rfl ?_
              refine xt_pure rfl rfl rfl rfl ?_
              obtain ⟨x16, hx16, h⟩ := zgi h
              refine zr_ild (l := (zA S13 31)) rfl rfl (zmA 31 rfl rfl (l := (zA S13 31)) rfl) hx16 ?_
              refine xt_pure rfl rfl rfl rfl ?_
              refine xt_pure rfl rfl rfl (st1 := .int 8 :: _) rfl ?_
              refine xt_pure rfl rfl rfl rfl ?_
              refine xt_pure rfl rfl rfl rfl ?_
              obtain ⟨hg, h⟩ := zgd h
              refine zt_ist 31 rfl rfl rfl rfl (l := (zA S13 31)) rfl hg ?_
              refine xt_pure rfl rfl rfl rfl ?_
              refine xt_pure rfl rfl rfl (L1 := [_, some (.int (_ + 1)), _, _, _]) rfl ?_
              refine xt_pure rfl rfl rfl rfl ?_
              exact ih h
        · replace h := zif_f (p := x3 = ((-9) : Int32)) hb h
          refine xt_pure rfl rfl rfl rfl ?_
          refine xt_getf rfl rfl (zmr hG0) ?_
          refine xt_getf rfl rfl (zmr (ymm hG 10 rfl)) ?_
          refine xt_pure rfl rfl rfl rfl ?_
          refine xt_pure rfl rfl rfl (st1 := .int 2 :: _) rfl ?_
          obtain ⟨hg, h⟩ := zgd h
          refine zt_ist 30 rfl rfl rfl rfl (l := (zA S8 30)) rfl hg ?_
          refine xt_pure rfl rfl rfl rfl ?_
          refine xt_getf rfl rfl (zmr hG0) ?_
          refine xt_getf rfl rfl (zmr (ymm hG 11 rfl)) ?_
          refine xt_pure rfl rfl rfl rfl ?_
          refine xt_pure rfl rfl rfl rfl ?_
          obtain ⟨hg, h⟩ := zgd h
          refine zt_ist 31 rfl rfl rfl rfl (l := (zA S8 31)) rfl hg ?_
          refine xt_pure rfl rfl rfl rfl ?_
          refine xt_pure rfl rfl rfl (L1 := [_, some (.int (_ + 1)), _, _, _]) rfl ?_
          refine xt_pure rfl rfl rfl rfl ?_
          exact ih h
def cP_findNames  (N : Nat)  (S : zS) : Option (Unit × zS) := cP_findNames_2 N N 0 S
theorem tcP_findNames {X : List Int32} {D0 : List xE} {a : Nat} {p : Nat → Nat} (hG0 : ((85, .inl (7, 1, .ref a)) : xE) ∈ D0) (hG : ∀ e ∈ zgP a p, e ∈ D0)  {N fr lo : Nat} (hf : 1 ≤ fr) (hl : 24 ≤ lo)  {S S2 : zS} {r : Unit}  (h : cP_findNames N  S = some (r, S2)) : yK X fr lo 84 [.ref 85] (zD zTP (zaP a p) S D0) 0 0 (zQv zTP (zaP a p) D0 r S2) := by
  unfold cP_findNames at h
  refine yK.of rfl (yle rfl) (L := [_, _, _, _, _]) rfl ?_
  refine xt_pure rfl rfl rfl (st1 := .int 0 :: _) rfl ?_
  refine xt_pure rfl rfl rfl (L1 := [_, _, _, _, _]) rfl ?_
  exact tcP_findNames_2 hG0 hG hf hl h
