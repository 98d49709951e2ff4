/-! MIRRORS: the reader, exps -/
def cP_readBetween (rc66 : Int32 → Int32 → zS → Option (Unit × zS)) (rc67 : Int32 → zS → Option (Unit × zS))  (N : Nat) (v1 : Int32) (S : zS) : Option (Unit × zS) := (zb (cP_enter N v1 S) fun _ S2 => (zb (cP_next N  S2) fun _ S5 => (if (zI S5 6) ≠ ((-9) : Int32) then some ((), S5) else (zb (rc66 0 (v1 + 1) S5) fun _ S8 => some ((), S8)))))
theorem tcP_readBetween {X : List Int32} {D0 : List xE} {a : Nat} {p : Nat → Nat} (hG0 : ((85, .inl (7, 1, .ref a)) : xE) ∈ D0) (hG : ∀ e ∈ zgP a p, e ∈ D0) {fr0 lo0 : Nat} {rc66 : Int32 → Int32 → zS → Option (Unit × zS)} (hrc66 : ∀ {b0 : Int32} {b1 : Int32} {S S2 : zS} {r : Unit}, rc66 b0 b1 S = some (r, S2) → yK X fr0 lo0 66 [.ref 85, .int b0, .int b1] (zD zTP (zaP a p) S D0) 0 0 (zQv zTP (zaP a p) D0 r S2)) {rc67 : Int32 → zS → Option (Unit × zS)} (hrc67 : ∀ {b0 : Int32} {S S2 : zS} {r : Unit}, rc67 b0 S = some (r, S2) → yK X fr0 lo0 67 [.ref 85, .int b0] (zD zTP (zaP a p) S D0) 0 0 (zQv zTP (zaP a p) D0 r S2))  {N fr lo : Nat} (hf0 : fr0 + 1 ≤ fr) (hl0 : lo0 + 26 ≤ lo) (hf : 2 ≤ fr) (hl : 41 ≤ lo) {v1 : Int32} {S S2 : zS} {r : Unit}  (h : cP_readBetween rc66 rc67 N v1 S = some (r, S2)) : yK X fr lo 73 [.ref 85, .int v1] (zD zTP (zaP a p) S D0) 0 0 (zQv zTP (zaP a p) D0 r S2) := by
  unfold cP_readBetween at h
  refine yK.of rfl (yle rfl) (L := [_, _]) rfl ?_
  refine xt_pure rfl rfl rfl rfl ?_
  refine xt_pure rfl rfl rfl rfl ?_
  obtain ⟨_, S2, hc3, h⟩ := zbi h
  refine zt_Vv rfl rfl rfl rfl (xmC 133 rfl) ⟨rfl, rfl, yle rfl, yle rfl⟩ (m := 2) rfl ⟨by omega, by omega⟩ (tcP_enter hG0 hG (by omega) (by omega) hc3) (fr1 := fr - 1) (lo1 := lo - 21) ?_
  refine xt_pure rfl rfl rfl rfl ?_
  obtain ⟨_, S5, hc6, h⟩ := zbi h
  refine zt_Vv rfl rfl rfl rfl (xmC 133 rfl) ⟨rfl, rfl, yle rfl, yle rfl⟩ (m := 1) rfl ⟨by omega, by omega⟩ (tcP_next hG0 hG (by omega) (by omega) hc6) (fr1 := fr - 1) (lo1 := lo - 20) ?_
  refine xt_pure rfl rfl rfl rfl ?_
  refine zt_gI 6 rfl rfl rfl rfl (x := (zI S5 6)) rfl ?_
  refine xt_pure rfl rfl rfl (st1 := .int (-9) :: _) rfl ?_
  refine xt_ic rfl rfl (fun hb => ?_) (fun hb => ?_)
  · replace h := zif_t (p := (zI S5 6) ≠ ((-9) : Int32)) hb h
    cases h
    exact xt_vret rfl rfl rfl ⟨rfl, rfl⟩
  · replace h := zif_f (p := (zI S5 6) ≠ ((-9) : Int32)) hb h
    refine xt_pure rfl rfl rfl rfl ?_
    refine xt_pure rfl rfl rfl (st1 := .int 0 :: _) rfl ?_
    refine xt_pure rfl rfl rfl rfl ?_
    refine xt_pure rfl rfl rfl (st1 := .int 1 :: _) rfl ?_
    refine xt_pure rfl rfl rfl rfl ?_
    obtain ⟨_, S8, hc9, h⟩ := zbi h
    refine zt_Vv rfl rfl rfl rfl (xmC 133 rfl) ⟨rfl, rfl, yle rfl, yle rfl⟩ (m := 7) rfl ⟨by omega, by omega⟩ (hrc66 hc9) (fr1 := fr0) (lo1 := lo0) ?_
    cases h
    exact xt_vret rfl rfl rfl ⟨rfl, rfl⟩
def cP_readTry (rc66 : Int32 → Int32 → zS → Option (Unit × zS)) (rc67 : Int32 → zS → Option (Unit × zS))  (N : Nat) (v1 : Int32) (S : zS) : Option (Unit × zS) := (zb (cP_enter N v1 S) fun _ S2 => (zb (cP_node N  S2) fun _ S5 => (zb (cP_next N  S5) fun _ S8 => (if (zI S8 6) = ((-9) : Int32) then (zb (cP_emit N 5 0 S8) fun x10 S11 => (zb (rc67 (v1 + 1) S11) fun _ S14 => (zb (cP_emit N 6 0 S14) fun x16 S17 => (if zok (zA S17 31) x10 then (zb (cP_want N 227 (zsA S17 31 (zs (zA S17 31) x10 (zI S17 32)))) fun _ S20 => (zb (rc67 (v1 + 1) S20) fun _ S23 => (if zok (zA S23 31) x16 then some ((), (zsA S23 31 (zs (zA S23 31) x16 (zI S23 32)))) else none))) else none)))) else some ((), S8)))))
theorem tcP_readTry {X : List Int32} {D0 : List xE} {a : Nat} {p : Nat → Nat} (hG0 : ((85, .inl (7, 1, .ref a)) : xE) ∈ D0) (hG : ∀ e ∈ zgP a p, e ∈ D0) {fr0 lo0 : Nat} {rc66 : Int32 → Int32 → zS → Option (Unit × zS)} (hrc66 : ∀ {b0 : Int32} {b1 : Int32} {S S2 : zS} {r : Unit}, rc66 b0 b1 S = some (r, S2) → yK X fr0 lo0 66 [.ref 85, .int b0, .int b1] (zD zTP (zaP a p) S D0) 0 0 (zQv zTP (zaP a p) D0 r S2)) {rc67 : Int32 → zS → Option (Unit × zS)} (hrc67 : ∀ {b0 : Int32} {S S2 : zS} {r : Unit}, rc67 b0 S = some (r, S2) → yK X fr0 lo0 67 [.ref 85, .int b0] (zD zTP (zaP a p) S D0) 0 0 (zQv zTP (zaP a p) D0 r S2))  {N fr lo : Nat} (hf0 : fr0 + 1 ≤ fr) (hl0 : lo0 + 22 ≤ lo) (hf : 2 ≤ fr) (hl : 123 ≤ lo) {v1 : Int32} {S S2 : zS} {r : Unit}  (h : cP_readTry rc66 rc67 N v1 S = some (r, S2)) : yK X fr lo 76 [.ref 85, .int v1] (zD zTP (zaP a p) S D0) 0 0 (zQv zTP (zaP a p) D0 r S2) := by
  unfold cP_readTry at h
  refine yK.of rfl (yle rfl) (L := [_, _, _, _]) rfl ?_
  refine xt_pure rfl rfl rfl rfl ?_
  refine xt_pure rfl rfl rfl rfl ?_
  obtain ⟨_, S2, hc3, h⟩ := zbi h
  refine zt_Vv rfl rfl rfl rfl (xmC 133 rfl) ⟨rfl, rfl, yle rfl, yle rfl⟩ (m := 2) rfl ⟨by omega, by omega⟩ (tcP_enter hG0 hG (by omega) (by omega) hc3) (fr1 := fr - 1) (lo1 := lo - 21) ?_
  refine xt_pure rfl rfl rfl rfl ?_
  obtain ⟨_, S5, hc6, h⟩ := zbi h
  refine zt_Vv rfl rfl rfl rfl (xmC 133 rfl) ⟨rfl, rfl, yle rfl, yle rfl⟩ (m := 1) rfl ⟨by omega, by omega⟩ (tcP_node hG0 hG (by omega) (by omega) hc6) (fr1 := fr - 1) (lo1 := lo - 20) ?_
  refine xt_pure rfl rfl rfl rfl ?_
  obtain ⟨_, S8, hc9, h⟩ := zbi h
  refine zt_Vv rfl rfl rfl rfl (xmC 133 rfl) ⟨rfl, rfl, yle rfl, yle rfl⟩ (m := 1) rfl ⟨by omega, by omega⟩ (tcP_next hG0 hG (by omega) (by omega) hc9) (fr1 := fr - 1) (lo1 := lo - 20) ?_
  refine xt_pure rfl rfl rfl rfl ?_
  refine zt_gI 6 rfl rfl rfl rfl (x := (zI S8 6)) rfl ?_
  refine xt_pure rfl rfl rfl (st1 := .int (-9) :: _) rfl ?_
  refine xt_ic rfl rfl (fun hb => ?_) (fun hb => ?_)
  · replace h := zif_t (p := (zI S8 6) = ((-9) : Int32)) hb h
    refine xt_pure rfl rfl rfl rfl ?_
    refine xt_getf rfl rfl (zmr hG0) ?_
    refine xt_pure rfl rfl rfl (st1 := .int 5 :: _) rfl ?_
    refine xt_pure rfl rfl rfl (st1 := .int 0 :: _) rfl ?_
    obtain ⟨x10, S11, hc12, h⟩ := zbi h
    refine zt_Vi rfl rfl rfl rfl (zmr (ymm hG 0 rfl)) ⟨rfl, rfl, yle rfl, yle rfl⟩ (m := 4) rfl ⟨by omega, by omega⟩ (tcP_emit hG0 hG (by omega) (by omega) hc12) (fr1 := fr - 1) (lo1 := lo - 23) ?_
    refine xt_pure rfl rfl rfl (L1 := [_, _, _, _]) rfl ?_
    refine xt_pure rfl rfl rfl rfl ?_
    refine xt_pure rfl rfl rfl rfl ?_
    refine xt_pure rfl rfl rfl (st1 := .int 1 :: _) rfl ?_
    refine xt_pure rfl rfl rfl rfl ?_
    obtain ⟨_, S14, hc15, h⟩ := zbi h
    refine zt_Vv rfl rfl rfl rfl (xmC 133 rfl) ⟨rfl, rfl, yle rfl, yle rfl⟩ (m := 3) rfl ⟨by omega, by omega⟩ (hrc67 hc15) (fr1 := fr0) (lo1 := lo0) ?_
    refine xt_pure rfl rfl rfl rfl ?_
    refine xt_getf rfl rfl (zmr hG0) ?_
    refine xt_pure rfl rfl rfl (st1 := .int 6 :: _) rfl ?_
    refine xt_pure rfl rfl rfl (st1 := .int 0 :: _) rfl ?_
    obtain ⟨x16, S17, hc18, h⟩ := zbi h
    refine zt_Vi rfl rfl rfl rfl (zmr (ymm hG 0 rfl)) ⟨rfl, rfl, yle rfl, yle rfl⟩ (m := 4) rfl ⟨by omega, by omega⟩ (tcP_emit hG0 hG (by omega) (by omega) hc18) (fr1 := fr - 1) (lo1 := lo - 23) ?_
    refine xt_pure rfl rfl rfl (L1 := [_, _, _, _]) rfl ?_
    refine xt_pure rfl rfl rfl rfl ?_
    refine xt_getf rfl rfl (zmr hG0) ?_
    refine xt_getf rfl rfl (zmr (ymm hG 11 rfl)) ?_
    refine xt_pure rfl rfl rfl rfl ?_
    refine xt_pure rfl rfl rfl rfl ?_
    refine xt_getf rfl rfl (zmr hG0) ?_
    refine zt_gI 32 rfl rfl rfl rfl (x := (zI S17 32)) rfl ?_
    obtain ⟨hg, h⟩ := zgd h
    refine zt_ist 31 rfl rfl rfl rfl (l := (zA S17 31)) rfl hg ?_
    refine xt_pure rfl rfl rfl rfl ?_
    refine xt_pure rfl rfl rfl (st1 := .int 227 :: _) rfl ?_
    obtain ⟨_, S20, hc21, h⟩ := zbi h
    refine zt_Vv rfl rfl rfl rfl (xmC 133 rfl) ⟨rfl, rfl, yle rfl, yle rfl⟩ (m := 2) rfl ⟨by omega, by omega⟩ (tcP_want hG0 hG (by omega) (by omega) hc21) (fr1 := fr - 1) (lo1 := lo - 21) ?_
    refine xt_pure rfl rfl rfl rfl ?_
    refine xt_pure rfl rfl rfl rfl ?_
    refine xt_pure rfl rfl rfl (st1 := .int 1 :: _) rfl ?_
    refine xt_pure rfl rfl rfl rfl ?_
    obtain ⟨_, S23, hc24, h⟩ := zbi h
    refine zt_Vv rfl rfl rfl rfl (xmC 133 rfl) ⟨rfl, rfl, yle rfl, yle rfl⟩ (m := 3) rfl ⟨by omega, by omega⟩ (hrc67 hc24) (fr1 := fr0) (lo1 := lo0) ?_
    refine xt_pure rfl rfl rfl rfl ?_
    refine xt_getf rfl rfl (zmr hG0) ?_
    refine xt_getf rfl rfl (zmr (ymm hG 11 rfl)) ?_
    refine xt_pure rfl rfl rfl rfl ?_
    refine xt_pure rfl rfl rfl rfl ?_
    refine xt_getf rfl rfl (zmr hG0) ?_
    refine zt_gI 32 rfl rfl rfl rfl (x := (zI S23 32)) rfl ?_
    obtain ⟨hg, h⟩ := zgd h
    refine zt_ist 31 rfl rfl rfl rfl (l := (zA S23 31)) rfl hg ?_
    cases h
    exact xt_vret rfl rfl rfl ⟨rfl, rfl⟩
  · replace h := zif_f (p := (zI S8 6) = ((-9) : Int32)) hb h
    cases h
    exact xt_vret rfl rfl rfl ⟨rfl, rfl⟩
def cP_readAsked_13 (rc66 : Int32 → Int32 → zS → Option (Unit × zS)) (rc67 : Int32 → zS → Option (Unit × zS))  (N : Nat)  (l1 : Int32) (l2 : Int32) (l3 : Int32) (s0 : Int32) (S : zS) : Option (Unit × zS) := (zb (cP_node N  S) fun _ S8 => (zb (cP_readUse N 0 S8) fun x10 S11 => (if l1 ≠ (11 : Int32) then (zb (cP_emit N l3 s0 S11) fun x13 S14 => (if zok (zA S14 12) x10 then some ((), (zsA S14 12 (zs (zA S14 12) x10 x13))) else none)) else (zb (cP_sees N  S11) fun x16 S17 => (if x16 ≠ (91 : Int32) then (zb (cP_emit N l3 s0 S17) fun x19 S20 => (if zok (zA S20 12) x10 then some ((), (zsA S20 12 (zs (zA S20 12) x10 x19))) else none)) else (zb (cP_readBetween rc66 rc67 N l2 S17) fun _ S23 => (zb (cP_want N 93 S23) fun _ S26 => (zb (cP_emit N 14 s0 S26) fun x28 S29 => (if zok (zA S29 12) x10 then some ((), (zsA S29 12 (zs (zA S29 12) x10 x28))) else none)))))))))
theorem tcP_readAsked_13 {X : List Int32} {D0 : List xE} {a : Nat} {p : Nat → Nat} (hG0 : ((85, .inl (7, 1, .ref a)) : xE) ∈ D0) (hG : ∀ e ∈ zgP a p, e ∈ D0) {fr0 lo0 : Nat} {rc66 : Int32 → Int32 → zS → Option (Unit × zS)} (hrc66 : ∀ {b0 : Int32} {b1 : Int32} {S S2 : zS} {r : Unit}, rc66 b0 b1 S = some (r, S2) → yK X fr0 lo0 66 [.ref 85, .int b0, .int b1] (zD zTP (zaP a p) S D0) 0 0 (zQv zTP (zaP a p) D0 r S2)) {rc67 : Int32 → zS → Option (Unit × zS)} (hrc67 : ∀ {b0 : Int32} {S S2 : zS} {r : Unit}, rc67 b0 S = some (r, S2) → yK X fr0 lo0 67 [.ref 85, .int b0] (zD zTP (zaP a p) S D0) 0 0 (zQv zTP (zaP a p) D0 r S2))  {N fr lo : Nat}   (hf0 : fr0 + 2 ≤ fr) (hl0 : lo0 + 47 ≤ lo) (hf : 3 ≤ fr) (hl : 123 ≤ lo) {l1 : Int32} {l2 : Int32} {l3 : Int32} {s0 : Int32}  {S S2 : zS} {r : Unit}  (h : cP_readAsked_13 rc66 rc67 N l1 l2 l3 s0 S = some (r, S2)) : yT X fr lo 74 13 [some (.ref 85), some (.int l1), some (.int l2), some (.int l3), none, none] [.int s0] (zD zTP (zaP a p) S D0) 0 0 (zQv zTP (zaP a p) D0 r S2) := by
  unfold cP_readAsked_13 at h
  refine xt_pure rfl rfl rfl (L1 := [_, _, _, _, _, _]) rfl ?_
  refine xt_pure rfl rfl rfl rfl ?_
  obtain ⟨_, S8, hc9, h⟩ := zbi h
  refine zt_Vv rfl rfl rfl rfl (xmC 133 rfl) ⟨rfl, rfl, yle rfl, yle rfl⟩ (m := 1) rfl ⟨by omega, by omega⟩ (tcP_node hG0 hG (by omega) (by omega) hc9) (fr1 := fr - 1) (lo1 := lo - 20) ?_
  refine xt_pure rfl rfl rfl rfl ?_
  refine xt_pure rfl rfl rfl (st1 := .int 0 :: _) rfl ?_
  obtain ⟨x10, S11, hc12, h⟩ := zbi h
  refine zt_Vi rfl rfl rfl rfl (xmC 133 rfl) ⟨rfl, rfl, yle rfl, yle rfl⟩ (m := 3) rfl ⟨by omega, by omega⟩ (tcP_readUse hG0 hG (by omega) (by omega) hc12) (fr1 := fr - 1) (lo1 := lo - 22) ?_
  refine xt_pure rfl rfl rfl (L1 := [_, _, _, _, _, _]) rfl ?_
  refine xt_pure rfl rfl rfl rfl ?_
  refine xt_pure rfl rfl rfl (st1 := .int 11 :: _) rfl ?_
  refine xt_ic rfl rfl (fun hb => ?_) (fun hb => ?_)
  · replace h := zif_t (p := l1 ≠ (11 : Int32)) hb h
    refine xt_pure rfl rfl rfl rfl ?_
    refine xt_getf rfl rfl (xmC 138 rfl) ?_
    refine xt_pure rfl rfl rfl rfl ?_
    refine xt_pure rfl rfl rfl rfl ?_
    refine xt_getf rfl rfl (zmr hG0) ?_
    refine xt_pure rfl rfl rfl rfl ?_
    refine xt_pure rfl rfl rfl rfl ?_
    obtain ⟨x13, S14, hc15, h⟩ := zbi h
    refine zt_Vi rfl rfl rfl rfl (zmr (ymm hG 0 rfl)) ⟨rfl, rfl, yle rfl, yle rfl⟩ (m := 4) rfl ⟨by omega, by omega⟩ (tcP_emit hG0 hG (by omega) (by omega) hc15) (fr1 := fr - 1) (lo1 := lo - 23) ?_
    obtain ⟨hg, h⟩ := zgd h
    refine zt_ist 12 rfl rfl rfl rfl (l := (zA S14 12)) rfl hg ?_
    cases h
    exact xt_vret rfl rfl rfl ⟨rfl, rfl⟩
  · replace h := zif_f (p := l1 ≠ (11 : Int32)) hb h
    refine xt_pure rfl rfl rfl rfl ?_
    obtain ⟨x16, S17, hc18, h⟩ := zbi h
    refine zt_Vi rfl rfl rfl rfl (xmC 133 rfl) ⟨rfl, rfl, yle rfl, yle rfl⟩ (m := 1) rfl ⟨by omega, by omega⟩ (tcP_sees hG0 hG (by omega) (by omega) hc18) (fr1 := fr - 1) (lo1 := lo - 20) ?_
    refine xt_pure rfl rfl rfl (st1 := .int 91 :: _) rfl ?_
    refine xt_ic rfl rfl (fun hb => ?_) (fun hb => ?_)
    · replace h := zif_t (p := x16 ≠ (91 : Int32)) hb h
      refine xt_pure rfl rfl rfl rfl ?_
      refine xt_getf rfl rfl (xmC 138 rfl) ?_
      refine xt_pure rfl rfl rfl rfl ?_
      refine xt_pure rfl rfl rfl rfl ?_
      refine xt_getf rfl rfl (zmr hG0) ?_
      refine xt_pure rfl rfl rfl rfl ?_
      refine xt_pure rfl rfl rfl rfl ?_
      obtain ⟨x19, S20, hc21, h⟩ := zbi h
      refine zt_Vi rfl rfl rfl rfl (zmr (ymm hG 0 rfl)) ⟨rfl, rfl, yle rfl, yle rfl⟩ (m := 4) rfl ⟨by omega, by omega⟩ (tcP_emit hG0 hG (by omega) (by omega) hc21) (fr1 := fr - 1) (lo1 := lo - 23) ?_
      obtain ⟨hg, h⟩ := zgd h
      refine zt_ist 12 rfl rfl rfl rfl (l := (zA S20 12)) rfl hg ?_
      cases h
      exact xt_vret rfl rfl rfl ⟨rfl, rfl⟩
    · replace h := zif_f (p := x16 ≠ (91 : Int32)) hb h
      refine xt_pure rfl rfl rfl rfl ?_
      refine xt_pure rfl rfl rfl rfl ?_
      obtain ⟨_, S23, hc24, h⟩ := zbi h
      refine zt_Vv rfl rfl rfl rfl (xmC 133 rfl) ⟨rfl, rfl, yle rfl, yle rfl⟩ (m := 2) rfl ⟨by omega, by omega⟩ (tcP_readBetween hG0 hG hrc66 hrc67 (by omega) (by omega) (by omega) (by omega) hc24) (fr1 := fr - 1) (lo1 := lo - 21) ?_
      refine xt_pure rfl rfl rfl rfl ?_
      refine xt_pure rfl rfl rfl (st1 := .int 93 :: _) rfl ?_
      obtain ⟨_, S26, hc27, h⟩ := zbi h
      refine zt_Vv rfl rfl rfl rfl (xmC 133 rfl) ⟨rfl, rfl, yle rfl, yle rfl⟩ (m := 2) rfl ⟨by omega, by omega⟩ (tcP_want hG0 hG (by omega) (by omega) hc27) (fr1 := fr - 1) (lo1 := lo - 21) ?_
      refine xt_pure rfl rfl rfl (st1 := .int 14 :: _) rfl ?_
      refine xt_pure rfl rfl rfl (L1 := [_, _, _, _, _, _]) rfl ?_
      refine xt_pure rfl rfl rfl rfl ?_
      refine xt_getf rfl rfl (xmC 138 rfl) ?_
      refine xt_pure rfl rfl rfl rfl ?_
      refine xt_pure rfl rfl rfl rfl ?_
      refine xt_getf rfl rfl (zmr hG0) ?_
      refine xt_pure rfl rfl rfl rfl ?_
      refine xt_pure rfl rfl rfl rfl ?_
      obtain ⟨x28, S29, hc30, h⟩ := zbi h
      refine zt_Vi rfl rfl rfl rfl (zmr (ymm hG 0 rfl)) ⟨rfl, rfl, yle rfl, yle rfl⟩ (m := 4) rfl ⟨by omega, by omega⟩ (tcP_emit hG0 hG (by omega) (by omega) hc30) (fr1 := fr - 1) (lo1 := lo - 23) ?_
      obtain ⟨hg, h⟩ := zgd h
      refine zt_ist 12 rfl rfl rfl rfl (l := (zA S29 12)) rfl hg ?_
      cases h
      exact xt_vret rfl rfl rfl ⟨rfl, rfl⟩
def cP_readAsked (rc66 : Int32 → Int32 → zS → Option (Unit × zS)) (rc67 : Int32 → zS → Option (Unit × zS))  (N : Nat) (v1 : Int32) (v2 : Int32) (S : zS) : Option (Unit × zS) := (zb (cP_node N  S) fun _ S2 => (zb (cP_next N  S2) fun _ S5 => (if v1 ≠ (10 : Int32) then cP_readAsked_13 rc66 rc67 N v1 v2 v1 0 S5 else (zb (cP_readSort N  S5) fun x31 S32 => cP_readAsked_13 rc66 rc67 N v1 v2 v1 x31 S32))))
theorem tcP_readAsked {X : List Int32} {D0 : List xE} {a : Nat} {p : Nat → Nat} (hG0 : ((85, .inl (7, 1, .ref a)) : xE) ∈ D0) (hG : ∀ e ∈ zgP a p, e ∈ D0) {fr0 lo0 : Nat} {rc66 : Int32 → Int32 → zS → Option (Unit × zS)} (hrc66 : ∀ {b0 : Int32} {b1 : Int32} {S S2 : zS} {r : Unit}, rc66 b0 b1 S = some (r, S2) → yK X fr0 lo0 66 [.ref 85, .int b0, .int b1] (zD zTP (zaP a p) S D0) 0 0 (zQv zTP (zaP a p) D0 r S2)) {rc67 : Int32 → zS → Option (Unit × zS)} (hrc67 : ∀ {b0 : Int32} {S S2 : zS} {r : Unit}, rc67 b0 S = some (r, S2) → yK X fr0 lo0 67 [.ref 85, .int b0] (zD zTP (zaP a p) S D0) 0 0 (zQv zTP (zaP a p) D0 r S2))  {N fr lo : Nat} (hf0 : fr0 + 2 ≤ fr) (hl0 : lo0 + 47 ≤ lo) (hf : 3 ≤ fr) (hl : 123 ≤ lo) {v1 : Int32} {v2 : Int32} {S S2 : zS} {r : Unit}  (h : cP_readAsked rc66 rc67 N v1 v2 S = some (r, S2)) : yK X fr lo 74 [.ref 85, .int v1, .int v2] (zD zTP (zaP a p) S D0) 0 0 (zQv zTP (zaP a p) D0 r S2) := by
  unfold cP_readAsked at h
  refine yK.of rfl (yle rfl) (L := [_, _, _, _, _, _]) rfl ?_
  refine xt_pure rfl rfl rfl rfl ?_
  refine xt_pure rfl rfl rfl (L1 := [_, _, _, _, _, _]) rfl ?_
  refine xt_pure rfl rfl rfl rfl ?_
  obtain ⟨_, S2, hc3, h⟩ := zbi h
  refine zt_Vv rfl rfl rfl rfl (xmC 133 rfl) ⟨rfl, rfl, yle rfl, yle rfl⟩ (m := 1) rfl ⟨by omega, by omega⟩ (tcP_node hG0 hG (by omega) (by omega) hc3) (fr1 := fr - 1) (lo1 := lo - 20) ?_
  refine xt_pure rfl rfl rfl rfl ?_
  obtain ⟨_, S5, hc6, h⟩ := zbi h
  refine zt_Vv rfl rfl rfl rfl (xmC 133 rfl) ⟨rfl, rfl, yle rfl, yle rfl⟩ (m := 1) rfl ⟨by omega, by omega⟩ (tcP_next hG0 hG (by omega) (by omega) hc6) (fr1 := fr - 1) (lo1 := lo - 20) ?_
  refine xt_pure rfl rfl rfl rfl ?_
  refine xt_pure rfl rfl rfl (st1 := .int 10 :: _) rfl ?_
  refine xt_ic rfl rfl (fun hb => ?_) (fun hb => ?_)
  · replace h := zif_t (p := v1 ≠ (10 : Int32)) hb h
    refine xt_pure rfl rfl rfl (st1 := .int 0 :: _) rfl ?_
    exact tcP_readAsked_13 hG0 hG hrc66 hrc67 hf0 hl0 hf hl h
  · replace h := zif_f (p := v1 ≠ (10 : Int32)) hb h
    refine xt_pure rfl rfl rfl rfl ?_
    obtain ⟨x31, S32, hc33, h⟩ := zbi h
    refine zt_Vi rfl rfl rfl rfl (xmC 133 rfl) ⟨rfl, rfl, yle rfl, yle rfl⟩ (m := 2) rfl ⟨by omega, by omega⟩ (tcP_readSort hG0 hG (by omega) (by omega) hc33) (fr1 := fr - 1) (lo1 := lo - 21) ?_
    refine xt_pure rfl rfl rfl rfl ?_
    exact tcP_readAsked_13 hG0 hG hrc66 hrc67 hf0 hl0 hf hl h
def cP_readNamed (rc66 : Int32 → Int32 → zS → Option (Unit × zS)) (rc67 : Int32 → zS → Option (Unit × zS))  (N : Nat) (v1 : Int32) (S : zS) : Option (Unit × zS) := (zb (cP_node N  S) fun _ S2 => (zb (cP_readUse N (zI S2 22) S2) fun x4 S5 => (zb (cP_sees N  S5) fun x7 S8 => (if x7 ≠ (91 : Int32) then (zb (cP_emit N 7 0 S8) fun x10 S11 => (if zok (zA S11 12) x4 then some ((), (zsA S11 12 (zs (zA S11 12) x4 x10))) else none)) else (if zok (zA S8 13) x4 then (zb (cP_readBetween rc66 rc67 N v1 (zsA S8 13 (zs (zA S8 13) x4 0))) fun _ S14 => (zb (cP_sees N  S14) fun x16 S17 => (if x16 ≠ (44 : Int32) then (zb (cP_want N 93 S17) fun _ S20 => (zb (cP_emit N 12 0 S20) fun x22 S23 => (if zok (zA S23 12) x4 then some ((), (zsA S23 12 (zs (zA S23 12) x4 x22))) else none))) else (zb (cP_next N  S17) fun _ S26 => (zb (rc66 0 (v1 + 1) S26) fun _ S29 => (zb (cP_want N 93 S29) fun _ S32 => (zb (cP_emit N 13 0 S32) fun x34 S35 => (if zok (zA S35 12) x4 then some ((), (zsA S35 12 (zs (zA S35 12) x4 x34))) else none)))))))) else none)))))
theorem tcP_readNamed {X : List Int32} {D0 : List xE} {a : Nat} {p : Nat → Nat} (hG0 : ((85, .inl (7, 1, .ref a)) : xE) ∈ D0) (hG : ∀ e ∈ zgP a p, e ∈ D0) {fr0 lo0 : Nat} {rc66 : Int32 → Int32 → zS → Option (Unit × zS)} (hrc66 : ∀ {b0 : Int32} {b1 : Int32} {S S2 : zS} {r : Unit}, rc66 b0 b1 S = some (r, S2) → yK X fr0 lo0 66 [.ref 85, .int b0, .int b1] (zD zTP (zaP a p) S D0) 0 0 (zQv zTP (zaP a p) D0 r S2)) {rc67 : Int32 → zS → Option (Unit × zS)} (hrc67 : ∀ {b0 : Int32} {S S2 : zS} {r : Unit}, rc67 b0 S = some (r, S2) → yK X fr0 lo0 67 [.ref 85, .int b0] (zD zTP (zaP a p) S D0) 0 0 (zQv zTP (zaP a p) D0 r S2))  {N fr lo : Nat} (hf0 : fr0 + 2 ≤ fr) (hl0 : lo0 + 47 ≤ lo) (hf : 3 ≤ fr) (hl : 123 ≤ lo) {v1 : Int32} {S S2 : zS} {r : Unit}  (h : cP_readNamed rc66 rc67 N v1 S = some (r, S2)) : yK X fr lo 71 [.ref 85, .int v1] (zD zTP (zaP a p) S D0) 0 0 (zQv zTP (zaP a p) D0 r S2) := by
  unfold cP_readNamed at h
  refine yK.of rfl (yle rfl) (L := [_, _, _, _]) rfl ?_
  refine xt_pure rfl rfl rfl rfl ?_
  obtain ⟨_, S2, hc3, h⟩ := zbi h
  refine zt_Vv rfl rfl rfl rfl (xmC 133 rfl) ⟨rfl, rfl, yle rfl, yle rfl⟩ (m := 1) rfl ⟨by omega, by omega⟩ (tcP_node hG0 hG (by omega) (by omega) hc3) (fr1 := fr - 1) (lo1 := lo - 20) ?_
  refine xt_pure rfl rfl rfl rfl ?_
  refine xt_pure rfl rfl rfl rfl ?_
  refine xt_getf rfl rfl (zmr hG0) ?_
  refine zt_gI 22 rfl rfl rfl rfl (x := (zI S2 22)) rfl ?_
  obtain ⟨x4, S5, hc6, h⟩ := zbi h
  refine zt_Vi rfl rfl rfl rfl (xmC 133 rfl) ⟨rfl, rfl, yle rfl, yle rfl⟩ (m := 3) rfl ⟨by omega, by omega⟩ (tcP_readUse hG0 hG (by omega) (by omega) hc6) (fr1 := fr - 1) (lo1 := lo - 22) ?_
  refine xt_pure rfl rfl rfl (L1 := [_, _, _, _]) rfl ?_
  refine xt_pure rfl rfl rfl (st1 := .int 7 :: _) rfl ?_
  refine xt_pure rfl rfl rfl (L1 := [_, _, _, _]) rfl ?_
  refine xt_pure rfl rfl rfl rfl ?_
  obtain ⟨x7, S8, hc9, h⟩ := zbi h
  refine zt_Vi rfl rfl rfl rfl (xmC 133 rfl) ⟨rfl, rfl, yle rfl, yle rfl⟩ (m := 1) rfl ⟨by omega, by omega⟩ (tcP_sees hG0 hG (by omega) (by omega) hc9) (fr1 := fr - 1) (lo1 := lo - 20) ?_
  refine xt_pure rfl rfl rfl (st1 := .int 91 :: _) rfl ?_
  refine xt_ic rfl rfl (fun hb => ?_) (fun hb => ?_)
  · replace h := zif_t (p := x7 ≠ (91 : Int32)) hb h
    refine xt_pure rfl rfl rfl rfl ?_
    refine xt_getf rfl rfl (xmC 138 rfl) ?_
    refine xt_pure rfl rfl rfl rfl ?_
    refine xt_pure rfl rfl rfl rfl ?_
    refine xt_getf rfl rfl (zmr hG0) ?_
    refine xt_pure rfl rfl rfl rfl ?_
    refine xt_pure rfl rfl rfl (st1 := .int 0 :: _) rfl ?_
    obtain ⟨x10, S11, hc12, h⟩ := zbi h
    refine zt_Vi rfl rfl rfl rfl (zmr (ymm hG 0 rfl)) ⟨rfl, rfl, yle rfl, yle rfl⟩ (m := 4) rfl ⟨by omega, by omega⟩ (tcP_emit hG0 hG (by omega) (by omega) hc12) (fr1 := fr - 1) (lo1 := lo - 23) ?_
    obtain ⟨hg, h⟩ := zgd h
    refine zt_ist 12 rfl rfl rfl rfl (l := (zA S11 12)) rfl hg ?_
    cases h
    exact xt_vret rfl rfl rfl ⟨rfl, rfl⟩
  · replace h := zif_f (p := x7 ≠ (91 : Int32)) hb h
    refine xt_pure rfl rfl rfl rfl ?_
    refine xt_getf rfl rfl (xmC 139 rfl) ?_
    refine xt_pure rfl rfl rfl rfl ?_
    refine xt_pure rfl rfl rfl (st1 := .int 0 :: _) rfl ?_
    obtain ⟨hg, h⟩ := zgd h
    refine zt_ist 13 rfl rfl rfl rfl (l := (zA S8 13)) rfl hg ?_
    refine xt_pure rfl rfl rfl rfl ?_
    refine xt_pure rfl rfl rfl rfl ?_
    obtain ⟨_, S14, hc15, h⟩ := zbi h
    refine zt_Vv rfl rfl rfl rfl (xmC 133 rfl) ⟨rfl, rfl, yle rfl, yle rfl⟩ (m := 2) rfl ⟨by omega, by omega⟩ (tcP_readBetween hG0 hG hrc66 hrc67 (by omega) (by omega) (by omega) (by omega) hc15) (fr1 := fr - 1) (lo1 := lo - 21) ?_
    refine xt_pure rfl rfl rfl (st1 := .int 12 :: _) rfl ?_
    refine xt_pure rfl rfl rfl (L1 := [_, _, _, _]) rfl ?_
    refine xt_pure rfl rfl rfl rfl ?_
    obtain ⟨x16, S17, hc18, h⟩ := zbi h
    refine zt_Vi rfl rfl rfl rfl (xmC 133 rfl) ⟨rfl, rfl, yle rfl, yle rfl⟩ (m := 1) rfl ⟨by omega, by omega⟩ (tcP_sees hG0 hG (by omega) (by omega) hc18) (fr1 := fr - 1) (lo1 := lo - 20) ?_
    refine xt_pure rfl rfl rfl (st1 := .int 44 :: _) rfl ?_
    refine xt_ic rfl rfl (fun hb => ?_) (fun hb => ?_)
    · replace h := zif_t (p := x16 ≠ (44 : Int32)) hb h
      refine xt_pure rfl rfl rfl rfl ?_
      refine xt_pure rfl rfl rfl (st1 := .int 93 :: _) rfl ?_
      obtain ⟨_, S20, hc21, h⟩ := zbi h
      refine zt_Vv rfl rfl rfl rfl (xmC 133 rfl) ⟨rfl, rfl, yle rfl, yle rfl⟩ (m := 2) rfl ⟨by omega, by omega⟩ (tcP_want hG0 hG (by omega) (by omega) hc21) (fr1 := fr - 1) (lo1 := lo - 21) ?_
      refine xt_pure rfl rfl rfl rfl ?_
      refine xt_getf rfl rfl (xmC 138 rfl) ?_
      refine xt_pure rfl rfl rfl rfl ?_
      refine xt_pure rfl rfl rfl rfl ?_
      refine xt_getf rfl rfl (zmr hG0) ?_
      refine xt_pure rfl rfl rfl rfl ?_
      refine xt_pure rfl rfl rfl (st1 := .int 0 :: _) rfl ?_
      obtain ⟨x22, S23, hc24, h⟩ := zbi h
      refine zt_Vi rfl rfl rfl rfl (zmr (ymm hG 0 rfl)) ⟨rfl, rfl, yle rfl, yle rfl⟩ (m := 4) rfl ⟨by omega, by omega⟩ (tcP_emit hG0 hG (by omega) (by omega) hc24) (fr1 := fr - 1) (lo1 := lo - 23) ?_
      obtain ⟨hg, h⟩ := zgd h
      refine zt_ist 12 rfl rfl rfl rfl (l := (zA S23 12)) rfl hg ?_
      cases h
      exact xt_vret rfl rfl rfl ⟨rfl, rfl⟩
    · replace h := zif_f (p := x16 ≠ (44 : Int32)) hb h
      refine xt_pure rfl rfl rfl rfl ?_
      obtain ⟨_, S26, hc27, h⟩ := zbi h
      refine zt_Vv rfl rfl rfl rfl (xmC 133 rfl) ⟨rfl, rfl, yle rfl, yle rfl⟩ (m := 1) rfl ⟨by omega, by omega⟩ (tcP_next hG0 hG (by omega) (by omega) hc27) (fr1 := fr - 1) (lo1 := lo - 20) ?_
      refine xt_pure rfl rfl rfl rfl ?_
      refine xt_pure rfl rfl rfl (st1 := .int 0 :: _) rfl ?_
      refine xt_pure rfl rfl rfl rfl ?_
      refine xt_pure rfl rfl rfl (st1 := .int 1 :: _) rfl ?_
      refine xt_pure rfl rfl rfl rfl ?_
      obtain ⟨_, S29, hc30, h⟩ := zbi h
      refine zt_Vv rfl rfl rfl rfl (xmC 133 rfl) ⟨rfl, rfl, yle rfl, yle rfl⟩ (m := 7) rfl ⟨by omega, by omega⟩ (hrc66 hc30) (fr1 := fr0) (lo1 := lo0) ?_
      refine xt_pure rfl rfl rfl (st1 := .int 13 :: _) rfl ?_
      refine xt_pure rfl rfl rfl (L1 := [_, _, _, _]) rfl ?_
      refine xt_pure rfl rfl rfl rfl ?_
      refine xt_pure rfl rfl rfl (st1 := .int 93 :: _) rfl ?_
      obtain ⟨_, S32, hc33, h⟩ := zbi h
      refine zt_Vv rfl rfl rfl rfl (xmC 133 rfl) ⟨rfl, rfl, yle rfl, yle rfl⟩ (m := 2) rfl ⟨by omega, by omega⟩ (tcP_want hG0 hG (by omega) (by omega) hc33) (fr1 := fr - 1) (lo1 := lo - 21) ?_
      refine xt_pure rfl rfl rfl rfl ?_
      refine xt_getf rfl rfl (xmC 138 rfl) ?_
      refine xt_pure rfl rfl rfl rfl ?_
      refine xt_pure rfl rfl rfl rfl ?_
      refine xt_getf rfl rfl (zmr hG0) ?_
      refine xt_pure rfl rfl rfl rfl ?_
      refine xt_pure rfl rfl rfl (st1 := .int 0 :: _) rfl ?_
      obtain ⟨x34, S35, hc36, h⟩ := zbi h
      refine zt_Vi rfl rfl rfl rfl (zmr (ymm hG 0 rfl)) ⟨rfl, rfl, yle rfl, yle rfl⟩ (m := 4) rfl ⟨by omega, by omega⟩ (tcP_emit hG0 hG (by omega) (by omega) hc36) (fr1 := fr - 1) (lo1 := lo - 23) ?_
      obtain ⟨hg, h⟩ := zgd h
      refine zt_ist 12 rfl rfl rfl rfl (l := (zA S35 12)) rfl hg ?_
      cases h
      exact xt_vret rfl rfl rfl ⟨rfl, rfl⟩
def cP_readBase (rc66 : Int32 → Int32 → zS → Option (Unit × zS)) (rc67 : Int32 → zS → Option (Unit × zS))  (N : Nat) (v1 : Int32) (S : zS) : Option (Unit × zS) := (zb (cP_sees N  S) fun x1 S2 => (if x1 = 2 then (zb (cP_node N  S2) fun _ S5 => (zg (gI (zB S5 4) (zI S5 5)) fun x7 => (zb (cP_emit N 1 x7.toInt32 S5) fun x8 S9 => (zb (cP_next N  S9) fun _ S12 => some ((), S12))))) else if x1 = 3 then (zb (cP_readNamed rc66 rc67 N v1 S2) fun _ S16 => some ((), S16)) else if x1 = 40 then (zb (cP_readBetween rc66 rc67 N v1 S2) fun _ S20 => (zb (cP_want N 41 S20) fun _ S23 => some ((), S23))) else if x1 = 222 then (zb (cP_readAsked rc66 rc67 N 8 v1 S2) fun _ S27 => some ((), S27)) else if x1 = 223 then (zb (cP_readAsked rc66 rc67 N 9 v1 S2) fun _ S31 => some ((), S31)) else if x1 = 224 then (zb (cP_readAsked rc66 rc67 N 10 v1 S2) fun _ S35 => some ((), S35)) else if x1 = 225 then (zb (cP_readAsked rc66 rc67 N 11 v1 S2) fun _ S39 => some ((), S39)) else if x1 = 226 then (zb (cP_readTry rc66 rc67 N v1 S2) fun _ S43 => some ((), S43)) else (zb (cP_refuse N  S2) fun _ S47 => some ((), S47))))
set_option maxRecDepth 20000 in
theorem tcP_readBase {X : List Int32} {D0 : List xE} {a : Nat} {p : Nat → Nat} (hG0 : ((85, .inl (7, 1, .ref a)) : xE) ∈ D0) (hG : ∀ e ∈ zgP a p, e ∈ D0) {fr0 lo0 : Nat} {rc66 : Int32 → Int32 → zS → Option (Unit × zS)} (hrc66 : ∀ {b0 : Int32} {b1 : Int32} {S S2 : zS} {r : Unit}, rc66 b0 b1 S = some (r, S2) → yK X fr0 lo0 66 [.ref 85, .int b0, .int b1] (zD zTP (zaP a p) S D0) 0 0 (zQv zTP (zaP a p) D0 r S2)) {rc67 : Int32 → zS → Option (Unit × zS)} (hrc67 : ∀ {b0 : Int32} {S S2 : zS} {r : Unit}, rc67 b0 S = some (r, S2) → yK X fr0 lo0 67 [.ref 85, .int b0] (zD zTP (zaP a p) S D0) 0 0 (zQv zTP (zaP a p) D0 r S2))  {N fr lo : Nat} (hf0 : fr0 + 3 ≤ fr) (hl0 : lo0 + 72 ≤ lo) (hf : 4 ≤ fr) (hl : 148 ≤ lo) {v1 : Int32} {S S2 : zS} {r : Unit}  (h : cP_readBase rc66 rc67 N v1 S = some (r, S2)) : yK X fr lo 68 [.ref 85, .int v1] (zD zTP (zaP a p) S D0) 0 0 (zQv zTP (zaP a p) D0 r S2) := by
  unfold cP_readBase at h
  refine yK.of rfl (yle rfl) (L := [_, _]) rfl ?_
  refine xt_pure rfl rfl rfl rfl ?_
  obtain ⟨x1, S2, hc3, h⟩ := zbi h
  refine zt_Vi rfl rfl rfl rfl (xmC 133 rfl) ⟨rfl, rfl, yle rfl, yle rfl⟩ (m := 1) rfl ⟨by omega, by omega⟩ (tcP_sees hG0 hG (by omega) (by omega) hc3) (fr1 := fr - 1) (lo1 := lo - 20) ?_
  by_cases hw14 : x1 = 2
  · replace h := zif_t (p := x1 = 2) hw14 h
    refine zt_sw (tg := 3) rfl rfl rfl hw14 rfl ?_
    refine xt_pure rfl rfl rfl rfl ?_
    obtain ⟨_, S5, hc6, h⟩ := zbi h
    refine zt_Vv rfl rfl rfl rfl (xmC 133 rfl) ⟨rfl, rfl, yle rfl, yle rfl⟩ (m := 1) rfl ⟨by omega, by omega⟩ (tcP_node hG0 hG (by omega) (by omega) hc6) (fr1 := fr - 1) (lo1 := lo - 20) ?_
    refine xt_pure rfl rfl rfl rfl ?_
    refine xt_getf rfl rfl (zmr hG0) ?_
    refine xt_pure rfl rfl rfl (st1 := .int 1 :: _) rfl ?_
    refine xt_pure rfl rfl rfl rfl ?_
    refine xt_getf rfl rfl (xmC 133 rfl) ?_
    refine xt_getf rfl rfl (xmC 131 rfl) ?_
    refine xt_pure rfl rfl rfl rfl ?_
    refine zt_gI 5 rfl rfl rfl rfl (x := (zI S5 5)) rfl ?_
    obtain ⟨x7, hx7, h⟩ := zgi h
    refine zr_lld (l := (zB S5 4)) rfl rfl (zmB 4 rfl rfl (l := (zB S5 4)) rfl) hx7 ?_
    refine xt_pure rfl rfl rfl rfl ?_
    obtain ⟨x8, S9, hc10, h⟩ := zbi h
    refine zt_Vi rfl rfl rfl rfl (zmr (ymm hG 0 rfl)) ⟨rfl, rfl, yle rfl, yle rfl⟩ (m := 4) rfl ⟨by omega, by omega⟩ (tcP_emit hG0 hG (by omega) (by omega) hc10) (fr1 := fr - 1) (lo1 := lo - 23) ?_
    refine xt_pure rfl rfl rfl rfl ?_
    refine xt_pure rfl rfl rfl rfl ?_
    obtain ⟨_, S12, hc13, h⟩ := zbi h
    refine zt_Vv rfl rfl rfl rfl (xmC 133 rfl) ⟨rfl, rfl, yle rfl, yle rfl⟩ (m := 1) rfl ⟨by omega, by omega⟩ (tcP_next hG0 hG (by omega) (by omega) hc13) (fr1 := fr - 1) (lo1 := lo - 20) ?_
    refine xt_pure rfl rfl rfl rfl ?_
    cases h
    exact xt_vret rfl rfl rfl ⟨rfl, rfl⟩
  replace h := zif_f (p := x1 = 2) hw14 h
  by_cases hw18 : x1 = 3
  · replace h := zif_t (p := x1 = 3) hw18 h
    refine zt_sw (tg := 20) rfl rfl rfl hw18 rfl ?_
    refine xt_pure rfl rfl rfl rfl ?_
    refine xt_pure rfl rfl rfl rfl ?_
    obtain ⟨_, S16, hc17, h⟩ := zbi h
    refine zt_Vv rfl rfl rfl rfl (xmC 133 rfl) ⟨rfl, rfl, yle rfl, yle rfl⟩ (m := 4) rfl ⟨by omega, by omega⟩ (tcP_readNamed hG0 hG hrc66 hrc67 (by omega) (by omega) (by omega) (by omega) hc17) (fr1 := fr - 1) (lo1 := lo - 23) ?_
    refine xt_pure rfl rfl rfl rfl ?_
    cases h
    exact xt_vret rfl rfl rfl ⟨rfl, rfl⟩
  replace h := zif_f (p := x1 = 3) hw18 h
  by_cases hw25 : x1 = 40
  · replace h := zif_t (p := x1 = 40) hw25 h
    refine zt_sw (tg := 48) rfl rfl rfl hw25 rfl ?_
    refine xt_pure rfl rfl rfl rfl ?_
    refine xt_pure rfl rfl rfl rfl ?_
    obtain ⟨_, S20, hc21, h⟩ := zbi h
    refine zt_Vv rfl rfl rfl rfl (xmC 133 rfl) ⟨rfl, rfl, yle rfl, yle rfl⟩ (m := 2) rfl ⟨by omega, by omega⟩ (tcP_readBetween hG0 hG hrc66 hrc67 (by omega) (by omega) (by omega) (by omega) hc21) (fr1 := fr - 1) (lo1 := lo - 21) ?_
    refine xt_pure rfl rfl rfl rfl ?_
    refine xt_pure rfl rfl rfl (st1 := .int 41 :: _) rfl ?_
    obtain ⟨_, S23, hc24, h⟩ := zbi h
    refine zt_Vv rfl rfl rfl rfl (xmC 133 rfl) ⟨rfl, rfl, yle rfl, yle rfl⟩ (m := 2) rfl ⟨by omega, by omega⟩ (tcP_want hG0 hG (by omega) (by omega) hc24) (fr1 := fr - 1) (lo1 := lo - 21) ?_
    refine xt_pure rfl rfl rfl rfl ?_
    cases h
    exact xt_vret rfl rfl rfl ⟨rfl, rfl⟩
  replace h := zif_f (p := x1 = 40) hw25 h
  by_cases hw29 : x1 = 222
  · replace h := zif_t (p := x1 = 222) hw29 h
    refine zt_sw (tg := 24) rfl rfl rfl hw29 rfl ?_
    refine xt_pure rfl rfl rfl rfl ?_
    refine xt_pure rfl rfl rfl (st1 := .int 8 :: _) rfl ?_
    refine xt_pure rfl rfl rfl rfl ?_
    obtain ⟨_, S27, hc28, h⟩ := zbi h
    refine zt_Vv rfl rfl rfl rfl (xmC 133 rfl) ⟨rfl, rfl, yle rfl, yle rfl⟩ (m := 6) rfl ⟨by omega, by omega⟩ (tcP_readAsked hG0 hG hrc66 hrc67 (by omega) (by omega) (by omega) (by omega) hc28) (fr1 := fr - 1) (lo1 := lo - 25) ?_
    refine xt_pure rfl rfl rfl rfl ?_
    cases h
    exact xt_vret rfl rfl rfl ⟨rfl, rfl⟩
  replace h := zif_f (p := x1 = 222) hw29 h
  by_cases hw33 : x1 = 223
  · replace h := zif_t (p := x1 = 223) hw33 h
    refine zt_sw (tg := 29) rfl rfl rfl hw33 rfl ?_
    refine xt_pure rfl rfl rfl rfl ?_
    refine xt_pure rfl rfl rfl (st1 := .int 9 :: _) rfl ?_
    refine xt_pure rfl rfl rfl rfl ?_
    obtain ⟨_, S31, hc32, h⟩ := zbi h
    refine zt_Vv rfl rfl rfl rfl (xmC 133 rfl) ⟨rfl, rfl, yle rfl, yle rfl⟩ (m := 6) rfl ⟨by omega, by omega⟩ (tcP_readAsked hG0 hG hrc66 hrc67 (by omega) (by omega) (by omega) (by omega) hc32) (fr1 := fr - 1) (lo1 := lo - 25) ?_
    refine xt_pure rfl rfl rfl rfl ?_
    cases h
    exact xt_vret rfl rfl rfl ⟨rfl, rfl⟩
  replace h := zif_f (p := x1 = 223) hw33 h
  by_cases hw37 : x1 = 224
  · replace h := zif_t (p := x1 = 224) hw37 h
    refine zt_sw (tg := 34) rfl rfl rfl hw37 rfl ?_
    refine xt_pure rfl rfl rfl rfl ?_
    refine xt_pure rfl rfl rfl (st1 := .int 10 :: _) rfl ?_
    refine xt_pure rfl rfl rfl rfl ?_
    obtain ⟨_, S35, hc36, h⟩ := zbi h
    refine zt_Vv rfl rfl rfl rfl (xmC 133 rfl) ⟨rfl, rfl, yle rfl, yle rfl⟩ (m := 6) rfl ⟨by omega, by omega⟩ (tcP_readAsked hG0 hG hrc66 hrc67 (by omega) (by omega) (by omega) (by omega) hc36) (fr1 := fr - 1) (lo1 := lo - 25) ?_
    refine xt_pure rfl rfl rfl rfl ?_
    cases h
    exact xt_vret rfl rfl rfl ⟨rfl, rfl⟩
  replace h := zif_f (p := x1 = 224) hw37 h
  by_cases hw41 : x1 = 225
  · replace h := zif_t (p := x1 = 225) hw41 h
    refine zt_sw (tg := 39) rfl rfl rfl hw41 rfl ?_
    refine xt_pure rfl rfl rfl rfl ?_
    refine xt_pure rfl rfl rfl (st1 := .int 11 :: _) rfl ?_
    refine xt_pure rfl rfl rfl rfl ?_
    obtain ⟨_, S39, hc40, h⟩ := zbi h
    refine zt_Vv rfl rfl rfl rfl (xmC 133 rfl) ⟨rfl, rfl, yle rfl, yle rfl⟩ (m := 6) rfl ⟨by omega, by omega⟩ (tcP_readAsked hG0 hG hrc66 hrc67 (by omega) (by omega) (by omega) (by omega) hc40) (fr1 := fr - 1) (lo1 := lo - 25) ?_
    refine xt_pure rfl rfl rfl rfl ?_
    cases h
    exact xt_vret rfl rfl rfl ⟨rfl, rfl⟩
  replace h := zif_f (p := x1 = 225) hw41 h
  by_cases hw45 : x1 = 226
  · replace h := zif_t (p := x1 = 226) hw45 h
    refine zt_sw (tg := 44) rfl rfl rfl hw45 rfl ?_
    refine xt_pure rfl rfl rfl rfl ?_
    refine xt_pure rfl rfl rfl rfl ?_
    obtain ⟨_, S43, hc44, h⟩ := zbi h
    refine zt_Vv rfl rfl rfl rfl (xmC 133 rfl) ⟨rfl, rfl, yle rfl, yle rfl⟩ (m := 4) rfl ⟨by omega, by omega⟩ (tcP_readTry hG0 hG hrc66 hrc67 (by omega) (by omega) (by omega) (by omega) hc44) (fr1 := fr - 1) (lo1 := lo - 23) ?_
    refine xt_pure rfl rfl rfl rfl ?_
    cases h
    exact xt_vret rfl rfl rfl ⟨rfl, rfl⟩
  replace h := zif_f (p := x1 = 226) hw45 h
  have hxhw14 : ¬ x1.toInt = 2 := fun h => hw14 (by rw [xi32_eq, h]; rfl)
  have hxhw18 : ¬ x1.toInt = 3 := fun h => hw18 (by rw [xi32_eq, h]; rfl)
  have hxhw25 : ¬ x1.toInt = 40 := fun h => hw25 (by rw [xi32_eq, h]; rfl)
  have hxhw29 : ¬ x1.toInt = 222 := fun h => hw29 (by rw [xi32_eq, h]; rfl)
  have hxhw33 : ¬ x1.toInt = 223 := fun h => hw33 (by rw [xi32_eq, h]; rfl)
  have hxhw37 : ¬ x1.toInt = 224 := fun h => hw37 (by rw [xi32_eq, h]; rfl)
  have hxhw41 : ¬ x1.toInt = 225 := fun h => hw41 (by rw [xi32_eq, h]; rfl)
  have hxhw45 : ¬ x1.toInt = 226 := fun h => hw45 (by rw [xi32_eq, h]; rfl)
  refine yt_lsd rfl rfl (by simp [Op.lookupswitch.offset]; omega) rfl ?_
  refine xt_pure rfl rfl rfl rfl ?_
  obtain ⟨_, S47, hc48, h⟩ := zbi h
  refine zt_Vv rfl rfl rfl rfl (xmC 133 rfl) ⟨rfl, rfl, yle rfl, yle rfl⟩ (m := 1) rfl ⟨by omega, by omega⟩ (tcP_refuse hG0 hG (by omega) (by omega) hc48) (fr1 := fr - 1) (lo1 := lo - 20) ?_
  cases h
  exact xt_vret rfl rfl rfl ⟨rfl, rfl⟩
def cP_readLevel_52 (rc66 : Int32 → Int32 → zS → Option (Unit × zS)) (rc67 : Int32 → zS → Option (Unit × zS))  (N : Nat) (k22 : Int32 → Int32 → Int32 → Int32 → zS → Option (Unit × zS)) (l1 : Int32) (l2 : Int32) (l3 : Int32) (l4 : Int32) (l5 : Int32) (s0 : Int32) (S : zS) : Option (Unit × zS) := (zb (rc66 (l1 + 1) l2 S) fun _ S20 => (zb (cP_doingOf N l5 S20) fun x22 S23 => (zb (cP_emit N x22 0 S23) fun x25 S26 => (if s0 = ((-9) : Int32) then k22 l1 l2 l3 (l4 + 1) S26 else (if zok (zA S26 31) s0 then k22 l1 l2 l3 (l4 + 1) (zsA S26 31 (zs (zA S26 31) s0 (zI S26 32))) else none)))))
theorem tcP_readLevel_52 {X : List Int32} {D0 : List xE} {a : Nat} {p : Nat → Nat} (hG0 : ((85, .inl (7, 1, .ref a)) : xE) ∈ D0) (hG : ∀ e ∈ zgP a p, e ∈ D0) {fr0 lo0 : Nat} {rc66 : Int32 → Int32 → zS → Option (Unit × zS)} (hrc66 : ∀ {b0 : Int32} {b1 : Int32} {S S2 : zS} {r : Unit}, rc66 b0 b1 S = some (r, S2) → yK X fr0 lo0 66 [.ref 85, .int b0, .int b1] (zD zTP (zaP a p) S D0) 0 0 (zQv zTP (zaP a p) D0 r S2)) {rc67 : Int32 → zS → Option (Unit × zS)} (hrc67 : ∀ {b0 : Int32} {S S2 : zS} {r : Unit}, rc67 b0 S = some (r, S2) → yK X fr0 lo0 67 [.ref 85, .int b0] (zD zTP (zaP a p) S D0) 0 0 (zQv zTP (zaP a p) D0 r S2))  {N fr lo : Nat} {k22 : Int32 → Int32 → Int32 → Int32 → zS → Option (Unit × zS)} (hk22 : ∀ {l1 : Int32} {l2 : Int32} {l3 : Int32} {l4 : Int32} {u5 : Option Value} {u6 : Option Value} {S S2 : zS} {r : Unit} , k22 l1 l2 l3 l4 S = some (r, S2) → yT X fr lo 66 22 [some (.ref 85), some (.int l1), some (.int l2), some (.int l3), some (.int l4), u5, u6] [] (zD zTP (zaP a p) S D0) 0 0 (zQv zTP (zaP a p) D0 r S2)) (hf0 : fr0 + 1 ≤ fr) (hl0 : lo0 + 26 ≤ lo) (hf : 2 ≤ fr) (hl : 123 ≤ lo) {l1 : Int32} {l2 : Int32} {l3 : Int32} {l4 : Int32} {l5 : Int32} {s0 : Int32} {u6 : Option Value} {S S2 : zS} {r : Unit}  (h : cP_readLevel_52 rc66 rc67 N k22 l1 l2 l3 l4 l5 s0 S = some (r, S2)) : yT X fr lo 66 52 [some (.ref 85), some (.int l1), some (.int l2), some (.int l3), some (.int l4), some (.int l5), u6] [.int s0] (zD zTP (zaP a p) S D0) 0 0 (zQv zTP (zaP a p) D0 r S2) := by
  unfold cP_readLevel_52 at h
  refine xt_pure rfl rfl rfl (L1 := [_, _, _, _, _, _, _]) rfl ?_
  refine xt_pure rfl rfl rfl rfl ?_
  refine xt_pure rfl rfl rfl rfl ?_
  refine xt_pure rfl rfl rfl (st1 := .int 1 :: _) rfl ?_
  refine xt_pure rfl rfl rfl rfl ?_
  refine xt_pure rfl rfl rfl rfl ?_
  obtain ⟨_, S20, hc21, h⟩ := zbi h
  refine zt_Vv rfl rfl rfl rfl (xmC 133 rfl) ⟨rfl, rfl, yle rfl, yle rfl⟩ (m := 7) rfl ⟨by omega, by omega⟩ (hrc66 hc21) (fr1 := fr0) (lo1 := lo0) ?_
  refine xt_pure rfl rfl rfl rfl ?_
  refine xt_getf rfl rfl (zmr hG0) ?_
  refine xt_pure rfl rfl rfl rfl ?_
  obtain ⟨x22, S23, hc24, h⟩ := zbi h
  refine zt_Si rfl rfl (by decide) rfl rfl ⟨rfl, yle rfl, yle rfl⟩ (m := 1) rfl ⟨by omega, by omega⟩ (tcP_doingOf hG0 hG (by omega) (by omega) hc24) (fr1 := fr - 1) (lo1 := lo - 20) ?_
  refine xt_pure rfl rfl rfl (st1 := .int 0 :: _) rfl ?_
  obtain ⟨x25, S26, hc27, h⟩ := zbi h
  refine zt_Vi rfl rfl rfl rfl (zmr (ymm hG 0 rfl)) ⟨rfl, rfl, yle rfl, yle rfl⟩ (m := 4) rfl ⟨by omega, by omega⟩ (tcP_emit hG0 hG (by omega) (by omega) hc27) (fr1 := fr - 1) (lo1 := lo - 23) ?_
  refine xt_pure rfl rfl rfl rfl ?_
  refine xt_pure rfl rfl rfl rfl ?_
  refine xt_pure rfl rfl rfl (st1 := .int (-9) :: _) rfl ?_
  refine xt_ic rfl rfl (fun hb => ?_) (fun hb => ?_)
  · replace h := zif_t (p := s0 = ((-9) : Int32)) hb h
    refine xt_pure rfl rfl rfl (L1 := [_, _, _, _, some (.int (_ + 1)), _, _]) rfl ?_
    refine xt_pure rfl rfl rfl rfl ?_
    exact hk22 h
  · replace h := zif_f (p := s0 = ((-9) : Int32)) hb h
    refine xt_pure rfl rfl rfl rfl ?_
    refine xt_getf rfl rfl (zmr hG0) ?_
    refine xt_getf rfl rfl (zmr (ymm hG 11 rfl)) ?_
    refine xt_pure rfl rfl rfl rfl ?_
    refine xt_pure rfl rfl rfl rfl ?_
    refine xt_getf rfl rfl (zmr hG0) ?_
    refine zt_gI 32 rfl rfl rfl rfl (x := (zI S26 32)) rfl ?_
    obtain ⟨hg, h⟩ := zgd h
    refine zt_ist 31 rfl rfl rfl rfl (l := (zA S26 31)) rfl hg ?_
    refine xt_pure rfl rfl rfl (L1 := [_, _, _, _, some (.int (_ + 1)), _, _]) rfl ?_
    refine xt_pure rfl rfl rfl rfl ?_
    exact hk22 h
def cP_readLevel_22 (rc66 : Int32 → Int32 → zS → Option (Unit × zS)) (rc67 : Int32 → zS → Option (Unit × zS))  (N : Nat)  : Nat → Int32 → Int32 → Int32 → Int32 → zS → Option (Unit × zS)
  | 0, _, _, _, _, _ => none
  | n + 1, l1, l2, l3, l4, S => (if l3.toInt ≤ l4.toInt then some ((), S) else (zb (cP_sees N  S) fun x4 S5 => (zb (cP_levelOf N x4 S5) fun x7 S8 => (if x7 ≠ l1 then some ((), S8) else (zb (cP_sees N  S8) fun x10 S11 => (zb (cP_node N  S11) fun _ S14 => (zb (cP_next N  S14) fun _ S17 => (if 2 ≤ l1.toInt then cP_readLevel_52 rc66 rc67 N (cP_readLevel_22 rc66 rc67 N n) l1 l2 l3 l4 x10 (-9) S17 else (if x10 ≠ (219 : Int32) then (zb (cP_emit N 4 0 S17) fun x28 S29 => cP_readLevel_52 rc66 rc67 N (cP_readLevel_22 rc66 rc67 N n) l1 l2 l3 l4 x10 x28 S29) else (zb (cP_emit N 3 0 S17) fun x31 S32 => cP_readLevel_52 rc66 rc67 N (cP_readLevel_22 rc66 rc67 N n) l1 l2 l3 l4 x10 x31 S32))))))))))
theorem tcP_readLevel_22 {X : List Int32} {D0 : List xE} {a : Nat} {p : Nat → Nat} (hG0 : ((85, .inl (7, 1, .ref a)) : xE) ∈ D0) (hG : ∀ e ∈ zgP a p, e ∈ D0) {fr0 lo0 : Nat} {rc66 : Int32 → Int32 → zS → Option (Unit × zS)} (hrc66 : ∀ {b0 : Int32} {b1 : Int32} {S S2 : zS} {r : Unit}, rc66 b0 b1 S = some (r, S2) → yK X fr0 lo0 66 [.ref 85, .int b0, .int b1] (zD zTP (zaP a p) S D0) 0 0 (zQv zTP (zaP a p) D0 r S2)) {rc67 : Int32 → zS → Option (Unit × zS)} (hrc67 : ∀ {b0 : Int32} {S S2 : zS} {r : Unit}, rc67 b0 S = some (r, S2) → yK X fr0 lo0 67 [.ref 85, .int b0] (zD zTP (zaP a p) S D0) 0 0 (zQv zTP (zaP a p) D0 r S2))  {N fr lo : Nat}   (hf0 : fr0 + 1 ≤ fr) (hl0 : lo0 + 26 ≤ lo) (hf : 2 ≤ fr) (hl : 123 ≤ lo)  : ∀ {n : Nat} {l1 : Int32} {l2 : Int32} {l3 : Int32} {l4 : Int32} {u5 : Option Value} {u6 : Option Value} {S S2 : zS} {r : Unit} , cP_readLevel_22 rc66 rc67 N n l1 l2 l3 l4 S = some (r, S2) → yT X fr lo 66 22 [some (.ref 85), some (.int l1), some (.int l2), some (.int l3), some (.int l4), u5, u6] [] (zD zTP (zaP a p) S D0) 0 0 (zQv zTP (zaP a p) D0 r S2) := by
  intro n
  induction n with
  | zero =>
    intro l1 l2 l3 l4 u5 u6 S S2 r  h
    have h : (none : Option (Unit × zS)) = some (r, S2) := h
    cases h
  | succ n ih =>
    intro l1 l2 l3 l4 u5 u6 S S2 r  h
    rw [cP_readLevel_22] at h
    refine xt_pure rfl rfl rfl rfl ?_
    refine xt_pure rfl rfl rfl rfl ?_
    refine xt_ic rfl rfl (fun hb => ?_) (fun hb => ?_)
    · replace h := zif_t (p := l3.toInt ≤ l4.toInt) hb h
      cases h
      exact xt_vret rfl rfl rfl ⟨rfl, rfl⟩
    · replace h := zif_f (p := l3.toInt ≤ l4.toInt) hb h
      refine xt_pure rfl rfl rfl rfl ?_
      obtain ⟨x4, S5, hc6, h⟩ := zbi h
      refine zt_Vi rfl rfl rfl rfl (xmC 133 rfl) ⟨rfl, rfl, yle rfl, yle rfl⟩ (m := 1) rfl ⟨by omega, by omega⟩ (tcP_sees hG0 hG (by omega) (by omega) hc6) (fr1 := fr - 1) (lo1 := lo - 20) ?_
      obtain ⟨x7, S8, hc9, h⟩ := zbi h
      refine zt_Si rfl rfl (by decide) rfl rfl ⟨rfl, yle rfl, yle rfl⟩ (m := 1) rfl ⟨by omega, by omega⟩ (tcP_levelOf hG0 hG (by omega) (by omega) hc9) (fr1 := fr - 1) (lo1 := lo - 20) ?_
      refine xt_pure rfl rfl rfl rfl ?_
      refine xt_ic rfl rfl (fun hb => ?_) (fun hb => ?_)
      · replace h := zif_t (p := x7 ≠ l1) hb h
        cases h
        exact xt_vret rfl rfl rfl ⟨rfl, rfl⟩
      · replace h := zif_f (p := x7 ≠ l1) hb h
        refine xt_pure rfl rfl rfl rfl ?_
        obtain ⟨x10, S11, hc12, h⟩ := zbi h
        refine zt_Vi rfl rfl rfl rfl (xmC 133 rfl) ⟨rfl, rfl, yle rfl, yle rfl⟩ (m := 1) rfl ⟨by omega, by omega⟩ (tcP_sees hG0 hG (by omega) (by omega) hc12) (fr1 := fr - 1) (lo1 := lo - 20) ?_
        refine xt_pure rfl rfl rfl (L1 := [_, _, _, _, _, _, _]) rfl ?_
        refine xt_pure rfl rfl rfl rfl ?_
        obtain ⟨_, S14, hc15, h⟩ := zbi h
        refine zt_Vv rfl rfl rfl rfl (xmC 133 rfl) ⟨rfl, rfl, yle rfl, yle rfl⟩ (m := 1) rfl ⟨by omega, by omega⟩ (tcP_node hG0 hG (by omega) (by omega) hc15) (fr1 := fr - 1) (lo1 := lo - 20) ?_
        refine xt_pure rfl rfl rfl rfl ?_
        obtain ⟨_, S17, hc18, h⟩ := zbi h
        refine zt_Vv rfl rfl rfl rfl (xmC 133 rfl) ⟨rfl, rfl, yle rfl, yle rfl⟩ (m := 1) rfl ⟨by omega, by omega⟩ (tcP_next hG0 hG (by omega) (by omega) hc18) (fr1 := fr - 1) (lo1 := lo - 20) ?_
        refine xt_pure rfl rfl rfl rfl ?_
        refine xt_pure rfl rfl rfl (st1 := .int 2 :: _) rfl ?_
        refine xt_ic rfl rfl (fun hb => ?_) (fun hb => ?_)
        · replace h := zif_t (p := 2 ≤ l1.toInt) hb h
          refine xt_pure rfl rfl rfl (st1 := .int (-9) :: _) rfl ?_
          exact tcP_readLevel_52 hG0 hG hrc66 hrc67 (fun h => ih h) hf0 hl0 hf hl h
        · replace h := zif_f (p := 2 ≤ l1.toInt) hb h
          refine xt_pure rfl rfl rfl rfl ?_
          refine xt_getf rfl rfl (zmr hG0) ?_
          refine xt_pure rfl rfl rfl rfl ?_
          refine xt_pure rfl rfl rfl (st1 := .int 219 :: _) rfl ?_
          refine xt_ic rfl rfl (fun hb => ?_) (fun hb => ?_)
          · replace h := zif_t (p := x10 ≠ (219 : Int32)) hb h
            refine xt_pure rfl rfl rfl (st1 := .int 4 :: _) rfl ?_
            refine xt_pure rfl rfl rfl (st1 := .int 0 :: _) rfl ?_
            obtain ⟨x28, S29, hc30, h⟩ := zbi h
            refine zt_Vi rfl rfl rfl rfl (zmr (ymm hG 0 rfl)) ⟨rfl, rfl, yle rfl, yle rfl⟩ (m := 4) rfl ⟨by omega, by omega⟩ (tcP_emit hG0 hG (by omega) (by omega) hc30) (fr1 := fr - 1) (lo1 := lo - 23) ?_
            refine xt_pure rfl rfl rfl rfl ?_
            exact tcP_readLevel_52 hG0 hG hrc66 hrc67 (fun h => ih h) hf0 hl0 hf hl h
          · replace h := zif_f (p := x10 ≠ (219 : Int32)) hb h
            refine xt_pure rfl rfl rfl (st1 := .int 3 :: _) rfl ?_
            refine xt_pure rfl rfl rfl rfl ?_
            refine xt_pure rfl rfl rfl (st1 := .int 0 :: _) rfl ?_
            obtain ⟨x31, S32, hc33, h⟩ := zbi h
            refine zt_Vi rfl rfl rfl rfl (zmr (ymm hG 0 rfl)) ⟨rfl, rfl, yle rfl, yle rfl⟩ (m := 4) rfl ⟨by omega, by omega⟩ (tcP_emit hG0 hG (by omega) (by omega) hc33) (fr1 := fr - 1) (lo1 := lo - 23) ?_
            refine xt_pure rfl rfl rfl rfl ?_
            exact tcP_readLevel_52 hG0 hG hrc66 hrc67 (fun h => ih h) hf0 hl0 hf hl h
def cP_readLevel (rc66 : Int32 → Int32 → zS → Option (Unit × zS)) (rc67 : Int32 → zS → Option (Unit × zS))  (N : Nat) (v1 : Int32) (v2 : Int32) (S : zS) : Option (Unit × zS) := (if v1.toInt ≤ 4 then (zb (rc66 (v1 + 1) v2 S) fun _ S2 => (if v1 ≠ (2 : Int32) then cP_readLevel_22 rc66 rc67 N N v1 v2 251 0 S2 else cP_readLevel_22 rc66 rc67 N N v1 v2 1 0 S2)) else (zb (rc67 v2 S) fun _ S35 => some ((), S35)))
theorem tcP_readLevel {X : List Int32} {D0 : List xE} {a : Nat} {p : Nat → Nat} (hG0 : ((85, .inl (7, 1, .ref a)) : xE) ∈ D0) (hG : ∀ e ∈ zgP a p, e ∈ D0) {fr0 lo0 : Nat} {rc66 : Int32 → Int32 → zS → Option (Unit × zS)} (hrc66 : ∀ {b0 : Int32} {b1 : Int32} {S S2 : zS} {r : Unit}, rc66 b0 b1 S = some (r, S2) → yK X fr0 lo0 66 [.ref 85, .int b0, .int b1] (zD zTP (zaP a p) S D0) 0 0 (zQv zTP (zaP a p) D0 r S2)) {rc67 : Int32 → zS → Option (Unit × zS)} (hrc67 : ∀ {b0 : Int32} {S S2 : zS} {r : Unit}, rc67 b0 S = some (r, S2) → yK X fr0 lo0 67 [.ref 85, .int b0] (zD zTP (zaP a p) S D0) 0 0 (zQv zTP (zaP a p) D0 r S2))  {N fr lo : Nat} (hf0 : fr0 + 1 ≤ fr) (hl0 : lo0 + 26 ≤ lo) (hf : 2 ≤ fr) (hl : 123 ≤ lo) {v1 : Int32} {v2 : Int32} {S S2 : zS} {r : Unit}  (h : cP_readLevel rc66 rc67 N v1 v2 S = some (r, S2)) : yK X fr lo 66 [.ref 85, .int v1, .int v2] (zD zTP (zaP a p) S D0) 0 0 (zQv zTP (zaP a p) D0 r S2) := by
  unfold cP_readLevel at h
  refine yK.of rfl (yle rfl) (L := [_, _, _, _, _, _, _]) rfl ?_
  refine xt_pure rfl rfl rfl rfl ?_
  refine xt_pure rfl rfl rfl (st1 := .int 4 :: _) rfl ?_
  refine xt_ic rfl rfl (fun hb => ?_) (fun hb => ?_)
  · replace h := zif_t (p := v1.toInt ≤ 4) hb h
    refine xt_pure rfl rfl rfl rfl ?_
    refine xt_pure rfl rfl rfl rfl ?_
    refine xt_pure rfl rfl rfl (st1 := .int 1 :: _) rfl ?_
    refine xt_pure rfl rfl rfl rfl ?_
    refine xt_pure rfl rfl rfl rfl ?_
    obtain ⟨_, S2, hc3, h⟩ := zbi h
    refine zt_Vv rfl rfl rfl rfl (xmC 133 rfl) ⟨rfl, rfl, yle rfl, yle rfl⟩ (m := 7) rfl ⟨by omega, by omega⟩ (hrc66 hc3) (fr1 := fr0) (lo1 := lo0) ?_
    refine xt_pure rfl rfl rfl rfl ?_
    refine xt_pure rfl rfl rfl (st1 := .int 2 :: _) rfl ?_
    refine xt_ic rfl rfl (fun hb => ?_) (fun hb => ?_)
    · replace h := zif_t (p := v1 ≠ (2 : Int32)) hb h
      refine xt_pure rfl rfl rfl (st1 := .int 251 :: _) rfl ?_
      refine xt_pure rfl rfl rfl (L1 := [_, _, _, _, _, _, _]) rfl ?_
      refine xt_pure rfl rfl rfl (st1 := .int 0 :: _) rfl ?_
      refine xt_pure rfl rfl rfl (L1 := [_, _, _, _, _, _, _]) rfl ?_
      exact tcP_readLevel_22 hG0 hG hrc66 hrc67 hf0 hl0 hf hl h
    · replace h := zif_f (p := v1 ≠ (2 : Int32)) hb h
      refine xt_pure rfl rfl rfl (st1 := .int 1 :: _) rfl ?_
      refine xt_pure rfl rfl rfl rfl ?_
      refine xt_pure rfl rfl rfl (L1 := [_, _, _, _, _, _, _]) rfl ?_
      refine xt_pure rfl rfl rfl (st1 := .int 0 :: _) rfl ?_
      refine xt_pure rfl rfl rfl (L1 := [_, _, _, _, _, _, _]) rfl ?_
      exact tcP_readLevel_22 hG0 hG hrc66 hrc67 hf0 hl0 hf hl h
  · replace h := zif_f (p := v1.toInt ≤ 4) hb h
    refine xt_pure rfl rfl rfl rfl ?_
    refine xt_pure rfl rfl rfl rfl ?_
    obtain ⟨_, S35, hc36, h⟩ := zbi h
    refine zt_Vv rfl rfl rfl rfl (xmC 133 rfl) ⟨rfl, rfl, yle rfl, yle rfl⟩ (m := 3) rfl ⟨by omega, by omega⟩ (hrc67 hc36) (fr1 := fr0) (lo1 := lo0) ?_
    cases h
    exact xt_vret rfl rfl rfl ⟨rfl, rfl⟩
def cP_readOne_29 (rc66 : Int32 → Int32 → zS → Option (Unit × zS)) (rc67 : Int32 → zS → Option (Unit × zS))  (N : Nat)  (l2 : Int32) (S : zS) : Option (Unit × zS) := (if l2 ≠ (45 : Int32) then (zb (cP_emit N 17 0 S) fun x13 S14 => some ((), S14)) else (zb (cP_emit N 16 0 S) fun x16 S17 => some ((), S17)))
theorem tcP_readOne_29 {X : List Int32} {D0 : List xE} {a : Nat} {p : Nat → Nat} (hG0 : ((85, .inl (7, 1, .ref a)) : xE) ∈ D0) (hG : ∀ e ∈ zgP a p, e ∈ D0) {fr0 lo0 : Nat} {rc66 : Int32 → Int32 → zS → Option (Unit × zS)} (hrc66 : ∀ {b0 : Int32} {b1 : Int32} {S S2 : zS} {r : Unit}, rc66 b0 b1 S = some (r, S2) → yK X fr0 lo0 66 [.ref 85, .int b0, .int b1] (zD zTP (zaP a p) S D0) 0 0 (zQv zTP (zaP a p) D0 r S2)) {rc67 : Int32 → zS → Option (Unit × zS)} (hrc67 : ∀ {b0 : Int32} {S S2 : zS} {r : Unit}, rc67 b0 S = some (r, S2) → yK X fr0 lo0 67 [.ref 85, .int b0] (zD zTP (zaP a p) S D0) 0 0 (zQv zTP (zaP a p) D0 r S2))  {N fr lo : Nat}   (hf0 : fr0 + 4 ≤ fr) (hl0 : lo0 + 93 ≤ lo) (hf : 5 ≤ fr) (hl : 169 ≤ lo) {l2 : Int32} {d1 : Int32} {S S2 : zS} {r : Unit}  (h : cP_readOne_29 rc66 rc67 N l2 S = some (r, S2)) : yT X fr lo 67 29 [some (.ref 85), some (.int d1), some (.int l2)] [] (zD zTP (zaP a p) S D0) 0 0 (zQv zTP (zaP a p) D0 r S2) := by
  unfold cP_readOne_29 at h
  refine xt_pure rfl rfl rfl rfl ?_
  refine xt_getf rfl rfl (zmr hG0) ?_
  refine xt_pure rfl rfl rfl rfl ?_
  refine xt_pure rfl rfl rfl (st1 := .int 45 :: _) rfl ?_
  refine xt_ic rfl rfl (fun hb => ?_) (fun hb => ?_)
  · replace h := zif_t (p := l2 ≠ (45 : Int32)) hb h
    refine xt_pure rfl rfl rfl (st1 := .int 17 :: _) rfl ?_
    refine xt_pure rfl rfl rfl (st1 := .int 0 :: _) rfl ?_
    obtain ⟨x13, S14, hc15, h⟩ := zbi h
    refine zt_Vi rfl rfl rfl rfl (zmr (ymm hG 0 rfl)) ⟨rfl, rfl, yle rfl, yle rfl⟩ (m := 4) rfl ⟨by omega, by omega⟩ (tcP_emit hG0 hG (by omega) (by omega) hc15) (fr1 := fr - 1) (lo1 := lo - 23) ?_
    refine xt_pure rfl rfl rfl rfl ?_
    cases h
    exact xt_vret rfl rfl rfl ⟨rfl, rfl⟩
  · replace h := zif_f (p := l2 ≠ (45 : Int32)) hb h
    refine xt_pure rfl rfl rfl (st1 := .int 16 :: _) rfl ?_
    refine xt_pure rfl rfl rfl rfl ?_
    refine xt_pure rfl rfl rfl (st1 := .int 0 :: _) rfl ?_
    obtain ⟨x16, S17, hc18, h⟩ := zbi h
    refine zt_Vi rfl rfl rfl rfl (zmr (ymm hG 0 rfl)) ⟨rfl, rfl, yle rfl, yle rfl⟩ (m := 4) rfl ⟨by omega, by omega⟩ (tcP_emit hG0 hG (by omega) (by omega) hc18) (fr1 := fr - 1) (lo1 := lo - 23) ?_
    refine xt_pure rfl rfl rfl rfl ?_
    cases h
    exact xt_vret rfl rfl rfl ⟨rfl, rfl⟩
def cP_readOne_13 (rc66 : Int32 → Int32 → zS → Option (Unit × zS)) (rc67 : Int32 → zS → Option (Unit × zS))  (N : Nat)  (l1 : Int32) (l2 : Int32) (S : zS) : Option (Unit × zS) := (zb (cP_enter N l1 S) fun _ S5 => (zb (cP_node N  S5) fun _ S8 => (zb (cP_next N  S8) fun _ S11 => (if (zI S11 6) ≠ ((-9) : Int32) then cP_readOne_29 rc66 rc67 N l2 S11 else (zb (rc67 (l1 + 1) S11) fun _ S20 => cP_readOne_29 rc66 rc67 N l2 S20)))))
theorem tcP_readOne_13 {X : List Int32} {D0 : List xE} {a : Nat} {p : Nat → Nat} (hG0 : ((85, .inl (7, 1, .ref a)) : xE) ∈ D0) (hG : ∀ e ∈ zgP a p, e ∈ D0) {fr0 lo0 : Nat} {rc66 : Int32 → Int32 → zS → Option (Unit × zS)} (hrc66 : ∀ {b0 : Int32} {b1 : Int32} {S S2 : zS} {r : Unit}, rc66 b0 b1 S = some (r, S2) → yK X fr0 lo0 66 [.ref 85, .int b0, .int b1] (zD zTP (zaP a p) S D0) 0 0 (zQv zTP (zaP a p) D0 r S2)) {rc67 : Int32 → zS → Option (Unit × zS)} (hrc67 : ∀ {b0 : Int32} {S S2 : zS} {r : Unit}, rc67 b0 S = some (r, S2) → yK X fr0 lo0 67 [.ref 85, .int b0] (zD zTP (zaP a p) S D0) 0 0 (zQv zTP (zaP a p) D0 r S2))  {N fr lo : Nat}   (hf0 : fr0 + 4 ≤ fr) (hl0 : lo0 + 93 ≤ lo) (hf : 5 ≤ fr) (hl : 169 ≤ lo) {l1 : Int32} {l2 : Int32}  {S S2 : zS} {r : Unit}  (h : cP_readOne_13 rc66 rc67 N l1 l2 S = some (r, S2)) : yT X fr lo 67 13 [some (.ref 85), some (.int l1), some (.int l2)] [] (zD zTP (zaP a p) S D0) 0 0 (zQv zTP (zaP a p) D0 r S2) := by
  unfold cP_readOne_13 at h
  refine xt_pure rfl rfl rfl rfl ?_
  refine xt_pure rfl rfl rfl rfl ?_
  obtain ⟨_, S5, hc6, h⟩ := zbi h
  refine zt_Vv rfl rfl rfl rfl (xmC 133 rfl) ⟨rfl, rfl, yle rfl, yle rfl⟩ (m := 2) rfl ⟨by omega, by omega⟩ (tcP_enter hG0 hG (by omega) (by omega) hc6) (fr1 := fr - 1) (lo1 := lo - 21) ?_
  refine xt_pure rfl rfl rfl rfl ?_
  obtain ⟨_, S8, hc9, h⟩ := zbi h
  refine zt_Vv rfl rfl rfl rfl (xmC 133 rfl) ⟨rfl, rfl, yle rfl, yle rfl⟩ (m := 1) rfl ⟨by omega, by omega⟩ (tcP_node hG0 hG (by omega) (by omega) hc9) (fr1 := fr - 1) (lo1 := lo - 20) ?_
  refine xt_pure rfl rfl rfl rfl ?_
  obtain ⟨_, S11, hc12, h⟩ := zbi h
  refine zt_Vv rfl rfl rfl rfl (xmC 133 rfl) ⟨rfl, rfl, yle rfl, yle rfl⟩ (m := 1) rfl ⟨by omega, by omega⟩ (tcP_next hG0 hG (by omega) (by omega) hc12) (fr1 := fr - 1) (lo1 := lo - 20) ?_
  refine xt_pure rfl rfl rfl rfl ?_
  refine zt_gI 6 rfl rfl rfl rfl (x := (zI S11 6)) rfl ?_
  refine xt_pure rfl rfl rfl (st1 := .int (-9) :: _) rfl ?_
  refine xt_ic rfl rfl (fun hb => ?_) (fun hb => ?_)
  · replace h := zif_t (p := (zI S11 6) ≠ ((-9) : Int32)) hb h
    exact tcP_readOne_29 hG0 hG hrc66 hrc67 hf0 hl0 hf hl h
  · replace h := zif_f (p := (zI S11 6) ≠ ((-9) : Int32)) hb h
    refine xt_pure rfl rfl rfl rfl ?_
    refine xt_pure rfl rfl rfl rfl ?_
    refine xt_pure rfl rfl rfl (st1 := .int 1 :: _) rfl ?_
    refine xt_pure rfl rfl rfl rfl ?_
    obtain ⟨_, S20, hc21, h⟩ := zbi h
    refine zt_Vv rfl rfl rfl rfl (xmC 133 rfl) ⟨rfl, rfl, yle rfl, yle rfl⟩ (m := 3) rfl ⟨by omega, by omega⟩ (hrc67 hc21) (fr1 := fr0) (lo1 := lo0) ?_
    exact tcP_readOne_29 hG0 hG hrc66 hrc67 hf0 hl0 hf hl h
def cP_readOne (rc66 : Int32 → Int32 → zS → Option (Unit × zS)) (rc67 : Int32 → zS → Option (Unit × zS))  (N : Nat) (v1 : Int32) (S : zS) : Option (Unit × zS) := (zb (cP_sees N  S) fun x1 S2 => (if x1 = (45 : Int32) then cP_readOne_13 rc66 rc67 N v1 x1 S2 else (if x1 = (221 : Int32) then cP_readOne_13 rc66 rc67 N v1 x1 S2 else (zb (cP_readBase rc66 rc67 N v1 S2) fun _ S23 => some ((), S23)))))
theorem tcP_readOne {X : List Int32} {D0 : List xE} {a : Nat} {p : Nat → Nat} (hG0 : ((85, .inl (7, 1, .ref a)) : xE) ∈ D0) (hG : ∀ e ∈ zgP a p, e ∈ D0) {fr0 lo0 : Nat} {rc66 : Int32 → Int32 → zS → Option (Unit × zS)} (hrc66 : ∀ {b0 : Int32} {b1 : Int32} {S S2 : zS} {r : Unit}, rc66 b0 b1 S = some (r, S2) → yK X fr0 lo0 66 [.ref 85, .int b0, .int b1] (zD zTP (zaP a p) S D0) 0 0 (zQv zTP (zaP a p) D0 r S2)) {rc67 : Int32 → zS → Option (Unit × zS)} (hrc67 : ∀ {b0 : Int32} {S S2 : zS} {r : Unit}, rc67 b0 S = some (r, S2) → yK X fr0 lo0 67 [.ref 85, .int b0] (zD zTP (zaP a p) S D0) 0 0 (zQv zTP (zaP a p) D0 r S2))  {N fr lo : Nat} (hf0 : fr0 + 4 ≤ fr) (hl0 : lo0 + 93 ≤ lo) (hf : 5 ≤ fr) (hl : 169 ≤ lo) {v1 : Int32} {S S2 : zS} {r : Unit}  (h : cP_readOne rc66 rc67 N v1 S = some (r, S2)) : yK X fr lo 67 [.ref 85, .int v1] (zD zTP (zaP a p) S D0) 0 0 (zQv zTP (zaP a p) D0 r S2) := by
  unfold cP_readOne at h
  refine yK.of rfl (yle rfl) (L := [_, _, _]) rfl ?_
  refine xt_pure rfl rfl rfl rfl ?_
  obtain ⟨x1, S2, hc3, h⟩ := zbi h
  refine zt_Vi rfl rfl rfl rfl (xmC 133 rfl) ⟨rfl, rfl, yle rfl, yle rfl⟩ (m := 1) rfl ⟨by omega, by omega⟩ (tcP_sees hG0 hG (by omega) (by omega) hc3) (fr1 := fr - 1) (lo1 := lo - 20) ?_
  refine xt_pure rfl rfl rfl (L1 := [_, _, _]) rfl ?_
  refine xt_pure rfl rfl rfl rfl ?_
  refine xt_pure rfl rfl rfl (st1 := .int 45 :: _) rfl ?_
  refine xt_ic rfl rfl (fun hb => ?_) (fun hb => ?_)
  · replace h := zif_t (p := x1 = (45 : Int32)) hb h
    exact tcP_readOne_13 hG0 hG hrc66 hrc67 hf0 hl0 hf hl h
  · replace h := zif_f (p := x1 = (45 : Int32)) hb h
    refine xt_pure rfl rfl rfl rfl ?_
    refine xt_pure rfl rfl rfl (st1 := .int 221 :: _) rfl ?_
    refine xt_ic rfl rfl (fun hb => ?_) (fun hb => ?_)
    · replace h := zif_t (p := x1 = (221 : Int32)) hb h
      exact tcP_readOne_13 hG0 hG hrc66 hrc67 hf0 hl0 hf hl h
    · replace h := zif_f (p := x1 = (221 : Int32)) hb h
      refine xt_pure rfl rfl rfl rfl ?_
      refine xt_pure rfl rfl rfl rfl ?_
      obtain ⟨_, S23, hc24, h⟩ := zbi h
      refine zt_Vv rfl rfl rfl rfl (xmC 133 rfl) ⟨rfl, rfl, yle rfl, yle rfl⟩ (m := 2) rfl ⟨by omega, by omega⟩ (tcP_readBase hG0 hG hrc66 hrc67 (by omega) (by omega) (by omega) (by omega) hc24) (fr1 := fr - 1) (lo1 := lo - 21) ?_
      cases h
      exact xt_vret rfl rfl rfl ⟨rfl, rfl⟩
def cP_fix (N : Nat) : Nat → (Int32 → Int32 → zS → Option (Unit × zS)) × (Int32 → zS → Option (Unit × zS))
  | 0 => (fun _ _ _ => none, fun _ _ => none)
  | n + 1 => (fun y0 y1 S => cP_readLevel (cP_fix N n).1 (cP_fix N n).2 N y0 y1 S, fun y0 S => cP_readOne (cP_fix N n).1 (cP_fix N n).2 N y0 S)
theorem tcP_fix {X : List Int32} {D0 : List xE} {a : Nat} {p : Nat → Nat} (hG0 : ((85, .inl (7, 1, .ref a)) : xE) ∈ D0) (hG : ∀ e ∈ zgP a p, e ∈ D0) {N : Nat} : ∀ {n fr lo : Nat}, 5 + 4 * n ≤ fr → 169 + 93 * n ≤ lo → (∀ {b0 : Int32} {b1 : Int32} {S S2 : zS} {r : Unit}, (cP_fix N n).1 b0 b1 S = some (r, S2) → yK X fr lo 66 [.ref 85, .int b0, .int b1] (zD zTP (zaP a p) S D0) 0 0 (zQv zTP (zaP a p) D0 r S2)) ∧ (∀ {b0 : Int32} {S S2 : zS} {r : Unit}, (cP_fix N n).2 b0 S = some (r, S2) → yK X fr lo 67 [.ref 85, .int b0] (zD zTP (zaP a p) S D0) 0 0 (zQv zTP (zaP a p) D0 r S2)) := by
  intro n
  induction n with
  | zero =>
    intro fr lo hf hl
    exact ⟨fun h => absurd h (by intro h; cases h), fun h => absurd h (by intro h; cases h)⟩
  | succ n ih =>
    intro fr lo hf hl
    exact ⟨fun h => tcP_readLevel hG0 hG (fun h => (ih (fr := fr - 4) (lo := lo - 93) (by omega) (by omega)).1 h) (fun h => (ih (fr := fr - 4) (lo := lo - 93) (by omega) (by omega)).2 h) (by omega) (by omega) (by omega) (by omega) h, fun h => tcP_readOne hG0 hG (fun h => (ih (fr := fr - 4) (lo := lo - 93) (by omega) (by omega)).1 h) (fun h => (ih (fr := fr - 4) (lo := lo - 93) (by omega) (by omega)).2 h) (by omega) (by omega) (by omega) (by omega) h⟩
