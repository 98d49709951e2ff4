/-! MIRRORS: reading the disk, the reference -/
def zTN : List (Nat × Nat × Nat) := [(0, 14, 43), (0, 14, 44), (0, 14, 38), (3, 0, 0)]
def zaN (i : Nat) : Nat := ([209, 209, 209, 247] : List Nat).getD i 0
def rN_got  (N : Nat)  (S : zS) : Option (Int32 × zS) := (if (zI S 0).toInt < (zI S 2).toInt then (zg (gI (zA S 3) (((zI S 0) + 1) - 1)) fun x1 => some (x1, (zsI S 0 ((zI S 0) + 1)))) else some (0, (zsI S 1 0)))
theorem trN_got {X : List Int32} {D0 : List xE}   {N fr lo : Nat} (hf : 0 ≤ fr) (hl : 0 ≤ lo)  {S S2 : zS} {r : Int32}  (h : rN_got N  S = some (r, S2)) : yK X fr lo 288 [.ref 209] (zD zTN zaN S D0) 0 0 (zQi zTN zaN D0 r S2) := by
  unfold rN_got at h
  refine yK.of rfl (yle rfl) (L := [_]) rfl ?_
  refine xt_pure rfl rfl rfl rfl ?_
  refine zt_gI 0 rfl rfl rfl rfl (x := (zI S 0)) rfl ?_
  refine xt_pure rfl rfl rfl rfl ?_
  refine zt_gI 2 rfl rfl rfl rfl (x := (zI S 2)) rfl ?_
  refine xt_ic rfl rfl (fun hb => ?_) (fun hb => ?_)
  · replace h := zif_t (p := (zI S 0).toInt < (zI S 2).toInt) hb h
    refine xt_pure rfl rfl rfl rfl ?_
    refine xt_pure rfl rfl rfl rfl ?_
    refine zt_gI 0 rfl rfl rfl rfl (x := (zI S 0)) rfl ?_
    refine xt_pure rfl rfl rfl (st1 := .int 1 :: _) rfl ?_
    refine xt_pure rfl rfl rfl rfl ?_
    refine zt_pI 0 rfl rfl rfl rfl rfl rfl ?_
    refine xt_pure rfl rfl rfl rfl ?_
    refine xt_getf rfl rfl (xmC 196 rfl) ?_
    refine xt_pure rfl rfl rfl rfl ?_
    refine zt_gI 0 rfl rfl rfl rfl (x := ((zI S 0) + 1)) rfl ?_
    refine xt_pure rfl rfl rfl (st1 := .int 1 :: _) rfl ?_
    refine xt_pure rfl rfl rfl rfl ?_
    obtain ⟨x1, hx1, h⟩ := zgi h
    refine zr_ild (l := (zA S 3)) rfl rfl (zmA 3 rfl rfl (l := (zA S 3)) rfl) hx1 ?_
    cases h
    exact xt_iret rfl rfl rfl rfl ⟨rfl, rfl⟩
  · replace h := zif_f (p := (zI S 0).toInt < (zI S 2).toInt) hb h
    refine xt_pure rfl rfl rfl rfl ?_
    refine xt_pure rfl rfl rfl (st1 := .int 0 :: _) rfl ?_
    refine zt_pI 1 rfl rfl rfl rfl rfl rfl ?_
    refine xt_pure rfl rfl rfl (st1 := .int 0 :: _) rfl ?_
    cases h
    exact xt_iret rfl rfl rfl rfl ⟨rfl, rfl⟩
def rN_gotL_4  (N : Nat)  : Nat → Int32 → Int64 → Int32 → zS → Option (Int64 × zS)
  | 0, _, _, _, _ => none
  | n + 1, l1, l2, l4, S => (if l1.toInt ≤ l4.toInt then some (l2, S) else (zb (rN_got N  S) fun x1 S2 => (rN_gotL_4 N n) l1 ((l2 <<< ((8 : Int32).toInt64 &&& 63)) ||| x1.toInt64) (l4 + 1) S2))
theorem trN_gotL_4 {X : List Int32} {D0 : List xE}   {N fr lo : Nat}   (hf : 1 ≤ fr) (hl : 20 ≤ lo)  : ∀ {n : Nat} {l1 : Int32} {l2 : Int64} {l4 : Int32}  {S S2 : zS} {r : Int64} , rN_gotL_4 N n l1 l2 l4 S = some (r, S2) → yT X fr lo 292 4 [some (.ref 209), some (.int l1), some (.long l2), none, some (.int l4)] [] (zD zTN zaN S D0) 0 0 (zQl zTN zaN D0 r S2) := by
  intro n
  induction n with
  | zero =>
    intro l1 l2 l4  S S2 r  h
    have h : (none : Option (Int64 × zS)) = some (r, S2) := h
    cases h
  | succ n ih =>
    intro l1 l2 l4  S S2 r  h
    rw [rN_gotL_4] at h
    refine xt_pure rfl rfl rfl rfl ?_
    refine xt_pure rfl rfl rfl rfl ?_
    refine xt_ic rfl rfl (fun hb => ?_) (fun hb => ?_)
    · replace h := zif_t (p := l1.toInt ≤ l4.toInt) hb h
      refine xt_pure rfl rfl rfl rfl ?_
      cases h
      exact xt_lret rfl rfl rfl ⟨rfl, rfl⟩
    · replace h := zif_f (p := l1.toInt ≤ l4.toInt) hb h
      refine xt_pure rfl rfl rfl rfl ?_
      refine xt_pure rfl rfl rfl (st1 := .int 8 :: _) rfl ?_
      refine xt_pure rfl rfl rfl rfl ?_
      refine xt_pure rfl rfl rfl rfl ?_
      obtain ⟨x1, S2, hc3, h⟩ := zbi h
      refine zt_Vi rfl rfl rfl rfl (xmC 176 rfl) ⟨rfl, rfl, yle rfl, yle rfl⟩ (m := 1) rfl ⟨by omega, by omega⟩ (trN_got (by omega) (by omega) hc3) (fr1 := fr - 1) (lo1 := lo - 20) ?_
      refine xt_pure rfl rfl rfl rfl ?_
      refine xt_pure rfl rfl rfl rfl ?_
      refine xt_pure rfl rfl rfl (L1 := [_, _, _, _, _]) rfl ?_
      refine xt_pure rfl rfl rfl (L1 := [_, _, _, _, some (.int (_ + 1))]) rfl ?_
      refine xt_pure rfl rfl rfl rfl ?_
      exact ih h
def rN_gotL  (N : Nat) (v1 : Int32) (S : zS) : Option (Int64 × zS) := rN_gotL_4 N N v1 0 0 S
theorem trN_gotL {X : List Int32} {D0 : List xE}   {N fr lo : Nat} (hf : 1 ≤ fr) (hl : 20 ≤ lo) {v1 : Int32} {S S2 : zS} {r : Int64}  (h : rN_gotL N v1 S = some (r, S2)) : yK X fr lo 292 [.ref 209, .int v1] (zD zTN zaN S D0) 0 0 (zQl zTN zaN D0 r S2) := by
  unfold rN_gotL at h
  refine yK.of rfl (yle rfl) (L := [_, _, _, _, _]) rfl ?_
  refine xt_pure rfl rfl rfl (st1 := .long 0 :: _) rfl ?_
  refine xt_pure rfl rfl rfl (L1 := [_, _, _, _, _]) rfl ?_
  refine xt_pure rfl rfl rfl (st1 := .int 0 :: _) rfl ?_
  refine xt_pure rfl rfl rfl (L1 := [_, _, _, _, _]) rfl ?_
  exact trN_gotL_4 hf hl h
def rN_must  (N : Nat) (v1 : Int32) (S : zS) : Option (Unit × zS) := (if (zI S 1) = (0 : Int32) then some ((), (zsI S 1 0)) else (if v1 = (0 : Int32) then some ((), (zsI S 1 0)) else some ((), (zsI S 1 1))))
theorem trN_must {X : List Int32} {D0 : List xE}   {N fr lo : Nat} (hf : 0 ≤ fr) (hl : 0 ≤ lo) {v1 : Int32} {S S2 : zS} {r : Unit}  (h : rN_must N v1 S = some (r, S2)) : yK X fr lo 289 [.ref 209, .int v1] (zD zTN zaN S D0) 0 0 (zQv zTN zaN D0 r S2) := by
  unfold rN_must at h
  refine yK.of rfl (yle rfl) (L := [_, _]) rfl ?_
  refine xt_pure rfl rfl rfl rfl ?_
  refine xt_pure rfl rfl rfl rfl ?_
  refine zt_gI 1 rfl rfl rfl rfl (x := (zI S 1)) rfl ?_
  refine xt_if rfl rfl (fun hb => ?_) (fun hb => ?_)
  · replace h := zif_t (p := (zI S 1) = (0 : Int32)) hb h
    refine xt_pure rfl rfl rfl (st1 := .int 0 :: _) rfl ?_
    refine zt_pI 1 rfl rfl rfl rfl rfl rfl ?_
    cases h
    exact xt_vret rfl rfl rfl ⟨rfl, rfl⟩
  · replace h := zif_f (p := (zI S 1) = (0 : Int32)) hb h
    refine xt_pure rfl rfl rfl rfl ?_
    refine xt_if rfl rfl (fun hb => ?_) (fun hb => ?_)
    · replace h := zif_t (p := v1 = (0 : Int32)) hb h
      refine xt_pure rfl rfl rfl (st1 := .int 0 :: _) rfl ?_
      refine zt_pI 1 rfl rfl rfl rfl rfl rfl ?_
      cases h
      exact xt_vret rfl rfl rfl ⟨rfl, rfl⟩
    · replace h := zif_f (p := v1 = (0 : Int32)) hb h
      refine xt_pure rfl rfl rfl (st1 := .int 1 :: _) rfl ?_
      refine xt_pure rfl rfl rfl rfl ?_
      refine zt_pI 1 rfl rfl rfl rfl rfl rfl ?_
      cases h
      exact xt_vret rfl rfl rfl ⟨rfl, rfl⟩
