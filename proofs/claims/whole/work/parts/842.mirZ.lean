/-! MIRRORS: reading the disk, the class -/
def zTZ : List (Nat × Nat × Nat) := [(0, 0, 2), (0, 0, 5), (0, 0, 6), (3, 0, 0)]
def zaZ (i : Nat) : Nat := ([206, 206, 206, 207] : List Nat).getD i 0
def cZ_loadNumber_4  (N : Nat)  : Nat → Int32 → Int32 → Int32 → zS → Option (Int32 × zS)
  | 0, _, _, _, _ => none
  | n + 1, l1, l2, l3, S => (if l1.toInt ≤ l3.toInt then some (l2, S) else (if (zI S 1).toInt < (zI S 0).toInt then (zg (gI (zA S 3) (zI S 1)) fun x1 => (cZ_loadNumber_4 N n) l1 ((l2 <<< ((8 : Int32) &&& 31)) ||| x1) (l3 + 1) (zsI S 1 ((zI S 1) + 1))) else some (0, (zsI S 2 1))))
theorem tcZ_loadNumber_4 {X : List Int32} {D0 : List xE}   {N fr lo : Nat}   (hf : 0 ≤ fr) (hl : 0 ≤ lo)  : ∀ {n : Nat} {l1 : Int32} {l2 : Int32} {l3 : Int32}  {S S2 : zS} {r : Int32} , cZ_loadNumber_4 N n l1 l2 l3 S = some (r, S2) → yT X fr lo 202 4 [some (.ref 206), some (.int l1), some (.int l2), some (.int l3)] [] (zD zTZ zaZ S D0) 0 0 (zQi zTZ zaZ D0 r S2) := by
  intro n
  induction n with
  | zero =>
    intro l1 l2 l3  S S2 r  h
    have h : (none : Option (Int32 × zS)) = some (r, S2) := h
    cases h
  | succ n ih =>
    intro l1 l2 l3  S S2 r  h
    rw [cZ_loadNumber_4] at h
    refine xt_pure rfl rfl rfl rfl ?_
    refine xt_pure rfl rfl rfl rfl ?_
    refine xt_ic rfl rfl (fun hb => ?_) (fun hb => ?_)
    · replace h := zif_t (p := l1.toInt ≤ l3.toInt) hb h
      refine xt_pure rfl rfl rfl rfl ?_
      cases h
      exact xt_iret rfl rfl rfl rfl ⟨rfl, rfl⟩
    · replace h := zif_f (p := l1.toInt ≤ l3.toInt) hb h
      refine xt_pure rfl rfl rfl rfl ?_
      refine zt_gI 1 rfl rfl rfl rfl (x := (zI S 1)) rfl ?_
      refine xt_pure rfl rfl rfl rfl ?_
      refine zt_gI 0 rfl rfl rfl rfl (x := (zI S 0)) rfl ?_
      refine xt_ic rfl rfl (fun hb => ?_) (fun hb => ?_)
      · replace h := zif_t (p := (zI S 1).toInt < (zI S 0).toInt) hb h
        refine xt_pure rfl rfl rfl rfl ?_
        refine xt_pure rfl rfl rfl (st1 := .int 8 :: _) rfl ?_
        refine xt_pure rfl rfl rfl rfl ?_
        refine xt_pure rfl rfl rfl rfl ?_
        refine xt_getf rfl rfl (xmC 174 rfl) ?_
        refine xt_pure rfl rfl rfl rfl ?_
        refine zt_gI 1 rfl rfl rfl rfl (x := (zI S 1)) rfl ?_
        obtain ⟨x1, hx1, h⟩ := zgi h
        refine zr_ild (l := (zA S 3)) rfl rfl (zmA 3 rfl rfl (l := (zA S 3)) rfl) hx1 ?_
        refine xt_pure rfl rfl rfl rfl ?_
        refine xt_pure rfl rfl rfl (L1 := [_, _, _, _]) rfl ?_
        refine xt_pure rfl rfl rfl rfl ?_
        refine xt_pure rfl rfl rfl rfl ?_
        refine zt_gI 1 rfl rfl rfl rfl (x := (zI S 1)) rfl ?_
        refine xt_pure rfl rfl rfl (st1 := .int 1 :: _) rfl ?_
        refine xt_pure rfl rfl rfl rfl ?_
        refine zt_pI 1 rfl rfl rfl rfl rfl rfl ?_
        refine xt_pure rfl rfl rfl (L1 := [_, _, _, some (.int (_ + 1))]) rfl ?_
        refine xt_pure rfl rfl rfl rfl ?_
        exact ih h
      · replace h := zif_f (p := (zI S 1).toInt < (zI S 0).toInt) hb h
        refine xt_pure rfl rfl rfl rfl ?_
        refine xt_pure rfl rfl rfl (st1 := .int 1 :: _) rfl ?_
        refine zt_pI 2 rfl rfl rfl rfl rfl rfl ?_
        refine xt_pure rfl rfl rfl (st1 := .int 0 :: _) rfl ?_
        cases h
        exact xt_iret rfl rfl rfl rfl ⟨rfl, rfl⟩
def cZ_loadNumber  (N : Nat) (v1 : Int32) (S : zS) : Option (Int32 × zS) := cZ_loadNumber_4 N N v1 0 0 S
theorem tcZ_loadNumber {X : List Int32} {D0 : List xE}   {N fr lo : Nat} (hf : 0 ≤ fr) (hl : 0 ≤ lo) {v1 : Int32} {S S2 : zS} {r : Int32}  (h : cZ_loadNumber N v1 S = some (r, S2)) : yK X fr lo 202 [.ref 206, .int v1] (zD zTZ zaZ S D0) 0 0 (zQi zTZ zaZ D0 r S2) := by
  unfold cZ_loadNumber at h
  refine yK.of rfl (yle rfl) (L := [_, _, _, _]) rfl ?_
  refine xt_pure rfl rfl rfl (st1 := .int 0 :: _) rfl ?_
  refine xt_pure rfl rfl rfl (L1 := [_, _, _, _]) rfl ?_
  refine xt_pure rfl rfl rfl (st1 := .int 0 :: _) rfl ?_
  refine xt_pure rfl rfl rfl (L1 := [_, _, _, _]) rfl ?_
  exact tcZ_loadNumber_4 hf hl h
def cZ_sum_4  (N : Nat)  : Nat → Int32 → Int32 → Int32 → zS → Option (Int32 × zS)
  | 0, _, _, _, _ => none
  | n + 1, l2, l3, l4, S => (if l2.toInt ≤ l4.toInt then some (l3, S) else (if (Int32.ofNat (zA S 3).length).toInt ≤ l4.toInt then some (l3, S) else (zg (gI (zA S 3) l4) fun x1 => (cZ_sum_4 N n) l2 (((l3 * 31) + x1) &&& 65535) (l4 + 1) S)))
theorem tcZ_sum_4 {X : List Int32} {D0 : List xE}   {N fr lo : Nat}   (hf : 0 ≤ fr) (hl : 0 ≤ lo)  : ∀ {n : Nat} {l2 : Int32} {l3 : Int32} {l4 : Int32} {d1 : Int32} {S S2 : zS} {r : Int32} , cZ_sum_4 N n l2 l3 l4 S = some (r, S2) → yT X fr lo 127 4 [some (.ref 207), some (.int d1), some (.int l2), some (.int l3), some (.int l4)] [] (zD zTZ zaZ S D0) 0 0 (zQi zTZ zaZ D0 r S2) := by
  intro n
  induction n with
  | zero =>
    intro l2 l3 l4 d1 S S2 r  h
    have h : (none : Option (Int32 × zS)) = some (r, S2) := h
    cases h
  | succ n ih =>
    intro l2 l3 l4 d1 S S2 r  h
    rw [cZ_sum_4] at h
    refine xt_pure rfl rfl rfl rfl ?_
    refine xt_pure rfl rfl rfl rfl ?_
    refine xt_ic rfl rfl (fun hb => ?_) (fun hb => ?_)
    · replace h := zif_t (p := l2.toInt ≤ l4.toInt) hb h
      refine xt_pure rfl rfl rfl rfl ?_
      cases h
      exact xt_iret rfl rfl rfl rfl ⟨rfl, rfl⟩
    · replace h := zif_f (p := l2.toInt ≤ l4.toInt) hb h
      refine xt_pure rfl rfl rfl rfl ?_
      refine xt_pure rfl rfl rfl rfl ?_
      refine zr_lenI (l := (zA S 3)) rfl rfl (zmA 3 rfl rfl (l := (zA S 3)) rfl) rfl ?_
      refine xt_ic rfl rfl (fun hb => ?_) (fun hb => ?_)
      · replace h := zif_t (p := (Int32.ofNat (zA S 3).length).toInt ≤ l4.toInt) hb h
        refine xt_pure rfl rfl rfl rfl ?_
        cases h
        exact xt_iret rfl rfl rfl rfl ⟨rfl, rfl⟩
      · replace h := zif_f (p := (Int32.ofNat (zA S 3).length).toInt ≤ l4.toInt) hb h
        refine xt_pure rfl rfl rfl rfl ?_
        refine xt_pure rfl rfl rfl (st1 := .int 31 :: _) rfl ?_
        refine xt_pure rfl rfl rfl rfl ?_
        refine xt_pure rfl rfl rfl rfl ?_
        refine xt_pure rfl rfl rfl rfl ?_
        obtain ⟨x1, hx1, h⟩ := zgi h
        refine zr_ild (l := (zA S 3)) rfl rfl (zmA 3 rfl rfl (l := (zA S 3)) rfl) hx1 ?_
        refine xt_pure rfl rfl rfl rfl ?_
        refine xt_pure rfl rfl rfl (st1 := .int 65535 :: _) rfl ?_
        refine xt_pure rfl rfl rfl rfl ?_
        refine xt_pure rfl rfl rfl (L1 := [_, _, _, _, _]) rfl ?_
        refine xt_pure rfl rfl rfl (L1 := [_, _, _, _, some (.int (_ + 1))]) rfl ?_
        refine xt_pure rfl rfl rfl rfl ?_
        exact ih h
def cZ_sum  (N : Nat) (v1 : Int32) (v2 : Int32) (S : zS) : Option (Int32 × zS) := cZ_sum_4 N N v2 0 v1 S
theorem tcZ_sum {X : List Int32} {D0 : List xE}   {N fr lo : Nat} (hf : 0 ≤ fr) (hl : 0 ≤ lo) {v1 : Int32} {v2 : Int32} {S S2 : zS} {r : Int32}  (h : cZ_sum N v1 v2 S = some (r, S2)) : yK X fr lo 127 [.ref 207, .int v1, .int v2] (zD zTZ zaZ S D0) 0 0 (zQi zTZ zaZ D0 r S2) := by
  unfold cZ_sum at h
  refine yK.of rfl (yle rfl) (L := [_, _, _, _, _]) rfl ?_
  refine xt_pure rfl rfl rfl (st1 := .int 0 :: _) rfl ?_
  refine xt_pure rfl rfl rfl (L1 := [_, _, _, _, _]) rfl ?_
  refine xt_pure rfl rfl rfl rfl ?_
  refine xt_pure rfl rfl rfl (L1 := [_, _, _, _, _]) rfl ?_
  exact tcZ_sum_4 hf hl h
