/-! MIRRORS: the tape -/
def zTP : List (Nat × Nat × Nat) := [(0, 9, 1), (3, 0, 0), (3, 0, 0), (3, 0, 0), (4, 1, 0), (0, 7, 2), (0, 7, 3), (0, 7, 6), (4, 1, 0), (4, 1, 0), (3, 0, 0), (4, 1, 0), (3, 0, 0), (3, 0, 0), (0, 2, 0), (3, 0, 0), (3, 0, 0), (3, 0, 0), (3, 0, 0), (3, 0, 0), (3, 0, 0), (3, 0, 0), (0, 2, 8), (3, 0, 0), (0, 2, 10), (3, 0, 0), (3, 0, 0), (0, 2, 13), (0, 2, 14), (0, 2, 15), (3, 0, 0), (3, 0, 0), (0, 2, 18)]
def zaP (a : Nat) (p : Nat → Nat) (i : Nat) : Nat := ([79, 80, 82, 83, 84, 85, 85, 85, 86, 87, 88, 89, 90, 91, a, p 1, p 2, p 3, p 4, p 5, p 6, p 7, a, p 9, a, p 11, p 12, a, a, a, p 16, p 17, a] : List Nat).getD i 0
def zgP (a : Nat) (p : Nat → Nat) : List xE := [(a, .inl (2, 1, .ref (p 1))), (a, .inl (2, 2, .ref (p 2))), (a, .inl (2, 3, .ref (p 3))), (a, .inl (2, 4, .ref (p 4))), (a, .inl (2, 5, .ref (p 5))), (a, .inl (2, 6, .ref (p 6))), (a, .inl (2, 7, .ref (p 7))), (a, .inl (2, 9, .ref (p 9))), (a, .inl (2, 11, .ref (p 11))), (a, .inl (2, 12, .ref (p 12))), (a, .inl (2, 16, .ref (p 16))), (a, .inl (2, 17, .ref (p 17)))]
def zw81 : List Int64 := [1718579821, 504364296556, 32485515276415603, 1836413812, 2003330414, 444301538672, 7955827, 512853240933, 470020941177, 1684108389, 109300196926309, 1835101817, 1952807028, 499850046565, 1818850164, 126896544048484, 435644822137, 112602893349477, 426953237355, 28530, 6385252, 7237492, 7103854, 6840691, 26995, 500086104428, 7631481, 1701606245, 128034945656947, 131290429678963, 120325360941427, 30510848328168051, 1919907699, 28550419062547827, 32485515276412019, 7302757]
def zwsg : List Int32 := [59, 123, 125, 40, 41, 91, 93, 44, 61, 60, 62, 43, 45, 42, 47, 37]
def cP_isLetter  (N : Nat) (v0 : Int32) (S : zS) : Option (Int32 × zS) := (if v0.toInt < 97 then some (0, S) else (if 122 < v0.toInt then some (0, S) else some (1, S)))
theorem tcP_isLetter {X : List Int32} {D0 : List xE} {a : Nat} {p : Nat → Nat} (hG0 : ((85, .inl (7, 1, .ref a)) : xE) ∈ D0) (hG : ∀ e ∈ zgP a p, e ∈ D0)  {N fr lo : Nat} (hf : 0 ≤ fr) (hl : 0 ≤ lo) {v0 : Int32} {S S2 : zS} {r : Int32}  (h : cP_isLetter N v0 S = some (r, S2)) : yK X fr lo 31 [.int v0] (zD zTP (zaP a p) S D0) 0 0 (zQi zTP (zaP a p) D0 r S2) := by
  unfold cP_isLetter at h
  refine yK.of rfl (yle rfl) (L := [_]) rfl ?_
  refine xt_pure rfl rfl rfl rfl ?_
  refine xt_pure rfl rfl rfl (st1 := .int 97 :: _) rfl ?_
  refine xt_ic rfl rfl (fun hb => ?_) (fun hb => ?_)
  · replace h := zif_t (p := v0.toInt < 97) hb h
    refine xt_pure rfl rfl rfl (st1 := .int 0 :: _) rfl ?_
    cases h
    exact xt_iret rfl rfl rfl rfl ⟨rfl, rfl⟩
  · replace h := zif_f (p := v0.toInt < 97) hb h
    refine xt_pure rfl rfl rfl rfl ?_
    refine xt_pure rfl rfl rfl (st1 := .int 122 :: _) rfl ?_
    refine xt_ic rfl rfl (fun hb => ?_) (fun hb => ?_)
    · replace h := zif_t (p := 122 < v0.toInt) hb h
      refine xt_pure rfl rfl rfl (st1 := .int 0 :: _) rfl ?_
      cases h
      exact xt_iret rfl rfl rfl rfl ⟨rfl, rfl⟩
    · replace h := zif_f (p := 122 < v0.toInt) hb h
      refine xt_pure rfl rfl rfl (st1 := .int 1 :: _) rfl ?_
      refine xt_pure rfl rfl rfl rfl ?_
      cases h
      exact xt_iret rfl rfl rfl rfl ⟨rfl, rfl⟩
def cP_isDigit  (N : Nat) (v0 : Int32) (S : zS) : Option (Int32 × zS) := (if v0.toInt < 48 then some (0, S) else (if 57 < v0.toInt then some (0, S) else some (1, S)))
theorem tcP_isDigit {X : List Int32} {D0 : List xE} {a : Nat} {p : Nat → Nat} (hG0 : ((85, .inl (7, 1, .ref a)) : xE) ∈ D0) (hG : ∀ e ∈ zgP a p, e ∈ D0)  {N fr lo : Nat} (hf : 0 ≤ fr) (hl : 0 ≤ lo) {v0 : Int32} {S S2 : zS} {r : Int32}  (h : cP_isDigit N v0 S = some (r, S2)) : yK X fr lo 33 [.int v0] (zD zTP (zaP a p) S D0) 0 0 (zQi zTP (zaP a p) D0 r S2) := by
  unfold cP_isDigit at h
  refine yK.of rfl (yle rfl) (L := [_]) rfl ?_
  refine xt_pure rfl rfl rfl rfl ?_
  refine xt_pure rfl rfl rfl (st1 := .int 48 :: _) rfl ?_
  refine xt_ic rfl rfl (fun hb => ?_) (fun hb => ?_)
  · replace h := zif_t (p := v0.toInt < 48) hb h
    refine xt_pure rfl rfl rfl (st1 := .int 0 :: _) rfl ?_
    cases h
    exact xt_iret rfl rfl rfl rfl ⟨rfl, rfl⟩
  · replace h := zif_f (p := v0.toInt < 48) hb h
    refine xt_pure rfl rfl rfl rfl ?_
    refine xt_pure rfl rfl rfl (st1 := .int 57 :: _) rfl ?_
    refine xt_ic rfl rfl (fun hb => ?_) (fun hb => ?_)
    · replace h := zif_t (p := 57 < v0.toInt) hb h
      refine xt_pure rfl rfl rfl (st1 := .int 0 :: _) rfl ?_
      cases h
      exact xt_iret rfl rfl rfl rfl ⟨rfl, rfl⟩
    · replace h := zif_f (p := 57 < v0.toInt) hb h
      refine xt_pure rfl rfl rfl (st1 := .int 1 :: _) rfl ?_
      refine xt_pure rfl rfl rfl rfl ?_
      cases h
      exact xt_iret rfl rfl rfl rfl ⟨rfl, rfl⟩
def cP_behindBlanks_2  (N : Nat)  : Nat → Int32 → zS → Option (Int32 × zS)
  | 0, _, _ => none
  | n + 1, l2, S => (if (zI S 0).toInt ≤ l2.toInt then some (l2, S) else (zg (gI (zA S 1) l2) fun x1 => (if x1 = (32 : Int32) then (cP_behindBlanks_2 N n) (l2 + 1) S else (zg (gI (zA S 1) l2) fun x2 => (if x2 ≠ (10 : Int32) then some (l2, S) else (cP_behindBlanks_2 N n) (l2 + 1) S)))))
theorem tcP_behindBlanks_2 {X : List Int32} {D0 : List xE} {a : Nat} {p : Nat → Nat} (hG0 : ((85, .inl (7, 1, .ref a)) : xE) ∈ D0) (hG : ∀ e ∈ zgP a p, e ∈ D0)  {N fr lo : Nat}   (hf : 0 ≤ fr) (hl : 0 ≤ lo)  : ∀ {n : Nat} {l2 : Int32} {d1 : Int32} {S S2 : zS} {r : Int32} , cP_behindBlanks_2 N n l2 S = some (r, S2) → yT X fr lo 29 2 [some (.ref 79), some (.int d1), some (.int l2)] [] (zD zTP (zaP a p) S D0) 0 0 (zQi zTP (zaP a p) D0 r S2) := by
  intro n
  induction n with
  | zero =>
    intro l2 d1 S S2 r  h
    have h : (none : Option (Int32 × zS)) = some (r, S2) := h
    cases h
  | succ n ih =>
    intro l2 d1 S S2 r  h
    rw [cP_behindBlanks_2] at h
    refine xt_pure rfl rfl rfl rfl ?_
    refine xt_pure rfl rfl rfl rfl ?_
    refine zt_gI 0 rfl rfl rfl rfl (x := (zI S 0)) rfl ?_
    refine xt_ic rfl rfl (fun hb => ?_) (fun hb => ?_)
    · replace h := zif_t (p := (zI S 0).toInt ≤ l2.toInt) hb h
      refine xt_pure rfl rfl rfl rfl ?_
      cases h
      exact xt_iret rfl rfl rfl rfl ⟨rfl, rfl⟩
    · replace h := zif_f (p := (zI S 0).toInt ≤ l2.toInt) hb h
      refine xt_pure rfl rfl rfl rfl ?_
      refine xt_getf rfl rfl (xmC 127 rfl) ?_
      refine xt_pure rfl rfl rfl rfl ?_
      obtain ⟨x1, hx1, h⟩ := zgi h
      refine zr_ild (l := (zA S 1)) rfl rfl (zmA 1 rfl rfl (l := (zA S 1)) rfl) hx1 ?_
      refine xt_pure rfl rfl rfl (st1 := .int 32 :: _) rfl ?_
      refine xt_ic rfl rfl (fun hb => ?_) (fun hb => ?_)
      · replace h := zif_t (p := x1 = (32 : Int32)) hb h
        refine xt_pure rfl rfl rfl (L1 := [_, _, some (.int (_ + 1))]) rfl ?_
        refine xt_pure rfl rfl rfl rfl ?_
        exact ih h
      · replace h := zif_f (p := x1 = (32 : Int32)) hb h
        refine xt_pure rfl rfl rfl rfl ?_
        refine xt_getf rfl rfl (xmC 127 rfl) ?_
        refine xt_pure rfl rfl rfl rfl ?_
        obtain ⟨x2, hx2, h⟩ := zgi h
        refine zr_ild (l := (zA S 1)) rfl rfl (zmA 1 rfl rfl (l := (zA S 1)) rfl) hx2 ?_
        refine xt_pure rfl rfl rfl (st1 := .int 10 :: _) rfl ?_
        refine xt_ic rfl rfl (fun hb => ?_) (fun hb => ?_)
        · replace h := zif_t (p := x2 ≠ (10 : Int32)) hb h
          refine xt_pure rfl rfl rfl rfl ?_
          cases h
          exact xt_iret rfl rfl rfl rfl ⟨rfl, rfl⟩
        · replace h := zif_f (p := x2 ≠ (10 : Int32)) hb h
          refine xt_pure rfl rfl rfl (L1 := [_, _, some (.int (_ + 1))]) rfl ?_
          refine xt_pure rfl rfl rfl rfl ?_
          exact ih h
def cP_behindBlanks  (N : Nat) (v1 : Int32) (S : zS) : Option (Int32 × zS) := cP_behindBlanks_2 N N v1 S
theorem tcP_behindBlanks {X : List Int32} {D0 : List xE} {a : Nat} {p : Nat → Nat} (hG0 : ((85, .inl (7, 1, .ref a)) : xE) ∈ D0) (hG : ∀ e ∈ zgP a p, e ∈ D0)  {N fr lo : Nat} (hf : 0 ≤ fr) (hl : 0 ≤ lo) {v1 : Int32} {S S2 : zS} {r : Int32}  (h : cP_behindBlanks N v1 S = some (r, S2)) : yK X fr lo 29 [.ref 79, .int v1] (zD zTP (zaP a p) S D0) 0 0 (zQi zTP (zaP a p) D0 r S2) := by
  unfold cP_behindBlanks at h
  refine yK.of rfl (yle rfl) (L := [_, _, _]) rfl ?_
  refine xt_pure rfl rfl rfl rfl ?_
  refine xt_pure rfl rfl rfl (L1 := [_, _, _]) rfl ?_
  exact tcP_behindBlanks_2 hG0 hG hf hl h
def cP_kindOfWord_2  (N : Nat)  : Nat → Int64 → Int32 → zS → Option (Int32 × zS)
  | 0, _, _, _ => none
  | n + 1, l1, l3, S => (if 36 ≤ l3.toInt then some (3, S) else (zg (gI zw81 l3) fun x1 => (if x1 ≠ l1 then (cP_kindOfWord_2 N n) l1 (l3 + 1) S else some ((200 + l3), S))))
theorem tcP_kindOfWord_2 {X : List Int32} {D0 : List xE} {a : Nat} {p : Nat → Nat} (hG0 : ((85, .inl (7, 1, .ref a)) : xE) ∈ D0) (hG : ∀ e ∈ zgP a p, e ∈ D0)  {N fr lo : Nat}   (hf : 0 ≤ fr) (hl : 0 ≤ lo)  : ∀ {n : Nat} {l1 : Int64} {l3 : Int32}  {S S2 : zS} {r : Int32} , cP_kindOfWord_2 N n l1 l3 S = some (r, S2) → yT X fr lo 34 2 [some (.ref 79), some (.long l1), none, some (.int l3)] [] (zD zTP (zaP a p) S D0) 0 0 (zQi zTP (zaP a p) D0 r S2) := by
  intro n
  induction n with
  | zero =>
    intro l1 l3  S S2 r  h
    have h : (none : Option (Int32 × zS)) = some (r, S2) := h
    cases h
  | succ n ih =>
    intro l1 l3  S S2 r  h
    rw [cP_kindOfWord_2] at h
    refine xt_pure rfl rfl rfl rfl ?_
    refine xt_pure rfl rfl rfl (st1 := .int 36 :: _) rfl ?_
    refine xt_ic rfl rfl (fun hb => ?_) (fun hb => ?_)
    · replace h := zif_t (p := 36 ≤ l3.toInt) hb h
      refine xt_pure rfl rfl rfl (st1 := .int 3 :: _) rfl ?_
      cases h
      exact xt_iret rfl rfl rfl rfl ⟨rfl, rfl⟩
    · replace h := zif_f (p := 36 ≤ l3.toInt) hb h
      refine xt_pure rfl rfl rfl rfl ?_
      refine xt_getf rfl rfl (xmC 128 rfl) ?_
      refine xt_pure rfl rfl rfl rfl ?_
      obtain ⟨x1, hx1, h⟩ := zgi h
      refine zr_lld (l := zw81) rfl rfl (xmC 132 rfl) hx1 ?_
      refine xt_pure rfl rfl rfl rfl ?_
      refine zt_lc rfl rfl rfl (fun hb => ?_) (fun hb => ?_)
      · replace h := zif_t (p := x1 ≠ l1) hb h
        refine xt_pure rfl rfl rfl (L1 := [_, _, _, some (.int (_ + 1))]) rfl ?_
        refine xt_pure rfl rfl rfl rfl ?_
        exact ih h
      · replace h := zif_f (p := x1 ≠ l1) hb h
        refine xt_pure rfl rfl rfl (st1 := .int 200 :: _) rfl ?_
        refine xt_pure rfl rfl rfl rfl ?_
        refine xt_pure rfl rfl rfl rfl ?_
        cases h
        exact xt_iret rfl rfl rfl rfl ⟨rfl, rfl⟩
def cP_kindOfWord  (N : Nat) (v1 : Int64) (S : zS) : Option (Int32 × zS) := cP_kindOfWord_2 N N v1 0 S
theorem tcP_kindOfWord {X : List Int32} {D0 : List xE} {a : Nat} {p : Nat → Nat} (hG0 : ((85, .inl (7, 1, .ref a)) : xE) ∈ D0) (hG : ∀ e ∈ zgP a p, e ∈ D0)  {N fr lo : Nat} (hf : 0 ≤ fr) (hl : 0 ≤ lo) {v1 : Int64} {S S2 : zS} {r : Int32}  (h : cP_kindOfWord N v1 S = some (r, S2)) : yK X fr lo 34 [.ref 79, .long v1] (zD zTP (zaP a p) S D0) 0 0 (zQi zTP (zaP a p) D0 r S2) := by
  unfold cP_kindOfWord at h
  refine yK.of rfl (yle rfl) (L := [_, _, _, _]) rfl ?_
  refine xt_pure rfl rfl rfl (st1 := .int 0 :: _) rfl ?_
  refine xt_pure rfl rfl rfl (L1 := [_, _, _, _]) rfl ?_
  exact tcP_kindOfWord_2 hG0 hG hf hl h
def cP_splitNumber_28  (N : Nat)  (l1 : Int32) (l2 : Int32) (l3 : Int64) (l5 : Int32) (S : zS) : Option (Int32 × zS) := (if zok (zB S 4) l1 then (if (l5 - l2).toInt ≤ 6 then (if zok (zA S 2) l1 then some (l5, (zsA (zsB S 4 (zs (zB S 4) l1 l3)) 2 (zs (zA S 2) l1 2))) else none) else (if zok (zA S 2) l1 then some (l5, (zsA (zsB S 4 (zs (zB S 4) l1 l3)) 2 (zs (zA S 2) l1 1))) else none)) else none)
theorem tcP_splitNumber_28 {X : List Int32} {D0 : List xE} {a : Nat} {p : Nat → Nat} (hG0 : ((85, .inl (7, 1, .ref a)) : xE) ∈ D0) (hG : ∀ e ∈ zgP a p, e ∈ D0)  {N fr lo : Nat}   (hf : 1 ≤ fr) (hl : 20 ≤ lo) {l1 : Int32} {l2 : Int32} {l3 : Int64} {l5 : Int32}  {S S2 : zS} {r : Int32}  (h : cP_splitNumber_28 N l1 l2 l3 l5 S = some (r, S2)) : yT X fr lo 35 28 [some (.ref 79), some (.int l1), some (.int l2), some (.long l3), none, some (.int l5)] [] (zD zTP (zaP a p) S D0) 0 0 (zQi zTP (zaP a p) D0 r S2) := by
  unfold cP_splitNumber_28 at h
  refine xt_pure rfl rfl rfl rfl ?_
  refine xt_getf rfl rfl (xmC 131 rfl) ?_
  refine xt_pure rfl rfl rfl rfl ?_
  refine xt_pure rfl rfl rfl rfl ?_
  obtain ⟨hg, h⟩ := zgd h
  refine zt_lst 4 rfl rfl rfl rfl (l := (zB S 4)) rfl hg ?_
  refine xt_pure rfl rfl rfl rfl ?_
  refine xt_getf rfl rfl (xmC 129 rfl) ?_
  refine xt_pure rfl rfl rfl rfl ?_
  refine xt_pure rfl rfl rfl rfl ?_
  refine xt_pure rfl rfl rfl rfl ?_
  refine xt_pure rfl rfl rfl rfl ?_
  refine xt_pure rfl rfl rfl (st1 := .int 6 :: _) rfl ?_
  refine xt_ic rfl rfl (fun hb => ?_) (fun hb => ?_)
  · replace h := zif_t (p := (l5 - l2).toInt ≤ 6) hb h
    refine xt_pure rfl rfl rfl (st1 := .int 2 :: _) rfl ?_
    obtain ⟨hg, h⟩ := zgd h
    refine zt_ist 2 rfl rfl rfl rfl (l := (zA S 2)) rfl hg ?_
    refine xt_pure rfl rfl rfl rfl ?_
    cases h
    exact xt_iret rfl rfl rfl rfl ⟨rfl, rfl⟩
  · replace h := zif_f (p := (l5 - l2).toInt ≤ 6) hb h
    refine xt_pure rfl rfl rfl (st1 := .int 1 :: _) rfl ?_
    refine xt_pure rfl rfl rfl rfl ?_
    obtain ⟨hg, h⟩ := zgd h
    refine zt_ist 2 rfl rfl rfl rfl (l := (zA S 2)) rfl hg ?_
    refine xt_pure rfl rfl rfl rfl ?_
    cases h
    exact xt_iret rfl rfl rfl rfl ⟨rfl, rfl⟩
def cP_splitNumber_4  (N : Nat)  : Nat → Int32 → Int32 → Int64 → Int32 → zS → Option (Int32 × zS)
  | 0, _, _, _, _, _ => none
  | n + 1, l1, l2, l3, l5, S => (if (zI S 0).toInt ≤ l5.toInt then cP_splitNumber_28 N l1 l2 l3 l5 S else (zg (gI (zA S 1) l5) fun x1 => (zb (cP_isDigit N x1 S) fun x2 S3 => (if x2 = (0 : Int32) then cP_splitNumber_28 N l1 l2 l3 l5 S3 else (zg (gI (zA S3 1) l5) fun x5 => (cP_splitNumber_4 N n) l1 l2 (((l3 * 10) + x5.toInt64) - 48) (l5 + 1) S3)))))
theorem tcP_splitNumber_4 {X : List Int32} {D0 : List xE} {a : Nat} {p : Nat → Nat} (hG0 : ((85, .inl (7, 1, .ref a)) : xE) ∈ D0) (hG : ∀ e ∈ zgP a p, e ∈ D0)  {N fr lo : Nat}   (hf : 1 ≤ fr) (hl : 20 ≤ lo)  : ∀ {n : Nat} {l1 : Int32} {l2 : Int32} {l3 : Int64} {l5 : Int32}  {S S2 : zS} {r : Int32} , cP_splitNumber_4 N n l1 l2 l3 l5 S = some (r, S2) → yT X fr lo 35 4 [some (.ref 79), some (.int l1), some (.int l2), some (.long l3), none, some (.int l5)] [] (zD zTP (zaP a p) S D0) 0 0 (zQi zTP (zaP a p) D0 r S2) := by
  intro n
  induction n with
  | zero =>
    intro l1 l2 l3 l5  S S2 r  h
    have h : (none : Option (Int32 × zS)) = some (r, S2) := h
    cases h
  | succ n ih =>
    intro l1 l2 l3 l5  S S2 r  h
    rw [cP_splitNumber_4] at h
    refine xt_pure rfl rfl rfl rfl ?_
    refine xt_pure rfl rfl rfl rfl ?_
    refine zt_gI 0 rfl rfl rfl rfl (x := (zI S 0)) rfl ?_
    refine xt_ic rfl rfl (fun hb => ?_) (fun hb => ?_)
    · replace h := zif_t (p := (zI S 0).toInt ≤ l5.toInt) hb h
      exact tcP_splitNumber_28 hG0 hG hf hl h
    · replace h := zif_f (p := (zI S 0).toInt ≤ l5.toInt) hb h
      refine xt_pure rfl rfl rfl rfl ?_
      refine xt_getf rfl rfl (xmC 127 rfl) ?_
      refine xt_pure rfl rfl rfl rfl ?_
      obtain ⟨x1, hx1, h⟩ := zgi h
      refine zr_ild (l := (zA S 1)) rfl rfl (zmA 1 rfl rfl (l := (zA S 1)) rfl) hx1 ?_
      obtain ⟨x2, S3, hc4, h⟩ := zbi h
      refine zt_Si rfl rfl (by decide) rfl rfl ⟨rfl, yle rfl, yle rfl⟩ (m := 1) rfl ⟨by omega, by omega⟩ (tcP_isDigit hG0 hG (by omega) (by omega) hc4) (fr1 := fr - 1) (lo1 := lo - 20) ?_
      refine xt_if rfl rfl (fun hb => ?_) (fun hb => ?_)
      · replace h := zif_t (p := x2 = (0 : Int32)) hb h
        exact tcP_splitNumber_28 hG0 hG hf hl h
      · replace h := zif_f (p := x2 = (0 : Int32)) hb h
        refine xt_pure rfl rfl rfl rfl ?_
        refine xt_pure rfl rfl rfl (st1 := .long 10 :: _) rfl ?_
        refine xt_pure rfl rfl rfl rfl ?_
        refine xt_pure rfl rfl rfl rfl ?_
        refine xt_getf rfl rfl (xmC 127 rfl) ?_
        refine xt_pure rfl rfl rfl rfl ?_
        obtain ⟨x5, hx5, h⟩ := zgi h
        refine zr_ild (l := (zA S3 1)) rfl rfl (zmA 1 rfl rfl (l := (zA S3 1)) rfl) hx5 ?_
        refine xt_pure rfl rfl rfl rfl ?_
        refine xt_pure rfl rfl rfl rfl ?_
        refine xt_pure rfl rfl rfl (st1 := .long 48 :: _) rfl ?_
        refine xt_pure rfl rfl rfl rfl ?_
        refine xt_pure rfl rfl rfl (L1 := [_, _, _, _, _, _]) rfl ?_
        refine xt_pure rfl rfl rfl (L1 := [_, _, _, _, _, some (.int (_ + 1))]) rfl ?_
        refine xt_pure rfl rfl rfl rfl ?_
        exact ih h
def cP_splitNumber  (N : Nat) (v1 : Int32) (v2 : Int32) (S : zS) : Option (Int32 × zS) := cP_splitNumber_4 N N v1 v2 0 v2 S
theorem tcP_splitNumber {X : List Int32} {D0 : List xE} {a : Nat} {p : Nat → Nat} (hG0 : ((85, .inl (7, 1, .ref a)) : xE) ∈ D0) (hG : ∀ e ∈ zgP a p, e ∈ D0)  {N fr lo : Nat} (hf : 1 ≤ fr) (hl : 20 ≤ lo) {v1 : Int32} {v2 : Int32} {S S2 : zS} {r : Int32}  (h : cP_splitNumber N v1 v2 S = some (r, S2)) : yK X fr lo 35 [.ref 79, .int v1, .int v2] (zD zTP (zaP a p) S D0) 0 0 (zQi zTP (zaP a p) D0 r S2) := by
  unfold cP_splitNumber at h
  refine yK.of rfl (yle rfl) (L := [_, _, _, _, _, _]) rfl ?_
  refine xt_pure rfl rfl rfl (st1 := .long 0 :: _) rfl ?_
  refine xt_pure rfl rfl rfl (L1 := [_, _, _, _, _, _]) rfl ?_
  refine xt_pure rfl rfl rfl rfl ?_
  refine xt_pure rfl rfl rfl (L1 := [_, _, _, _, _, _]) rfl ?_
  exact tcP_splitNumber_4 hG0 hG hf hl h
def cP_splitWord_32  (N : Nat)  (l1 : Int32) (l2 : Int32) (l3 : Int64) (l5 : Int32) (S : zS) : Option (Int32 × zS) := (if zok (zB S 4) l1 then (if (l5 - l2).toInt ≤ 8 then (zb (cP_kindOfWord N l3 (zsB S 4 (zs (zB S 4) l1 l3))) fun x1 S2 => (if zok (zA S2 2) l1 then some (l5, (zsA S2 2 (zs (zA S2 2) l1 x1))) else none)) else (if zok (zA S 2) l1 then some (l5, (zsA (zsB S 4 (zs (zB S 4) l1 l3)) 2 (zs (zA S 2) l1 1))) else none)) else none)
theorem tcP_splitWord_32 {X : List Int32} {D0 : List xE} {a : Nat} {p : Nat → Nat} (hG0 : ((85, .inl (7, 1, .ref a)) : xE) ∈ D0) (hG : ∀ e ∈ zgP a p, e ∈ D0)  {N fr lo : Nat}   (hf : 1 ≤ fr) (hl : 23 ≤ lo) {l1 : Int32} {l2 : Int32} {l3 : Int64} {l5 : Int32}  {S S2 : zS} {r : Int32}  (h : cP_splitWord_32 N l1 l2 l3 l5 S = some (r, S2)) : yT X fr lo 32 32 [some (.ref 79), some (.int l1), some (.int l2), some (.long l3), none, some (.int l5)] [] (zD zTP (zaP a p) S D0) 0 0 (zQi zTP (zaP a p) D0 r S2) := by
  unfold cP_splitWord_32 at h
  refine xt_pure rfl rfl rfl rfl ?_
  refine xt_getf rfl rfl (xmC 131 rfl) ?_
  refine xt_pure rfl rfl rfl rfl ?_
  refine xt_pure rfl rfl rfl rfl ?_
  obtain ⟨hg, h⟩ := zgd h
  refine zt_lst 4 rfl rfl rfl rfl (l := (zB S 4)) rfl hg ?_
  refine xt_pure rfl rfl rfl rfl ?_
  refine xt_getf rfl rfl (xmC 129 rfl) ?_
  refine xt_pure rfl rfl rfl rfl ?_
  refine xt_pure rfl rfl rfl rfl ?_
  refine xt_pure rfl rfl rfl rfl ?_
  refine xt_pure rfl rfl rfl rfl ?_
  refine xt_pure rfl rfl rfl (st1 := .int 8 :: _) rfl ?_
  refine xt_ic rfl rfl (fun hb => ?_) (fun hb => ?_)
  · replace h := zif_t (p := (l5 - l2).toInt ≤ 8) hb h
    refine xt_pure rfl rfl rfl rfl ?_
    refine xt_pure rfl rfl rfl rfl ?_
    obtain ⟨x1, S2, hc3, h⟩ := zbi h
    refine zt_Vi rfl rfl rfl rfl (xmC 127 rfl) ⟨rfl, rfl, yle rfl, yle rfl⟩ (m := 4) rfl ⟨by omega, by omega⟩ (tcP_kindOfWord hG0 hG (by omega) (by omega) hc3) (fr1 := fr - 1) (lo1 := lo - 23) ?_
    obtain ⟨hg, h⟩ := zgd h
    refine zt_ist 2 rfl rfl rfl rfl (l := (zA S2 2)) rfl hg ?_
    refine xt_pure rfl rfl rfl rfl ?_
    cases h
    exact xt_iret rfl rfl rfl rfl ⟨rfl, rfl⟩
  · replace h := zif_f (p := (l5 - l2).toInt ≤ 8) hb h
    refine xt_pure rfl rfl rfl (st1 := .int 1 :: _) rfl ?_
    refine xt_pure rfl rfl rfl rfl ?_
    obtain ⟨hg, h⟩ := zgd h
    refine zt_ist 2 rfl rfl rfl rfl (l := (zA S 2)) rfl hg ?_
    refine xt_pure rfl rfl rfl rfl ?_
    cases h
    exact xt_iret rfl rfl rfl rfl ⟨rfl, rfl⟩
def cP_splitWord_4  (N : Nat)  : Nat → Int32 → Int32 → Int64 → Int32 → zS → Option (Int32 × zS)
  | 0, _, _, _, _, _ => none
  | n + 1, l1, l2, l3, l5, S => (if (zI S 0).toInt ≤ l5.toInt then cP_splitWord_32 N l1 l2 l3 l5 S else (zg (gI (zA S 1) l5) fun x4 => (zb (cP_isLetter N x4 S) fun x5 S6 => (if x5 ≠ (0 : Int32) then (zg (gI (zA S6 1) l5) fun x8 => (cP_splitWord_4 N n) l1 l2 ((l3 <<< ((8 : Int32).toInt64 &&& 63)) ||| x8.toInt64) (l5 + 1) S6) else (zg (gI (zA S6 1) l5) fun x9 => (zb (cP_isDigit N x9 S6) fun x10 S11 => (if x10 = (0 : Int32) then cP_splitWord_32 N l1 l2 l3 l5 S11 else (zg (gI (zA S11 1) l5) fun x13 => (cP_splitWord_4 N n) l1 l2 ((l3 <<< ((8 : Int32).toInt64 &&& 63)) ||| x13.toInt64) (l5 + 1) S11))))))))
theorem tcP_splitWord_4 {X : List Int32} {D0 : List xE} {a : Nat} {p : Nat → Nat} (hG0 : ((85, .inl (7, 1, .ref a)) : xE) ∈ D0) (hG : ∀ e ∈ zgP a p, e ∈ D0)  {N fr lo : Nat}   (hf : 1 ≤ fr) (hl : 23 ≤ lo)  : ∀ {n : Nat} {l1 : Int32} {l2 : Int32} {l3 : Int64} {l5 : Int32}  {S S2 : zS} {r : Int32} , cP_splitWord_4 N n l1 l2 l3 l5 S = some (r, S2) → yT X fr lo 32 4 [some (.ref 79), some (.int l1), some (.int l2), some (.long l3), none, some (.int l5)] [] (zD zTP (zaP a p) S D0) 0 0 (zQi zTP (zaP a p) D0 r S2) := by
  intro n
  induction n with
  | zero =>
    intro l1 l2 l3 l5  S S2 r  h
    have h : (none : Option (Int32 × zS)) = some (r, S2) := h
    cases h
  | succ n ih =>
    intro l1 l2 l3 l5  S S2 r  h
    rw [cP_splitWord_4] at h
    refine xt_pure rfl rfl rfl rfl ?_
    refine xt_pure rfl rfl rfl rfl ?_
    refine zt_gI 0 rfl rfl rfl rfl (x := (zI S 0)) rfl ?_
    refine xt_ic rfl rfl (fun hb => ?_) (fun hb => ?_)
    · replace h := zif_t (p := (zI S 0).toInt ≤ l5.toInt) hb h
      exact tcP_splitWord_32 hG0 hG hf hl h
    · replace h := zif_f (p := (zI S 0).toInt ≤ l5.toInt) hb h
      refine xt_pure rfl rfl rfl rfl ?_
      refine xt_getf rfl rfl (xmC 127 rfl) ?_
      refine xt_pure rfl rfl rfl rfl ?_
      obtain ⟨x4, hx4, h⟩ := zgi h
      refine zr_ild (l := (zA S 1)) rfl rfl (zmA 1 rfl rfl (l := (zA S 1)) rfl) hx4 ?_
      obtain ⟨x5, S6, hc7, h⟩ := zbi h
      refine zt_Si rfl rfl (by decide) rfl rfl ⟨rfl, yle rfl, yle rfl⟩ (m := 1) rfl ⟨by omega, by omega⟩ (tcP_isLetter hG0 hG (by omega) (by omega) hc7) (fr1 := fr - 1) (lo1 := lo - 20) ?_
      refine xt_if rfl rfl (fun hb => ?_) (fun hb => ?_)
      · replace h := zif_t (p := x5 ≠ (0 : Int32)) hb h
        refine xt_pure rfl rfl rfl rfl ?_
        refine xt_pure rfl rfl rfl (st1 := .int 8 :: _) rfl ?_
        refine xt_pure rfl rfl rfl rfl ?_
        refine xt_pure rfl rfl rfl rfl ?_
        refine xt_getf rfl rfl (xmC 127 rfl) ?_
        refine xt_pure rfl rfl rfl rfl ?_
        obtain ⟨x8, hx8, h⟩ := zgi h
        refine zr_ild (l := (zA S6 1)) rfl rfl (zmA 1 rfl rfl (l := (zA S6 1)) rfl) hx8 ?_
        refine xt_pure rfl rfl rfl rfl ?_
        refine xt_pure rfl rfl rfl rfl ?_
        refine xt_pure rfl rfl rfl (L1 := [_, _, _, _, _, _]) rfl ?_
        refine xt_pure rfl rfl rfl (L1 := [_, _, _, _, _, some (.int (_ + 1))]) rfl ?_
        refine xt_pure rfl rfl rfl rfl ?_
        exact ih h
      · replace h := zif_f (p := x5 ≠ (0 : Int32)) hb h
        refine xt_pure rfl rfl rfl rfl ?_
        refine xt_getf rfl rfl (xmC 127 rfl) ?_
        refine xt_pure rfl rfl rfl rfl ?_
        obtain ⟨x9, hx9, h⟩ := zgi h
        refine zr_ild (l := (zA S6 1)) rfl rfl (zmA 1 rfl rfl (l := (zA S6 1)) rfl) hx9 ?_
        obtain ⟨x10, S11, hc12, h⟩ := zbi h
        refine zt_Si rfl rfl (by decide) rfl rfl ⟨rfl, yle rfl, yle rfl⟩ (m := 1) rfl ⟨by omega, by omega⟩ (tcP_isDigit hG0 hG (by omega) (by omega) hc12) (fr1 := fr - 1) (lo1 := lo - 20) ?_
        refine xt_if rfl rfl (fun hb => ?_) (fun hb => ?_)
        · replace h := zif_t (p := x10 = (0 : Int32)) hb h
          exact tcP_splitWord_32 hG0 hG hf hl h
        · replace h := zif_f (p := x10 = (0 : Int32)) hb h
          refine xt_pure rfl rfl rfl rfl ?_
          refine xt_pure rfl rfl rfl (st1 := .int 8 :: _) rfl ?_
          refine xt_pure rfl rfl rfl rfl ?_
          refine xt_pure rfl rfl rfl rfl ?_
          refine xt_getf rfl rfl (xmC 127 rfl) ?_
          refine xt_pure rfl rfl rfl rfl ?_
          obtain ⟨x13, hx13, h⟩ := zgi h
          refine zr_ild (l := (zA S11 1)) rfl rfl (zmA 1 rfl rfl (l := (zA S11 1)) rfl) hx13 ?_
          refine xt_pure rfl rfl rfl rfl ?_
          refine xt_pure rfl rfl rfl rfl ?_
          refine xt_pure rfl rfl rfl (L1 := [_, _, _, _, _, _]) rfl ?_
          refine xt_pure rfl rfl rfl (L1 := [_, _, _, _, _, some (.int (_ + 1))]) rfl ?_
          refine xt_pure rfl rfl rfl rfl ?_
          exact ih h
def cP_splitWord  (N : Nat) (v1 : Int32) (v2 : Int32) (S : zS) : Option (Int32 × zS) := cP_splitWord_4 N N v1 v2 0 v2 S
theorem tcP_splitWord {X : List Int32} {D0 : List xE} {a : Nat} {p : Nat → Nat} (hG0 : ((85, .inl (7, 1, .ref a)) : xE) ∈ D0) (hG : ∀ e ∈ zgP a p, e ∈ D0)  {N fr lo : Nat} (hf : 1 ≤ fr) (hl : 23 ≤ lo) {v1 : Int32} {v2 : Int32} {S S2 : zS} {r : Int32}  (h : cP_splitWord N v1 v2 S = some (r, S2)) : yK X fr lo 32 [.ref 79, .int v1, .int v2] (zD zTP (zaP a p) S D0) 0 0 (zQi zTP (zaP a p) D0 r S2) := by
  unfold cP_splitWord at h
  refine yK.of rfl (yle rfl) (L := [_, _, _, _, _, _]) rfl ?_
  refine xt_pure rfl rfl rfl (st1 := .long 0 :: _) rfl ?_
  refine xt_pure rfl rfl rfl (L1 := [_, _, _, _, _, _]) rfl ?_
  refine xt_pure rfl rfl rfl rfl ?_
  refine xt_pure rfl rfl rfl (L1 := [_, _, _, _, _, _]) rfl ?_
  exact tcP_splitWord_4 hG0 hG hf hl h
def cP_isLatin1  (N : Nat)  (S : zS) : Option (Int32 × zS) := some (1, S)
theorem tcP_isLatin1 {X : List Int32} {D0 : List xE} {a : Nat} {p : Nat → Nat} (hG0 : ((85, .inl (7, 1, .ref a)) : xE) ∈ D0) (hG : ∀ e ∈ zgP a p, e ∈ D0)  {N fr lo : Nat} (hf : 0 ≤ fr) (hl : 0 ≤ lo)  {S S2 : zS} {r : Int32}  (h : cP_isLatin1 N  S = some (r, S2)) : yK X fr lo 5 [.ref 4] (zD zTP (zaP a p) S D0) 0 0 (zQi zTP (zaP a p) D0 r S2) := by
  unfold cP_isLatin1 at h
  refine yK.of rfl (yle rfl) (L := [_]) rfl ?_
  refine xt_gets rfl rfl rfl ?_
  refine xt_pure rfl rfl rfl rfl ?_
  refine xt_pure rfl rfl rfl rfl ?_
  refine xt_getf rfl rfl (xmC 5 rfl) ?_
  refine xt_pure rfl rfl rfl rfl ?_
  refine xt_pure rfl rfl rfl (st1 := .int 1 :: _) rfl ?_
  refine xt_pure rfl rfl rfl rfl ?_
  cases h
  exact xt_iret rfl rfl rfl rfl ⟨rfl, rfl⟩
def cP_coder  (N : Nat)  (S : zS) : Option (Int32 × zS) := some (0, S)
theorem tcP_coder {X : List Int32} {D0 : List xE} {a : Nat} {p : Nat → Nat} (hG0 : ((85, .inl (7, 1, .ref a)) : xE) ∈ D0) (hG : ∀ e ∈ zgP a p, e ∈ D0)  {N fr lo : Nat} (hf : 0 ≤ fr) (hl : 0 ≤ lo)  {S S2 : zS} {r : Int32}  (h : cP_coder N  S = some (r, S2)) : yK X fr lo 3 [.ref 4] (zD zTP (zaP a p) S D0) 0 0 (zQi zTP (zaP a p) D0 r S2) := by
  unfold cP_coder at h
  refine yK.of rfl (yle rfl) (L := [_]) rfl ?_
  refine xt_gets rfl rfl rfl ?_
  refine xt_pure rfl rfl rfl rfl ?_
  refine xt_pure rfl rfl rfl rfl ?_
  refine xt_getf rfl rfl (xmC 5 rfl) ?_
  refine xt_pure rfl rfl rfl rfl ?_
  cases h
  exact xt_iret rfl rfl rfl rfl ⟨rfl, rfl⟩
def cP_length  (N : Nat)  (S : zS) : Option (Int32 × zS) := some (((Int32.ofNat zwsg.length) >>> ((0 : Int32) &&& 31)), S)
theorem tcP_length {X : List Int32} {D0 : List xE} {a : Nat} {p : Nat → Nat} (hG0 : ((85, .inl (7, 1, .ref a)) : xE) ∈ D0) (hG : ∀ e ∈ zgP a p, e ∈ D0)  {N fr lo : Nat} (hf : 1 ≤ fr) (hl : 20 ≤ lo)  {S S2 : zS} {r : Int32}  (h : cP_length N  S = some (r, S2)) : yK X fr lo 2 [.ref 4] (zD zTP (zaP a p) S D0) 0 0 (zQi zTP (zaP a p) D0 r S2) := by
  unfold cP_length at h
  refine yK.of rfl (yle rfl) (L := [_]) rfl ?_
  refine xt_pure rfl rfl rfl rfl ?_
  refine xt_getf rfl rfl (xmC 4 rfl) ?_
  refine zr_lenI (l := zwsg) rfl rfl (xmC 6 rfl) rfl ?_
  refine xt_pure rfl rfl rfl rfl ?_
  refine zt_Vi (x := 0) rfl rfl rfl rfl (xmC 4 rfl) ⟨rfl, rfl, yle rfl, yle rfl⟩ (m := 1) rfl ⟨by omega, by omega⟩ (tcP_coder hG0 hG (by omega) (by omega) (N := N) rfl) (fr1 := fr - 1) (lo1 := lo - 20) ?_
  refine xt_pure rfl rfl rfl rfl ?_
  cases h
  exact xt_iret rfl rfl rfl rfl ⟨rfl, rfl⟩
def cP_canEncode  (N : Nat) (v0 : Int32) (S : zS) : Option (Int32 × zS) := (if v0.toInt < 0 then some (0, S) else (if 255 < v0.toInt then some (0, S) else some (1, S)))
theorem tcP_canEncode {X : List Int32} {D0 : List xE} {a : Nat} {p : Nat → Nat} (hG0 : ((85, .inl (7, 1, .ref a)) : xE) ∈ D0) (hG : ∀ e ∈ zgP a p, e ∈ D0)  {N fr lo : Nat} (hf : 0 ≤ fr) (hl : 0 ≤ lo) {v0 : Int32} {S S2 : zS} {r : Int32}  (h : cP_canEncode N v0 S = some (r, S2)) : yK X fr lo 39 [.int v0] (zD zTP (zaP a p) S D0) 0 0 (zQi zTP (zaP a p) D0 r S2) := by
  unfold cP_canEncode at h
  refine yK.of rfl (yle rfl) (L := [_]) rfl ?_
  refine xt_pure rfl rfl rfl rfl ?_
  refine xt_if rfl rfl (fun hb => ?_) (fun hb => ?_)
  · replace h := zif_t (p := v0.toInt < 0) hb h
    refine xt_pure rfl rfl rfl (st1 := .int 0 :: _) rfl ?_
    cases h
    exact xt_iret rfl rfl rfl rfl ⟨rfl, rfl⟩
  · replace h := zif_f (p := v0.toInt < 0) hb h
    refine xt_pure rfl rfl rfl rfl ?_
    refine xt_pure rfl rfl rfl (st1 := .int 255 :: _) rfl ?_
    refine xt_ic rfl rfl (fun hb => ?_) (fun hb => ?_)
    · replace h := zif_t (p := 255 < v0.toInt) hb h
      refine xt_pure rfl rfl rfl (st1 := .int 0 :: _) rfl ?_
      cases h
      exact xt_iret rfl rfl rfl rfl ⟨rfl, rfl⟩
    · replace h := zif_f (p := 255 < v0.toInt) hb h
      refine xt_pure rfl rfl rfl (st1 := .int 1 :: _) rfl ?_
      refine xt_pure rfl rfl rfl rfl ?_
      cases h
      exact xt_iret rfl rfl rfl rfl ⟨rfl, rfl⟩
def cP_indexOfChar_5  (N : Nat)  : Nat → Int32 → Int32 → Int32 → zS → Option (Int32 × zS)
  | 0, _, _, _, _ => none
  | n + 1, l3, l4, l5, S => (if l3.toInt ≤ l5.toInt then some ((-1), S) else (zg (gI zwsg l5) fun x1 => (if x1 ≠ l4 then (cP_indexOfChar_5 N n) l3 l4 (l5 + 1) S else some (l5, S))))
theorem tcP_indexOfChar_5 {X : List Int32} {D0 : List xE} {a : Nat} {p : Nat → Nat} (hG0 : ((85, .inl (7, 1, .ref a)) : xE) ∈ D0) (hG : ∀ e ∈ zgP a p, e ∈ D0)  {N fr lo : Nat}   (hf : 0 ≤ fr) (hl : 0 ≤ lo)  : ∀ {n : Nat} {l3 : Int32} {l4 : Int32} {l5 : Int32} {d1 : Int32} {d2 : Int32} {S S2 : zS} {r : Int32} , cP_indexOfChar_5 N n l3 l4 l5 S = some (r, S2) → yT X fr lo 40 5 [some (.ref 5), some (.int d1), some (.int d2), some (.int l3), some (.int l4), some (.int l5)] [] (zD zTP (zaP a p) S D0) 0 0 (zQi zTP (zaP a p) D0 r S2) := by
  intro n
  induction n with
  | zero =>
    intro l3 l4 l5 d1 d2 S S2 r  h
    have h : (none : Option (Int32 × zS)) = some (r, S2) := h
    cases h
  | succ n ih =>
    intro l3 l4 l5 d1 d2 S S2 r  h
    rw [cP_indexOfChar_5] at h
    refine xt_pure rfl rfl rfl rfl ?_
    refine xt_pure rfl rfl rfl rfl ?_
    refine xt_ic rfl rfl (fun hb => ?_) (fun hb => ?_)
    · replace h := zif_t (p := l3.toInt ≤ l5.toInt) hb h
      refine xt_pure rfl rfl rfl (st1 := .int (-1) :: _) rfl ?_
      cases h
      exact xt_iret rfl rfl rfl rfl ⟨rfl, rfl⟩
    · replace h := zif_f (p := l3.toInt ≤ l5.toInt) hb h
      refine xt_pure rfl rfl rfl rfl ?_
      refine xt_pure rfl rfl rfl rfl ?_
      obtain ⟨x1, hx1, h⟩ := zgi h
      refine zr_bld (l := zwsg) rfl rfl (by decide) (xmC 6 rfl) hx1 ?_
      refine xt_pure rfl rfl rfl rfl ?_
      refine xt_ic rfl rfl (fun hb => ?_) (fun hb => ?_)
      · replace h := zif_t (p := x1 ≠ l4) hb h
        refine xt_pure rfl rfl rfl (L1 := [_, _, _, _, _, some (.int (_ + 1))]) rfl ?_
        refine xt_pure rfl rfl rfl rfl ?_
        exact ih h
      · replace h := zif_f (p := x1 ≠ l4) hb h
        refine xt_pure rfl rfl rfl rfl ?_
        cases h
        exact xt_iret rfl rfl rfl rfl ⟨rfl, rfl⟩
def cP_indexOfChar  (N : Nat) (v1 : Int32) (v2 : Int32) (v3 : Int32) (S : zS) : Option (Int32 × zS) := cP_indexOfChar_5 N N v3 v1.toInt8.toInt32 v2 S
theorem tcP_indexOfChar {X : List Int32} {D0 : List xE} {a : Nat} {p : Nat → Nat} (hG0 : ((85, .inl (7, 1, .ref a)) : xE) ∈ D0) (hG : ∀ e ∈ zgP a p, e ∈ D0)  {N fr lo : Nat} (hf : 0 ≤ fr) (hl : 0 ≤ lo) {v1 : Int32} {v2 : Int32} {v3 : Int32} {S S2 : zS} {r : Int32}  (h : cP_indexOfChar N v1 v2 v3 S = some (r, S2)) : yK X fr lo 40 [.ref 5, .int v1, .int v2, .int v3] (zD zTP (zaP a p) S D0) 0 0 (zQi zTP (zaP a p) D0 r S2) := by
  unfold cP_indexOfChar at h
  refine yK.of rfl (yle rfl) (L := [_, _, _, _, _, _]) rfl ?_
  refine xt_pure rfl rfl rfl rfl ?_
  refine xt_pure rfl rfl rfl rfl ?_
  refine xt_pure rfl rfl rfl (L1 := [_, _, _, _, _, _]) rfl ?_
  refine xt_pure rfl rfl rfl rfl ?_
  refine xt_pure rfl rfl rfl (L1 := [_, _, _, _, _, _]) rfl ?_
  exact tcP_indexOfChar_5 hG0 hG hf hl h
def cP_indexOf_38_5  (N : Nat) (v1 : Int32) (v2 : Int32) (v3 : Int32) (S : zS) : Option (Int32 × zS) := (zb (cP_canEncode N v1 S) fun x1 S2 => (if x1 ≠ (0 : Int32) then (if (if v2 < (0 : Int32) then 0 else v2).toInt < (if (Int32.ofNat zwsg.length) < v3 then (Int32.ofNat zwsg.length) else v3).toInt then (zb (cP_indexOfChar N v1 (if v2 < (0 : Int32) then 0 else v2) (if (Int32.ofNat zwsg.length) < v3 then (Int32.ofNat zwsg.length) else v3) S2) fun x4 S5 => some (x4, S5)) else some ((-1), S2)) else some ((-1), S2)))
theorem tcP_indexOf_38_5 {X : List Int32} {D0 : List xE} {a : Nat} {p : Nat → Nat} (hG0 : ((85, .inl (7, 1, .ref a)) : xE) ∈ D0) (hG : ∀ e ∈ zgP a p, e ∈ D0)  {N fr lo : Nat} (hf : 1 ≤ fr) (hl : 100 ≤ lo) {v1 : Int32} {v2 : Int32} {v3 : Int32} {S S2 : zS} {r : Int32}  (h : cP_indexOf_38_5 N v1 v2 v3 S = some (r, S2)) : yK X fr lo 38 [.ref 5, .int v1, .int v2, .int v3] (zD zTP (zaP a p) S D0) 0 0 (zQi zTP (zaP a p) D0 r S2) := by
  unfold cP_indexOf_38_5 at h
  refine yK.of rfl (yle rfl) (L := [_, _, _, _]) rfl ?_
  refine xt_pure rfl rfl rfl rfl ?_
  obtain ⟨x1, S2, hc3, h⟩ := zbi h
  refine zt_Si rfl rfl (by decide) rfl rfl ⟨rfl, yle rfl, yle rfl⟩ (m := 1) rfl ⟨by omega, by omega⟩ (tcP_canEncode hG0 hG (by omega) (by omega) hc3) (fr1 := fr - 1) (lo1 := lo - 20) ?_
  refine xt_if rfl rfl (fun hb => ?_) (fun hb => ?_)
  · replace h := zif_t (p := x1 ≠ (0 : Int32)) hb h
    refine xt_pure rfl rfl rfl rfl ?_
    refine xt_pure rfl rfl rfl (st1 := .int 0 :: _) rfl ?_
    refine xt_max rfl rfl rfl ⟨yle rfl, by omega, by omega⟩ ?_
    refine xt_pure rfl rfl rfl (L1 := [_, _, _, _]) rfl ?_
    refine xt_pure rfl rfl rfl rfl ?_
    refine xt_pure rfl rfl rfl rfl ?_
    refine zr_lenI (l := zwsg) rfl rfl (xmC 6 rfl) rfl ?_
    refine xt_min rfl rfl rfl ⟨yle rfl, by omega, by omega⟩ ?_
    refine xt_pure rfl rfl rfl (L1 := [_, _, _, _]) rfl ?_
    refine xt_pure rfl rfl rfl rfl ?_
    refine xt_pure rfl rfl rfl rfl ?_
    refine xt_ic rfl rfl (fun hb => ?_) (fun hb => ?_)
    · replace h := zif_t (p := (if v2 < (0 : Int32) then 0 else v2).toInt < (if (Int32.ofNat zwsg.length) < v3 then (Int32.ofNat zwsg.length) else v3).toInt) hb h
      refine xt_pure rfl rfl rfl rfl ?_
      refine xt_pure rfl rfl rfl rfl ?_
      refine xt_pure rfl rfl rfl rfl ?_
      refine xt_pure rfl rfl rfl rfl ?_
      obtain ⟨x4, S5, hc6, h⟩ := zbi h
      refine zt_Si rfl rfl (by decide) rfl rfl ⟨rfl, yle rfl, yle rfl⟩ (m := 6) rfl ⟨by omega, by omega⟩ (tcP_indexOfChar hG0 hG (by omega) (by omega) hc6) (fr1 := fr - 1) (lo1 := lo - 25) ?_
      cases h
      exact xt_iret rfl rfl rfl rfl ⟨rfl, rfl⟩
    · replace h := zif_f (p := (if v2 < (0 : Int32) then 0 else v2).toInt < (if (Int32.ofNat zwsg.length) < v3 then (Int32.ofNat zwsg.length) else v3).toInt) hb h
      refine xt_pure rfl rfl rfl (st1 := .int (-1) :: _) rfl ?_
      cases h
      exact xt_iret rfl rfl rfl rfl ⟨rfl, rfl⟩
  · replace h := zif_f (p := x1 ≠ (0 : Int32)) hb h
    refine xt_pure rfl rfl rfl (st1 := .int (-1) :: _) rfl ?_
    cases h
    exact xt_iret rfl rfl rfl rfl ⟨rfl, rfl⟩
def cP_indexOf_37_4  (N : Nat) (v1 : Int32) (v2 : Int32) (S : zS) : Option (Int32 × zS) := (zb (cP_length N  S) fun x1 S2 => (zb (cP_indexOf_38_5 N v1 v2 x1 S2) fun x4 S5 => some (x4, S5)))
theorem tcP_indexOf_37_4 {X : List Int32} {D0 : List xE} {a : Nat} {p : Nat → Nat} (hG0 : ((85, .inl (7, 1, .ref a)) : xE) ∈ D0) (hG : ∀ e ∈ zgP a p, e ∈ D0)  {N fr lo : Nat} (hf : 2 ≤ fr) (hl : 123 ≤ lo) {v1 : Int32} {v2 : Int32} {S S2 : zS} {r : Int32}  (h : cP_indexOf_37_4 N v1 v2 S = some (r, S2)) : yK X fr lo 37 [.ref 4, .int v1, .int v2] (zD zTP (zaP a p) S D0) 0 0 (zQi zTP (zaP a p) D0 r S2) := by
  unfold cP_indexOf_37_4 at h
  refine yK.of rfl (yle rfl) (L := [_, _, _]) rfl ?_
  refine xt_pure rfl rfl rfl rfl ?_
  refine zt_Vi (x := 1) rfl rfl rfl rfl (xmC 4 rfl) ⟨rfl, rfl, yle rfl, yle rfl⟩ (m := 1) rfl ⟨by omega, by omega⟩ (tcP_isLatin1 hG0 hG (by omega) (by omega) (N := N) rfl) (fr1 := fr - 1) (lo1 := lo - 20) ?_
  refine xt_pure rfl rfl rfl rfl ?_
  refine xt_pure rfl rfl rfl rfl ?_
  refine xt_getf rfl rfl (xmC 4 rfl) ?_
  refine xt_pure rfl rfl rfl rfl ?_
  refine xt_pure rfl rfl rfl rfl ?_
  refine xt_pure rfl rfl rfl rfl ?_
  obtain ⟨x1, S2, hc3, h⟩ := zbi h
  refine zt_Vi rfl rfl rfl rfl (xmC 4 rfl) ⟨rfl, rfl, yle rfl, yle rfl⟩ (m := 1) rfl ⟨by omega, by omega⟩ (tcP_length hG0 hG (by omega) (by omega) hc3) (fr1 := fr - 1) (lo1 := lo - 20) ?_
  obtain ⟨x4, S5, hc6, h⟩ := zbi h
  refine zt_Si rfl rfl (by decide) rfl rfl ⟨rfl, yle rfl, yle rfl⟩ (m := 4) rfl ⟨by omega, by omega⟩ (tcP_indexOf_38_5 hG0 hG (by omega) (by omega) hc6) (fr1 := fr - 1) (lo1 := lo - 23) ?_
  refine xt_pure rfl rfl rfl rfl ?_
  cases h
  exact xt_iret rfl rfl rfl rfl ⟨rfl, rfl⟩
def cP_indexOf_36_4  (N : Nat) (v1 : Int32) (S : zS) : Option (Int32 × zS) := (zb (cP_indexOf_37_4 N v1 0 S) fun x1 S2 => some (x1, S2))
theorem tcP_indexOf_36_4 {X : List Int32} {D0 : List xE} {a : Nat} {p : Nat → Nat} (hG0 : ((85, .inl (7, 1, .ref a)) : xE) ∈ D0) (hG : ∀ e ∈ zgP a p, e ∈ D0)  {N fr lo : Nat} (hf : 3 ≤ fr) (hl : 145 ≤ lo) {v1 : Int32} {S S2 : zS} {r : Int32}  (h : cP_indexOf_36_4 N v1 S = some (r, S2)) : yK X fr lo 36 [.ref 4, .int v1] (zD zTP (zaP a p) S D0) 0 0 (zQi zTP (zaP a p) D0 r S2) := by
  unfold cP_indexOf_36_4 at h
  refine yK.of rfl (yle rfl) (L := [_, _]) rfl ?_
  refine xt_pure rfl rfl rfl rfl ?_
  refine xt_pure rfl rfl rfl rfl ?_
  refine xt_pure rfl rfl rfl (st1 := .int 0 :: _) rfl ?_
  obtain ⟨x1, S2, hc3, h⟩ := zbi h
  refine zt_Vi rfl rfl rfl rfl (xmC 4 rfl) ⟨rfl, rfl, yle rfl, yle rfl⟩ (m := 3) rfl ⟨by omega, by omega⟩ (tcP_indexOf_37_4 hG0 hG (by omega) (by omega) hc3) (fr1 := fr - 1) (lo1 := lo - 22) ?_
  cases h
  exact xt_iret rfl rfl rfl rfl ⟨rfl, rfl⟩
def cP_splitOne  (N : Nat) (v1 : Int32) (v2 : Int32) (S : zS) : Option (Int32 × zS) := (if v2.toInt < (zI S 0).toInt then (zg (gI (zA S 1) v2) fun x1 => (zb (cP_isLetter N x1 S) fun x2 S3 => (if x2 = (0 : Int32) then (zb (cP_isDigit N x1 S3) fun x5 S6 => (if x5 = (0 : Int32) then (zb (cP_indexOf_36_4 N ((x1.toUInt32 % 65536).toInt32) S6) fun x8 S9 => (if x8.toInt < 0 then (if zok (zA S9 2) v1 then some ((v2 + 1), (zsA S9 2 (zs (zA S9 2) v1 1))) else none) else (if zok (zA S9 2) v1 then some ((v2 + 1), (zsA S9 2 (zs (zA S9 2) v1 x1))) else none))) else (zb (cP_splitNumber N v1 v2 S6) fun x11 S12 => some (x11, S12)))) else (zb (cP_splitWord N v1 v2 S3) fun x14 S15 => some (x14, S15))))) else (if zok (zA S 2) v1 then some (v2, (zsA S 2 (zs (zA S 2) v1 0))) else none))
theorem tcP_splitOne {X : List Int32} {D0 : List xE} {a : Nat} {p : Nat → Nat} (hG0 : ((85, .inl (7, 1, .ref a)) : xE) ∈ D0) (hG : ∀ e ∈ zgP a p, e ∈ D0)  {N fr lo : Nat} (hf : 4 ≤ fr) (hl : 166 ≤ lo) {v1 : Int32} {v2 : Int32} {S S2 : zS} {r : Int32}  (h : cP_splitOne N v1 v2 S = some (r, S2)) : yK X fr lo 30 [.ref 79, .int v1, .int v2] (zD zTP (zaP a p) S D0) 0 0 (zQi zTP (zaP a p) D0 r S2) := by
  unfold cP_splitOne at h
  refine yK.of rfl (yle rfl) (L := [_, _, _, _]) rfl ?_
  refine xt_pure rfl rfl rfl rfl ?_
  refine xt_pure rfl rfl rfl rfl ?_
  refine zt_gI 0 rfl rfl rfl rfl (x := (zI S 0)) rfl ?_
  refine xt_ic rfl rfl (fun hb => ?_) (fun hb => ?_)
  · replace h := zif_t (p := v2.toInt < (zI S 0).toInt) hb h
    refine xt_pure rfl rfl rfl rfl ?_
    refine xt_getf rfl rfl (xmC 127 rfl) ?_
    refine xt_pure rfl rfl rfl rfl ?_
    obtain ⟨x1, hx1, h⟩ := zgi h
    refine zr_ild (l := (zA S 1)) rfl rfl (zmA 1 rfl rfl (l := (zA S 1)) rfl) hx1 ?_
    refine xt_pure rfl rfl rfl (L1 := [_, _, _, _]) rfl ?_
    refine xt_pure rfl rfl rfl rfl ?_
    obtain ⟨x2, S3, hc4, h⟩ := zbi h
    refine zt_Si rfl rfl (by decide) rfl rfl ⟨rfl, yle rfl, yle rfl⟩ (m := 1) rfl ⟨by omega, by omega⟩ (tcP_isLetter hG0 hG (by omega) (by omega) hc4) (fr1 := fr - 1) (lo1 := lo - 20) ?_
    refine xt_if rfl rfl (fun hb => ?_) (fun hb => ?_)
    · replace h := zif_t (p := x2 = (0 : Int32)) hb h
      refine xt_pure rfl rfl rfl rfl ?_
      obtain ⟨x5, S6, hc7, h⟩ := zbi h
      refine zt_Si rfl rfl (by decide) rfl rfl ⟨rfl, yle rfl, yle rfl⟩ (m := 1) rfl ⟨by omega, by omega⟩ (tcP_isDigit hG0 hG (by omega) (by omega) hc7) (fr1 := fr - 1) (lo1 := lo - 20) ?_
      refine xt_if rfl rfl (fun hb => ?_) (fun hb => ?_)
      · replace h := zif_t (p := x5 = (0 : Int32)) hb h
        refine xt_pure rfl rfl rfl rfl ?_
        refine xt_getf rfl rfl (xmC 129 rfl) ?_
        refine xt_pure rfl rfl rfl rfl ?_
        refine xt_pure rfl rfl rfl rfl ?_
        refine xt_pure rfl rfl rfl rfl ?_
        refine xt_pure rfl rfl rfl rfl ?_
        obtain ⟨x8, S9, hc10, h⟩ := zbi h
        refine zt_Vi rfl rfl rfl rfl (xmC 4 rfl) ⟨rfl, rfl, yle rfl, yle rfl⟩ (m := 2) rfl ⟨by omega, by omega⟩ (tcP_indexOf_36_4 hG0 hG (by omega) (by omega) hc10) (fr1 := fr - 1) (lo1 := lo - 21) ?_
        refine xt_if rfl rfl (fun hb => ?_) (fun hb => ?_)
        · replace h := zif_t (p := x8.toInt < 0) hb h
          refine xt_pure rfl rfl rfl (st1 := .int 1 :: _) rfl ?_
          obtain ⟨hg, h⟩ := zgd h
          refine zt_ist 2 rfl rfl rfl rfl (l := (zA S9 2)) rfl hg ?_
          refine xt_pure rfl rfl rfl rfl ?_
          refine xt_pure rfl rfl rfl (st1 := .int 1 :: _) rfl ?_
          refine xt_pure rfl rfl rfl rfl ?_
          cases h
          exact xt_iret rfl rfl rfl rfl ⟨rfl, rfl⟩
        · replace h := zif_f (p := x8.toInt < 0) hb h
          refine xt_pure rfl rfl rfl rfl ?_
          refine xt_pure rfl rfl rfl rfl ?_
          obtain ⟨hg, h⟩ := zgd h
          refine zt_ist 2 rfl rfl rfl rfl (l := (zA S9 2)) rfl hg ?_
          refine xt_pure rfl rfl rfl rfl ?_
          refine xt_pure rfl rfl rfl (st1 := .int 1 :: _) rfl ?_
          refine xt_pure rfl rfl rfl rfl ?_
          cases h
          exact xt_iret rfl rfl rfl rfl ⟨rfl, rfl⟩
      · replace h := zif_f (p := x5 = (0 : Int32)) hb h
        refine xt_pure rfl rfl rfl rfl ?_
        refine xt_pure rfl rfl rfl rfl ?_
        refine xt_pure rfl rfl rfl rfl ?_
        obtain ⟨x11, S12, hc13, h⟩ := zbi h
        refine zt_Vi rfl rfl rfl rfl (xmC 127 rfl) ⟨rfl, rfl, yle rfl, yle rfl⟩ (m := 6) rfl ⟨by omega, by omega⟩ (tcP_splitNumber hG0 hG (by omega) (by omega) hc13) (fr1 := fr - 1) (lo1 := lo - 25) ?_
        cases h
        exact xt_iret rfl rfl rfl rfl ⟨rfl, rfl⟩
    · replace h := zif_f (p := x2 = (0 : Int32)) hb h
      refine xt_pure rfl rfl rfl rfl ?_
      refine xt_pure rfl rfl rfl rfl ?_
      refine xt_pure rfl rfl rfl rfl ?_
      obtain ⟨x14, S15, hc16, h⟩ := zbi h
      refine zt_Vi rfl rfl rfl rfl (xmC 127 rfl) ⟨rfl, rfl, yle rfl, yle rfl⟩ (m := 6) rfl ⟨by omega, by omega⟩ (tcP_splitWord hG0 hG (by omega) (by omega) hc16) (fr1 := fr - 1) (lo1 := lo - 25) ?_
      cases h
      exact xt_iret rfl rfl rfl rfl ⟨rfl, rfl⟩
  · replace h := zif_f (p := v2.toInt < (zI S 0).toInt) hb h
    refine xt_pure rfl rfl rfl rfl ?_
    refine xt_getf rfl rfl (xmC 129 rfl) ?_
    refine xt_pure rfl rfl rfl rfl ?_
    refine xt_pure rfl rfl rfl (st1 := .int 0 :: _) rfl ?_
    obtain ⟨hg, h⟩ := zgd h
    refine zt_ist 2 rfl rfl rfl rfl (l := (zA S 2)) rfl hg ?_
    refine xt_pure rfl rfl rfl rfl ?_
    cases h
    exact xt_iret rfl rfl rfl rfl ⟨rfl, rfl⟩
def cP_split_4  (N : Nat)  : Nat → Int32 → Int32 → zS → Option (Unit × zS)
  | 0, _, _, _ => none
  | n + 1, l1, l2, S => (if (Int32.ofNat (zA S 2).length).toInt ≤ l2.toInt then some ((), S) else (zb (cP_behindBlanks N l1 S) fun x1 S2 => (if zok (zA S2 3) l2 then (zb (cP_splitOne N l2 x1 (zsA S2 3 (zs (zA S2 3) l2 x1))) fun x4 S5 => (zg (gI (zA S5 2) l2) fun x7 => (if x7 = (0 : Int32) then some ((), S5) else (zg (gI (zA S5 2) l2) fun x8 => (if x8 ≠ (1 : Int32) then (cP_split_4 N n) x4 (l2 + 1) S5 else some ((), S5)))))) else none)))
theorem tcP_split_4 {X : List Int32} {D0 : List xE} {a : Nat} {p : Nat → Nat} (hG0 : ((85, .inl (7, 1, .ref a)) : xE) ∈ D0) (hG : ∀ e ∈ zgP a p, e ∈ D0)  {N fr lo : Nat}   (hf : 5 ≤ fr) (hl : 189 ≤ lo)  : ∀ {n : Nat} {l1 : Int32} {l2 : Int32}  {S S2 : zS} {r : Unit} , cP_split_4 N n l1 l2 S = some (r, S2) → yT X fr lo 28 4 [some (.ref 79), some (.int l1), some (.int l2)] [] (zD zTP (zaP a p) S D0) 0 0 (zQv zTP (zaP a p) D0 r S2) := by
  intro n
  induction n with
  | zero =>
    intro l1 l2  S S2 r  h
    have h : (none : Option (Unit × zS)) = some (r, S2) := h
    cases h
  | succ n ih =>
    intro l1 l2  S S2 r  h
    rw [cP_split_4] at h
    refine xt_pure rfl rfl rfl rfl ?_
    refine xt_pure rfl rfl rfl rfl ?_
    refine xt_getf rfl rfl (xmC 129 rfl) ?_
    refine zr_lenI (l := (zA S 2)) rfl rfl (zmA 2 rfl rfl (l := (zA S 2)) rfl) rfl ?_
    refine xt_ic rfl rfl (fun hb => ?_) (fun hb => ?_)
    · replace h := zif_t (p := (Int32.ofNat (zA S 2).length).toInt ≤ l2.toInt) hb h
      cases h
      exact xt_vret rfl rfl rfl ⟨rfl, rfl⟩
    · replace h := zif_f (p := (Int32.ofNat (zA S 2).length).toInt ≤ l2.toInt) hb h
      refine xt_pure rfl rfl rfl rfl ?_
      refine xt_pure rfl rfl rfl rfl ?_
      obtain ⟨x1, S2, hc3, h⟩ := zbi h
      refine zt_Vi rfl rfl rfl rfl (xmC 127 rfl) ⟨rfl, rfl, yle rfl, yle rfl⟩ (m := 3) rfl ⟨by omega, by omega⟩ (tcP_behindBlanks hG0 hG (by omega) (by omega) hc3) (fr1 := fr - 1) (lo1 := lo - 22) ?_
      refine xt_pure rfl rfl rfl (L1 := [_, _, _]) rfl ?_
      refine xt_pure rfl rfl rfl rfl ?_
      refine xt_getf rfl rfl (xmC 130 rfl) ?_
      refine xt_pure rfl rfl rfl rfl ?_
      refine xt_pure rfl rfl rfl rfl ?_
      obtain ⟨hg, h⟩ := zgd h
      refine zt_ist 3 rfl rfl rfl rfl (l := (zA S2 3)) rfl hg ?_
      refine xt_pure rfl rfl rfl rfl ?_
      refine xt_pure rfl rfl rfl rfl ?_
      refine xt_pure rfl rfl rfl rfl ?_
      obtain ⟨x4, S5, hc6, h⟩ := zbi h
      refine zt_Vi rfl rfl rfl rfl (xmC 127 rfl) ⟨rfl, rfl, yle rfl, yle rfl⟩ (m := 4) rfl ⟨by omega, by omega⟩ (tcP_splitOne hG0 hG (by omega) (by omega) hc6) (fr1 := fr - 1) (lo1 := lo - 23) ?_
      refine xt_pure rfl rfl rfl (L1 := [_, _, _]) rfl ?_
      refine xt_pure rfl rfl rfl rfl ?_
      refine xt_getf rfl rfl (xmC 129 rfl) ?_
      refine xt_pure rfl rfl rfl rfl ?_
      obtain ⟨x7, hx7, h⟩ := zgi h
      refine zr_ild (l := (zA S5 2)) rfl rfl (zmA 2 rfl rfl (l := (zA S5 2)) rfl) hx7 ?_
      refine xt_if rfl rfl (fun hb => ?_) (fun hb => ?_)
      · replace h := zif_t (p := x7 = (0 : Int32)) hb h
        cases h
        exact xt_vret rfl rfl rfl ⟨rfl, rfl⟩
      · replace h := zif_f (p := x7 = (0 : Int32)) hb h
        refine xt_pure rfl rfl rfl rfl ?_
        refine xt_getf rfl rfl (xmC 129 rfl) ?_
        refine xt_pure rfl rfl rfl rfl ?_
        obtain ⟨x8, hx8, h⟩ := zgi h
        refine zr_ild (l := (zA S5 2)) rfl rfl (zmA 2 rfl rfl (l := (zA S5 2)) rfl) hx8 ?_
        refine xt_pure rfl rfl rfl (st1 := .int 1 :: _) rfl ?_
        refine xt_ic rfl rfl (fun hb => ?_) (fun hb => ?_)
        · replace h := zif_t (p := x8 ≠ (1 : Int32)) hb h
          refine xt_pure rfl rfl rfl (L1 := [_, _, some (.int (_ + 1))]) rfl ?_
          refine xt_pure rfl rfl rfl rfl ?_
          exact ih h
        · replace h := zif_f (p := x8 ≠ (1 : Int32)) hb h
          cases h
          exact xt_vret rfl rfl rfl ⟨rfl, rfl⟩
def cP_split  (N : Nat)  (S : zS) : Option (Unit × zS) := cP_split_4 N N 0 0 S
theorem tcP_split {X : List Int32} {D0 : List xE} {a : Nat} {p : Nat → Nat} (hG0 : ((85, .inl (7, 1, .ref a)) : xE) ∈ D0) (hG : ∀ e ∈ zgP a p, e ∈ D0)  {N fr lo : Nat} (hf : 5 ≤ fr) (hl : 189 ≤ lo)  {S S2 : zS} {r : Unit}  (h : cP_split N  S = some (r, S2)) : yK X fr lo 28 [.ref 79] (zD zTP (zaP a p) S D0) 0 0 (zQv zTP (zaP a p) D0 r S2) := by
  unfold cP_split at h
  refine yK.of rfl (yle rfl) (L := [_, _, _]) rfl ?_
  refine xt_pure rfl rfl rfl (st1 := .int 0 :: _) rfl ?_
  refine xt_pure rfl rfl rfl (L1 := [_, _, _]) rfl ?_
  refine xt_pure rfl rfl rfl (st1 := .int 0 :: _) rfl ?_
  refine xt_pure rfl rfl rfl (L1 := [_, _, _]) rfl ?_
  exact tcP_split_4 hG0 hG hf hl h
