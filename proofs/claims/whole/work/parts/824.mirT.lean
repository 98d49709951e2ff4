/-! MIRRORS: the search, the reference -/
def zTT : List (Nat × Nat × Nat) := [(0, 14, 72), (0, 14, 73), (0, 14, 74), (0, 14, 75), (0, 14, 76), (3, 0, 0), (3, 0, 0), (3, 0, 0), (3, 0, 0), (3, 0, 0)]
def zaT (i : Nat) : Nat := ([209, 209, 209, 209, 209, 261, 262, 263, 264, 265] : List Nat).getD i 0
def rT_candidates (gi : Nat → Int32) (ga : Nat → List Int32)  (N : Nat) (v1 : Int32) (S : zS) : Option (Int32 × zS) := (zg (gI (ga 2) v1) fun x1 => (if x1 = (0 : Int32) then some (2, S) else (if x1 ≠ (5 : Int32) then (if x1 = (1 : Int32) then (zg (gI (ga 5) v1) fun x2 => (zg (gI (ga 6) v1) fun x3 => (if x2 ≠ x3 then some (2, S) else some (1, S)))) else (if x1 ≠ (3 : Int32) then (if x1 ≠ (4 : Int32) then (if x1 ≠ (2 : Int32) then some (0, S) else some (2, S)) else (zg (gI (ga 6) v1) fun x4 => some ((x4 + 1), S))) else (zg (gI (ga 5) v1) fun x5 => (zg (gI (ga 6) v1) fun x6 => (if x5 ≠ x6 then some (2, S) else some (1, S)))))) else some (2, S))))
theorem trT_candidates {X : List Int32} {D0 : List xE} {fa : Nat} {p : Nat → Nat} {gi : Nat → Int32} {ga : Nat → List Int32} {vl : List Int64} (hG : ∀ e ∈ zgF fa p gi ga vl, e ∈ D0)  {N fr lo : Nat} (hf : 0 ≤ fr) (hl : 0 ≤ lo) {v1 : Int32} {S S2 : zS} {r : Int32}  (h : rT_candidates gi ga N v1 S = some (r, S2)) : yK X fr lo 337 [.ref fa, .int v1] (zD zTT zaT S D0) 0 0 (zQi zTT zaT D0 r S2) := by
  unfold rT_candidates at h
  refine yK.of rfl (yle rfl) (L := [_, _, _]) rfl ?_
  refine xt_pure rfl rfl rfl rfl ?_
  refine xt_getf rfl rfl (zmr (ymm hG 2 rfl)) ?_
  refine xt_pure rfl rfl rfl rfl ?_
  obtain ⟨x1, hx1, h⟩ := zgi h
  refine zr_ild (l := (ga 2)) rfl rfl (zmr (ymm hG 23 rfl)) hx1 ?_
  refine xt_pure rfl rfl rfl (L1 := [_, _, _]) rfl ?_
  refine xt_pure rfl rfl rfl rfl ?_
  refine xt_if rfl rfl (fun hb => ?_) (fun hb => ?_)
  · replace h := zif_t (p := x1 = (0 : Int32)) hb h
    refine xt_pure rfl rfl rfl (st1 := .int 2 :: _) rfl ?_
    cases h
    exact xt_iret rfl rfl rfl rfl ⟨rfl, rfl⟩
  · replace h := zif_f (p := x1 = (0 : Int32)) hb h
    refine xt_pure rfl rfl rfl rfl ?_
    refine xt_pure rfl rfl rfl (st1 := .int 5 :: _) rfl ?_
    refine xt_ic rfl rfl (fun hb => ?_) (fun hb => ?_)
    · replace h := zif_t (p := x1 ≠ (5 : Int32)) hb h
      refine xt_pure rfl rfl rfl rfl ?_
      refine xt_pure rfl rfl rfl (st1 := .int 1 :: _) rfl ?_
      refine xt_ic rfl rfl (fun hb => ?_) (fun hb => ?_)
      · replace h := zif_t (p := x1 = (1 : Int32)) hb h
        refine xt_pure rfl rfl rfl rfl ?_
        refine xt_getf rfl rfl (zmr (ymm hG 5 rfl)) ?_
        refine xt_pure rfl rfl rfl rfl ?_
        obtain ⟨x2, hx2, h⟩ := zgi h
        refine zr_ild (l := (ga 5)) rfl rfl (zmr (ymm hG 26 rfl)) hx2 ?_
        refine xt_pure rfl rfl rfl rfl ?_
        refine xt_getf rfl rfl (zmr (ymm hG 6 rfl)) ?_
        refine xt_pure rfl rfl rfl rfl ?_
        obtain ⟨x3, hx3, h⟩ := zgi h
        refine zr_ild (l := (ga 6)) rfl rfl (zmr (ymm hG 27 rfl)) hx3 ?_
        refine xt_ic rfl rfl (fun hb => ?_) (fun hb => ?_)
        · replace h := zif_t (p := x2 ≠ x3) hb h
          refine xt_pure rfl rfl rfl (st1 := .int 2 :: _) rfl ?_
          cases h
          exact xt_iret rfl rfl rfl rfl ⟨rfl, rfl⟩
        · replace h := zif_f (p := x2 ≠ x3) hb h
          refine xt_pure rfl rfl rfl (st1 := .int 1 :: _) rfl ?_
          refine xt_pure rfl rfl rfl rfl ?_
          cases h
          exact xt_iret rfl rfl rfl rfl ⟨rfl, rfl⟩
      · replace h := zif_f (p := x1 = (1 : Int32)) hb h
        refine xt_pure rfl rfl rfl rfl ?_
        refine xt_pure rfl rfl rfl (st1 := .int 3 :: _) rfl ?_
        refine xt_ic rfl rfl (fun hb => ?_) (fun hb => ?_)
        · replace h := zif_t (p := x1 ≠ (3 : Int32)) hb h
          refine xt_pure rfl rfl rfl rfl ?_
          refine xt_pure rfl rfl rfl (st1 := .int 4 :: _) rfl ?_
          refine xt_ic rfl rfl (fun hb => ?_) (fun hb => ?_)
          · replace h := zif_t (p := x1 ≠ (4 : Int32)) hb h
            refine xt_pure rfl rfl rfl rfl ?_
            refine xt_pure rfl rfl rfl (st1 := .int 2 :: _) rfl ?_
            refine xt_ic rfl rfl (fun hb => ?_) (fun hb => ?_)
            · replace h := zif_t (p := x1 ≠ (2 : Int32)) hb h
              refine xt_pure rfl rfl rfl (st1 := .int 0 :: _) rfl ?_
              cases h
              exact xt_iret rfl rfl rfl rfl ⟨rfl, rfl⟩
            · replace h := zif_f (p := x1 ≠ (2 : Int32)) hb h
              refine xt_pure rfl rfl rfl (st1 := .int 2 :: _) rfl ?_
              refine xt_pure rfl rfl rfl rfl ?_
              cases h
              exact xt_iret rfl rfl rfl rfl ⟨rfl, rfl⟩
          · replace h := zif_f (p := x1 ≠ (4 : Int32)) hb h
            refine xt_pure rfl rfl rfl rfl ?_
            refine xt_getf rfl rfl (zmr (ymm hG 6 rfl)) ?_
            refine xt_pure rfl rfl rfl rfl ?_
            obtain ⟨x4, hx4, h⟩ := zgi h
            refine zr_ild (l := (ga 6)) rfl rfl (zmr (ymm hG 27 rfl)) hx4 ?_
            refine xt_pure rfl rfl rfl (st1 := .int 1 :: _) rfl ?_
            refine xt_pure rfl rfl rfl rfl ?_
            refine xt_pure rfl rfl rfl rfl ?_
            cases h
            exact xt_iret rfl rfl rfl rfl ⟨rfl, rfl⟩
        · replace h := zif_f (p := x1 ≠ (3 : Int32)) hb h
          refine xt_pure rfl rfl rfl rfl ?_
          refine xt_getf rfl rfl (zmr (ymm hG 5 rfl)) ?_
          refine xt_pure rfl rfl rfl rfl ?_
          obtain ⟨x5, hx5, h⟩ := zgi h
          refine zr_ild (l := (ga 5)) rfl rfl (zmr (ymm hG 26 rfl)) hx5 ?_
          refine xt_pure rfl rfl rfl rfl ?_
          refine xt_getf rfl rfl (zmr (ymm hG 6 rfl)) ?_
          refine xt_pure rfl rfl rfl rfl ?_
          obtain ⟨x6, hx6, h⟩ := zgi h
          refine zr_ild (l := (ga 6)) rfl rfl (zmr (ymm hG 27 rfl)) hx6 ?_
          refine xt_ic rfl rfl (fun hb => ?_) (fun hb => ?_)
          · replace h := zif_t (p := x5 ≠ x6) hb h
            refine xt_pure rfl rfl rfl (st1 := .int 2 :: _) rfl ?_
            cases h
            exact xt_iret rfl rfl rfl rfl ⟨rfl, rfl⟩
          · replace h := zif_f (p := x5 ≠ x6) hb h
            refine xt_pure rfl rfl rfl (st1 := .int 1 :: _) rfl ?_
            refine xt_pure rfl rfl rfl rfl ?_
            cases h
            exact xt_iret rfl rfl rfl rfl ⟨rfl, rfl⟩
    · replace h := zif_f (p := x1 ≠ (5 : Int32)) hb h
      refine xt_pure rfl rfl rfl (st1 := .int 2 :: _) rfl ?_
      cases h
      exact xt_iret rfl rfl rfl rfl ⟨rfl, rfl⟩
def rT_isNext_128 (gi : Nat → Int32) (ga : Nat → List Int32)  (N : Nat)  : Nat → Int32 → zS → Option (Int32 × zS)
  | 0, _, _ => none
  | n + 1, l2, S => (if (zI S 3).toInt ≤ l2.toInt then some (1, S) else (if zok (zA S 8) l2 then (rT_isNext_128 gi ga N n) (l2 + 1) (zsA S 8 (zs (zA S 8) l2 0)) else none))
theorem trT_isNext_128 {X : List Int32} {D0 : List xE} {fa : Nat} {p : Nat → Nat} {gi : Nat → Int32} {ga : Nat → List Int32} {vl : List Int64} (hG : ∀ e ∈ zgF fa p gi ga vl, e ∈ D0)  {N fr lo : Nat}   (hf : 0 ≤ fr) (hl : 0 ≤ lo)  : ∀ {n : Nat} {l2 : Int32} {d1 : Int32} {S S2 : zS} {r : Int32} , rT_isNext_128 gi ga N n l2 S = some (r, S2) → yT X fr lo 341 128 [some (.ref 209), some (.int d1), some (.int l2)] [] (zD zTT zaT S D0) 0 0 (zQi zTT zaT D0 r S2) := by
  intro n
  induction n with
  | zero =>
    intro l2 d1 S S2 r  h
    have h : (none : Option (Int32 × zS)) = some (r, S2) := h
    cases h
  | succ n ih =>
    intro l2 d1 S S2 r  h
    rw [rT_isNext_128] at h
    refine xt_pure rfl rfl rfl rfl ?_
    refine xt_pure rfl rfl rfl rfl ?_
    refine zt_gI 3 rfl rfl rfl rfl (x := (zI S 3)) rfl ?_
    refine xt_ic rfl rfl (fun hb => ?_) (fun hb => ?_)
    · replace h := zif_t (p := (zI S 3).toInt ≤ l2.toInt) hb h
      refine xt_pure rfl rfl rfl (st1 := .int 1 :: _) rfl ?_
      cases h
      exact xt_iret rfl rfl rfl rfl ⟨rfl, rfl⟩
    · replace h := zif_f (p := (zI S 3).toInt ≤ l2.toInt) hb h
      refine xt_pure rfl rfl rfl rfl ?_
      refine xt_getf rfl rfl (xmC 213 rfl) ?_
      refine xt_pure rfl rfl rfl rfl ?_
      refine xt_pure rfl rfl rfl (st1 := .int 0 :: _) rfl ?_
      obtain ⟨hg, h⟩ := zgd h
      refine zt_ist 8 rfl rfl rfl rfl (l := (zA S 8)) rfl hg ?_
      refine xt_pure rfl rfl rfl (L1 := [_, _, some (.int (_ + 1))]) rfl ?_
      refine xt_pure rfl rfl rfl rfl ?_
      exact ih h
def rT_isNext_108 (gi : Nat → Int32) (ga : Nat → List Int32)  (N : Nat)  : Nat → Int32 → zS → Option (Int32 × zS)
  | 0, _, _ => none
  | n + 1, l2, S => (if (zI S 3).toInt ≤ l2.toInt then rT_isNext_128 gi ga N N 0 S else (zg (gI (zA S 7) (l2 - 1)) fun x2 => (if zok (zA S 7) l2 then (rT_isNext_108 gi ga N n) (l2 + 1) (zsA S 7 (zs (zA S 7) l2 (x2 + 1))) else none)))
theorem trT_isNext_108 {X : List Int32} {D0 : List xE} {fa : Nat} {p : Nat → Nat} {gi : Nat → Int32} {ga : Nat → List Int32} {vl : List Int64} (hG : ∀ e ∈ zgF fa p gi ga vl, e ∈ D0)  {N fr lo : Nat}   (hf : 0 ≤ fr) (hl : 0 ≤ lo)  : ∀ {n : Nat} {l2 : Int32} {d1 : Int32} {S S2 : zS} {r : Int32} , rT_isNext_108 gi ga N n l2 S = some (r, S2) → yT X fr lo 341 108 [some (.ref 209), some (.int d1), some (.int l2)] [] (zD zTT zaT S D0) 0 0 (zQi zTT zaT D0 r S2) := by
  intro n
  induction n with
  | zero =>
    intro l2 d1 S S2 r  h
    have h : (none : Option (Int32 × zS)) = some (r, S2) := h
    cases h
  | succ n ih =>
    intro l2 d1 S S2 r  h
    rw [rT_isNext_108] at h
    refine xt_pure rfl rfl rfl rfl ?_
    refine xt_pure rfl rfl rfl rfl ?_
    refine zt_gI 3 rfl rfl rfl rfl (x := (zI S 3)) rfl ?_
    refine xt_ic rfl rfl (fun hb => ?_) (fun hb => ?_)
    · replace h := zif_t (p := (zI S 3).toInt ≤ l2.toInt) hb h
      refine xt_pure rfl rfl rfl (st1 := .int 0 :: _) rfl ?_
      refine xt_pure rfl rfl rfl (L1 := [_, _, _]) rfl ?_
      exact trT_isNext_128 hG hf hl h
    · replace h := zif_f (p := (zI S 3).toInt ≤ l2.toInt) hb h
      refine xt_pure rfl rfl rfl rfl ?_
      refine xt_getf rfl rfl (xmC 212 rfl) ?_
      refine xt_pure rfl rfl rfl rfl ?_
      refine xt_pure rfl rfl rfl rfl ?_
      refine xt_getf rfl rfl (xmC 212 rfl) ?_
      refine xt_pure rfl rfl rfl rfl ?_
      refine xt_pure rfl rfl rfl (st1 := .int 1 :: _) rfl ?_
      refine xt_pure rfl rfl rfl rfl ?_
      obtain ⟨x2, hx2, h⟩ := zgi h
      refine zr_ild (l := (zA S 7)) rfl rfl (zmA 7 rfl rfl (l := (zA S 7)) rfl) hx2 ?_
      refine xt_pure rfl rfl rfl (st1 := .int 1 :: _) rfl ?_
      refine xt_pure rfl rfl rfl rfl ?_
      obtain ⟨hg, h⟩ := zgd h
      refine zt_ist 7 rfl rfl rfl rfl (l := (zA S 7)) rfl hg ?_
      refine xt_pure rfl rfl rfl (L1 := [_, _, some (.int (_ + 1))]) rfl ?_
      refine xt_pure rfl rfl rfl rfl ?_
      exact ih h
def rT_isNext_78 (gi : Nat → Int32) (ga : Nat → List Int32)  (N : Nat)  : Nat → Int32 → zS → Option (Int32 × zS)
  | 0, _, _ => none
  | n + 1, l2, S => (if (zI S 3).toInt ≤ l2.toInt then some (1, S) else (if zok (zA S 7) l2 then (if zok (zA S 8) l2 then (rT_isNext_78 gi ga N n) (l2 + 1) (zsA (zsA S 7 (zs (zA S 7) l2 l2)) 8 (zs (zA S 8) l2 0)) else none) else none))
theorem trT_isNext_78 {X : List Int32} {D0 : List xE} {fa : Nat} {p : Nat → Nat} {gi : Nat → Int32} {ga : Nat → List Int32} {vl : List Int64} (hG : ∀ e ∈ zgF fa p gi ga vl, e ∈ D0)  {N fr lo : Nat}   (hf : 0 ≤ fr) (hl : 0 ≤ lo)  : ∀ {n : Nat} {l2 : Int32} {d1 : Int32} {S S2 : zS} {r : Int32} , rT_isNext_78 gi ga N n l2 S = some (r, S2) → yT X fr lo 341 78 [some (.ref 209), some (.int d1), some (.int l2)] [] (zD zTT zaT S D0) 0 0 (zQi zTT zaT D0 r S2) := by
  intro n
  induction n with
  | zero =>
    intro l2 d1 S S2 r  h
    have h : (none : Option (Int32 × zS)) = some (r, S2) := h
    cases h
  | succ n ih =>
    intro l2 d1 S S2 r  h
    rw [rT_isNext_78] at h
    refine xt_pure rfl rfl rfl rfl ?_
    refine xt_pure rfl rfl rfl rfl ?_
    refine zt_gI 3 rfl rfl rfl rfl (x := (zI S 3)) rfl ?_
    refine xt_ic rfl rfl (fun hb => ?_) (fun hb => ?_)
    · replace h := zif_t (p := (zI S 3).toInt ≤ l2.toInt) hb h
      refine xt_pure rfl rfl rfl (st1 := .int 1 :: _) rfl ?_
      cases h
      exact xt_iret rfl rfl rfl rfl ⟨rfl, rfl⟩
    · replace h := zif_f (p := (zI S 3).toInt ≤ l2.toInt) hb h
      refine xt_pure rfl rfl rfl rfl ?_
      refine xt_getf rfl rfl (xmC 212 rfl) ?_
      refine xt_pure rfl rfl rfl rfl ?_
      refine xt_pure rfl rfl rfl rfl ?_
      obtain ⟨hg, h⟩ := zgd h
      refine zt_ist 7 rfl rfl rfl rfl (l := (zA S 7)) rfl hg ?_
      refine xt_pure rfl rfl rfl rfl ?_
      refine xt_getf rfl rfl (xmC 213 rfl) ?_
      refine xt_pure rfl rfl rfl rfl ?_
      refine xt_pure rfl rfl rfl (st1 := .int 0 :: _) rfl ?_
      obtain ⟨hg, h⟩ := zgd h
      refine zt_ist 8 rfl rfl rfl rfl (l := (zA S 8)) rfl hg ?_
      refine xt_pure rfl rfl rfl (L1 := [_, _, some (.int (_ + 1))]) rfl ?_
      refine xt_pure rfl rfl rfl rfl ?_
      exact ih h
def rT_isNext_61 (gi : Nat → Int32) (ga : Nat → List Int32)  (N : Nat)  (l1 : Int32) (S : zS) : Option (Int32 × zS) := (if 0 ≤ l1.toInt then (zg (gI (zA S 7) l1) fun x1 => (if zok (zA S 7) l1 then rT_isNext_108 gi ga N N (l1 + 1) (zsA S 7 (zs (zA S 7) l1 (x1 + 1))) else none)) else (if ((zI S 3) + 1).toInt ≤ (zI S 4).toInt then rT_isNext_78 gi ga N N 0 (zsI S 3 ((zI S 3) + 1)) else some (0, (zsI S 3 ((zI S 3) + 1)))))
theorem trT_isNext_61 {X : List Int32} {D0 : List xE} {fa : Nat} {p : Nat → Nat} {gi : Nat → Int32} {ga : Nat → List Int32} {vl : List Int64} (hG : ∀ e ∈ zgF fa p gi ga vl, e ∈ D0)  {N fr lo : Nat}   (hf : 0 ≤ fr) (hl : 0 ≤ lo) {l1 : Int32}  {S S2 : zS} {r : Int32}  (h : rT_isNext_61 gi ga N l1 S = some (r, S2)) : yT X fr lo 341 61 [some (.ref 209), some (.int l1), none] [] (zD zTT zaT S D0) 0 0 (zQi zTT zaT D0 r S2) := by
  unfold rT_isNext_61 at h
  refine xt_pure rfl rfl rfl rfl ?_
  refine xt_if rfl rfl (fun hb => ?_) (fun hb => ?_)
  · replace h := zif_t (p := 0 ≤ l1.toInt) hb h
    refine xt_pure rfl rfl rfl rfl ?_
    refine xt_getf rfl rfl (xmC 212 rfl) ?_
    refine xt_pure rfl rfl rfl rfl ?_
    refine xt_pure rfl rfl rfl rfl ?_
    obtain ⟨x1, hx1, h⟩ := zgi h
    refine zr_ild (l := (zA S 7)) rfl rfl (zmA 7 rfl rfl (l := (zA S 7)) rfl) hx1 ?_
    refine xt_pure rfl rfl rfl (st1 := .int 1 :: _) rfl ?_
    refine xt_pure rfl rfl rfl rfl ?_
    obtain ⟨hg, h⟩ := zgd h
    refine zt_ist 7 rfl rfl rfl rfl (l := (zA S 7)) rfl hg ?_
    refine xt_pure rfl rfl rfl rfl ?_
    refine xt_pure rfl rfl rfl (st1 := .int 1 :: _) rfl ?_
    refine xt_pure rfl rfl rfl rfl ?_
    refine xt_pure rfl rfl rfl (L1 := [_, _, _]) rfl ?_
    exact trT_isNext_108 hG hf hl h
  · replace h := zif_f (p := 0 ≤ l1.toInt) hb h
    refine xt_pure rfl rfl rfl rfl ?_
    refine xt_pure rfl rfl rfl rfl ?_
    refine zt_gI 3 rfl rfl rfl rfl (x := (zI S 3)) rfl ?_
    refine xt_pure rfl rfl rfl (st1 := .int 1 :: _) rfl ?_
    refine xt_pure rfl rfl rfl rfl ?_
    refine zt_pI 3 rfl rfl rfl rfl rfl rfl ?_
    refine xt_pure rfl rfl rfl rfl ?_
    refine zt_gI 3 rfl rfl rfl rfl (x := ((zI S 3) + 1)) rfl ?_
    refine xt_pure rfl rfl rfl rfl ?_
    refine zt_gI 4 rfl rfl rfl rfl (x := (zI S 4)) rfl ?_
    refine xt_ic rfl rfl (fun hb => ?_) (fun hb => ?_)
    · replace h := zif_t (p := ((zI S 3) + 1).toInt ≤ (zI S 4).toInt) hb h
      refine xt_pure rfl rfl rfl (st1 := .int 0 :: _) rfl ?_
      refine xt_pure rfl rfl rfl (L1 := [_, _, _]) rfl ?_
      exact trT_isNext_78 hG hf hl h
    · replace h := zif_f (p := ((zI S 3) + 1).toInt ≤ (zI S 4).toInt) hb h
      refine xt_pure rfl rfl rfl (st1 := .int 0 :: _) rfl ?_
      cases h
      exact xt_iret rfl rfl rfl rfl ⟨rfl, rfl⟩
def rT_isNext_45 (gi : Nat → Int32) (ga : Nat → List Int32)  (N : Nat)  : Nat → Int32 → zS → Option (Int32 × zS)
  | 0, _, _ => none
  | n + 1, l1, S => (if l1.toInt < 0 then rT_isNext_61 gi ga N l1 S else (zg (gI (zA S 7) l1) fun x3 => (if x3 ≠ (((zI S 4) - (zI S 3)) + l1) then rT_isNext_61 gi ga N l1 S else (rT_isNext_45 gi ga N n) (l1 + (-1)) S)))
theorem trT_isNext_45 {X : List Int32} {D0 : List xE} {fa : Nat} {p : Nat → Nat} {gi : Nat → Int32} {ga : Nat → List Int32} {vl : List Int64} (hG : ∀ e ∈ zgF fa p gi ga vl, e ∈ D0)  {N fr lo : Nat}   (hf : 0 ≤ fr) (hl : 0 ≤ lo)  : ∀ {n : Nat} {l1 : Int32}  {S S2 : zS} {r : Int32} , rT_isNext_45 gi ga N n l1 S = some (r, S2) → yT X fr lo 341 45 [some (.ref 209), some (.int l1), none] [] (zD zTT zaT S D0) 0 0 (zQi zTT zaT D0 r S2) := by
  intro n
  induction n with
  | zero =>
    intro l1  S S2 r  h
    have h : (none : Option (Int32 × zS)) = some (r, S2) := h
    cases h
  | succ n ih =>
    intro l1  S S2 r  h
    rw [rT_isNext_45] at h
    refine xt_pure rfl rfl rfl rfl ?_
    refine xt_if rfl rfl (fun hb => ?_) (fun hb => ?_)
    · replace h := zif_t (p := l1.toInt < 0) hb h
      exact trT_isNext_61 hG hf hl h
    · replace h := zif_f (p := l1.toInt < 0) hb h
      refine xt_pure rfl rfl rfl rfl ?_
      refine xt_getf rfl rfl (xmC 212 rfl) ?_
      refine xt_pure rfl rfl rfl rfl ?_
      obtain ⟨x3, hx3, h⟩ := zgi h
      refine zr_ild (l := (zA S 7)) rfl rfl (zmA 7 rfl rfl (l := (zA S 7)) rfl) hx3 ?_
      refine xt_pure rfl rfl rfl rfl ?_
      refine zt_gI 4 rfl rfl rfl rfl (x := (zI S 4)) rfl ?_
      refine xt_pure rfl rfl rfl rfl ?_
      refine zt_gI 3 rfl rfl rfl rfl (x := (zI S 3)) rfl ?_
      refine xt_pure rfl rfl rfl rfl ?_
      refine xt_pure rfl rfl rfl rfl ?_
      refine xt_pure rfl rfl rfl rfl ?_
      refine xt_ic rfl rfl (fun hb => ?_) (fun hb => ?_)
      · replace h := zif_t (p := x3 ≠ (((zI S 4) - (zI S 3)) + l1)) hb h
        exact trT_isNext_61 hG hf hl h
      · replace h := zif_f (p := x3 ≠ (((zI S 4) - (zI S 3)) + l1)) hb h
        refine xt_pure rfl rfl rfl (L1 := [_, some (.int (_ + (-1))), _]) rfl ?_
        refine xt_pure rfl rfl rfl rfl ?_
        exact ih h
def rT_isNext_28 (gi : Nat → Int32) (ga : Nat → List Int32)  (N : Nat)  (l1 : Int32) (S : zS) : Option (Int32 × zS) := (if l1.toInt < 0 then rT_isNext_45 gi ga N N ((zI S 3) - 1) S else (zg (gI (zA S 8) l1) fun x4 => (if zok (zA S 8) l1 then some (1, (zsA S 8 (zs (zA S 8) l1 (x4 + 1)))) else none)))
theorem trT_isNext_28 {X : List Int32} {D0 : List xE} {fa : Nat} {p : Nat → Nat} {gi : Nat → Int32} {ga : Nat → List Int32} {vl : List Int64} (hG : ∀ e ∈ zgF fa p gi ga vl, e ∈ D0)  {N fr lo : Nat}   (hf : 0 ≤ fr) (hl : 0 ≤ lo) {l1 : Int32}  {S S2 : zS} {r : Int32}  (h : rT_isNext_28 gi ga N l1 S = some (r, S2)) : yT X fr lo 341 28 [some (.ref 209), some (.int l1), none] [] (zD zTT zaT S D0) 0 0 (zQi zTT zaT D0 r S2) := by
  unfold rT_isNext_28 at h
  refine xt_pure rfl rfl rfl rfl ?_
  refine xt_if rfl rfl (fun hb => ?_) (fun hb => ?_)
  · replace h := zif_t (p := l1.toInt < 0) hb h
    refine xt_pure rfl rfl rfl rfl ?_
    refine zt_gI 3 rfl rfl rfl rfl (x := (zI S 3)) rfl ?_
    refine xt_pure rfl rfl rfl (st1 := .int 1 :: _) rfl ?_
    refine xt_pure rfl rfl rfl rfl ?_
    refine xt_pure rfl rfl rfl (L1 := [_, _, _]) rfl ?_
    exact trT_isNext_45 hG hf hl h
  · replace h := zif_f (p := l1.toInt < 0) hb h
    refine xt_pure rfl rfl rfl rfl ?_
    refine xt_getf rfl rfl (xmC 213 rfl) ?_
    refine xt_pure rfl rfl rfl rfl ?_
    refine xt_pure rfl rfl rfl rfl ?_
    obtain ⟨x4, hx4, h⟩ := zgi h
    refine zr_ild (l := (zA S 8)) rfl rfl (zmA 8 rfl rfl (l := (zA S 8)) rfl) hx4 ?_
    refine xt_pure rfl rfl rfl (st1 := .int 1 :: _) rfl ?_
    refine xt_pure rfl rfl rfl rfl ?_
    obtain ⟨hg, h⟩ := zgd h
    refine zt_ist 8 rfl rfl rfl rfl (l := (zA S 8)) rfl hg ?_
    refine xt_pure rfl rfl rfl (st1 := .int 1 :: _) rfl ?_
    cases h
    exact xt_iret rfl rfl rfl rfl ⟨rfl, rfl⟩
def rT_isNext_5 (gi : Nat → Int32) (ga : Nat → List Int32)  (N : Nat)  : Nat → Int32 → zS → Option (Int32 × zS)
  | 0, _, _ => none
  | n + 1, l1, S => (if l1.toInt < 0 then rT_isNext_28 gi ga N l1 S else (zg (gI (zA S 8) l1) fun x5 => (zg (gI (zA S 7) l1) fun x6 => (zg (gI (zA S 6) x6) fun x7 => (if x5 ≠ (x7 - 1) then rT_isNext_28 gi ga N l1 S else (if zok (zA S 8) l1 then (rT_isNext_5 gi ga N n) (l1 + (-1)) (zsA S 8 (zs (zA S 8) l1 0)) else none))))))
theorem trT_isNext_5 {X : List Int32} {D0 : List xE} {fa : Nat} {p : Nat → Nat} {gi : Nat → Int32} {ga : Nat → List Int32} {vl : List Int64} (hG : ∀ e ∈ zgF fa p gi ga vl, e ∈ D0)  {N fr lo : Nat}   (hf : 0 ≤ fr) (hl : 0 ≤ lo)  : ∀ {n : Nat} {l1 : Int32}  {S S2 : zS} {r : Int32} , rT_isNext_5 gi ga N n l1 S = some (r, S2) → yT X fr lo 341 5 [some (.ref 209), some (.int l1), none] [] (zD zTT zaT S D0) 0 0 (zQi zTT zaT D0 r S2) := by
  intro n
  induction n with
  | zero =>
    intro l1  S S2 r  h
    have h : (none : Option (Int32 × zS)) = some (r, S2) := h
    cases h
  | succ n ih =>
    intro l1  S S2 r  h
    rw [rT_isNext_5] at h
    refine xt_pure rfl rfl rfl rfl ?_
    refine xt_if rfl rfl (fun hb => ?_) (fun hb => ?_)
    · replace h := zif_t (p := l1.toInt < 0) hb h
      exact trT_isNext_28 hG hf hl h
    · replace h := zif_f (p := l1.toInt < 0) hb h
      refine xt_pure rfl rfl rfl rfl ?_
      refine xt_getf rfl rfl (xmC 213 rfl) ?_
      refine xt_pure rfl rfl rfl rfl ?_
      obtain ⟨x5, hx5, h⟩ := zgi h
      refine zr_ild (l := (zA S 8)) rfl rfl (zmA 8 rfl rfl (l := (zA S 8)) rfl) hx5 ?_
      refine xt_pure rfl rfl rfl rfl ?_
      refine xt_getf rfl rfl (xmC 211 rfl) ?_
      refine xt_pure rfl rfl rfl rfl ?_
      refine xt_getf rfl rfl (xmC 212 rfl) ?_
      refine xt_pure rfl rfl rfl rfl ?_
      obtain ⟨x6, hx6, h⟩ := zgi h
      refine zr_ild (l := (zA S 7)) rfl rfl (zmA 7 rfl rfl (l := (zA S 7)) rfl) hx6 ?_
      obtain ⟨x7, hx7, h⟩ := zgi h
      refine zr_ild (l := (zA S 6)) rfl rfl (zmA 6 rfl rfl (l := (zA S 6)) rfl) hx7 ?_
      refine xt_pure rfl rfl rfl (st1 := .int 1 :: _) rfl ?_
      refine xt_pure rfl rfl rfl rfl ?_
      refine xt_ic rfl rfl (fun hb => ?_) (fun hb => ?_)
      · replace h := zif_t (p := x5 ≠ (x7 - 1)) hb h
        exact trT_isNext_28 hG hf hl h
      · replace h := zif_f (p := x5 ≠ (x7 - 1)) hb h
        refine xt_pure rfl rfl rfl rfl ?_
        refine xt_getf rfl rfl (xmC 213 rfl) ?_
        refine xt_pure rfl rfl rfl rfl ?_
        refine xt_pure rfl rfl rfl (st1 := .int 0 :: _) rfl ?_
        obtain ⟨hg, h⟩ := zgd h
        refine zt_ist 8 rfl rfl rfl rfl (l := (zA S 8)) rfl hg ?_
        refine xt_pure rfl rfl rfl (L1 := [_, some (.int (_ + (-1))), _]) rfl ?_
        refine xt_pure rfl rfl rfl rfl ?_
        exact ih h
def rT_isNext (gi : Nat → Int32) (ga : Nat → List Int32)  (N : Nat)  (S : zS) : Option (Int32 × zS) := rT_isNext_5 gi ga N N ((zI S 3) - 1) S
theorem trT_isNext {X : List Int32} {D0 : List xE} {fa : Nat} {p : Nat → Nat} {gi : Nat → Int32} {ga : Nat → List Int32} {vl : List Int64} (hG : ∀ e ∈ zgF fa p gi ga vl, e ∈ D0)  {N fr lo : Nat} (hf : 0 ≤ fr) (hl : 0 ≤ lo)  {S S2 : zS} {r : Int32}  (h : rT_isNext gi ga N  S = some (r, S2)) : yK X fr lo 341 [.ref 209] (zD zTT zaT S D0) 0 0 (zQi zTT zaT D0 r S2) := by
  unfold rT_isNext at h
  refine yK.of rfl (yle rfl) (L := [_, _, _]) rfl ?_
  refine xt_pure rfl rfl rfl rfl ?_
  refine zt_gI 3 rfl rfl rfl rfl (x := (zI S 3)) rfl ?_
  refine xt_pure rfl rfl rfl (st1 := .int 1 :: _) rfl ?_
  refine xt_pure rfl rfl rfl rfl ?_
  refine xt_pure rfl rfl rfl (L1 := [_, _, _]) rfl ?_
  exact trT_isNext_5 hG hf hl h
def rT_partsWith_9 (gi : Nat → Int32) (ga : Nat → List Int32)  (N : Nat)  : Nat → Int32 → Int32 → zS → Option (Int32 × zS)
  | 0, _, _, _ => none
  | n + 1, l3, l4, S => (if (gi 0).toInt ≤ l4.toInt then some (l3, S) else (zb (rT_candidates gi ga N l4 S) fun x1 S2 => (if x1.toInt ≤ 0 then (rT_partsWith_9 gi ga N n) l3 (l4 + 1) S2 else (if zok (zA S2 5) l3 then (if zok (zA S2 6) l3 then (rT_partsWith_9 gi ga N n) (l3 + 1) (l4 + 1) (zsA (zsA S2 5 (zs (zA S2 5) l3 l4)) 6 (zs (zA S2 6) l3 x1)) else none) else none))))
theorem trT_partsWith_9 {X : List Int32} {D0 : List xE} {fa : Nat} {p : Nat → Nat} {gi : Nat → Int32} {ga : Nat → List Int32} {vl : List Int64} (hG : ∀ e ∈ zgF fa p gi ga vl, e ∈ D0)  {N fr lo : Nat}   (hf : 1 ≤ fr) (hl : 22 ≤ lo)  : ∀ {n : Nat} {l3 : Int32} {l4 : Int32} {d1 : Int32} {u5 : Option Value} {S S2 : zS} {r : Int32} , rT_partsWith_9 gi ga N n l3 l4 S = some (r, S2) → yT X fr lo 336 9 [some (.ref 209), some (.int d1), some (.ref fa), some (.int l3), some (.int l4), u5] [] (zD zTT zaT S D0) 0 0 (zQi zTT zaT D0 r S2) := by
  intro n
  induction n with
  | zero =>
    intro l3 l4 d1 u5 S S2 r  h
    have h : (none : Option (Int32 × zS)) = some (r, S2) := h
    cases h
  | succ n ih =>
    intro l3 l4 d1 u5 S S2 r  h
    rw [rT_partsWith_9] at h
    refine xt_pure rfl rfl rfl rfl ?_
    refine xt_pure rfl rfl rfl rfl ?_
    refine xt_getf rfl rfl (zmr (ymm hG 0 rfl)) ?_
    refine xt_ic rfl rfl (fun hb => ?_) (fun hb => ?_)
    · replace h := zif_t (p := (gi 0).toInt ≤ l4.toInt) hb h
      refine xt_pure rfl rfl rfl rfl ?_
      cases h
      exact xt_iret rfl rfl rfl rfl ⟨rfl, rfl⟩
    · replace h := zif_f (p := (gi 0).toInt ≤ l4.toInt) hb h
      refine xt_pure rfl rfl rfl rfl ?_
      refine xt_pure rfl rfl rfl rfl ?_
      obtain ⟨x1, S2, hc3, h⟩ := zbi h
      refine zt_Si rfl rfl (by decide) rfl rfl ⟨rfl, yle rfl, yle rfl⟩ (m := 3) rfl ⟨by omega, by omega⟩ (trT_candidates hG (by omega) (by omega) hc3) (fr1 := fr - 1) (lo1 := lo - 22) ?_
      refine xt_pure rfl rfl rfl (L1 := [_, _, _, _, _, _]) rfl ?_
      refine xt_pure rfl rfl rfl rfl ?_
      refine xt_if rfl rfl (fun hb => ?_) (fun hb => ?_)
      · replace h := zif_t (p := x1.toInt ≤ 0) hb h
        refine xt_pure rfl rfl rfl (L1 := [_, _, _, _, some (.int (_ + 1)), _]) rfl ?_
        refine xt_pure rfl rfl rfl rfl ?_
        exact ih h
      · replace h := zif_f (p := x1.toInt ≤ 0) hb h
        refine xt_pure rfl rfl rfl rfl ?_
        refine xt_getf rfl rfl (xmC 210 rfl) ?_
        refine xt_pure rfl rfl rfl rfl ?_
        refine xt_pure rfl rfl rfl rfl ?_
        obtain ⟨hg, h⟩ := zgd h
        refine zt_ist 5 rfl rfl rfl rfl (l := (zA S2 5)) rfl hg ?_
        refine xt_pure rfl rfl rfl rfl ?_
        refine xt_getf rfl rfl (xmC 211 rfl) ?_
        refine xt_pure rfl rfl rfl rfl ?_
        refine xt_pure rfl rfl rfl rfl ?_
        obtain ⟨hg, h⟩ := zgd h
        refine zt_ist 6 rfl rfl rfl rfl (l := (zA S2 6)) rfl hg ?_
        refine xt_pure rfl rfl rfl (L1 := [_, _, _, some (.int (_ + 1)), _, _]) rfl ?_
        refine xt_pure rfl rfl rfl (L1 := [_, _, _, _, some (.int (_ + 1)), _]) rfl ?_
        refine xt_pure rfl rfl rfl rfl ?_
        exact ih h
def rT_partsWith (gi : Nat → Int32) (ga : Nat → List Int32)  (N : Nat) (S : zS) : Option (Int32 × zS) := rT_partsWith_9 gi ga N N 0 0 S
theorem trT_partsWith {X : List Int32} {D0 : List xE} {fa : Nat} {p : Nat → Nat} {gi : Nat → Int32} {ga : Nat → List Int32} {vl : List Int64} (hG : ∀ e ∈ zgF fa p gi ga vl, e ∈ D0)  {v1 : Int32} {N fr lo : Nat} (hf : 1 ≤ fr) (hl : 22 ≤ lo) {S S2 : zS} {r : Int32} (h : rT_partsWith gi ga N S = some (r, S2)) : yT X fr lo 336 5 [some (.ref 209), some (.int v1), some (.ref fa), none, none, none] [] (zD zTT zaT S D0) 0 0 (zQi zTT zaT D0 r S2) := by
  unfold rT_partsWith at h
  refine xt_pure rfl rfl rfl (st1 := .int 0 :: _) rfl ?_
  refine xt_pure rfl rfl rfl (L1 := [_, _, _, _, _, _]) rfl ?_
  refine xt_pure rfl rfl rfl (st1 := .int 0 :: _) rfl ?_
  refine xt_pure rfl rfl rfl (L1 := [_, _, _, _, _, _]) rfl ?_
  exact trT_partsWith_9 hG hf hl h
