/-! MIRRORS: the search, the class -/
def zTY : List (Nat × Nat × Nat) := [(0, 6, 0), (0, 6, 1), (4, 1, 0)]
def zaY (ob oi : Nat) (i : Nat) : Nat := ([ob, ob, oi] : List Nat).getD i 0
def cY_put (gi : Nat → Int32) (ga : Nat → List Int32)  (N : Nat) (v1 : Int32) (v2 : Int64) (S : zS) : Option (Unit × zS) := (if (zI S 0) = 0 then (if v2 = (0 : Int64) then (if zok (zB S 2) v1 then some ((), (zsB S 2 (zs (zB S 2) v1 0))) else none) else (if zok (zB S 2) v1 then some ((), (zsB S 2 (zs (zB S 2) v1 1))) else none)) else if (zI S 0) = 1 then (if zok (zB S 2) v1 then some ((), (zsB S 2 (zs (zB S 2) v1 v2.toInt32.toInt64))) else none) else if (zI S 0) = 3 then (if zok (zB S 2) v1 then some ((), (zsB S 2 (zs (zB S 2) v1 (v2 &&& 65535)))) else none) else (if zok (zB S 2) v1 then some ((), (zsB S 2 (zs (zB S 2) v1 v2))) else none))
set_option maxRecDepth 20000 in
theorem tcY_put {X : List Int32} {D0 : List xE} {ob oi fa : Nat} {p : Nat → Nat} {gi : Nat → Int32} {ga : Nat → List Int32} (hO2 : ((ob, .inl (6, 2, .ref oi)) : xE) ∈ D0) (hS2 : ((168, .inl (8, 2, .ref fa)) : xE) ∈ D0) (hG : ∀ e ∈ zgE fa p gi ga, e ∈ D0)  {N fr lo : Nat} (hf : 0 ≤ fr) (hl : 0 ≤ lo) {v1 : Int32} {v2 : Int64} {S S2 : zS} {r : Unit}  (h : cY_put gi ga N v1 v2 S = some (r, S2)) : yK X fr lo 96 [.ref ob, .int v1, .long v2] (zD zTY (zaY ob oi) S D0) 0 0 (zQv zTY (zaY ob oi) D0 r S2) := by
  unfold cY_put at h
  refine yK.of rfl (yle rfl) (L := [_, _, _, _]) rfl ?_
  refine xt_pure rfl rfl rfl rfl ?_
  refine zt_gI 0 rfl rfl rfl rfl (x := (zI S 0)) rfl ?_
  by_cases hw1 : (zI S 0) = 0
  · replace h := zif_t (p := (zI S 0) = 0) hw1 h
    refine zt_sw (tg := 3) rfl rfl rfl hw1 rfl ?_
    refine xt_pure rfl rfl rfl rfl ?_
    refine xt_getf rfl rfl (zmr hO2) ?_
    refine xt_pure rfl rfl rfl rfl ?_
    refine xt_pure rfl rfl rfl rfl ?_
    refine xt_pure rfl rfl rfl (st1 := .long 0 :: _) rfl ?_
    refine zt_lc rfl rfl rfl (fun hb => ?_) (fun hb => ?_)
    · replace h := zif_t (p := v2 = (0 : Int64)) hb h
      refine xt_pure rfl rfl rfl (st1 := .long 0 :: _) rfl ?_
      obtain ⟨hg, h⟩ := zgd h
      refine zt_lst 2 rfl rfl rfl rfl (l := (zB S 2)) rfl hg ?_
      refine xt_pure rfl rfl rfl rfl ?_
      cases h
      exact xt_vret rfl rfl rfl ⟨rfl, rfl⟩
    · replace h := zif_f (p := v2 = (0 : Int64)) hb h
      refine xt_pure rfl rfl rfl (st1 := .long 1 :: _) rfl ?_
      refine xt_pure rfl rfl rfl rfl ?_
      obtain ⟨hg, h⟩ := zgd h
      refine zt_lst 2 rfl rfl rfl rfl (l := (zB S 2)) rfl hg ?_
      refine xt_pure rfl rfl rfl rfl ?_
      cases h
      exact xt_vret rfl rfl rfl ⟨rfl, rfl⟩
  replace h := zif_f (p := (zI S 0) = 0) hw1 h
  by_cases hw2 : (zI S 0) = 1
  · replace h := zif_t (p := (zI S 0) = 1) hw2 h
    refine zt_sw (tg := 15) rfl rfl rfl hw2 rfl ?_
    refine xt_pure rfl rfl rfl rfl ?_
    refine xt_getf rfl rfl (zmr hO2) ?_
    refine xt_pure rfl rfl rfl rfl ?_
    refine xt_pure rfl rfl rfl rfl ?_
    refine xt_pure rfl rfl rfl rfl ?_
    refine xt_pure rfl rfl rfl rfl ?_
    obtain ⟨hg, h⟩ := zgd h
    refine zt_lst 2 rfl rfl rfl rfl (l := (zB S 2)) rfl hg ?_
    refine xt_pure rfl rfl rfl rfl ?_
    cases h
    exact xt_vret rfl rfl rfl ⟨rfl, rfl⟩
  replace h := zif_f (p := (zI S 0) = 1) hw2 h
  by_cases hw3 : (zI S 0) = 3
  · replace h := zif_t (p := (zI S 0) = 3) hw3 h
    refine zt_sw (tg := 23) rfl rfl rfl hw3 rfl ?_
    refine xt_pure rfl rfl rfl rfl ?_
    refine xt_getf rfl rfl (zmr hO2) ?_
    refine xt_pure rfl rfl rfl rfl ?_
    refine xt_pure rfl rfl rfl rfl ?_
    refine xt_pure rfl rfl rfl (st1 := .long 65535 :: _) rfl ?_
    refine xt_pure rfl rfl rfl rfl ?_
    obtain ⟨hg, h⟩ := zgd h
    refine zt_lst 2 rfl rfl rfl rfl (l := (zB S 2)) rfl hg ?_
    refine xt_pure rfl rfl rfl rfl ?_
    cases h
    exact xt_vret rfl rfl rfl ⟨rfl, rfl⟩
  replace h := zif_f (p := (zI S 0) = 3) hw3 h
  by_cases hw4 : (zI S 0) = 2
  · refine zt_sw (tg := 31) rfl rfl rfl hw4 rfl ?_
    refine xt_pure rfl rfl rfl rfl ?_
    refine xt_getf rfl rfl (zmr hO2) ?_
    refine xt_pure rfl rfl rfl rfl ?_
    refine xt_pure rfl rfl rfl rfl ?_
    obtain ⟨hg, h⟩ := zgd h
    refine zt_lst 2 rfl rfl rfl rfl (l := (zB S 2)) rfl hg ?_
    cases h
    exact xt_vret rfl rfl rfl ⟨rfl, rfl⟩
  have hxhw1 : ¬ (zI S 0).toInt = 0 := fun h => hw1 (by rw [xi32_eq, h]; rfl)
  have hxhw2 : ¬ (zI S 0).toInt = 1 := fun h => hw2 (by rw [xi32_eq, h]; rfl)
  have hxhw3 : ¬ (zI S 0).toInt = 3 := fun h => hw3 (by rw [xi32_eq, h]; rfl)
  have hxhw4 : ¬ (zI S 0).toInt = 2 := fun h => hw4 (by rw [xi32_eq, h]; rfl)
  refine yt_tsd rfl rfl (by omega) rfl ?_
  refine xt_pure rfl rfl rfl rfl ?_
  refine xt_getf rfl rfl (zmr hO2) ?_
  refine xt_pure rfl rfl rfl rfl ?_
  refine xt_pure rfl rfl rfl rfl ?_
  obtain ⟨hg, h⟩ := zgd h
  refine zt_lst 2 rfl rfl rfl rfl (l := (zB S 2)) rfl hg ?_
  cases h
  exact xt_vret rfl rfl rfl ⟨rfl, rfl⟩
def cY_sizeOf (gi : Nat → Int32) (ga : Nat → List Int32)  (N : Nat) (v1 : Int32) (S : zS) : Option (Int32 × zS) := (zg (gI (ga 1) v1) fun x1 => (if x1 ≠ (5 : Int32) then some (1, S) else (zg (gI (ga 6) v1) fun x2 => some (x2, S))))
theorem tcY_sizeOf {X : List Int32} {D0 : List xE} {ob oi fa : Nat} {p : Nat → Nat} {gi : Nat → Int32} {ga : Nat → List Int32} (hO2 : ((ob, .inl (6, 2, .ref oi)) : xE) ∈ D0) (hS2 : ((168, .inl (8, 2, .ref fa)) : xE) ∈ D0) (hG : ∀ e ∈ zgE fa p gi ga, e ∈ D0)  {N fr lo : Nat} (hf : 0 ≤ fr) (hl : 0 ≤ lo) {v1 : Int32} {S S2 : zS} {r : Int32}  (h : cY_sizeOf gi ga N v1 S = some (r, S2)) : yK X fr lo 186 [.ref 168, .int v1] (zD zTY (zaY ob oi) S D0) 0 0 (zQi zTY (zaY ob oi) D0 r S2) := by
  unfold cY_sizeOf at h
  refine yK.of rfl (yle rfl) (L := [_, _]) rfl ?_
  refine xt_pure rfl rfl rfl rfl ?_
  refine xt_getf rfl rfl (zmr hS2) ?_
  refine xt_getf rfl rfl (zmr (ymm hG 1 rfl)) ?_
  refine xt_pure rfl rfl rfl rfl ?_
  obtain ⟨x1, hx1, h⟩ := zgi h
  refine zr_ild (l := (ga 1)) rfl rfl (zmr (ymm hG 19 rfl)) hx1 ?_
  refine xt_pure rfl rfl rfl (st1 := .int 5 :: _) rfl ?_
  refine xt_ic rfl rfl (fun hb => ?_) (fun hb => ?_)
  · replace h := zif_t (p := x1 ≠ (5 : Int32)) hb h
    refine xt_pure rfl rfl rfl (st1 := .int 1 :: _) rfl ?_
    cases h
    exact xt_iret rfl rfl rfl rfl ⟨rfl, rfl⟩
  · replace h := zif_f (p := x1 ≠ (5 : Int32)) hb h
    refine xt_pure rfl rfl rfl rfl ?_
    refine xt_getf rfl rfl (zmr hS2) ?_
    refine xt_getf rfl rfl (zmr (ymm hG 6 rfl)) ?_
    refine xt_pure rfl rfl rfl rfl ?_
    obtain ⟨x2, hx2, h⟩ := zgi h
    refine zr_ild (l := (ga 6)) rfl rfl (zmr (ymm hG 24 rfl)) hx2 ?_
    refine xt_pure rfl rfl rfl rfl ?_
    cases h
    exact xt_iret rfl rfl rfl rfl ⟨rfl, rfl⟩
def cY_candidate_6 (gi : Nat → Int32) (ga : Nat → List Int32)  (N : Nat)  (l1 : Int32) (l2 : Int32) (S : zS) : Option (Int64 × zS) := (if l2 ≠ (0 : Int32) then (zg (gI (ga 5) l1) fun x2 => some (x2.toInt64, S)) else (zg (gI (ga 4) l1) fun x3 => some (x3.toInt64, S)))
theorem tcY_candidate_6 {X : List Int32} {D0 : List xE} {ob oi fa : Nat} {p : Nat → Nat} {gi : Nat → Int32} {ga : Nat → List Int32} (hO2 : ((ob, .inl (6, 2, .ref oi)) : xE) ∈ D0) (hS2 : ((168, .inl (8, 2, .ref fa)) : xE) ∈ D0) (hG : ∀ e ∈ zgE fa p gi ga, e ∈ D0)  {N fr lo : Nat}   (hf : 0 ≤ fr) (hl : 0 ≤ lo) {l1 : Int32} {l2 : Int32}  {S S2 : zS} {r : Int64}  (h : cY_candidate_6 gi ga N l1 l2 S = some (r, S2)) : yT X fr lo 187 6 [some (.ref 168), some (.int l1), some (.int l2)] [] (zD zTY (zaY ob oi) S D0) 0 0 (zQl zTY (zaY ob oi) D0 r S2) := by
  unfold cY_candidate_6 at h
  refine xt_pure rfl rfl rfl rfl ?_
  refine xt_if rfl rfl (fun hb => ?_) (fun hb => ?_)
  · replace h := zif_t (p := l2 ≠ (0 : Int32)) hb h
    refine xt_pure rfl rfl rfl rfl ?_
    refine xt_getf rfl rfl (zmr hS2) ?_
    refine xt_getf rfl rfl (zmr (ymm hG 5 rfl)) ?_
    refine xt_pure rfl rfl rfl rfl ?_
    obtain ⟨x2, hx2, h⟩ := zgi h
    refine zr_ild (l := (ga 5)) rfl rfl (zmr (ymm hG 23 rfl)) hx2 ?_
    refine xt_pure rfl rfl rfl rfl ?_
    cases h
    exact xt_lret rfl rfl rfl ⟨rfl, rfl⟩
  · replace h := zif_f (p := l2 ≠ (0 : Int32)) hb h
    refine xt_pure rfl rfl rfl rfl ?_
    refine xt_getf rfl rfl (zmr hS2) ?_
    refine xt_getf rfl rfl (zmr (ymm hG 4 rfl)) ?_
    refine xt_pure rfl rfl rfl rfl ?_
    obtain ⟨x3, hx3, h⟩ := zgi h
    refine zr_ild (l := (ga 4)) rfl rfl (zmr (ymm hG 22 rfl)) hx3 ?_
    refine xt_pure rfl rfl rfl rfl ?_
    refine xt_pure rfl rfl rfl rfl ?_
    cases h
    exact xt_lret rfl rfl rfl ⟨rfl, rfl⟩
def cY_candidate (gi : Nat → Int32) (ga : Nat → List Int32)  (N : Nat) (v1 : Int32) (v2 : Int32) (S : zS) : Option (Int64 × zS) := (zg (gI (ga 1) v1) fun x1 => (if x1 = 1 then cY_candidate_6 gi ga N v1 v2 S else if x1 = 2 then cY_candidate_6 gi ga N v1 v2 S else if x1 = 3 then cY_candidate_6 gi ga N v1 v2 S else some (v2.toInt64, S)))
set_option maxRecDepth 20000 in
theorem tcY_candidate {X : List Int32} {D0 : List xE} {ob oi fa : Nat} {p : Nat → Nat} {gi : Nat → Int32} {ga : Nat → List Int32} (hO2 : ((ob, .inl (6, 2, .ref oi)) : xE) ∈ D0) (hS2 : ((168, .inl (8, 2, .ref fa)) : xE) ∈ D0) (hG : ∀ e ∈ zgE fa p gi ga, e ∈ D0)  {N fr lo : Nat} (hf : 0 ≤ fr) (hl : 0 ≤ lo) {v1 : Int32} {v2 : Int32} {S S2 : zS} {r : Int64}  (h : cY_candidate gi ga N v1 v2 S = some (r, S2)) : yK X fr lo 187 [.ref 168, .int v1, .int v2] (zD zTY (zaY ob oi) S D0) 0 0 (zQl zTY (zaY ob oi) D0 r S2) := by
  unfold cY_candidate at h
  refine yK.of rfl (yle rfl) (L := [_, _, _]) rfl ?_
  refine xt_pure rfl rfl rfl rfl ?_
  refine xt_getf rfl rfl (zmr hS2) ?_
  refine xt_getf rfl rfl (zmr (ymm hG 1 rfl)) ?_
  refine xt_pure rfl rfl rfl rfl ?_
  obtain ⟨x1, hx1, h⟩ := zgi h
  refine zr_ild (l := (ga 1)) rfl rfl (zmr (ymm hG 19 rfl)) hx1 ?_
  by_cases hw4 : x1 = 1
  · replace h := zif_t (p := x1 = 1) hw4 h
    refine zt_sw (tg := 6) rfl rfl rfl hw4 rfl ?_
    exact tcY_candidate_6 hO2 hS2 hG hf hl h
  replace h := zif_f (p := x1 = 1) hw4 h
  by_cases hw5 : x1 = 2
  · replace h := zif_t (p := x1 = 2) hw5 h
    refine zt_sw (tg := 6) rfl rfl rfl hw5 rfl ?_
    exact tcY_candidate_6 hO2 hS2 hG hf hl h
  replace h := zif_f (p := x1 = 2) hw5 h
  by_cases hw6 : x1 = 3
  · replace h := zif_t (p := x1 = 3) hw6 h
    refine zt_sw (tg := 6) rfl rfl rfl hw6 rfl ?_
    exact tcY_candidate_6 hO2 hS2 hG hf hl h
  replace h := zif_f (p := x1 = 3) hw6 h
  have hxhw4 : ¬ x1.toInt = 1 := fun h => hw4 (by rw [xi32_eq, h]; rfl)
  have hxhw5 : ¬ x1.toInt = 2 := fun h => hw5 (by rw [xi32_eq, h]; rfl)
  have hxhw6 : ¬ x1.toInt = 3 := fun h => hw6 (by rw [xi32_eq, h]; rfl)
  refine yt_tsd rfl rfl (by omega) rfl ?_
  refine xt_pure rfl rfl rfl rfl ?_
  refine xt_pure rfl rfl rfl rfl ?_
  cases h
  exact xt_lret rfl rfl rfl ⟨rfl, rfl⟩
def cY_fill_12 (gi : Nat → Int32) (ga : Nat → List Int32)  (N : Nat)  : Nat → Int64 → Int32 → zS → Option (Unit × zS)
  | 0, _, _, _ => none
  | n + 1, l4, l6, S => (if (zI S 1).toInt ≤ l6.toInt then some ((), S) else (if (Int32.ofNat (zB S 2).length).toInt ≤ l6.toInt then some ((), S) else (zb (cY_put gi ga N l6 l4 S) fun _ S8 => (cY_fill_12 gi ga N n) l4 (l6 + 1) S8)))
theorem tcY_fill_12 {X : List Int32} {D0 : List xE} {ob oi fa : Nat} {p : Nat → Nat} {gi : Nat → Int32} {ga : Nat → List Int32} (hO2 : ((ob, .inl (6, 2, .ref oi)) : xE) ∈ D0) (hS2 : ((168, .inl (8, 2, .ref fa)) : xE) ∈ D0) (hG : ∀ e ∈ zgE fa p gi ga, e ∈ D0)  {N fr lo : Nat}   (hf : 1 ≤ fr) (hl : 23 ≤ lo)  : ∀ {n : Nat} {l4 : Int64} {l6 : Int32} {d2 : Int32} {d3 : Int32} {S S2 : zS} {r : Unit} , cY_fill_12 gi ga N n l4 l6 S = some (r, S2) → yT X fr lo 185 12 [some (.ref 168), some (.ref ob), some (.int d2), some (.int d3), some (.long l4), none, some (.int l6)] [] (zD zTY (zaY ob oi) S D0) 0 0 (zQv zTY (zaY ob oi) D0 r S2) := by
  intro n
  induction n with
  | zero =>
    intro l4 l6 d2 d3 S S2 r  h
    have h : (none : Option (Unit × zS)) = some (r, S2) := h
    cases h
  | succ n ih =>
    intro l4 l6 d2 d3 S S2 r  h
    rw [cY_fill_12] at h
    refine xt_pure rfl rfl rfl rfl ?_
    refine xt_pure rfl rfl rfl rfl ?_
    refine zt_gI 1 rfl rfl rfl rfl (x := (zI S 1)) rfl ?_
    refine xt_ic rfl rfl (fun hb => ?_) (fun hb => ?_)
    · replace h := zif_t (p := (zI S 1).toInt ≤ l6.toInt) hb h
      cases h
      exact xt_vret rfl rfl rfl ⟨rfl, rfl⟩
    · replace h := zif_f (p := (zI S 1).toInt ≤ l6.toInt) hb h
      refine xt_pure rfl rfl rfl rfl ?_
      refine xt_pure rfl rfl rfl rfl ?_
      refine xt_getf rfl rfl (zmr hO2) ?_
      refine zr_lenJ (l := (zB S 2)) rfl rfl (zmB 2 rfl rfl (l := (zB S 2)) rfl) rfl ?_
      refine xt_ic rfl rfl (fun hb => ?_) (fun hb => ?_)
      · replace h := zif_t (p := (Int32.ofNat (zB S 2).length).toInt ≤ l6.toInt) hb h
        cases h
        exact xt_vret rfl rfl rfl ⟨rfl, rfl⟩
      · replace h := zif_f (p := (Int32.ofNat (zB S 2).length).toInt ≤ l6.toInt) hb h
        refine xt_pure rfl rfl rfl rfl ?_
        refine xt_pure rfl rfl rfl rfl ?_
        refine xt_pure rfl rfl rfl rfl ?_
        obtain ⟨_, S8, hc9, h⟩ := zbi h
        refine zt_Vv rfl rfl rfl rfl (zmr hO2) ⟨rfl, rfl, yle rfl, yle rfl⟩ (m := 4) rfl ⟨by omega, by omega⟩ (tcY_put hO2 hS2 hG (by omega) (by omega) hc9) (fr1 := fr - 1) (lo1 := lo - 23) ?_
        refine xt_pure rfl rfl rfl (L1 := [_, _, _, _, _, _, some (.int (_ + 1))]) rfl ?_
        refine xt_pure rfl rfl rfl rfl ?_
        exact ih h
def cY_fill (gi : Nat → Int32) (ga : Nat → List Int32)  (N : Nat) (v2 : Int32) (v3 : Int32) (S : zS) : Option (Unit × zS) := (zb (cY_sizeOf gi ga N v2 S) fun x1 S2 => (zb (cY_candidate gi ga N v2 v3 (zsI S2 1 x1)) fun x4 S5 => cY_fill_12 gi ga N N x4 0 S5))
theorem tcY_fill {X : List Int32} {D0 : List xE} {ob oi fa : Nat} {p : Nat → Nat} {gi : Nat → Int32} {ga : Nat → List Int32} (hO2 : ((ob, .inl (6, 2, .ref oi)) : xE) ∈ D0) (hS2 : ((168, .inl (8, 2, .ref fa)) : xE) ∈ D0) (hG : ∀ e ∈ zgE fa p gi ga, e ∈ D0)  {N fr lo : Nat} (hf : 1 ≤ fr) (hl : 23 ≤ lo) {v2 : Int32} {v3 : Int32} {S S2 : zS} {r : Unit}  (h : cY_fill gi ga N v2 v3 S = some (r, S2)) : yK X fr lo 185 [.ref 168, .ref ob, .int v2, .int v3] (zD zTY (zaY ob oi) S D0) 0 0 (zQv zTY (zaY ob oi) D0 r S2) := by
  unfold cY_fill at h
  refine yK.of rfl (yle rfl) (L := [_, _, _, _, _, _, _]) rfl ?_
  refine xt_pure rfl rfl rfl rfl ?_
  refine xt_pure rfl rfl rfl rfl ?_
  refine xt_pure rfl rfl rfl rfl ?_
  obtain ⟨x1, S2, hc3, h⟩ := zbi h
  refine zt_Vi rfl rfl rfl rfl (xmC 158 rfl) ⟨rfl, rfl, yle rfl, yle rfl⟩ (m := 2) rfl ⟨by omega, by omega⟩ (tcY_sizeOf hO2 hS2 hG (by omega) (by omega) hc3) (fr1 := fr - 1) (lo1 := lo - 21) ?_
  refine zt_pI 1 rfl rfl rfl rfl rfl rfl ?_
  refine xt_pure rfl rfl rfl rfl ?_
  refine xt_pure rfl rfl rfl rfl ?_
  refine xt_pure rfl rfl rfl rfl ?_
  obtain ⟨x4, S5, hc6, h⟩ := zbi h
  refine zt_Vl rfl rfl rfl rfl (xmC 158 rfl) ⟨rfl, rfl, yle rfl, yle rfl⟩ (m := 3) rfl ⟨by omega, by omega⟩ (tcY_candidate hO2 hS2 hG (by omega) (by omega) hc6) (fr1 := fr - 1) (lo1 := lo - 22) ?_
  refine xt_pure rfl rfl rfl (L1 := [_, _, _, _, _, _, _]) rfl ?_
  refine xt_pure rfl rfl rfl (st1 := .int 0 :: _) rfl ?_
  refine xt_pure rfl rfl rfl (L1 := [_, _, _, _, _, _, _]) rfl ?_
  exact tcY_fill_12 hO2 hS2 hG hf hl h
def zTS : List (Nat × Nat × Nat) := [(0, 8, 1), (0, 8, 3), (0, 8, 4), (0, 8, 6), (0, 8, 7), (3, 0, 0), (3, 0, 0), (3, 0, 0), (3, 0, 0)]
def zaS (i : Nat) : Nat := ([168, 168, 168, 168, 168, 169, 170, 171, 172] : List Nat).getD i 0
def cS_fill_5 (gi : Nat → Int32) (ga : Nat → List Int32)  (N : Nat)  : Nat → Int32 → Int32 → Int32 → zS → Option (Unit × zS)
  | 0, _, _, _, _ => none
  | n + 1, l1, l2, l3, S => (if l3.toInt ≤ l2.toInt then some ((), S) else (if zok (zA S 8) l2 then (cS_fill_5 gi ga N n) l1 (l2 + 1) l3 (zsA S 8 (zs (zA S 8) l2 l1)) else none))
theorem tcS_fill_5 {X : List Int32} {D0 : List xE} {fa : Nat} {p : Nat → Nat} {gi : Nat → Int32} {ga : Nat → List Int32} (hS2 : ((168, .inl (8, 2, .ref fa)) : xE) ∈ D0) (hG : ∀ e ∈ zgE fa p gi ga, e ∈ D0)  {N fr lo : Nat}   (hf : 0 ≤ fr) (hl : 0 ≤ lo)  : ∀ {n : Nat} {l1 : Int32} {l2 : Int32} {l3 : Int32}  {S S2 : zS} {r : Unit} , cS_fill_5 gi ga N n l1 l2 l3 S = some (r, S2) → yT X fr lo 18 5 [some (.ref 172), some (.int l1), some (.int l2), some (.int l3)] [] (zD zTS zaS S D0) 0 0 (zQv zTS zaS D0 r S2) := by
  intro n
  induction n with
  | zero =>
    intro l1 l2 l3  S S2 r  h
    have h : (none : Option (Unit × zS)) = some (r, S2) := h
    cases h
  | succ n ih =>
    intro l1 l2 l3  S S2 r  h
    rw [cS_fill_5] at h
    refine xt_pure rfl rfl rfl rfl ?_
    refine xt_pure rfl rfl rfl rfl ?_
    refine xt_ic rfl rfl (fun hb => ?_) (fun hb => ?_)
    · replace h := zif_t (p := l3.toInt ≤ l2.toInt) hb h
      cases h
      exact xt_vret rfl rfl rfl ⟨rfl, rfl⟩
    · replace h := zif_f (p := l3.toInt ≤ l2.toInt) hb h
      refine xt_pure rfl rfl rfl rfl ?_
      refine xt_pure rfl rfl rfl rfl ?_
      refine xt_pure rfl rfl rfl rfl ?_
      obtain ⟨hg, h⟩ := zgd h
      refine zt_ist 8 rfl rfl rfl rfl (l := (zA S 8)) rfl hg ?_
      refine xt_pure rfl rfl rfl (L1 := [_, _, some (.int (_ + 1)), _]) rfl ?_
      refine xt_pure rfl rfl rfl rfl ?_
      exact ih h
def cS_fill (gi : Nat → Int32) (ga : Nat → List Int32)  (N : Nat) (v1 : Int32) (S : zS) : Option (Unit × zS) := cS_fill_5 gi ga N N v1 0 (Int32.ofNat (zA S 8).length) S
theorem tcS_fill {X : List Int32} {D0 : List xE} {fa : Nat} {p : Nat → Nat} {gi : Nat → Int32} {ga : Nat → List Int32} (hS2 : ((168, .inl (8, 2, .ref fa)) : xE) ∈ D0) (hG : ∀ e ∈ zgE fa p gi ga, e ∈ D0)  {N fr lo : Nat} (hf : 0 ≤ fr) (hl : 0 ≤ lo) {v1 : Int32} {S S2 : zS} {r : Unit}  (h : cS_fill gi ga N v1 S = some (r, S2)) : yK X fr lo 18 [.ref 172, .int v1] (zD zTS zaS S D0) 0 0 (zQv zTS zaS D0 r S2) := by
  unfold cS_fill at h
  refine yK.of rfl (yle rfl) (L := [_, _, _, _]) rfl ?_
  refine xt_pure rfl rfl rfl (st1 := .int 0 :: _) rfl ?_
  refine xt_pure rfl rfl rfl (L1 := [_, _, _, _]) rfl ?_
  refine xt_pure rfl rfl rfl rfl ?_
  refine zr_lenI (l := (zA S 8)) rfl rfl (zmA 8 rfl rfl (l := (zA S 8)) rfl) rfl ?_
  refine xt_pure rfl rfl rfl (L1 := [_, _, _, _]) rfl ?_
  exact tcS_fill_5 hS2 hG hf hl h
def cS_candidateParts_4 (gi : Nat → Int32) (ga : Nat → List Int32)  (N : Nat)  : Nat → Int32 → Int32 → zS → Option (Int32 × zS)
  | 0, _, _, _ => none
  | n + 1, l2, l3, S => (if (gi 0).toInt ≤ l3.toInt then some (l2, S) else (zg (gI (ga 1) l3) fun x1 => (if 5 < x1.toInt then (cS_candidateParts_4 gi ga N n) (l2 + 0) (l3 + 1) S else (cS_candidateParts_4 gi ga N n) (l2 + 1) (l3 + 1) S)))
theorem tcS_candidateParts_4 {X : List Int32} {D0 : List xE} {fa : Nat} {p : Nat → Nat} {gi : Nat → Int32} {ga : Nat → List Int32} (hS2 : ((168, .inl (8, 2, .ref fa)) : xE) ∈ D0) (hG : ∀ e ∈ zgE fa p gi ga, e ∈ D0)  {N fr lo : Nat}   (hf : 0 ≤ fr) (hl : 0 ≤ lo)  : ∀ {n : Nat} {l2 : Int32} {l3 : Int32}  {S S2 : zS} {r : Int32} , cS_candidateParts_4 gi ga N n l2 l3 S = some (r, S2) → yT X fr lo 181 4 [some (.ref 168), some (.ref fa), some (.int l2), some (.int l3)] [] (zD zTS zaS S D0) 0 0 (zQi zTS zaS D0 r S2) := by
  intro n
  induction n with
  | zero =>
    intro l2 l3  S S2 r  h
    have h : (none : Option (Int32 × zS)) = some (r, S2) := h
    cases h
  | succ n ih =>
    intro l2 l3  S S2 r  h
    rw [cS_candidateParts_4] at h
    refine xt_pure rfl rfl rfl rfl ?_
    refine xt_pure rfl rfl rfl rfl ?_
    refine xt_getf rfl rfl (zmr (ymm hG 0 rfl)) ?_
    refine xt_ic rfl rfl (fun hb => ?_) (fun hb => ?_)
    · replace h := zif_t (p := (gi 0).toInt ≤ l3.toInt) hb h
      refine xt_pure rfl rfl rfl rfl ?_
      cases h
      exact xt_iret rfl rfl rfl rfl ⟨rfl, rfl⟩
    · replace h := zif_f (p := (gi 0).toInt ≤ l3.toInt) hb h
      refine xt_pure rfl rfl rfl rfl ?_
      refine xt_pure rfl rfl rfl rfl ?_
      refine xt_getf rfl rfl (zmr (ymm hG 1 rfl)) ?_
      refine xt_pure rfl rfl rfl rfl ?_
      obtain ⟨x1, hx1, h⟩ := zgi h
      refine zr_ild (l := (ga 1)) rfl rfl (zmr (ymm hG 19 rfl)) hx1 ?_
      refine xt_pure rfl rfl rfl (st1 := .int 5 :: _) rfl ?_
      refine xt_ic rfl rfl (fun hb => ?_) (fun hb => ?_)
      · replace h := zif_t (p := 5 < x1.toInt) hb h
        refine xt_pure rfl rfl rfl (st1 := .int 0 :: _) rfl ?_
        refine xt_pure rfl rfl rfl rfl ?_
        refine xt_pure rfl rfl rfl (L1 := [_, _, _, _]) rfl ?_
        refine xt_pure rfl rfl rfl (L1 := [_, _, _, some (.int (_ + 1))]) rfl ?_
        refine xt_pure rfl rfl rfl rfl ?_
        exact ih h
      · replace h := zif_f (p := 5 < x1.toInt) hb h
        refine xt_pure rfl rfl rfl (st1 := .int 1 :: _) rfl ?_
        refine xt_pure rfl rfl rfl rfl ?_
        refine xt_pure rfl rfl rfl rfl ?_
        refine xt_pure rfl rfl rfl (L1 := [_, _, _, _]) rfl ?_
        refine xt_pure rfl rfl rfl (L1 := [_, _, _, some (.int (_ + 1))]) rfl ?_
        refine xt_pure rfl rfl rfl rfl ?_
        exact ih h
def cS_candidateParts (gi : Nat → Int32) (ga : Nat → List Int32)  (N : Nat)  (S : zS) : Option (Int32 × zS) := cS_candidateParts_4 gi ga N N 0 0 S
theorem tcS_candidateParts {X : List Int32} {D0 : List xE} {fa : Nat} {p : Nat → Nat} {gi : Nat → Int32} {ga : Nat → List Int32} (hS2 : ((168, .inl (8, 2, .ref fa)) : xE) ∈ D0) (hG : ∀ e ∈ zgE fa p gi ga, e ∈ D0)  {N fr lo : Nat} (hf : 0 ≤ fr) (hl : 0 ≤ lo)  {S S2 : zS} {r : Int32}  (h : cS_candidateParts gi ga N  S = some (r, S2)) : yK X fr lo 181 [.ref 168, .ref fa] (zD zTS zaS S D0) 0 0 (zQi zTS zaS D0 r S2) := by
  unfold cS_candidateParts at h
  refine yK.of rfl (yle rfl) (L := [_, _, _, _]) rfl ?_
  refine xt_pure rfl rfl rfl (st1 := .int 0 :: _) rfl ?_
  refine xt_pure rfl rfl rfl (L1 := [_, _, _, _]) rfl ?_
  refine xt_pure rfl rfl rfl (st1 := .int 0 :: _) rfl ?_
  refine xt_pure rfl rfl rfl (L1 := [_, _, _, _]) rfl ?_
  exact tcS_candidateParts_4 hS2 hG hf hl h
def cS_choicesOf_6 (gi : Nat → Int32) (ga : Nat → List Int32)  (N : Nat)  (l1 : Int32) (S : zS) : Option (Int32 × zS) := (zg (gI (ga 4) l1) fun x2 => (zg (gI (ga 5) l1) fun x3 => (if x2 ≠ x3 then some (2, S) else some (1, S))))
theorem tcS_choicesOf_6 {X : List Int32} {D0 : List xE} {fa : Nat} {p : Nat → Nat} {gi : Nat → Int32} {ga : Nat → List Int32} (hS2 : ((168, .inl (8, 2, .ref fa)) : xE) ∈ D0) (hG : ∀ e ∈ zgE fa p gi ga, e ∈ D0)  {N fr lo : Nat}   (hf : 0 ≤ fr) (hl : 0 ≤ lo) {l1 : Int32}  {S S2 : zS} {r : Int32}  (h : cS_choicesOf_6 gi ga N l1 S = some (r, S2)) : yT X fr lo 189 6 [some (.ref 168), some (.int l1)] [] (zD zTS zaS S D0) 0 0 (zQi zTS zaS D0 r S2) := by
  unfold cS_choicesOf_6 at h
  refine xt_pure rfl rfl rfl rfl ?_
  refine xt_getf rfl rfl (zmr hS2) ?_
  refine xt_getf rfl rfl (zmr (ymm hG 4 rfl)) ?_
  refine xt_pure rfl rfl rfl rfl ?_
  obtain ⟨x2, hx2, h⟩ := zgi h
  refine zr_ild (l := (ga 4)) rfl rfl (zmr (ymm hG 22 rfl)) hx2 ?_
  refine xt_pure rfl rfl rfl rfl ?_
  refine xt_getf rfl rfl (zmr hS2) ?_
  refine xt_getf rfl rfl (zmr (ymm hG 5 rfl)) ?_
  refine xt_pure rfl rfl rfl rfl ?_
  obtain ⟨x3, hx3, h⟩ := zgi h
  refine zr_ild (l := (ga 5)) rfl rfl (zmr (ymm hG 23 rfl)) hx3 ?_
  refine xt_ic rfl rfl (fun hb => ?_) (fun hb => ?_)
  · replace h := zif_t (p := x2 ≠ x3) hb h
    refine xt_pure rfl rfl rfl (st1 := .int 2 :: _) rfl ?_
    cases h
    exact xt_iret rfl rfl rfl rfl ⟨rfl, rfl⟩
  · replace h := zif_f (p := x2 ≠ x3) hb h
    refine xt_pure rfl rfl rfl (st1 := .int 1 :: _) rfl ?_
    refine xt_pure rfl rfl rfl rfl ?_
    cases h
    exact xt_iret rfl rfl rfl rfl ⟨rfl, rfl⟩
def cS_choicesOf (gi : Nat → Int32) (ga : Nat → List Int32)  (N : Nat) (v1 : Int32) (S : zS) : Option (Int32 × zS) := (zg (gI (ga 1) v1) fun x1 => (if x1 = 1 then cS_choicesOf_6 gi ga N v1 S else if x1 = 3 then cS_choicesOf_6 gi ga N v1 S else if x1 = 4 then (zg (gI (ga 6) v1) fun x6 => some (x6, S)) else some (2, S)))
set_option maxRecDepth 20000 in
theorem tcS_choicesOf {X : List Int32} {D0 : List xE} {fa : Nat} {p : Nat → Nat} {gi : Nat → Int32} {ga : Nat → List Int32} (hS2 : ((168, .inl (8, 2, .ref fa)) : xE) ∈ D0) (hG : ∀ e ∈ zgE fa p gi ga, e ∈ D0)  {N fr lo : Nat} (hf : 0 ≤ fr) (hl : 0 ≤ lo) {v1 : Int32} {S S2 : zS} {r : Int32}  (h : cS_choicesOf gi ga N v1 S = some (r, S2)) : yK X fr lo 189 [.ref 168, .int v1] (zD zTS zaS S D0) 0 0 (zQi zTS zaS D0 r S2) := by
  unfold cS_choicesOf at h
  refine yK.of rfl (yle rfl) (L := [_, _]) rfl ?_
  refine xt_pure rfl rfl rfl rfl ?_
  refine xt_getf rfl rfl (zmr hS2) ?_
  refine xt_getf rfl rfl (zmr (ymm hG 1 rfl)) ?_
  refine xt_pure rfl rfl rfl rfl ?_
  obtain ⟨x1, hx1, h⟩ := zgi h
  refine zr_ild (l := (ga 1)) rfl rfl (zmr (ymm hG 19 rfl)) hx1 ?_
  by_cases hw4 : x1 = 1
  · replace h := zif_t (p := x1 = 1) hw4 h
    refine zt_sw (tg := 6) rfl rfl rfl hw4 rfl ?_
    exact tcS_choicesOf_6 hS2 hG hf hl h
  replace h := zif_f (p := x1 = 1) hw4 h
  by_cases hw5 : x1 = 3
  · replace h := zif_t (p := x1 = 3) hw5 h
    refine zt_sw (tg := 6) rfl rfl rfl hw5 rfl ?_
    exact tcS_choicesOf_6 hS2 hG hf hl h
  replace h := zif_f (p := x1 = 3) hw5 h
  by_cases hw7 : x1 = 4
  · replace h := zif_t (p := x1 = 4) hw7 h
    refine zt_sw (tg := 21) rfl rfl rfl hw7 rfl ?_
    refine xt_pure rfl rfl rfl rfl ?_
    refine xt_getf rfl rfl (zmr hS2) ?_
    refine xt_getf rfl rfl (zmr (ymm hG 6 rfl)) ?_
    refine xt_pure rfl rfl rfl rfl ?_
    obtain ⟨x6, hx6, h⟩ := zgi h
    refine zr_ild (l := (ga 6)) rfl rfl (zmr (ymm hG 24 rfl)) hx6 ?_
    cases h
    exact xt_iret rfl rfl rfl rfl ⟨rfl, rfl⟩
  replace h := zif_f (p := x1 = 4) hw7 h
  by_cases hw8 : x1 = 2
  · refine zt_sw (tg := 27) rfl rfl rfl hw8 rfl ?_
    refine xt_pure rfl rfl rfl (st1 := .int 2 :: _) rfl ?_
    cases h
    exact xt_iret rfl rfl rfl rfl ⟨rfl, rfl⟩
  have hxhw4 : ¬ x1.toInt = 1 := fun h => hw4 (by rw [xi32_eq, h]; rfl)
  have hxhw5 : ¬ x1.toInt = 3 := fun h => hw5 (by rw [xi32_eq, h]; rfl)
  have hxhw7 : ¬ x1.toInt = 4 := fun h => hw7 (by rw [xi32_eq, h]; rfl)
  have hxhw8 : ¬ x1.toInt = 2 := fun h => hw8 (by rw [xi32_eq, h]; rfl)
  refine yt_tsd rfl rfl (by omega) rfl ?_
  refine xt_pure rfl rfl rfl (st1 := .int 2 :: _) rfl ?_
  cases h
  exact xt_iret rfl rfl rfl rfl ⟨rfl, rfl⟩
def cS_nextSet_31 (gi : Nat → Int32) (ga : Nat → List Int32)  (N : Nat)  : Nat → Int32 → zS → Option (Int32 × zS)
  | 0, _, _ => none
  | n + 1, l2, S => (if (zI S 4).toInt ≤ l2.toInt then some (1, S) else (zg (gI (zA S 6) (l2 - 1)) fun x3 => (if zok (zA S 6) l2 then (cS_nextSet_31 gi ga N n) (l2 + 1) (zsA S 6 (zs (zA S 6) l2 (x3 + 1))) else none)))
theorem tcS_nextSet_31 {X : List Int32} {D0 : List xE} {fa : Nat} {p : Nat → Nat} {gi : Nat → Int32} {ga : Nat → List Int32} (hS2 : ((168, .inl (8, 2, .ref fa)) : xE) ∈ D0) (hG : ∀ e ∈ zgE fa p gi ga, e ∈ D0)  {N fr lo : Nat}   (hf : 0 ≤ fr) (hl : 0 ≤ lo)  : ∀ {n : Nat} {l2 : Int32} {d1 : Int32} {S S2 : zS} {r : Int32} , cS_nextSet_31 gi ga N n l2 S = some (r, S2) → yT X fr lo 190 31 [some (.ref 168), some (.int d1), some (.int l2)] [] (zD zTS zaS S D0) 0 0 (zQi zTS zaS D0 r S2) := by
  intro n
  induction n with
  | zero =>
    intro l2 d1 S S2 r  h
    have h : (none : Option (Int32 × zS)) = some (r, S2) := h
    cases h
  | succ n ih =>
    intro l2 d1 S S2 r  h
    rw [cS_nextSet_31] at h
    refine xt_pure rfl rfl rfl rfl ?_
    refine xt_pure rfl rfl rfl rfl ?_
    refine zt_gI 4 rfl rfl rfl rfl (x := (zI S 4)) rfl ?_
    refine xt_ic rfl rfl (fun hb => ?_) (fun hb => ?_)
    · replace h := zif_t (p := (zI S 4).toInt ≤ l2.toInt) hb h
      refine xt_pure rfl rfl rfl (st1 := .int 1 :: _) rfl ?_
      cases h
      exact xt_iret rfl rfl rfl rfl ⟨rfl, rfl⟩
    · replace h := zif_f (p := (zI S 4).toInt ≤ l2.toInt) hb h
      refine xt_pure rfl rfl rfl rfl ?_
      refine xt_getf rfl rfl (xmC 160 rfl) ?_
      refine xt_pure rfl rfl rfl rfl ?_
      refine xt_pure rfl rfl rfl rfl ?_
      refine xt_getf rfl rfl (xmC 160 rfl) ?_
      refine xt_pure rfl rfl rfl rfl ?_
      refine xt_pure rfl rfl rfl (st1 := .int 1 :: _) rfl ?_
      refine xt_pure rfl rfl rfl rfl ?_
      obtain ⟨x3, hx3, h⟩ := zgi h
      refine zr_ild (l := (zA S 6)) rfl rfl (zmA 6 rfl rfl (l := (zA S 6)) rfl) hx3 ?_
      refine xt_pure rfl rfl rfl (st1 := .int 1 :: _) rfl ?_
      refine xt_pure rfl rfl rfl rfl ?_
      obtain ⟨hg, h⟩ := zgd h
      refine zt_ist 6 rfl rfl rfl rfl (l := (zA S 6)) rfl hg ?_
      refine xt_pure rfl rfl rfl (L1 := [_, _, some (.int (_ + 1))]) rfl ?_
      refine xt_pure rfl rfl rfl rfl ?_
      exact ih h
def cS_nextSet_5 (gi : Nat → Int32) (ga : Nat → List Int32)  (N : Nat)  : Nat → Int32 → zS → Option (Int32 × zS)
  | 0, _, _ => none
  | n + 1, l1, S => (if l1.toInt < 0 then some (0, S) else (zg (gI (zA S 6) l1) fun x1 => (if (((zI S 3) - (zI S 4)) + l1).toInt ≤ x1.toInt then (cS_nextSet_5 gi ga N n) (l1 + (-1)) S else (zg (gI (zA S 6) l1) fun x2 => (if zok (zA S 6) l1 then cS_nextSet_31 gi ga N N (l1 + 1) (zsA S 6 (zs (zA S 6) l1 (x2 + 1))) else none)))))
theorem tcS_nextSet_5 {X : List Int32} {D0 : List xE} {fa : Nat} {p : Nat → Nat} {gi : Nat → Int32} {ga : Nat → List Int32} (hS2 : ((168, .inl (8, 2, .ref fa)) : xE) ∈ D0) (hG : ∀ e ∈ zgE fa p gi ga, e ∈ D0)  {N fr lo : Nat}   (hf : 0 ≤ fr) (hl : 0 ≤ lo)  : ∀ {n : Nat} {l1 : Int32}  {S S2 : zS} {r : Int32} , cS_nextSet_5 gi ga N n l1 S = some (r, S2) → yT X fr lo 190 5 [some (.ref 168), some (.int l1), none] [] (zD zTS zaS S D0) 0 0 (zQi zTS zaS D0 r S2) := by
  intro n
  induction n with
  | zero =>
    intro l1  S S2 r  h
    have h : (none : Option (Int32 × zS)) = some (r, S2) := h
    cases h
  | succ n ih =>
    intro l1  S S2 r  h
    rw [cS_nextSet_5] at h
    refine xt_pure rfl rfl rfl rfl ?_
    refine xt_if rfl rfl (fun hb => ?_) (fun hb => ?_)
    · replace h := zif_t (p := l1.toInt < 0) hb h
      refine xt_pure rfl rfl rfl (st1 := .int 0 :: _) rfl ?_
      cases h
      exact xt_iret rfl rfl rfl rfl ⟨rfl, rfl⟩
    · replace h := zif_f (p := l1.toInt < 0) hb h
      refine xt_pure rfl rfl rfl rfl ?_
      refine xt_getf rfl rfl (xmC 160 rfl) ?_
      refine xt_pure rfl rfl rfl rfl ?_
      obtain ⟨x1, hx1, h⟩ := zgi h
      refine zr_ild (l := (zA S 6)) rfl rfl (zmA 6 rfl rfl (l := (zA S 6)) rfl) hx1 ?_
      refine xt_pure rfl rfl rfl rfl ?_
      refine zt_gI 3 rfl rfl rfl rfl (x := (zI S 3)) rfl ?_
      refine xt_pure rfl rfl rfl rfl ?_
      refine zt_gI 4 rfl rfl rfl rfl (x := (zI S 4)) rfl ?_
      refine xt_pure rfl rfl rfl rfl ?_
      refine xt_pure rfl rfl rfl rfl ?_
      refine xt_pure rfl rfl rfl rfl ?_
      refine xt_ic rfl rfl (fun hb => ?_) (fun hb => ?_)
      · replace h := zif_t (p := (((zI S 3) - (zI S 4)) + l1).toInt ≤ x1.toInt) hb h
        refine xt_pure rfl rfl rfl (L1 := [_, some (.int (_ + (-1))), _]) rfl ?_
        refine xt_pure rfl rfl rfl rfl ?_
        exact ih h
      · replace h := zif_f (p := (((zI S 3) - (zI S 4)) + l1).toInt ≤ x1.toInt) hb h
        refine xt_pure rfl rfl rfl rfl ?_
        refine xt_getf rfl rfl (xmC 160 rfl) ?_
        refine xt_pure rfl rfl rfl rfl ?_
        refine xt_pure rfl rfl rfl rfl ?_
        obtain ⟨x2, hx2, h⟩ := zgi h
        refine zr_ild (l := (zA S 6)) rfl rfl (zmA 6 rfl rfl (l := (zA S 6)) rfl) hx2 ?_
        refine xt_pure rfl rfl rfl (st1 := .int 1 :: _) rfl ?_
        refine xt_pure rfl rfl rfl rfl ?_
        obtain ⟨hg, h⟩ := zgd h
        refine zt_ist 6 rfl rfl rfl rfl (l := (zA S 6)) rfl hg ?_
        refine xt_pure rfl rfl rfl rfl ?_
        refine xt_pure rfl rfl rfl (st1 := .int 1 :: _) rfl ?_
        refine xt_pure rfl rfl rfl rfl ?_
        refine xt_pure rfl rfl rfl (L1 := [_, _, _]) rfl ?_
        exact tcS_nextSet_31 hS2 hG hf hl h
def cS_nextSet (gi : Nat → Int32) (ga : Nat → List Int32)  (N : Nat)  (S : zS) : Option (Int32 × zS) := cS_nextSet_5 gi ga N N ((zI S 4) - 1) S
theorem tcS_nextSet {X : List Int32} {D0 : List xE} {fa : Nat} {p : Nat → Nat} {gi : Nat → Int32} {ga : Nat → List Int32} (hS2 : ((168, .inl (8, 2, .ref fa)) : xE) ∈ D0) (hG : ∀ e ∈ zgE fa p gi ga, e ∈ D0)  {N fr lo : Nat} (hf : 0 ≤ fr) (hl : 0 ≤ lo)  {S S2 : zS} {r : Int32}  (h : cS_nextSet gi ga N  S = some (r, S2)) : yK X fr lo 190 [.ref 168] (zD zTS zaS S D0) 0 0 (zQi zTS zaS D0 r S2) := by
  unfold cS_nextSet at h
  refine yK.of rfl (yle rfl) (L := [_, _, _]) rfl ?_
  refine xt_pure rfl rfl rfl rfl ?_
  refine zt_gI 4 rfl rfl rfl rfl (x := (zI S 4)) rfl ?_
  refine xt_pure rfl rfl rfl (st1 := .int 1 :: _) rfl ?_
  refine xt_pure rfl rfl rfl rfl ?_
  refine xt_pure rfl rfl rfl (L1 := [_, _, _]) rfl ?_
  exact tcS_nextSet_5 hS2 hG hf hl h
def cS_firstSet_15 (gi : Nat → Int32) (ga : Nat → List Int32)  (N : Nat)  : Nat → Int32 → zS → Option (Int32 × zS)
  | 0, _, _ => none
  | n + 1, l1, S => (if (zI S 4).toInt ≤ l1.toInt then some (1, S) else (if zok (zA S 6) l1 then (if zok (zA S 7) l1 then (cS_firstSet_15 gi ga N n) (l1 + 1) (zsA (zsA S 6 (zs (zA S 6) l1 l1)) 7 (zs (zA S 7) l1 0)) else none) else none))
theorem tcS_firstSet_15 {X : List Int32} {D0 : List xE} {fa : Nat} {p : Nat → Nat} {gi : Nat → Int32} {ga : Nat → List Int32} (hS2 : ((168, .inl (8, 2, .ref fa)) : xE) ∈ D0) (hG : ∀ e ∈ zgE fa p gi ga, e ∈ D0)  {N fr lo : Nat}   (hf : 0 ≤ fr) (hl : 0 ≤ lo)  : ∀ {n : Nat} {l1 : Int32}  {S S2 : zS} {r : Int32} , cS_firstSet_15 gi ga N n l1 S = some (r, S2) → yT X fr lo 191 15 [some (.ref 168), some (.int l1)] [] (zD zTS zaS S D0) 0 0 (zQi zTS zaS D0 r S2) := by
  intro n
  induction n with
  | zero =>
    intro l1  S S2 r  h
    have h : (none : Option (Int32 × zS)) = some (r, S2) := h
    cases h
  | succ n ih =>
    intro l1  S S2 r  h
    rw [cS_firstSet_15] at h
    refine xt_pure rfl rfl rfl rfl ?_
    refine xt_pure rfl rfl rfl rfl ?_
    refine zt_gI 4 rfl rfl rfl rfl (x := (zI S 4)) rfl ?_
    refine xt_ic rfl rfl (fun hb => ?_) (fun hb => ?_)
    · replace h := zif_t (p := (zI S 4).toInt ≤ l1.toInt) hb h
      refine xt_pure rfl rfl rfl (st1 := .int 1 :: _) rfl ?_
      cases h
      exact xt_iret rfl rfl rfl rfl ⟨rfl, rfl⟩
    · replace h := zif_f (p := (zI S 4).toInt ≤ l1.toInt) hb h
      refine xt_pure rfl rfl rfl rfl ?_
      refine xt_getf rfl rfl (xmC 160 rfl) ?_
      refine xt_pure rfl rfl rfl rfl ?_
      refine xt_pure rfl rfl rfl rfl ?_
      obtain ⟨hg, h⟩ := zgd h
      refine zt_ist 6 rfl rfl rfl rfl (l := (zA S 6)) rfl hg ?_
      refine xt_pure rfl rfl rfl rfl ?_
      refine xt_getf rfl rfl (xmC 161 rfl) ?_
      refine xt_pure rfl rfl rfl rfl ?_
      refine xt_pure rfl rfl rfl (st1 := .int 0 :: _) rfl ?_
      obtain ⟨hg, h⟩ := zgd h
      refine zt_ist 7 rfl rfl rfl rfl (l := (zA S 7)) rfl hg ?_
      refine xt_pure rfl rfl rfl (L1 := [_, some (.int (_ + 1))]) rfl ?_
      refine xt_pure rfl rfl rfl rfl ?_
      exact ih h
def cS_firstSet (gi : Nat → Int32) (ga : Nat → List Int32)  (N : Nat)  (S : zS) : Option (Int32 × zS) := (if (zI S 4).toInt < (zI S 3).toInt then cS_firstSet_15 gi ga N N 0 (zsI S 4 ((zI S 4) + 1)) else some (0, S))
theorem tcS_firstSet {X : List Int32} {D0 : List xE} {fa : Nat} {p : Nat → Nat} {gi : Nat → Int32} {ga : Nat → List Int32} (hS2 : ((168, .inl (8, 2, .ref fa)) : xE) ∈ D0) (hG : ∀ e ∈ zgE fa p gi ga, e ∈ D0)  {N fr lo : Nat} (hf : 0 ≤ fr) (hl : 0 ≤ lo)  {S S2 : zS} {r : Int32}  (h : cS_firstSet gi ga N  S = some (r, S2)) : yK X fr lo 191 [.ref 168] (zD zTS zaS S D0) 0 0 (zQi zTS zaS D0 r S2) := by
  unfold cS_firstSet at h
  refine yK.of rfl (yle rfl) (L := [_, _]) rfl ?_
  refine xt_pure rfl rfl rfl rfl ?_
  refine zt_gI 4 rfl rfl rfl rfl (x := (zI S 4)) rfl ?_
  refine xt_pure rfl rfl rfl rfl ?_
  refine zt_gI 3 rfl rfl rfl rfl (x := (zI S 3)) rfl ?_
  refine xt_ic rfl rfl (fun hb => ?_) (fun hb => ?_)
  · replace h := zif_t (p := (zI S 4).toInt < (zI S 3).toInt) hb h
    refine xt_pure rfl rfl rfl rfl ?_
    refine xt_pure rfl rfl rfl rfl ?_
    refine zt_gI 4 rfl rfl rfl rfl (x := (zI S 4)) rfl ?_
    refine xt_pure rfl rfl rfl (st1 := .int 1 :: _) rfl ?_
    refine xt_pure rfl rfl rfl rfl ?_
    refine zt_pI 4 rfl rfl rfl rfl rfl rfl ?_
    refine xt_pure rfl rfl rfl (st1 := .int 0 :: _) rfl ?_
    refine xt_pure rfl rfl rfl (L1 := [_, _]) rfl ?_
    exact tcS_firstSet_15 hS2 hG hf hl h
  · replace h := zif_f (p := (zI S 4).toInt < (zI S 3).toInt) hb h
    refine xt_pure rfl rfl rfl (st1 := .int 0 :: _) rfl ?_
    cases h
    exact xt_iret rfl rfl rfl rfl ⟨rfl, rfl⟩
def cS_advance_5 (gi : Nat → Int32) (ga : Nat → List Int32)  (N : Nat)  : Nat → Int32 → zS → Option (Int32 × zS)
  | 0, _, _ => none
  | n + 1, l1, S => (if l1.toInt < 0 then (zb (cS_nextSet gi ga N  S) fun x1 S2 => (if x1 ≠ (0 : Int32) then some (1, S2) else (zb (cS_firstSet gi ga N  S2) fun x4 S5 => (if x4 = (0 : Int32) then some (0, S5) else some (1, S5))))) else (zg (gI (zA S 7) l1) fun x7 => (zg (gI (zA S 6) l1) fun x8 => (zg (gI (zA S 5) x8) fun x9 => (zb (cS_choicesOf gi ga N x9 S) fun x10 S11 => (if x10.toInt ≤ (x7 + 1).toInt then (if zok (zA S11 7) l1 then (cS_advance_5 gi ga N n) (l1 + (-1)) (zsA S11 7 (zs (zA S11 7) l1 0)) else none) else (zg (gI (zA S11 7) l1) fun x13 => (if zok (zA S11 7) l1 then some (1, (zsA S11 7 (zs (zA S11 7) l1 (x13 + 1)))) else none))))))))
theorem tcS_advance_5 {X : List Int32} {D0 : List xE} {fa : Nat} {p : Nat → Nat} {gi : Nat → Int32} {ga : Nat → List Int32} (hS2 : ((168, .inl (8, 2, .ref fa)) : xE) ∈ D0) (hG : ∀ e ∈ zgE fa p gi ga, e ∈ D0)  {N fr lo : Nat}   (hf : 1 ≤ fr) (hl : 22 ≤ lo)  : ∀ {n : Nat} {l1 : Int32}  {S S2 : zS} {r : Int32} , cS_advance_5 gi ga N n l1 S = some (r, S2) → yT X fr lo 188 5 [some (.ref 168), some (.int l1)] [] (zD zTS zaS S D0) 0 0 (zQi zTS zaS D0 r S2) := by
  intro n
  induction n with
  | zero =>
    intro l1  S S2 r  h
    have h : (none : Option (Int32 × zS)) = some (r, S2) := h
    cases h
  | succ n ih =>
    intro l1  S S2 r  h
    rw [cS_advance_5] at h
    refine xt_pure rfl rfl rfl rfl ?_
    refine xt_if rfl rfl (fun hb => ?_) (fun hb => ?_)
    · replace h := zif_t (p := l1.toInt < 0) hb h
      refine xt_pure rfl rfl rfl rfl ?_
      obtain ⟨x1, S2, hc3, h⟩ := zbi h
      refine zt_Vi rfl rfl rfl rfl (xmC 158 rfl) ⟨rfl, rfl, yle rfl, yle rfl⟩ (m := 3) rfl ⟨by omega, by omega⟩ (tcS_nextSet hS2 hG (by omega) (by omega) hc3) (fr1 := fr - 1) (lo1 := lo - 22) ?_
      refine xt_if rfl rfl (fun hb => ?_) (fun hb => ?_)
      · replace h := zif_t (p := x1 ≠ (0 : Int32)) hb h
        refine xt_pure rfl rfl rfl (st1 := .int 1 :: _) rfl ?_
        refine xt_pure rfl rfl rfl rfl ?_
        cases h
        exact xt_iret rfl rfl rfl rfl ⟨rfl, rfl⟩
      · replace h := zif_f (p := x1 ≠ (0 : Int32)) hb h
        refine xt_pure rfl rfl rfl rfl ?_
        obtain ⟨x4, S5, hc6, h⟩ := zbi h
        refine zt_Vi rfl rfl rfl rfl (xmC 158 rfl) ⟨rfl, rfl, yle rfl, yle rfl⟩ (m := 2) rfl ⟨by omega, by omega⟩ (tcS_firstSet hS2 hG (by omega) (by omega) hc6) (fr1 := fr - 1) (lo1 := lo - 21) ?_
        refine xt_if rfl rfl (fun hb => ?_) (fun hb => ?_)
        · replace h := zif_t (p := x4 = (0 : Int32)) hb h
          refine xt_pure rfl rfl rfl (st1 := .int 0 :: _) rfl ?_
          cases h
          exact xt_iret rfl rfl rfl rfl ⟨rfl, rfl⟩
        · replace h := zif_f (p := x4 = (0 : Int32)) hb h
          refine xt_pure rfl rfl rfl (st1 := .int 1 :: _) rfl ?_
          refine xt_pure rfl rfl rfl rfl ?_
          cases h
          exact xt_iret rfl rfl rfl rfl ⟨rfl, rfl⟩
    · replace h := zif_f (p := l1.toInt < 0) hb h
      refine xt_pure rfl rfl rfl rfl ?_
      refine xt_getf rfl rfl (xmC 161 rfl) ?_
      refine xt_pure rfl rfl rfl rfl ?_
      obtain ⟨x7, hx7, h⟩ := zgi h
      refine zr_ild (l := (zA S 7)) rfl rfl (zmA 7 rfl rfl (l := (zA S 7)) rfl) hx7 ?_
      refine xt_pure rfl rfl rfl (st1 := .int 1 :: _) rfl ?_
      refine xt_pure rfl rfl rfl rfl ?_
      refine xt_pure rfl rfl rfl rfl ?_
      refine xt_pure rfl rfl rfl rfl ?_
      refine xt_getf rfl rfl (xmC 159 rfl) ?_
      refine xt_pure rfl rfl rfl rfl ?_
      refine xt_getf rfl rfl (xmC 160 rfl) ?_
      refine xt_pure rfl rfl rfl rfl ?_
      obtain ⟨x8, hx8, h⟩ := zgi h
      refine zr_ild (l := (zA S 6)) rfl rfl (zmA 6 rfl rfl (l := (zA S 6)) rfl) hx8 ?_
      obtain ⟨x9, hx9, h⟩ := zgi h
      refine zr_ild (l := (zA S 5)) rfl rfl (zmA 5 rfl rfl (l := (zA S 5)) rfl) hx9 ?_
      obtain ⟨x10, S11, hc12, h⟩ := zbi h
      refine zt_Vi rfl rfl rfl rfl (xmC 158 rfl) ⟨rfl, rfl, yle rfl, yle rfl⟩ (m := 2) rfl ⟨by omega, by omega⟩ (tcS_choicesOf hS2 hG (by omega) (by omega) hc12) (fr1 := fr - 1) (lo1 := lo - 21) ?_
      refine xt_ic rfl rfl (fun hb => ?_) (fun hb => ?_)
      · replace h := zif_t (p := x10.toInt ≤ (x7 + 1).toInt) hb h
        refine xt_pure rfl rfl rfl rfl ?_
        refine xt_getf rfl rfl (xmC 161 rfl) ?_
        refine xt_pure rfl rfl rfl rfl ?_
        refine xt_pure rfl rfl rfl (st1 := .int 0 :: _) rfl ?_
        obtain ⟨hg, h⟩ := zgd h
        refine zt_ist 7 rfl rfl rfl rfl (l := (zA S11 7)) rfl hg ?_
        refine xt_pure rfl rfl rfl (L1 := [_, some (.int (_ + (-1)))]) rfl ?_
        refine xt_pure rfl rfl rfl rfl ?_
        exact ih h
      · replace h := zif_f (p := x10.toInt ≤ (x7 + 1).toInt) hb h
        refine xt_pure rfl rfl rfl rfl ?_
        refine xt_getf rfl rfl (xmC 161 rfl) ?_
        refine xt_pure rfl rfl rfl rfl ?_
        refine xt_pure rfl rfl rfl rfl ?_
        obtain ⟨x13, hx13, h⟩ := zgi h
        refine zr_ild (l := (zA S11 7)) rfl rfl (zmA 7 rfl rfl (l := (zA S11 7)) rfl) hx13 ?_
        refine xt_pure rfl rfl rfl (st1 := .int 1 :: _) rfl ?_
        refine xt_pure rfl rfl rfl rfl ?_
        obtain ⟨hg, h⟩ := zgd h
        refine zt_ist 7 rfl rfl rfl rfl (l := (zA S11 7)) rfl hg ?_
        refine xt_pure rfl rfl rfl (st1 := .int 1 :: _) rfl ?_
        cases h
        exact xt_iret rfl rfl rfl rfl ⟨rfl, rfl⟩
def cS_advance (gi : Nat → Int32) (ga : Nat → List Int32)  (N : Nat)  (S : zS) : Option (Int32 × zS) := cS_advance_5 gi ga N N ((zI S 4) - 1) S
theorem tcS_advance {X : List Int32} {D0 : List xE} {fa : Nat} {p : Nat → Nat} {gi : Nat → Int32} {ga : Nat → List Int32} (hS2 : ((168, .inl (8, 2, .ref fa)) : xE) ∈ D0) (hG : ∀ e ∈ zgE fa p gi ga, e ∈ D0)  {N fr lo : Nat} (hf : 1 ≤ fr) (hl : 22 ≤ lo)  {S S2 : zS} {r : Int32}  (h : cS_advance gi ga N  S = some (r, S2)) : yK X fr lo 188 [.ref 168] (zD zTS zaS S D0) 0 0 (zQi zTS zaS D0 r S2) := by
  unfold cS_advance at h
  refine yK.of rfl (yle rfl) (L := [_, _]) rfl ?_
  refine xt_pure rfl rfl rfl rfl ?_
  refine zt_gI 4 rfl rfl rfl rfl (x := (zI S 4)) rfl ?_
  refine xt_pure rfl rfl rfl (st1 := .int 1 :: _) rfl ?_
  refine xt_pure rfl rfl rfl rfl ?_
  refine xt_pure rfl rfl rfl (L1 := [_, _]) rfl ?_
  exact tcS_advance_5 hS2 hG hf hl h
def cS_begin_14 (gi : Nat → Int32) (ga : Nat → List Int32)  (N : Nat)  : Nat → Int32 → zS → Option (Unit × zS)
  | 0, _, _ => none
  | n + 1, l3, S => (if (gi 0).toInt ≤ l3.toInt then (zb (cS_fill gi ga N 0 S) fun _ S2 => some ((), (zsI S2 4 0))) else (if 8 ≤ (zI S 3).toInt then (zb (cS_fill gi ga N 0 S) fun _ S5 => some ((), (zsI S5 4 0))) else (zg (gI (ga 1) l3) fun x7 => (if 5 < x7.toInt then (cS_begin_14 gi ga N n) (l3 + 1) S else (if zok (zA S 5) (zI S 3) then (cS_begin_14 gi ga N n) (l3 + 1) (zsI (zsA S 5 (zs (zA S 5) (zI S 3) l3)) 3 ((zI S 3) + 1)) else none)))))
theorem tcS_begin_14 {X : List Int32} {D0 : List xE} {fa : Nat} {p : Nat → Nat} {gi : Nat → Int32} {ga : Nat → List Int32} (hS2 : ((168, .inl (8, 2, .ref fa)) : xE) ∈ D0) (hG : ∀ e ∈ zgE fa p gi ga, e ∈ D0)  {N fr lo : Nat}   (hf : 1 ≤ fr) (hl : 23 ≤ lo)  : ∀ {n : Nat} {l3 : Int32} {d1 : Int32} {S S2 : zS} {r : Unit} , cS_begin_14 gi ga N n l3 S = some (r, S2) → yT X fr lo 182 14 [some (.ref 168), some (.int d1), some (.ref fa), some (.int l3)] [] (zD zTS zaS S D0) 0 0 (zQv zTS zaS D0 r S2) := by
  intro n
  induction n with
  | zero =>
    intro l3 d1 S S2 r  h
    have h : (none : Option (Unit × zS)) = some (r, S2) := h
    cases h
  | succ n ih =>
    intro l3 d1 S S2 r  h
    rw [cS_begin_14] at h
    refine xt_pure rfl rfl rfl rfl ?_
    refine xt_pure rfl rfl rfl rfl ?_
    refine xt_getf rfl rfl (zmr (ymm hG 0 rfl)) ?_
    refine xt_ic rfl rfl (fun hb => ?_) (fun hb => ?_)
    · replace h := zif_t (p := (gi 0).toInt ≤ l3.toInt) hb h
      refine xt_pure rfl rfl rfl rfl ?_
      refine xt_getf rfl rfl (xmC 162 rfl) ?_
      refine xt_pure rfl rfl rfl (st1 := .int 0 :: _) rfl ?_
      obtain ⟨_, S2, hc3, h⟩ := zbi h
      refine zt_Sv rfl rfl (by decide) rfl rfl ⟨rfl, yle rfl, yle rfl⟩ (m := 4) rfl ⟨by omega, by omega⟩ (tcS_fill hS2 hG (by omega) (by omega) hc3) (fr1 := fr - 1) (lo1 := lo - 23) ?_
      refine xt_pure rfl rfl rfl rfl ?_
      refine xt_pure rfl rfl rfl (st1 := .int 0 :: _) rfl ?_
      refine zt_pI 4 rfl rfl rfl rfl rfl rfl ?_
      cases h
      exact xt_vret rfl rfl rfl ⟨rfl, rfl⟩
    · replace h := zif_f (p := (gi 0).toInt ≤ l3.toInt) hb h
      refine xt_pure rfl rfl rfl rfl ?_
      refine zt_gI 3 rfl rfl rfl rfl (x := (zI S 3)) rfl ?_
      refine xt_pure rfl rfl rfl (st1 := .int 8 :: _) rfl ?_
      refine xt_ic rfl rfl (fun hb => ?_) (fun hb => ?_)
      · replace h := zif_t (p := 8 ≤ (zI S 3).toInt) hb h
        refine xt_pure rfl rfl rfl rfl ?_
        refine xt_getf rfl rfl (xmC 162 rfl) ?_
        refine xt_pure rfl rfl rfl (st1 := .int 0 :: _) rfl ?_
        obtain ⟨_, S5, hc6, h⟩ := zbi h
        refine zt_Sv rfl rfl (by decide) rfl rfl ⟨rfl, yle rfl, yle rfl⟩ (m := 4) rfl ⟨by omega, by omega⟩ (tcS_fill hS2 hG (by omega) (by omega) hc6) (fr1 := fr - 1) (lo1 := lo - 23) ?_
        refine xt_pure rfl rfl rfl rfl ?_
        refine xt_pure rfl rfl rfl (st1 := .int 0 :: _) rfl ?_
        refine zt_pI 4 rfl rfl rfl rfl rfl rfl ?_
        cases h
        exact xt_vret rfl rfl rfl ⟨rfl, rfl⟩
      · replace h := zif_f (p := 8 ≤ (zI S 3).toInt) hb h
        refine xt_pure rfl rfl rfl rfl ?_
        refine xt_getf rfl rfl (zmr (ymm hG 1 rfl)) ?_
        refine xt_pure rfl rfl rfl rfl ?_
        obtain ⟨x7, hx7, h⟩ := zgi h
        refine zr_ild (l := (ga 1)) rfl rfl (zmr (ymm hG 19 rfl)) hx7 ?_
        refine xt_pure rfl rfl rfl (st1 := .int 5 :: _) rfl ?_
        refine xt_ic rfl rfl (fun hb => ?_) (fun hb => ?_)
        · replace h := zif_t (p := 5 < x7.toInt) hb h
          refine xt_pure rfl rfl rfl (L1 := [_, _, _, some (.int (_ + 1))]) rfl ?_
          refine xt_pure rfl rfl rfl rfl ?_
          exact ih h
        · replace h := zif_f (p := 5 < x7.toInt) hb h
          refine xt_pure rfl rfl rfl rfl ?_
          refine xt_getf rfl rfl (xmC 159 rfl) ?_
          refine xt_pure rfl rfl rfl rfl ?_
          refine zt_gI 3 rfl rfl rfl rfl (x := (zI S 3)) rfl ?_
          refine xt_pure rfl rfl rfl rfl ?_
          obtain ⟨hg, h⟩ := zgd h
          refine zt_ist 5 rfl rfl rfl rfl (l := (zA S 5)) rfl hg ?_
          refine xt_pure rfl rfl rfl rfl ?_
          refine xt_pure rfl rfl rfl rfl ?_
          refine zt_gI 3 rfl rfl rfl rfl (x := (zI S 3)) rfl ?_
          refine xt_pure rfl rfl rfl (st1 := .int 1 :: _) rfl ?_
          refine xt_pure rfl rfl rfl rfl ?_
          refine zt_pI 3 rfl rfl rfl rfl rfl rfl ?_
          refine xt_pure rfl rfl rfl (L1 := [_, _, _, some (.int (_ + 1))]) rfl ?_
          refine xt_pure rfl rfl rfl rfl ?_
          exact ih h
def cS_begin (gi : Nat → Int32) (ga : Nat → List Int32)  (N : Nat) (S : zS) : Option (Unit × zS) := cS_begin_14 gi ga N N 0 S
theorem tcS_begin {X : List Int32} {D0 : List xE} {fa : Nat} {p : Nat → Nat} {gi : Nat → Int32} {ga : Nat → List Int32} (hS2 : ((168, .inl (8, 2, .ref fa)) : xE) ∈ D0) (hG : ∀ e ∈ zgE fa p gi ga, e ∈ D0)  {v1 : Int32} {N fr lo : Nat} (hf : 1 ≤ fr) (hl : 23 ≤ lo) {S S2 : zS} {r : Unit} (h : cS_begin gi ga N S = some (r, S2)) : yT X fr lo 182 12 [some (.ref 168), some (.int v1), some (.ref fa), none] [] (zD zTS zaS S D0) 0 0 (zQv zTS zaS D0 r S2) := by
  unfold cS_begin at h
  refine xt_pure rfl rfl rfl (st1 := .int 0 :: _) rfl ?_
  refine xt_pure rfl rfl rfl (L1 := [_, _, _, _]) rfl ?_
  exact tcS_begin_14 hS2 hG hf hl h
