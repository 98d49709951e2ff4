/-! MIRRORS: the reference judges -/
def rF_note (gi : Nat → Int32) (ga : Nat → List Int32) (vl : List Int64) (Bs : List (Option zH)) (am : List Int64)  (N : Nat) (v1 : Int32) (v2 : Int32) (v3 : Int32) (v4 : Int32) (v5 : Int32) (S : zS) : Option (Unit × zS) := (if zok (zA S 17) (5 * (zI S 11)) then (if zok (zs (zA S 17) (5 * (zI S 11)) v1) ((5 * (zI S 11)) + 1) then (if zok (zs (zs (zA S 17) (5 * (zI S 11)) v1) ((5 * (zI S 11)) + 1) v2) ((5 * (zI S 11)) + 2) then (if zok (zs (zs (zs (zA S 17) (5 * (zI S 11)) v1) ((5 * (zI S 11)) + 1) v2) ((5 * (zI S 11)) + 2) v3) ((5 * (zI S 11)) + 3) then (if zok (zs (zs (zs (zs (zA S 17) (5 * (zI S 11)) v1) ((5 * (zI S 11)) + 1) v2) ((5 * (zI S 11)) + 2) v3) ((5 * (zI S 11)) + 3) v4) ((5 * (zI S 11)) + 4) then some ((), (zsI (zsA (zsA (zsA (zsA (zsA S 17 (zs (zA S 17) (5 * (zI S 11)) v1)) 17 (zs (zs (zA S 17) (5 * (zI S 11)) v1) ((5 * (zI S 11)) + 1) v2)) 17 (zs (zs (zs (zA S 17) (5 * (zI S 11)) v1) ((5 * (zI S 11)) + 1) v2) ((5 * (zI S 11)) + 2) v3)) 17 (zs (zs (zs (zs (zA S 17) (5 * (zI S 11)) v1) ((5 * (zI S 11)) + 1) v2) ((5 * (zI S 11)) + 2) v3) ((5 * (zI S 11)) + 3) v4)) 17 (zs (zs (zs (zs (zs (zA S 17) (5 * (zI S 11)) v1) ((5 * (zI S 11)) + 1) v2) ((5 * (zI S 11)) + 2) v3) ((5 * (zI S 11)) + 3) v4) ((5 * (zI S 11)) + 4) v5)) 11 ((zI S 11) + 1))) else none) else none) else none) else none) else none)
theorem trF_note {X : List Int32} {D0 : List xE} {fa : Nat} {p : Nat → Nat} {gi : Nat → Int32} {ga : Nat → List Int32} {vl : List Int64} {refs : List Value} {Bs : List (Option zH)} {am : List Int64} (hW : ((209, .inl (14, 46, .ref fa)) : xE) ∈ D0) (hL : ((235, .inr (1, am.map Value.long)) : xE) ∈ D0) (hG : ∀ e ∈ zgF fa p gi ga vl, e ∈ D0) (hA0 : ((239, .inr (10, refs)) : xE) ∈ D0) (hA1 : ∀ {j : Int32} {z : Option zH}, gI Bs j = some z → ∃ v, gI refs j = some v ∧ zVM D0 v z)  {N fr lo : Nat} (hf : 0 ≤ fr) (hl : 0 ≤ lo) {v1 : Int32} {v2 : Int32} {v3 : Int32} {v4 : Int32} {v5 : Int32} {S S2 : zS} {r : Unit}  (h : rF_note gi ga vl Bs am N v1 v2 v3 v4 v5 S = some (r, S2)) : yK X fr lo 313 [.ref 209, .int v1, .int v2, .int v3, .int v4, .int v5] (zD zTF zaF S D0) 0 0 (zQv zTF zaF D0 r S2) := by
  unfold rF_note at h
  refine yK.of rfl (yle rfl) (L := [_, _, _, _, _, _]) rfl ?_
  refine xt_pure rfl rfl rfl rfl ?_
  refine xt_getf rfl rfl (xmC 202 rfl) ?_
  refine xt_pure rfl rfl rfl (st1 := .int 5 :: _) rfl ?_
  refine xt_pure rfl rfl rfl rfl ?_
  refine zt_gI 11 rfl rfl rfl rfl (x := (zI S 11)) rfl ?_
  refine xt_pure rfl rfl rfl rfl ?_
  refine xt_pure rfl rfl rfl rfl ?_
  obtain ⟨hg, h⟩ := zgd h
  refine zt_ist 17 rfl rfl rfl rfl (l := (zA S 17)) rfl hg ?_
  refine xt_pure rfl rfl rfl rfl ?_
  refine xt_getf rfl rfl (xmC 202 rfl) ?_
  refine xt_pure rfl rfl rfl (st1 := .int 5 :: _) rfl ?_
  refine xt_pure rfl rfl rfl rfl ?_
  refine zt_gI 11 rfl rfl rfl rfl (x := (zI S 11)) rfl ?_
  refine xt_pure rfl rfl rfl rfl ?_
  refine xt_pure rfl rfl rfl (st1 := .int 1 :: _) rfl ?_
  refine xt_pure rfl rfl rfl rfl ?_
  refine xt_pure rfl rfl rfl rfl ?_
  obtain ⟨hg, h⟩ := zgd h
  refine zt_ist 17 rfl rfl rfl rfl (l := (zs (zA S 17) (5 * (zI S 11)) v1)) rfl hg ?_
  refine xt_pure rfl rfl rfl rfl ?_
  refine xt_getf rfl rfl (xmC 202 rfl) ?_
  refine xt_pure rfl rfl rfl (st1 := .int 5 :: _) rfl ?_
  refine xt_pure rfl rfl rfl rfl ?_
  refine zt_gI 11 rfl rfl rfl rfl (x := (zI S 11)) rfl ?_
  refine xt_pure rfl rfl rfl rfl ?_
  refine xt_pure rfl rfl rfl (st1 := .int 2 :: _) rfl ?_
  refine xt_pure rfl rfl rfl rfl ?_
  refine xt_pure rfl rfl rfl rfl ?_
  obtain ⟨hg, h⟩ := zgd h
  refine zt_ist 17 rfl rfl rfl rfl (l := (zs (zs (zA S 17) (5 * (zI S 11)) v1) ((5 * (zI S 11)) + 1) v2)) rfl hg ?_
  refine xt_pure rfl rfl rfl rfl ?_
  refine xt_getf rfl rfl (xmC 202 rfl) ?_
  refine xt_pure rfl rfl rfl (st1 := .int 5 :: _) rfl ?_
  refine xt_pure rfl rfl rfl rfl ?_
  refine zt_gI 11 rfl rfl rfl rfl (x := (zI S 11)) rfl ?_
  refine xt_pure rfl rfl rfl rfl ?_
  refine xt_pure rfl rfl rfl (st1 := .int 3 :: _) rfl ?_
  refine xt_pure rfl rfl rfl rfl ?_
  refine xt_pure rfl rfl rfl rfl ?_
  obtain ⟨hg, h⟩ := zgd h
  refine zt_ist 17 rfl rfl rfl rfl (l := (zs (zs (zs (zA S 17) (5 * (zI S 11)) v1) ((5 * (zI S 11)) + 1) v2) ((5 * (zI S 11)) + 2) v3)) rfl hg ?_
  refine xt_pure rfl rfl rfl rfl ?_
  refine xt_getf rfl rfl (xmC 202 rfl) ?_
  refine xt_pure rfl rfl rfl (st1 := .int 5 :: _) rfl ?_
  refine xt_pure rfl rfl rfl rfl ?_
  refine zt_gI 11 rfl rfl rfl rfl (x := (zI S 11)) rfl ?_
  refine xt_pure rfl rfl rfl rfl ?_
  refine xt_pure rfl rfl rfl (st1 := .int 4 :: _) rfl ?_
  refine xt_pure rfl rfl rfl rfl ?_
  refine xt_pure rfl rfl rfl rfl ?_
  obtain ⟨hg, h⟩ := zgd h
  refine zt_ist 17 rfl rfl rfl rfl (l := (zs (zs (zs (zs (zA S 17) (5 * (zI S 11)) v1) ((5 * (zI S 11)) + 1) v2) ((5 * (zI S 11)) + 2) v3) ((5 * (zI S 11)) + 3) v4)) rfl hg ?_
  refine xt_pure rfl rfl rfl rfl ?_
  refine xt_pure rfl rfl rfl rfl ?_
  refine zt_gI 11 rfl rfl rfl rfl (x := (zI S 11)) rfl ?_
  refine xt_pure rfl rfl rfl (st1 := .int 1 :: _) rfl ?_
  refine xt_pure rfl rfl rfl rfl ?_
  refine zt_pI 11 rfl rfl rfl rfl rfl rfl ?_
  cases h
  exact xt_vret rfl rfl rfl ⟨rfl, rfl⟩
def rF_holds (gi : Nat → Int32) (ga : Nat → List Int32) (vl : List Int64) (Bs : List (Option zH)) (am : List Int64)  (N : Nat) (v1 : Int32) (S : zS) : Option (Int32 × zS) := (zg (gI (ga 8) v1) fun x1 => (if x1 = ((-9) : Int32) then some (1, (zsI S 2 0)) else (zg (gI (ga 8) v1) fun x2 => (zb (rF_fix gi ga vl Bs am N (N / 5) x2 (zsI S 2 0)) fun x3 S4 => (if x3 = (0 : Int64) then some (0, S4) else (if (zI S4 2) ≠ (0 : Int32) then some (0, S4) else some (1, S4)))))))
theorem trF_holds {X : List Int32} {D0 : List xE} {fa : Nat} {p : Nat → Nat} {gi : Nat → Int32} {ga : Nat → List Int32} {vl : List Int64} {refs : List Value} {Bs : List (Option zH)} {am : List Int64} (hW : ((209, .inl (14, 46, .ref fa)) : xE) ∈ D0) (hL : ((235, .inr (1, am.map Value.long)) : xE) ∈ D0) (hG : ∀ e ∈ zgF fa p gi ga vl, e ∈ D0) (hA0 : ((239, .inr (10, refs)) : xE) ∈ D0) (hA1 : ∀ {j : Int32} {z : Option zH}, gI Bs j = some z → ∃ v, gI refs j = some v ∧ zVM D0 v z)  {N fr lo : Nat} (hf : 4 + 2 * (N / 5) ≤ fr) (hl : 105 + 57 * (N / 5) ≤ lo) {v1 : Int32} {S S2 : zS} {r : Int32}  (h : rF_holds gi ga vl Bs am N v1 S = some (r, S2)) : yK X fr lo 296 [.ref 209, .int v1] (zD zTF zaF S D0) 0 0 (zQi zTF zaF D0 r S2) := by
  unfold rF_holds at h
  refine yK.of rfl (yle rfl) (L := [_, _]) rfl ?_
  refine xt_pure rfl rfl rfl rfl ?_
  refine xt_pure rfl rfl rfl (st1 := .int 0 :: _) rfl ?_
  refine zt_pI 2 rfl rfl rfl rfl rfl rfl ?_
  refine xt_pure rfl rfl rfl rfl ?_
  refine xt_getf rfl rfl (zmr hW) ?_
  refine xt_getf rfl rfl (zmr (ymm hG 8 rfl)) ?_
  refine xt_pure rfl rfl rfl rfl ?_
  obtain ⟨x1, hx1, h⟩ := zgi h
  refine zr_ild (l := (ga 8)) rfl rfl (zmr (ymm hG 29 rfl)) hx1 ?_
  refine xt_pure rfl rfl rfl (st1 := .int (-9) :: _) rfl ?_
  refine xt_ic rfl rfl (fun hb => ?_) (fun hb => ?_)
  · replace h := zif_t (p := x1 = ((-9) : Int32)) hb h
    refine xt_pure rfl rfl rfl (st1 := .int 1 :: _) rfl ?_
    refine xt_pure rfl rfl rfl rfl ?_
    cases h
    exact xt_iret rfl rfl rfl rfl ⟨rfl, rfl⟩
  · replace h := zif_f (p := x1 = ((-9) : Int32)) hb h
    refine xt_pure rfl rfl rfl rfl ?_
    refine xt_pure rfl rfl rfl rfl ?_
    refine xt_getf rfl rfl (zmr hW) ?_
    refine xt_getf rfl rfl (zmr (ymm hG 8 rfl)) ?_
    refine xt_pure rfl rfl rfl rfl ?_
    obtain ⟨x2, hx2, h⟩ := zgi h
    refine zr_ild (l := (ga 8)) rfl rfl (zmr (ymm hG 29 rfl)) hx2 ?_
    obtain ⟨x3, S4, hc5, h⟩ := zbi h
    refine zt_Vl rfl rfl rfl rfl (xmC 176 rfl) ⟨rfl, rfl, yle rfl, yle rfl⟩ (m := 10) rfl ⟨by omega, by omega⟩ ((trF_fix hW hL hG hA0 hA1 (by omega) (by omega)) hc5) (fr1 := fr - 1) (lo1 := lo - 29) ?_
    refine xt_pure rfl rfl rfl (st1 := .long 0 :: _) rfl ?_
    refine zt_lc rfl rfl rfl (fun hb => ?_) (fun hb => ?_)
    · replace h := zif_t (p := x3 = (0 : Int64)) hb h
      refine xt_pure rfl rfl rfl (st1 := .int 0 :: _) rfl ?_
      cases h
      exact xt_iret rfl rfl rfl rfl ⟨rfl, rfl⟩
    · replace h := zif_f (p := x3 = (0 : Int64)) hb h
      refine xt_pure rfl rfl rfl rfl ?_
      refine zt_gI 2 rfl rfl rfl rfl (x := (zI S4 2)) rfl ?_
      refine xt_if rfl rfl (fun hb => ?_) (fun hb => ?_)
      · replace h := zif_t (p := (zI S4 2) ≠ (0 : Int32)) hb h
        refine xt_pure rfl rfl rfl (st1 := .int 0 :: _) rfl ?_
        cases h
        exact xt_iret rfl rfl rfl rfl ⟨rfl, rfl⟩
      · replace h := zif_f (p := (zI S4 2) ≠ (0 : Int32)) hb h
        refine xt_pure rfl rfl rfl (st1 := .int 1 :: _) rfl ?_
        refine xt_pure rfl rfl rfl rfl ?_
        cases h
        exact xt_iret rfl rfl rfl rfl ⟨rfl, rfl⟩
def rF_judgedRows_12 (gi : Nat → Int32) (ga : Nat → List Int32) (vl : List Int64) (Bs : List (Option zH)) (am : List Int64)  (N : Nat)  : Nat → zH → Int32 → Int32 → zS → Option (Int32 × zS)
  | 0, _, _, _, _ => none
  | n + 1, ol1, l3, l4, S => (if ol1.2.1.toInt ≤ l4.toInt then some (0, S) else (zb (rF_cellAt gi ga vl Bs am N ol1 l4 (l3 - 1) S) fun x4 S5 => (if (zI S5 2) = (0 : Int32) then (zg (gI ol1.2.2.2.1 l4) fun x7 => (if x7.toInt ≤ l3.toInt then (rF_judgedRows_12 gi ga vl Bs am N n) ol1 l3 (l4 + 1) S5 else some (8, S5))) else some ((zI S5 2), S5))))
theorem trF_judgedRows_12 {X : List Int32} {D0 : List xE} {fa : Nat} {p : Nat → Nat} {gi : Nat → Int32} {ga : Nat → List Int32} {vl : List Int64} {refs : List Value} {Bs : List (Option zH)} {am : List Int64} (hW : ((209, .inl (14, 46, .ref fa)) : xE) ∈ D0) (hL : ((235, .inr (1, am.map Value.long)) : xE) ∈ D0) (hG : ∀ e ∈ zgF fa p gi ga vl, e ∈ D0) (hA0 : ((239, .inr (10, refs)) : xE) ∈ D0) (hA1 : ∀ {j : Int32} {z : Option zH}, gI Bs j = some z → ∃ v, gI refs j = some v ∧ zVM D0 v z)  {N fr lo : Nat}   (hf : 2 ≤ fr) (hl : 48 ≤ lo)  : ∀ {n : Nat} {oal1 : Nat} {ol1 : zH}  {l3 : Int32} {l4 : Int32} {d2 : Int32} {S S2 : zS} {r : Int32} (hol1 : zOM D0 oal1 ol1), rF_judgedRows_12 gi ga vl Bs am N n ol1 l3 l4 S = some (r, S2) → yT X fr lo 315 12 [some (.ref 209), some (.ref oal1), some (.int d2), some (.int l3), some (.int l4)] [] (zD zTF zaF S D0) 0 0 (zQi zTF zaF D0 r S2) := by
  intro n
  induction n with
  | zero =>
    intro oal1 ol1 l3 l4 d2 S S2 r hol1  h
    have h : (none : Option (Int32 × zS)) = some (r, S2) := h
    cases h
  | succ n ih =>
    intro oal1 ol1 l3 l4 d2 S S2 r hol1  h
    rw [rF_judgedRows_12] at h
    have hkl1 := hol1
    obtain ⟨ial1, ral1, cal1, q0l1, q1l1, q2l1, q3l1, q4l1, q5l1, q6l1, q7l1⟩ := hkl1
    refine xt_pure rfl rfl rfl rfl ?_
    refine xt_pure rfl rfl rfl rfl ?_
    refine xt_getf rfl rfl (zmr q1l1) ?_
    refine xt_ic rfl rfl (fun hb => ?_) (fun hb => ?_)
    · replace h := zif_t (p := ol1.2.1.toInt ≤ l4.toInt) hb h
      refine xt_pure rfl rfl rfl (st1 := .int 0 :: _) rfl ?_
      cases h
      exact xt_iret rfl rfl rfl rfl ⟨rfl, rfl⟩
    · replace h := zif_f (p := ol1.2.1.toInt ≤ l4.toInt) hb h
      refine xt_pure rfl rfl rfl rfl ?_
      refine xt_pure rfl rfl rfl rfl ?_
      refine xt_pure rfl rfl rfl rfl ?_
      refine xt_pure rfl rfl rfl rfl ?_
      refine xt_pure rfl rfl rfl (st1 := .int 1 :: _) rfl ?_
      refine xt_pure rfl rfl rfl rfl ?_
      obtain ⟨x4, S5, hc6, h⟩ := zbi h
      refine zt_Vl rfl rfl rfl rfl (xmC 176 rfl) ⟨rfl, rfl, yle rfl, yle rfl⟩ (m := 4) rfl ⟨by omega, by omega⟩ (trF_cellAt hW hL hG hA0 hA1 (by omega) (by omega) hol1 hc6) (fr1 := fr - 1) (lo1 := lo - 23) ?_
      refine xt_pure rfl rfl rfl rfl ?_
      refine xt_pure rfl rfl rfl rfl ?_
      refine zt_gI 2 rfl rfl rfl rfl (x := (zI S5 2)) rfl ?_
      refine xt_if rfl rfl (fun hb => ?_) (fun hb => ?_)
      · replace h := zif_t (p := (zI S5 2) = (0 : Int32)) hb h
        refine xt_pure rfl rfl rfl rfl ?_
        refine xt_getf rfl rfl (zmr q3l1) ?_
        refine xt_pure rfl rfl rfl rfl ?_
        obtain ⟨x7, hx7, h⟩ := zgi h
        refine zr_ild (l := ol1.2.2.2.1) rfl rfl (zmr q6l1) hx7 ?_
        refine xt_pure rfl rfl rfl rfl ?_
        refine xt_ic rfl rfl (fun hb => ?_) (fun hb => ?_)
        · replace h := zif_t (p := x7.toInt ≤ l3.toInt) hb h
          refine xt_pure rfl rfl rfl (L1 := [_, _, _, _, some (.int (_ + 1))]) rfl ?_
          refine xt_pure rfl rfl rfl rfl ?_
          exact ih hol1 h
        · replace h := zif_f (p := x7.toInt ≤ l3.toInt) hb h
          refine xt_pure rfl rfl rfl (st1 := .int 8 :: _) rfl ?_
          cases h
          exact xt_iret rfl rfl rfl rfl ⟨rfl, rfl⟩
      · replace h := zif_f (p := (zI S5 2) = (0 : Int32)) hb h
        refine xt_pure rfl rfl rfl rfl ?_
        refine zt_gI 2 rfl rfl rfl rfl (x := (zI S5 2)) rfl ?_
        cases h
        exact xt_iret rfl rfl rfl rfl ⟨rfl, rfl⟩
def rF_judgedRows (gi : Nat → Int32) (ga : Nat → List Int32) (vl : List Int64) (Bs : List (Option zH)) (am : List Int64)  (N : Nat) (op1 : zH) (v2 : Int32) (v3 : Int32) (S : zS) : Option (Int32 × zS) := (zb (rF_in gi ga vl Bs am N op1.2.1.toInt64 1 v2.toInt64 S) fun x1 S2 => (if x1 ≠ (0 : Int32) then rF_judgedRows_12 gi ga vl Bs am N N op1 v3 0 S2 else some (8, S2)))
theorem trF_judgedRows {X : List Int32} {D0 : List xE} {fa : Nat} {p : Nat → Nat} {gi : Nat → Int32} {ga : Nat → List Int32} {vl : List Int64} {refs : List Value} {Bs : List (Option zH)} {am : List Int64} (hW : ((209, .inl (14, 46, .ref fa)) : xE) ∈ D0) (hL : ((235, .inr (1, am.map Value.long)) : xE) ∈ D0) (hG : ∀ e ∈ zgF fa p gi ga vl, e ∈ D0) (hA0 : ((239, .inr (10, refs)) : xE) ∈ D0) (hA1 : ∀ {j : Int32} {z : Option zH}, gI Bs j = some z → ∃ v, gI refs j = some v ∧ zVM D0 v z)  {N fr lo : Nat} (hf : 2 ≤ fr) (hl : 48 ≤ lo) {oap1 : Nat} {op1 : zH}  {v2 : Int32} {v3 : Int32} {S S2 : zS} {r : Int32} (hop1 : zOM D0 oap1 op1) (h : rF_judgedRows gi ga vl Bs am N op1 v2 v3 S = some (r, S2)) : yK X fr lo 315 [.ref 209, .ref oap1, .int v2, .int v3] (zD zTF zaF S D0) 0 0 (zQi zTF zaF D0 r S2) := by
  unfold rF_judgedRows at h
  have hkp1 := hop1
  obtain ⟨iap1, rap1, cap1, q0p1, q1p1, q2p1, q3p1, q4p1, q5p1, q6p1, q7p1⟩ := hkp1
  refine yK.of rfl (yle rfl) (L := [_, _, _, _, _]) rfl ?_
  refine xt_pure rfl rfl rfl rfl ?_
  refine xt_getf rfl rfl (zmr q1p1) ?_
  refine xt_pure rfl rfl rfl rfl ?_
  refine xt_pure rfl rfl rfl (st1 := .long 1 :: _) rfl ?_
  refine xt_pure rfl rfl rfl rfl ?_
  refine xt_pure rfl rfl rfl rfl ?_
  obtain ⟨x1, S2, hc3, h⟩ := zbi h
  refine zt_Si rfl rfl (by decide) rfl rfl ⟨rfl, yle rfl, yle rfl⟩ (m := 6) rfl ⟨by omega, by omega⟩ (trF_in hW hL hG hA0 hA1 (by omega) (by omega) hc3) (fr1 := fr - 1) (lo1 := lo - 25) ?_
  refine xt_if rfl rfl (fun hb => ?_) (fun hb => ?_)
  · replace h := zif_t (p := x1 ≠ (0 : Int32)) hb h
    refine xt_pure rfl rfl rfl (st1 := .int 0 :: _) rfl ?_
    refine xt_pure rfl rfl rfl (L1 := [_, _, _, _, _]) rfl ?_
    exact trF_judgedRows_12 hW hL hG hA0 hA1 hf hl hop1 h
  · replace h := zif_f (p := x1 ≠ (0 : Int32)) hb h
    refine xt_pure rfl rfl rfl (st1 := .int 8 :: _) rfl ?_
    cases h
    exact xt_iret rfl rfl rfl rfl ⟨rfl, rfl⟩
def rF_judged_170 (gi : Nat → Int32) (ga : Nat → List Int32) (vl : List Int64) (Bs : List (Option zH)) (am : List Int64)  (N : Nat)  : Nat → zH → Int32 → zS → Option (Int32 × zS)
  | 0, _, _, _ => none
  | n + 1, ol5, l6, S => (if ol5.2.1.toInt ≤ l6.toInt then some ((zI S 2), S) else (if (zI S 2) ≠ (0 : Int32) then some ((zI S 2), S) else (zb (rF_itemOf gi ga vl Bs am N ol5 l6.toInt64 S) fun x13 S14 => (rF_judged_170 gi ga vl Bs am N n) ol5 (l6 + 1) S14)))
theorem trF_judged_170 {X : List Int32} {D0 : List xE} {fa : Nat} {p : Nat → Nat} {gi : Nat → Int32} {ga : Nat → List Int32} {vl : List Int64} {refs : List Value} {Bs : List (Option zH)} {am : List Int64} (hW : ((209, .inl (14, 46, .ref fa)) : xE) ∈ D0) (hL : ((235, .inr (1, am.map Value.long)) : xE) ∈ D0) (hG : ∀ e ∈ zgF fa p gi ga vl, e ∈ D0) (hA0 : ((239, .inr (10, refs)) : xE) ∈ D0) (hA1 : ∀ {j : Int32} {z : Option zH}, gI Bs j = some z → ∃ v, gI refs j = some v ∧ zVM D0 v z)  {N fr lo : Nat}   (hf : 3 ≤ fr) (hl : 72 ≤ lo)  : ∀ {n : Nat} {oal5 : Nat} {ol5 : zH}  {l6 : Int32} {d1 : Int32} {d2 : Int32} {d3 : Int32} {d4 : Int32} {S S2 : zS} {r : Int32} (hol5 : zOM D0 oal5 ol5), rF_judged_170 gi ga vl Bs am N n ol5 l6 S = some (r, S2) → yT X fr lo 314 170 [some (.ref 209), some (.int d1), some (.int d2), some (.int d3), some (.int d4), some (.ref oal5), some (.int l6), none] [] (zD zTF zaF S D0) 0 0 (zQi zTF zaF D0 r S2) := by
  intro n
  induction n with
  | zero =>
    intro oal5 ol5 l6 d1 d2 d3 d4 S S2 r hol5  h
    have h : (none : Option (Int32 × zS)) = some (r, S2) := h
    cases h
  | succ n ih =>
    intro oal5 ol5 l6 d1 d2 d3 d4 S S2 r hol5  h
    rw [rF_judged_170] at h
    have hkl5 := hol5
    obtain ⟨ial5, ral5, cal5, q0l5, q1l5, q2l5, q3l5, q4l5, q5l5, q6l5, q7l5⟩ := hkl5
    refine xt_pure rfl rfl rfl rfl ?_
    refine xt_pure rfl rfl rfl rfl ?_
    refine xt_getf rfl rfl (zmr q1l5) ?_
    refine xt_ic rfl rfl (fun hb => ?_) (fun hb => ?_)
    · replace h := zif_t (p := ol5.2.1.toInt ≤ l6.toInt) hb h
      refine xt_pure rfl rfl rfl rfl ?_
      refine zt_gI 2 rfl rfl rfl rfl (x := (zI S 2)) rfl ?_
      cases h
      exact xt_iret rfl rfl rfl rfl ⟨rfl, rfl⟩
    · replace h := zif_f (p := ol5.2.1.toInt ≤ l6.toInt) hb h
      refine xt_pure rfl rfl rfl rfl ?_
      refine zt_gI 2 rfl rfl rfl rfl (x := (zI S 2)) rfl ?_
      refine xt_if rfl rfl (fun hb => ?_) (fun hb => ?_)
      · replace h := zif_t (p := (zI S 2) ≠ (0 : Int32)) hb h
        refine xt_pure rfl rfl rfl rfl ?_
        refine zt_gI 2 rfl rfl rfl rfl (x := (zI S 2)) rfl ?_
        cases h
        exact xt_iret rfl rfl rfl rfl ⟨rfl, rfl⟩
      · replace h := zif_f (p := (zI S 2) ≠ (0 : Int32)) hb h
        refine xt_pure rfl rfl rfl rfl ?_
        refine xt_pure rfl rfl rfl rfl ?_
        refine xt_pure rfl rfl rfl rfl ?_
        refine xt_pure rfl rfl rfl rfl ?_
        obtain ⟨x13, S14, hc15, h⟩ := zbi h
        refine zt_Vl rfl rfl rfl rfl (xmC 176 rfl) ⟨rfl, rfl, yle rfl, yle rfl⟩ (m := 6) rfl ⟨by omega, by omega⟩ (trF_itemOf hW hL hG hA0 hA1 (by omega) (by omega) hol5 hc15) (fr1 := fr - 1) (lo1 := lo - 25) ?_
        refine xt_pure rfl rfl rfl rfl ?_
        refine xt_pure rfl rfl rfl (L1 := [_, _, _, _, _, _, some (.int (_ + 1)), _]) rfl ?_
        refine xt_pure rfl rfl rfl rfl ?_
        exact ih hol5 h
def rF_judged_127 (gi : Nat → Int32) (ga : Nat → List Int32) (vl : List Int64) (Bs : List (Option zH)) (am : List Int64)  (N : Nat)  : Nat → zH → Int32 → Int32 → zS → Option (Int32 × zS)
  | 0, _, _, _, _ => none
  | n + 1, ol5, l6, l7, S => (if ol5.2.1.toInt ≤ l7.toInt then (if l6 = (0 : Int32) then some (8, S) else some (0, S)) else (if l6 = (0 : Int32) then (if l6 = (0 : Int32) then some (8, S) else some (0, S)) else (zg (gI ol5.2.2.1 l7) fun x23 => (zb (rF_in gi ga vl Bs am N x23 32 126 S) fun x24 S25 => (rF_judged_127 gi ga vl Bs am N n) ol5 x24 (l7 + 1) S25))))
theorem trF_judged_127 {X : List Int32} {D0 : List xE} {fa : Nat} {p : Nat → Nat} {gi : Nat → Int32} {ga : Nat → List Int32} {vl : List Int64} {refs : List Value} {Bs : List (Option zH)} {am : List Int64} (hW : ((209, .inl (14, 46, .ref fa)) : xE) ∈ D0) (hL : ((235, .inr (1, am.map Value.long)) : xE) ∈ D0) (hG : ∀ e ∈ zgF fa p gi ga vl, e ∈ D0) (hA0 : ((239, .inr (10, refs)) : xE) ∈ D0) (hA1 : ∀ {j : Int32} {z : Option zH}, gI Bs j = some z → ∃ v, gI refs j = some v ∧ zVM D0 v z)  {N fr lo : Nat}   (hf : 3 ≤ fr) (hl : 72 ≤ lo)  : ∀ {n : Nat} {oal5 : Nat} {ol5 : zH}  {l6 : Int32} {l7 : Int32} {d1 : Int32} {d2 : Int32} {d3 : Int32} {d4 : Int32} {S S2 : zS} {r : Int32} (hol5 : zOM D0 oal5 ol5), rF_judged_127 gi ga vl Bs am N n ol5 l6 l7 S = some (r, S2) → yT X fr lo 314 127 [some (.ref 209), some (.int d1), some (.int d2), some (.int d3), some (.int d4), some (.ref oal5), some (.int l6), some (.int l7)] [] (zD zTF zaF S D0) 0 0 (zQi zTF zaF D0 r S2) := by
  intro n
  induction n with
  | zero =>
    intro oal5 ol5 l6 l7 d1 d2 d3 d4 S S2 r hol5  h
    have h : (none : Option (Int32 × zS)) = some (r, S2) := h
    cases h
  | succ n ih =>
    intro oal5 ol5 l6 l7 d1 d2 d3 d4 S S2 r hol5  h
    rw [rF_judged_127] at h
    have hkl5 := hol5
    obtain ⟨ial5, ral5, cal5, q0l5, q1l5, q2l5, q3l5, q4l5, q5l5, q6l5, q7l5⟩ := hkl5
    refine xt_pure rfl rfl rfl rfl ?_
    refine xt_pure rfl rfl rfl rfl ?_
    refine xt_getf rfl rfl (zmr q1l5) ?_
    refine xt_ic rfl rfl (fun hb => ?_) (fun hb => ?_)
    · replace h := zif_t (p := ol5.2.1.toInt ≤ l7.toInt) hb h
      refine xt_pure rfl rfl rfl rfl ?_
      refine xt_if rfl rfl (fun hb => ?_) (fun hb => ?_)
      · replace h := zif_t (p := l6 = (0 : Int32)) hb h
        refine xt_pure rfl rfl rfl (st1 := .int 8 :: _) rfl ?_
        cases h
        exact xt_iret rfl rfl rfl rfl ⟨rfl, rfl⟩
      · replace h := zif_f (p := l6 = (0 : Int32)) hb h
        refine xt_pure rfl rfl rfl (st1 := .int 0 :: _) rfl ?_
        refine xt_pure rfl rfl rfl rfl ?_
        cases h
        exact xt_iret rfl rfl rfl rfl ⟨rfl, rfl⟩
    · replace h := zif_f (p := ol5.2.1.toInt ≤ l7.toInt) hb h
      refine xt_pure rfl rfl rfl rfl ?_
      refine xt_if rfl rfl (fun hb => ?_) (fun hb => ?_)
      · replace h := zif_t (p := l6 = (0 : Int32)) hb h
        refine xt_pure rfl rfl rfl rfl ?_
        refine xt_if rfl rfl (fun hb => ?_) (fun hb => ?_)
        · replace h := zif_t (p := l6 = (0 : Int32)) hb h
          refine xt_pure rfl rfl rfl (st1 := .int 8 :: _) rfl ?_
          cases h
          exact xt_iret rfl rfl rfl rfl ⟨rfl, rfl⟩
        · replace h := zif_f (p := l6 = (0 : Int32)) hb h
          refine xt_pure rfl rfl rfl (st1 := .int 0 :: _) rfl ?_
          refine xt_pure rfl rfl rfl rfl ?_
          cases h
          exact xt_iret rfl rfl rfl rfl ⟨rfl, rfl⟩
      · replace h := zif_f (p := l6 = (0 : Int32)) hb h
        refine xt_pure rfl rfl rfl rfl ?_
        refine xt_getf rfl rfl (zmr q2l5) ?_
        refine xt_pure rfl rfl rfl rfl ?_
        obtain ⟨x23, hx23, h⟩ := zgi h
        refine zr_lld (l := ol5.2.2.1) rfl rfl (zmr q5l5) hx23 ?_
        refine xt_pure rfl rfl rfl (st1 := .long 32 :: _) rfl ?_
        refine xt_pure rfl rfl rfl (st1 := .long 126 :: _) rfl ?_
        obtain ⟨x24, S25, hc26, h⟩ := zbi h
        refine zt_Si rfl rfl (by decide) rfl rfl ⟨rfl, yle rfl, yle rfl⟩ (m := 6) rfl ⟨by omega, by omega⟩ (trF_in hW hL hG hA0 hA1 (by omega) (by omega) hc26) (fr1 := fr - 1) (lo1 := lo - 25) ?_
        refine xt_pure rfl rfl rfl (L1 := [_, _, _, _, _, _, _, _]) rfl ?_
        refine xt_pure rfl rfl rfl (L1 := [_, _, _, _, _, _, _, some (.int (_ + 1))]) rfl ?_
        refine xt_pure rfl rfl rfl rfl ?_
        exact ih hol5 h
def rF_judged_30 (gi : Nat → Int32) (ga : Nat → List Int32) (vl : List Int64) (Bs : List (Option zH)) (am : List Int64)  (N : Nat)  (l1 : Int32) (l2 : Int32) (l3 : Int32) (l4 : Int32) (s1 : Int32) (s2 : Int32) (S : zS) : Option (Int32 × zS) := (zb (rF_as gi ga vl Bs am N s1 s2 S) fun z10 S8 => (zo z10 ((if (zI S8 2) ≠ (0 : Int32) then some ((zI S8 2), S8) else (if l2 ≠ (10 : Int32) then (if 4 < l2.toInt then (if l2 ≠ (5 : Int32) then (if l2 ≠ (6 : Int32) then (if l2 ≠ (7 : Int32) then none else (zg (gI (ga 7) l1) fun x11 => none)) else none) else (zg (gI (ga 7) l1) fun x12 => none)) else none) else some ((zI S8 2), S8)))) fun o10 => (if (zI S8 2) ≠ (0 : Int32) then some ((zI S8 2), S8) else (if l2 ≠ (10 : Int32) then (if 4 < l2.toInt then (if l2 ≠ (5 : Int32) then (if l2 ≠ (6 : Int32) then (if l2 ≠ (7 : Int32) then (if o10.2.1.toInt ≤ l4.toInt then rF_judged_170 gi ga vl Bs am N N o10 0 S8 else some (8, S8)) else (zg (gI (ga 7) l1) fun x16 => (zb (rF_judgedRows gi ga vl Bs am N o10 l4 x16 S8) fun x17 S18 => some (x17, S18)))) else (zb (rF_in gi ga vl Bs am N o10.2.1.toInt64 1 l4.toInt64 S8) fun x20 S21 => rF_judged_127 gi ga vl Bs am N N o10 x20 0 S21)) else (zg (gI (ga 7) l1) fun x27 => (zb (rF_itemOf gi ga vl Bs am N o10 ((x27 - 1).toInt64) S8) fun x28 S29 => (if (zI S29 2) = (0 : Int32) then (zg (gI (ga 7) l1) fun x31 => (if x31.toInt < o10.2.1.toInt then some (8, S29) else (zb (rF_trueOf gi ga vl Bs am N o10 S29) fun x32 S33 => (zb (rF_in gi ga vl Bs am N x32.toInt64 l3.toInt64 l4.toInt64 S33) fun x35 S36 => (if x35 ≠ (0 : Int32) then some (0, S36) else some (8, S36)))))) else some ((zI S29 2), S29))))) else (zb (rF_itemOf gi ga vl Bs am N o10 0 S8) fun x38 S39 => (if (zI S39 2) = (0 : Int32) then (if o10.2.1 ≠ (1 : Int32) then some (8, S39) else (if l2 = (0 : Int32) then some (0, S39) else (zb (rF_in gi ga vl Bs am N x38 l3.toInt64 l4.toInt64 S39) fun x41 S42 => (if x41 ≠ (0 : Int32) then some (0, S42) else some (8, S42))))) else some ((zI S39 2), S39)))) else some ((zI S8 2), S8)))))
theorem trF_judged_30 {X : List Int32} {D0 : List xE} {fa : Nat} {p : Nat → Nat} {gi : Nat → Int32} {ga : Nat → List Int32} {vl : List Int64} {refs : List Value} {Bs : List (Option zH)} {am : List Int64} (hW : ((209, .inl (14, 46, .ref fa)) : xE) ∈ D0) (hL : ((235, .inr (1, am.map Value.long)) : xE) ∈ D0) (hG : ∀ e ∈ zgF fa p gi ga vl, e ∈ D0) (hA0 : ((239, .inr (10, refs)) : xE) ∈ D0) (hA1 : ∀ {j : Int32} {z : Option zH}, gI Bs j = some z → ∃ v, gI refs j = some v ∧ zVM D0 v z)  {N fr lo : Nat}   (hf : 3 ≤ fr) (hl : 72 ≤ lo) {l1 : Int32} {l2 : Int32} {l3 : Int32} {l4 : Int32} {s1 : Int32} {s2 : Int32}  {S S2 : zS} {r : Int32}  (h : rF_judged_30 gi ga vl Bs am N l1 l2 l3 l4 s1 s2 S = some (r, S2)) : yT X fr lo 314 30 [some (.ref 209), some (.int l1), some (.int l2), some (.int l3), some (.int l4), none, none, none] [.int s2, .int s1, .ref 209] (zD zTF zaF S D0) 0 0 (zQi zTF zaF D0 r S2) := by
  unfold rF_judged_30 at h
  obtain ⟨z10, S8, hc9, h⟩ := zbi h
  refine zt_Vz rfl rfl rfl rfl (xmC 176 rfl) ⟨rfl, rfl, yle rfl, yle rfl⟩ (m := 4) rfl ⟨by omega, by omega⟩ (trF_as hW hL hG hA0 hA1 (by omega) (by omega) hc9) (fr1 := fr - 1) (lo1 := lo - 23) (fun v10 hv10 => ?_)
  rcases z10 with _ | o10
  · obtain rfl : v10 = Value.null := hv10
    replace h := zon h
    refine xt_pure rfl rfl rfl (L1 := [_, _, _, _, _, _, _, _]) rfl ?_
    refine xt_pure rfl rfl rfl rfl ?_
    refine zt_gI 2 rfl rfl rfl rfl (x := (zI S8 2)) rfl ?_
    refine xt_if rfl rfl (fun hb => ?_) (fun hb => ?_)
    · replace h := zif_t (p := (zI S8 2) ≠ (0 : Int32)) hb h
      refine xt_pure rfl rfl rfl rfl ?_
      refine zt_gI 2 rfl rfl rfl rfl (x := (zI S8 2)) rfl ?_
      cases h
      exact xt_iret rfl rfl rfl rfl ⟨rfl, rfl⟩
    · replace h := zif_f (p := (zI S8 2) ≠ (0 : Int32)) hb h
      refine xt_pure rfl rfl rfl rfl ?_
      refine xt_pure rfl rfl rfl (st1 := .int 10 :: _) rfl ?_
      refine xt_ic rfl rfl (fun hb => ?_) (fun hb => ?_)
      · replace h := zif_t (p := l2 ≠ (10 : Int32)) hb h
        refine xt_pure rfl rfl rfl rfl ?_
        refine xt_pure rfl rfl rfl (st1 := .int 4 :: _) rfl ?_
        refine xt_ic rfl rfl (fun hb => ?_) (fun hb => ?_)
        · replace h := zif_t (p := 4 < l2.toInt) hb h
          refine xt_pure rfl rfl rfl rfl ?_
          refine xt_pure rfl rfl rfl (st1 := .int 5 :: _) rfl ?_
          refine xt_ic rfl rfl (fun hb => ?_) (fun hb => ?_)
          · replace h := zif_t (p := l2 ≠ (5 : Int32)) hb h
            refine xt_pure rfl rfl rfl rfl ?_
            refine xt_pure rfl rfl rfl (st1 := .int 6 :: _) rfl ?_
            refine xt_ic rfl rfl (fun hb => ?_) (fun hb => ?_)
            · replace h := zif_t (p := l2 ≠ (6 : Int32)) hb h
              refine xt_pure rfl rfl rfl rfl ?_
              refine xt_pure rfl rfl rfl (st1 := .int 7 :: _) rfl ?_
              refine xt_ic rfl rfl (fun hb => ?_) (fun hb => ?_)
              · replace h := zif_t (p := l2 ≠ (7 : Int32)) hb h
                refine xt_pure rfl rfl rfl rfl ?_
                cases h
              · replace h := zif_f (p := l2 ≠ (7 : Int32)) hb h
                refine xt_pure rfl rfl rfl rfl ?_
                refine xt_pure rfl rfl rfl rfl ?_
                refine xt_pure rfl rfl rfl rfl ?_
                refine xt_pure rfl rfl rfl rfl ?_
                refine xt_getf rfl rfl (zmr hW) ?_
                refine xt_getf rfl rfl (zmr (ymm hG 7 rfl)) ?_
                refine xt_pure rfl rfl rfl rfl ?_
                obtain ⟨x11, hx11, h⟩ := zgi h
                refine zr_ild (l := (ga 7)) rfl rfl (zmr (ymm hG 28 rfl)) hx11 ?_
                cases h
            · replace h := zif_f (p := l2 ≠ (6 : Int32)) hb h
              refine xt_pure rfl rfl rfl rfl ?_
              cases h
          · replace h := zif_f (p := l2 ≠ (5 : Int32)) hb h
            refine xt_pure rfl rfl rfl rfl ?_
            refine xt_pure rfl rfl rfl rfl ?_
            refine xt_pure rfl rfl rfl rfl ?_
            refine xt_getf rfl rfl (zmr hW) ?_
            refine xt_getf rfl rfl (zmr (ymm hG 7 rfl)) ?_
            refine xt_pure rfl rfl rfl rfl ?_
            obtain ⟨x12, hx12, h⟩ := zgi h
            refine zr_ild (l := (ga 7)) rfl rfl (zmr (ymm hG 28 rfl)) hx12 ?_
            refine xt_pure rfl rfl rfl (st1 := .int 1 :: _) rfl ?_
            refine xt_pure rfl rfl rfl rfl ?_
            refine xt_pure rfl rfl rfl rfl ?_
            cases h
        · replace h := zif_f (p := 4 < l2.toInt) hb h
          refine xt_pure rfl rfl rfl rfl ?_
          refine xt_pure rfl rfl rfl rfl ?_
          refine xt_pure rfl rfl rfl (st1 := .long 0 :: _) rfl ?_
          cases h
      · replace h := zif_f (p := l2 ≠ (10 : Int32)) hb h
        refine xt_pure rfl rfl rfl rfl ?_
        refine zt_gI 2 rfl rfl rfl rfl (x := (zI S8 2)) rfl ?_
        cases h
        exact xt_iret rfl rfl rfl rfl ⟨rfl, rfl⟩
  · obtain ⟨oa10, rfl, ho10⟩ := hv10
    replace h := zos h
    have hk10 := ho10
    obtain ⟨ia10, ra10, ca10, q010, q110, q210, q310, q410, q510, q610, q710⟩ := hk10
    refine xt_pure rfl rfl rfl (L1 := [_, _, _, _, _, _, _, _]) rfl ?_
    refine xt_pure rfl rfl rfl rfl ?_
    refine zt_gI 2 rfl rfl rfl rfl (x := (zI S8 2)) rfl ?_
    refine xt_if rfl rfl (fun hb => ?_) (fun hb => ?_)
    · replace h := zif_t (p := (zI S8 2) ≠ (0 : Int32)) hb h
      refine xt_pure rfl rfl rfl rfl ?_
      refine zt_gI 2 rfl rfl rfl rfl (x := (zI S8 2)) rfl ?_
      cases h
      exact xt_iret rfl rfl rfl rfl ⟨rfl, rfl⟩
    · replace h := zif_f (p := (zI S8 2) ≠ (0 : Int32)) hb h
      refine xt_pure rfl rfl rfl rfl ?_
      refine xt_pure rfl rfl rfl (st1 := .int 10 :: _) rfl ?_
      refine xt_ic rfl rfl (fun hb => ?_) (fun hb => ?_)
      · replace h := zif_t (p := l2 ≠ (10 : Int32)) hb h
        refine xt_pure rfl rfl rfl rfl ?_
        refine xt_pure rfl rfl rfl (st1 := .int 4 :: _) rfl ?_
        refine xt_ic rfl rfl (fun hb => ?_) (fun hb => ?_)
        · replace h := zif_t (p := 4 < l2.toInt) hb h
          refine xt_pure rfl rfl rfl rfl ?_
          refine xt_pure rfl rfl rfl (st1 := .int 5 :: _) rfl ?_
          refine xt_ic rfl rfl (fun hb => ?_) (fun hb => ?_)
          · replace h := zif_t (p := l2 ≠ (5 : Int32)) hb h
            refine xt_pure rfl rfl rfl rfl ?_
            refine xt_pure rfl rfl rfl (st1 := .int 6 :: _) rfl ?_
            refine xt_ic rfl rfl (fun hb => ?_) (fun hb => ?_)
            · replace h := zif_t (p := l2 ≠ (6 : Int32)) hb h
              refine xt_pure rfl rfl rfl rfl ?_
              refine xt_pure rfl rfl rfl (st1 := .int 7 :: _) rfl ?_
              refine xt_ic rfl rfl (fun hb => ?_) (fun hb => ?_)
              · replace h := zif_t (p := l2 ≠ (7 : Int32)) hb h
                refine xt_pure rfl rfl rfl rfl ?_
                refine xt_getf rfl rfl (zmr q110) ?_
                refine xt_pure rfl rfl rfl rfl ?_
                refine xt_ic rfl rfl (fun hb => ?_) (fun hb => ?_)
                · replace h := zif_t (p := o10.2.1.toInt ≤ l4.toInt) hb h
                  refine xt_pure rfl rfl rfl (st1 := .int 0 :: _) rfl ?_
                  refine xt_pure rfl rfl rfl (L1 := [_, _, _, _, _, _, _, _]) rfl ?_
                  exact trF_judged_170 hW hL hG hA0 hA1 hf hl ho10 h
                · replace h := zif_f (p := o10.2.1.toInt ≤ l4.toInt) hb h
                  refine xt_pure rfl rfl rfl (st1 := .int 8 :: _) rfl ?_
                  cases h
                  exact xt_iret rfl rfl rfl rfl ⟨rfl, rfl⟩
              · replace h := zif_f (p := l2 ≠ (7 : Int32)) hb h
                refine xt_pure rfl rfl rfl rfl ?_
                refine xt_pure rfl rfl rfl rfl ?_
                refine xt_pure rfl rfl rfl rfl ?_
                refine xt_pure rfl rfl rfl rfl ?_
                refine xt_getf rfl rfl (zmr hW) ?_
                refine xt_getf rfl rfl (zmr (ymm hG 7 rfl)) ?_
                refine xt_pure rfl rfl rfl rfl ?_
                obtain ⟨x16, hx16, h⟩ := zgi h
                refine zr_ild (l := (ga 7)) rfl rfl (zmr (ymm hG 28 rfl)) hx16 ?_
                obtain ⟨x17, S18, hc19, h⟩ := zbi h
                refine zt_Vi rfl rfl rfl rfl (xmC 176 rfl) ⟨rfl, rfl, yle rfl, yle rfl⟩ (m := 5) rfl ⟨by omega, by omega⟩ (trF_judgedRows hW hL hG hA0 hA1 (by omega) (by omega) ho10 hc19) (fr1 := fr - 1) (lo1 := lo - 24) ?_
                cases h
                exact xt_iret rfl rfl rfl rfl ⟨rfl, rfl⟩
            · replace h := zif_f (p := l2 ≠ (6 : Int32)) hb h
              refine xt_pure rfl rfl rfl rfl ?_
              refine xt_getf rfl rfl (zmr q110) ?_
              refine xt_pure rfl rfl rfl rfl ?_
              refine xt_pure rfl rfl rfl (st1 := .long 1 :: _) rfl ?_
              refine xt_pure rfl rfl rfl rfl ?_
              refine xt_pure rfl rfl rfl rfl ?_
              obtain ⟨x20, S21, hc22, h⟩ := zbi h
              refine zt_Si rfl rfl (by decide) rfl rfl ⟨rfl, yle rfl, yle rfl⟩ (m := 6) rfl ⟨by omega, by omega⟩ (trF_in hW hL hG hA0 hA1 (by omega) (by omega) hc22) (fr1 := fr - 1) (lo1 := lo - 25) ?_
              refine xt_pure rfl rfl rfl (L1 := [_, _, _, _, _, _, _, _]) rfl ?_
              refine xt_pure rfl rfl rfl (st1 := .int 0 :: _) rfl ?_
              refine xt_pure rfl rfl rfl (L1 := [_, _, _, _, _, _, _, _]) rfl ?_
              exact trF_judged_127 hW hL hG hA0 hA1 hf hl ho10 h
          · replace h := zif_f (p := l2 ≠ (5 : Int32)) hb h
            refine xt_pure rfl rfl rfl rfl ?_
            refine xt_pure rfl rfl rfl rfl ?_
            refine xt_pure rfl rfl rfl rfl ?_
            refine xt_getf rfl rfl (zmr hW) ?_
            refine xt_getf rfl rfl (zmr (ymm hG 7 rfl)) ?_
            refine xt_pure rfl rfl rfl rfl ?_
            obtain ⟨x27, hx27, h⟩ := zgi h
            refine zr_ild (l := (ga 7)) rfl rfl (zmr (ymm hG 28 rfl)) hx27 ?_
            refine xt_pure rfl rfl rfl (st1 := .int 1 :: _) rfl ?_
            refine xt_pure rfl rfl rfl rfl ?_
            refine xt_pure rfl rfl rfl rfl ?_
            obtain ⟨x28, S29, hc30, h⟩ := zbi h
            refine zt_Vl rfl rfl rfl rfl (xmC 176 rfl) ⟨rfl, rfl, yle rfl, yle rfl⟩ (m := 6) rfl ⟨by omega, by omega⟩ (trF_itemOf hW hL hG hA0 hA1 (by omega) (by omega) ho10 hc30) (fr1 := fr - 1) (lo1 := lo - 25) ?_
            refine xt_pure rfl rfl rfl rfl ?_
            refine xt_pure rfl rfl rfl rfl ?_
            refine zt_gI 2 rfl rfl rfl rfl (x := (zI S29 2)) rfl ?_
            refine xt_if rfl rfl (fun hb => ?_) (fun hb => ?_)
            · replace h := zif_t (p := (zI S29 2) = (0 : Int32)) hb h
              refine xt_pure rfl rfl rfl rfl ?_
              refine xt_getf rfl rfl (zmr q110) ?_
              refine xt_pure rfl rfl rfl rfl ?_
              refine xt_getf rfl rfl (zmr hW) ?_
              refine xt_getf rfl rfl (zmr (ymm hG 7 rfl)) ?_
              refine xt_pure rfl rfl rfl rfl ?_
              obtain ⟨x31, hx31, h⟩ := zgi h
              refine zr_ild (l := (ga 7)) rfl rfl (zmr (ymm hG 28 rfl)) hx31 ?_
              refine xt_ic rfl rfl (fun hb => ?_) (fun hb => ?_)
              · replace h := zif_t (p := x31.toInt < o10.2.1.toInt) hb h
                refine xt_pure rfl rfl rfl (st1 := .int 8 :: _) rfl ?_
                refine xt_pure rfl rfl rfl rfl ?_
                cases h
                exact xt_iret rfl rfl rfl rfl ⟨rfl, rfl⟩
              · replace h := zif_f (p := x31.toInt < o10.2.1.toInt) hb h
                refine xt_pure rfl rfl rfl rfl ?_
                obtain ⟨x32, S33, hc34, h⟩ := zbi h
                refine zt_Si rfl rfl (by decide) rfl rfl ⟨rfl, yle rfl, yle rfl⟩ (m := 3) rfl ⟨by omega, by omega⟩ (trF_trueOf hW hL hG hA0 hA1 (by omega) (by omega) ho10 hc34) (fr1 := fr - 1) (lo1 := lo - 22) ?_
                refine xt_pure rfl rfl rfl rfl ?_
                refine xt_pure rfl rfl rfl rfl ?_
                refine xt_pure rfl rfl rfl rfl ?_
                refine xt_pure rfl rfl rfl rfl ?_
                refine xt_pure rfl rfl rfl rfl ?_
                obtain ⟨x35, S36, hc37, h⟩ := zbi h
                refine zt_Si rfl rfl (by decide) rfl rfl ⟨rfl, yle rfl, yle rfl⟩ (m := 6) rfl ⟨by omega, by omega⟩ (trF_in hW hL hG hA0 hA1 (by omega) (by omega) hc37) (fr1 := fr - 1) (lo1 := lo - 25) ?_
                refine xt_if rfl rfl (fun hb => ?_) (fun hb => ?_)
                · replace h := zif_t (p := x35 ≠ (0 : Int32)) hb h
                  refine xt_pure rfl rfl rfl (st1 := .int 0 :: _) rfl ?_
                  cases h
                  exact xt_iret rfl rfl rfl rfl ⟨rfl, rfl⟩
                · replace h := zif_f (p := x35 ≠ (0 : Int32)) hb h
                  refine xt_pure rfl rfl rfl (st1 := .int 8 :: _) rfl ?_
                  refine xt_pure rfl rfl rfl rfl ?_
                  cases h
                  exact xt_iret rfl rfl rfl rfl ⟨rfl, rfl⟩
            · replace h := zif_f (p := (zI S29 2) = (0 : Int32)) hb h
              refine xt_pure rfl rfl rfl rfl ?_
              refine zt_gI 2 rfl rfl rfl rfl (x := (zI S29 2)) rfl ?_
              refine xt_pure rfl rfl rfl rfl ?_
              cases h
              exact xt_iret rfl rfl rfl rfl ⟨rfl, rfl⟩
        · replace h := zif_f (p := 4 < l2.toInt) hb h
          refine xt_pure rfl rfl rfl rfl ?_
          refine xt_pure rfl rfl rfl rfl ?_
          refine xt_pure rfl rfl rfl (st1 := .long 0 :: _) rfl ?_
          obtain ⟨x38, S39, hc40, h⟩ := zbi h
          refine zt_Vl rfl rfl rfl rfl (xmC 176 rfl) ⟨rfl, rfl, yle rfl, yle rfl⟩ (m := 6) rfl ⟨by omega, by omega⟩ (trF_itemOf hW hL hG hA0 hA1 (by omega) (by omega) ho10 hc40) (fr1 := fr - 1) (lo1 := lo - 25) ?_
          refine xt_pure rfl rfl rfl (L1 := [_, _, _, _, _, _, _, _]) rfl ?_
          refine xt_pure rfl rfl rfl rfl ?_
          refine zt_gI 2 rfl rfl rfl rfl (x := (zI S39 2)) rfl ?_
          refine xt_if rfl rfl (fun hb => ?_) (fun hb => ?_)
          · replace h := zif_t (p := (zI S39 2) = (0 : Int32)) hb h
            refine xt_pure rfl rfl rfl rfl ?_
            refine xt_getf rfl rfl (zmr q110) ?_
            refine xt_pure rfl rfl rfl (st1 := .int 1 :: _) rfl ?_
            refine xt_ic rfl rfl (fun hb => ?_) (fun hb => ?_)
            · replace h := zif_t (p := o10.2.1 ≠ (1 : Int32)) hb h
              refine xt_pure rfl rfl rfl (st1 := .int 8 :: _) rfl ?_
              refine xt_pure rfl rfl rfl rfl ?_
              cases h
              exact xt_iret rfl rfl rfl rfl ⟨rfl, rfl⟩
            · replace h := zif_f (p := o10.2.1 ≠ (1 : Int32)) hb h
              refine xt_pure rfl rfl rfl rfl ?_
              refine xt_if rfl rfl (fun hb => ?_) (fun hb => ?_)
              · replace h := zif_t (p := l2 = (0 : Int32)) hb h
                refine xt_pure rfl rfl rfl (st1 := .int 0 :: _) rfl ?_
                cases h
                exact xt_iret rfl rfl rfl rfl ⟨rfl, rfl⟩
              · replace h := zif_f (p := l2 = (0 : Int32)) hb h
                refine xt_pure rfl rfl rfl rfl ?_
                refine xt_pure rfl rfl rfl rfl ?_
                refine xt_pure rfl rfl rfl rfl ?_
                refine xt_pure rfl rfl rfl rfl ?_
                refine xt_pure rfl rfl rfl rfl ?_
                obtain ⟨x41, S42, hc43, h⟩ := zbi h
                refine zt_Si rfl rfl (by decide) rfl rfl ⟨rfl, yle rfl, yle rfl⟩ (m := 6) rfl ⟨by omega, by omega⟩ (trF_in hW hL hG hA0 hA1 (by omega) (by omega) hc43) (fr1 := fr - 1) (lo1 := lo - 25) ?_
                refine xt_if rfl rfl (fun hb => ?_) (fun hb => ?_)
                · replace h := zif_t (p := x41 ≠ (0 : Int32)) hb h
                  refine xt_pure rfl rfl rfl (st1 := .int 0 :: _) rfl ?_
                  cases h
                  exact xt_iret rfl rfl rfl rfl ⟨rfl, rfl⟩
                · replace h := zif_f (p := x41 ≠ (0 : Int32)) hb h
                  refine xt_pure rfl rfl rfl (st1 := .int 8 :: _) rfl ?_
                  refine xt_pure rfl rfl rfl rfl ?_
                  cases h
                  exact xt_iret rfl rfl rfl rfl ⟨rfl, rfl⟩
          · replace h := zif_f (p := (zI S39 2) = (0 : Int32)) hb h
            refine xt_pure rfl rfl rfl rfl ?_
            refine zt_gI 2 rfl rfl rfl rfl (x := (zI S39 2)) rfl ?_
            refine xt_pure rfl rfl rfl rfl ?_
            cases h
            exact xt_iret rfl rfl rfl rfl ⟨rfl, rfl⟩
      · replace h := zif_f (p := l2 ≠ (10 : Int32)) hb h
        refine xt_pure rfl rfl rfl rfl ?_
        refine zt_gI 2 rfl rfl rfl rfl (x := (zI S8 2)) rfl ?_
        cases h
        exact xt_iret rfl rfl rfl rfl ⟨rfl, rfl⟩
def rF_judged (gi : Nat → Int32) (ga : Nat → List Int32) (vl : List Int64) (Bs : List (Option zH)) (am : List Int64)  (N : Nat) (v1 : Int32) (S : zS) : Option (Int32 × zS) := (zg (gI (ga 2) v1) fun x1 => (zg (gI (ga 5) v1) fun x2 => (zg (gI (ga 6) v1) fun x3 => (if x1 ≠ (10 : Int32) then (zb (rF_sortOf gi ga vl Bs am N x1 (zsI S 2 0)) fun x4 S5 => rF_judged_30 gi ga vl Bs am N v1 x1 x2 x3 v1 x4 S5) else rF_judged_30 gi ga vl Bs am N v1 x1 x2 x3 v1 7 (zsI S 2 0)))))
theorem trF_judged {X : List Int32} {D0 : List xE} {fa : Nat} {p : Nat → Nat} {gi : Nat → Int32} {ga : Nat → List Int32} {vl : List Int64} {refs : List Value} {Bs : List (Option zH)} {am : List Int64} (hW : ((209, .inl (14, 46, .ref fa)) : xE) ∈ D0) (hL : ((235, .inr (1, am.map Value.long)) : xE) ∈ D0) (hG : ∀ e ∈ zgF fa p gi ga vl, e ∈ D0) (hA0 : ((239, .inr (10, refs)) : xE) ∈ D0) (hA1 : ∀ {j : Int32} {z : Option zH}, gI Bs j = some z → ∃ v, gI refs j = some v ∧ zVM D0 v z)  {N fr lo : Nat} (hf : 3 ≤ fr) (hl : 72 ≤ lo) {v1 : Int32} {S S2 : zS} {r : Int32}  (h : rF_judged gi ga vl Bs am N v1 S = some (r, S2)) : yK X fr lo 314 [.ref 209, .int v1] (zD zTF zaF S D0) 0 0 (zQi zTF zaF D0 r S2) := by
  unfold rF_judged at h
  refine yK.of rfl (yle rfl) (L := [_, _, _, _, _, _, _, _]) rfl ?_
  refine xt_pure rfl rfl rfl rfl ?_
  refine xt_getf rfl rfl (zmr hW) ?_
  refine xt_getf rfl rfl (zmr (ymm hG 2 rfl)) ?_
  refine xt_pure rfl rfl rfl rfl ?_
  obtain ⟨x1, hx1, h⟩ := zgi h
  refine zr_ild (l := (ga 2)) rfl rfl (zmr (ymm hG 23 rfl)) hx1 ?_
  refine xt_pure rfl rfl rfl (L1 := [_, _, _, _, _, _, _, _]) rfl ?_
  refine xt_pure rfl rfl rfl rfl ?_
  refine xt_getf rfl rfl (zmr hW) ?_
  refine xt_getf rfl rfl (zmr (ymm hG 5 rfl)) ?_
  refine xt_pure rfl rfl rfl rfl ?_
  obtain ⟨x2, hx2, h⟩ := zgi h
  refine zr_ild (l := (ga 5)) rfl rfl (zmr (ymm hG 26 rfl)) hx2 ?_
  refine xt_pure rfl rfl rfl (L1 := [_, _, _, _, _, _, _, _]) rfl ?_
  refine xt_pure rfl rfl rfl rfl ?_
  refine xt_getf rfl rfl (zmr hW) ?_
  refine xt_getf rfl rfl (zmr (ymm hG 6 rfl)) ?_
  refine xt_pure rfl rfl rfl rfl ?_
  obtain ⟨x3, hx3, h⟩ := zgi h
  refine zr_ild (l := (ga 6)) rfl rfl (zmr (ymm hG 27 rfl)) hx3 ?_
  refine xt_pure rfl rfl rfl (L1 := [_, _, _, _, _, _, _, _]) rfl ?_
  refine xt_pure rfl rfl rfl rfl ?_
  refine xt_pure rfl rfl rfl (st1 := .int 0 :: _) rfl ?_
  refine zt_pI 2 rfl rfl rfl rfl rfl rfl ?_
  refine xt_pure rfl rfl rfl rfl ?_
  refine xt_pure rfl rfl rfl rfl ?_
  refine xt_pure rfl rfl rfl rfl ?_
  refine xt_pure rfl rfl rfl (st1 := .int 10 :: _) rfl ?_
  refine xt_ic rfl rfl (fun hb => ?_) (fun hb => ?_)
  · replace h := zif_t (p := x1 ≠ (10 : Int32)) hb h
    refine xt_pure rfl rfl rfl rfl ?_
    obtain ⟨x4, S5, hc6, h⟩ := zbi h
    refine zt_Si rfl rfl (by decide) rfl rfl ⟨rfl, yle rfl, yle rfl⟩ (m := 1) rfl ⟨by omega, by omega⟩ (trF_sortOf hW hL hG hA0 hA1 (by omega) (by omega) hc6) (fr1 := fr - 1) (lo1 := lo - 20) ?_
    exact trF_judged_30 hW hL hG hA0 hA1 hf hl h
  · replace h := zif_f (p := x1 ≠ (10 : Int32)) hb h
    refine xt_pure rfl rfl rfl (st1 := .int 7 :: _) rfl ?_
    refine xt_pure rfl rfl rfl rfl ?_
    exact trF_judged_30 hW hL hG hA0 hA1 hf hl h
def rF_isSeen (gi : Nat → Int32) (ga : Nat → List Int32) (vl : List Int64) (Bs : List (Option zH)) (am : List Int64) (rc320 : Int32 → zS → Option (Int32 × zS))  (N : Nat) (v1 : Int32) (S : zS) : Option (Int32 × zS) := (zg (gI (ga 3) v1) fun x1 => (if x1 = ((-9) : Int32) then (zb (rF_holds gi ga vl Bs am N v1 S) fun x2 S3 => (if x2 = (0 : Int32) then some (0, S3) else some (1, S3))) else (zg (gI (ga 3) v1) fun x5 => (zb (rc320 x5 S) fun x6 S7 => (if x6 = (0 : Int32) then some (0, S7) else (zb (rF_holds gi ga vl Bs am N v1 S7) fun x9 S10 => (if x9 = (0 : Int32) then some (0, S10) else some (1, S10))))))))
theorem trF_isSeen {X : List Int32} {D0 : List xE} {fa : Nat} {p : Nat → Nat} {gi : Nat → Int32} {ga : Nat → List Int32} {vl : List Int64} {refs : List Value} {Bs : List (Option zH)} {am : List Int64} (hW : ((209, .inl (14, 46, .ref fa)) : xE) ∈ D0) (hL : ((235, .inr (1, am.map Value.long)) : xE) ∈ D0) (hG : ∀ e ∈ zgF fa p gi ga vl, e ∈ D0) (hA0 : ((239, .inr (10, refs)) : xE) ∈ D0) (hA1 : ∀ {j : Int32} {z : Option zH}, gI Bs j = some z → ∃ v, gI refs j = some v ∧ zVM D0 v z) {fr0 lo0 : Nat} {rc320 : Int32 → zS → Option (Int32 × zS)} (hrc320 : ∀ {b0 : Int32} {S S2 : zS} {r : Int32}, rc320 b0 S = some (r, S2) → yK X fr0 lo0 320 [.ref 209, .int b0] (zD zTF zaF S D0) 0 0 (zQi zTF zaF D0 r S2))  {N fr lo : Nat} (hf0 : fr0 + 1 ≤ fr) (hl0 : lo0 + 21 ≤ lo) (hf : 5 + 2 * (N / 5) ≤ fr) (hl : 126 + 57 * (N / 5) ≤ lo) {v1 : Int32} {S S2 : zS} {r : Int32}  (h : rF_isSeen gi ga vl Bs am rc320 N v1 S = some (r, S2)) : yK X fr lo 320 [.ref 209, .int v1] (zD zTF zaF S D0) 0 0 (zQi zTF zaF D0 r S2) := by
  unfold rF_isSeen at h
  refine yK.of rfl (yle rfl) (L := [_, _]) rfl ?_
  refine xt_pure rfl rfl rfl rfl ?_
  refine xt_getf rfl rfl (zmr hW) ?_
  refine xt_getf rfl rfl (zmr (ymm hG 3 rfl)) ?_
  refine xt_pure rfl rfl rfl rfl ?_
  obtain ⟨x1, hx1, h⟩ := zgi h
  refine zr_ild (l := (ga 3)) rfl rfl (zmr (ymm hG 24 rfl)) hx1 ?_
  refine xt_pure rfl rfl rfl (st1 := .int (-9) :: _) rfl ?_
  refine xt_ic rfl rfl (fun hb => ?_) (fun hb => ?_)
  · replace h := zif_t (p := x1 = ((-9) : Int32)) hb h
    refine xt_pure rfl rfl rfl rfl ?_
    refine xt_pure rfl rfl rfl rfl ?_
    obtain ⟨x2, S3, hc4, h⟩ := zbi h
    refine zt_Vi rfl rfl rfl rfl (xmC 176 rfl) ⟨rfl, rfl, yle rfl, yle rfl⟩ (m := 2) rfl ⟨by omega, by omega⟩ (trF_holds hW hL hG hA0 hA1 (by omega) (by omega) hc4) (fr1 := fr - 1) (lo1 := lo - 21) ?_
    refine xt_if rfl rfl (fun hb => ?_) (fun hb => ?_)
    · replace h := zif_t (p := x2 = (0 : Int32)) hb h
      refine xt_pure rfl rfl rfl (st1 := .int 0 :: _) rfl ?_
      cases h
      exact xt_iret rfl rfl rfl rfl ⟨rfl, rfl⟩
    · replace h := zif_f (p := x2 = (0 : Int32)) hb h
      refine xt_pure rfl rfl rfl (st1 := .int 1 :: _) rfl ?_
      refine xt_pure rfl rfl rfl rfl ?_
      cases h
      exact xt_iret rfl rfl rfl rfl ⟨rfl, rfl⟩
  · replace h := zif_f (p := x1 = ((-9) : Int32)) hb h
    refine xt_pure rfl rfl rfl rfl ?_
    refine xt_pure rfl rfl rfl rfl ?_
    refine xt_getf rfl rfl (zmr hW) ?_
    refine xt_getf rfl rfl (zmr (ymm hG 3 rfl)) ?_
    refine xt_pure rfl rfl rfl rfl ?_
    obtain ⟨x5, hx5, h⟩ := zgi h
    refine zr_ild (l := (ga 3)) rfl rfl (zmr (ymm hG 24 rfl)) hx5 ?_
    obtain ⟨x6, S7, hc8, h⟩ := zbi h
    refine zt_Vi rfl rfl rfl rfl (xmC 176 rfl) ⟨rfl, rfl, yle rfl, yle rfl⟩ (m := 2) rfl ⟨by omega, by omega⟩ (hrc320 hc8) (fr1 := fr0) (lo1 := lo0) ?_
    refine xt_if rfl rfl (fun hb => ?_) (fun hb => ?_)
    · replace h := zif_t (p := x6 = (0 : Int32)) hb h
      refine xt_pure rfl rfl rfl (st1 := .int 0 :: _) rfl ?_
      cases h
      exact xt_iret rfl rfl rfl rfl ⟨rfl, rfl⟩
    · replace h := zif_f (p := x6 = (0 : Int32)) hb h
      refine xt_pure rfl rfl rfl rfl ?_
      refine xt_pure rfl rfl rfl rfl ?_
      obtain ⟨x9, S10, hc11, h⟩ := zbi h
      refine zt_Vi rfl rfl rfl rfl (xmC 176 rfl) ⟨rfl, rfl, yle rfl, yle rfl⟩ (m := 2) rfl ⟨by omega, by omega⟩ (trF_holds hW hL hG hA0 hA1 (by omega) (by omega) hc11) (fr1 := fr - 1) (lo1 := lo - 21) ?_
      refine xt_if rfl rfl (fun hb => ?_) (fun hb => ?_)
      · replace h := zif_t (p := x9 = (0 : Int32)) hb h
        refine xt_pure rfl rfl rfl (st1 := .int 0 :: _) rfl ?_
        cases h
        exact xt_iret rfl rfl rfl rfl ⟨rfl, rfl⟩
      · replace h := zif_f (p := x9 = (0 : Int32)) hb h
        refine xt_pure rfl rfl rfl (st1 := .int 1 :: _) rfl ?_
        refine xt_pure rfl rfl rfl rfl ?_
        cases h
        exact xt_iret rfl rfl rfl rfl ⟨rfl, rfl⟩
def rF_sfix (gi : Nat → Int32) (ga : Nat → List Int32) (vl : List Int64) (Bs : List (Option zH)) (am : List Int64) (N : Nat) : Nat → (Int32 → zS → Option (Int32 × zS))
  | 0 => fun _ _ => none
  | n + 1 => fun y0 S => rF_isSeen gi ga vl Bs am (rF_sfix gi ga vl Bs am N n) N y0 S
theorem trF_sfix {X : List Int32} {D0 : List xE} {fa : Nat} {p : Nat → Nat} {gi : Nat → Int32} {ga : Nat → List Int32} {vl : List Int64} {refs : List Value} {Bs : List (Option zH)} {am : List Int64} (hW : ((209, .inl (14, 46, .ref fa)) : xE) ∈ D0) (hL : ((235, .inr (1, am.map Value.long)) : xE) ∈ D0) (hG : ∀ e ∈ zgF fa p gi ga vl, e ∈ D0) (hA0 : ((239, .inr (10, refs)) : xE) ∈ D0) (hA1 : ∀ {j : Int32} {z : Option zH}, gI Bs j = some z → ∃ v, gI refs j = some v ∧ zVM D0 v z) {N : Nat} : ∀ {n fr lo : Nat}, 5 + 2 * (N / 5) + 1 * n ≤ fr → 126 + 57 * (N / 5) + 21 * n ≤ lo → (∀ {b0 : Int32} {S S2 : zS} {r : Int32}, rF_sfix gi ga vl Bs am N n b0 S = some (r, S2) → yK X fr lo 320 [.ref 209, .int b0] (zD zTF zaF S D0) 0 0 (zQi zTF zaF D0 r S2)) := by
  intro n
  induction n with
  | zero =>
    intro fr lo hf hl
    exact fun h => absurd h (by intro h; cases h)
  | succ n ih =>
    intro fr lo hf hl
    exact fun h => trF_isSeen hW hL hG hA0 hA1 (fun h => (ih (fr := fr - 1) (lo := lo - 21) (by omega) (by omega)) h) (by omega) (by omega) (by omega) (by omega) h
def rF_keepTold (gi : Nat → Int32) (ga : Nat → List Int32) (vl : List Int64) (Bs : List (Option zH)) (am : List Int64)  (N : Nat) (v1 : Int32) (S : zS) : Option (Unit × zS) := some ((), (zsI (zsI (zsI S 7 (zI S 5)) 8 (zI S 6)) 9 v1))
theorem trF_keepTold {X : List Int32} {D0 : List xE} {fa : Nat} {p : Nat → Nat} {gi : Nat → Int32} {ga : Nat → List Int32} {vl : List Int64} {refs : List Value} {Bs : List (Option zH)} {am : List Int64} (hW : ((209, .inl (14, 46, .ref fa)) : xE) ∈ D0) (hL : ((235, .inr (1, am.map Value.long)) : xE) ∈ D0) (hG : ∀ e ∈ zgF fa p gi ga vl, e ∈ D0) (hA0 : ((239, .inr (10, refs)) : xE) ∈ D0) (hA1 : ∀ {j : Int32} {z : Option zH}, gI Bs j = some z → ∃ v, gI refs j = some v ∧ zVM D0 v z)  {N fr lo : Nat} (hf : 0 ≤ fr) (hl : 0 ≤ lo) {v1 : Int32} {S S2 : zS} {r : Unit}  (h : rF_keepTold gi ga vl Bs am N v1 S = some (r, S2)) : yK X fr lo 317 [.ref 209, .int v1] (zD zTF zaF S D0) 0 0 (zQv zTF zaF D0 r S2) := by
  unfold rF_keepTold at h
  refine yK.of rfl (yle rfl) (L := [_, _]) rfl ?_
  refine xt_pure rfl rfl rfl rfl ?_
  refine xt_pure rfl rfl rfl rfl ?_
  refine zt_gI 5 rfl rfl rfl rfl (x := (zI S 5)) rfl ?_
  refine zt_pI 7 rfl rfl rfl rfl rfl rfl ?_
  refine xt_pure rfl rfl rfl rfl ?_
  refine xt_pure rfl rfl rfl rfl ?_
  refine zt_gI 6 rfl rfl rfl rfl (x := (zI S 6)) rfl ?_
  refine zt_pI 8 rfl rfl rfl rfl rfl rfl ?_
  refine xt_pure rfl rfl rfl rfl ?_
  refine xt_pure rfl rfl rfl rfl ?_
  refine zt_pI 9 rfl rfl rfl rfl rfl rfl ?_
  cases h
  exact xt_vret rfl rfl rfl ⟨rfl, rfl⟩
def rF_keepFindings_6 (gi : Nat → Int32) (ga : Nat → List Int32) (vl : List Int64) (Bs : List (Option zH)) (am : List Int64)  (N : Nat)  : Nat → Int32 → zS → Option (Unit × zS)
  | 0, _, _ => none
  | n + 1, l1, S => (if (5 * (zI S 11)).toInt ≤ l1.toInt then (zb (rF_keepTold gi ga vl Bs am N (-9) S) fun _ S2 => some ((), S2)) else (zg (gI (zA S 17) l1) fun x4 => (if zok (zA S 18) l1 then (rF_keepFindings_6 gi ga vl Bs am N n) (l1 + 1) (zsA S 18 (zs (zA S 18) l1 x4)) else none)))
theorem trF_keepFindings_6 {X : List Int32} {D0 : List xE} {fa : Nat} {p : Nat → Nat} {gi : Nat → Int32} {ga : Nat → List Int32} {vl : List Int64} {refs : List Value} {Bs : List (Option zH)} {am : List Int64} (hW : ((209, .inl (14, 46, .ref fa)) : xE) ∈ D0) (hL : ((235, .inr (1, am.map Value.long)) : xE) ∈ D0) (hG : ∀ e ∈ zgF fa p gi ga vl, e ∈ D0) (hA0 : ((239, .inr (10, refs)) : xE) ∈ D0) (hA1 : ∀ {j : Int32} {z : Option zH}, gI Bs j = some z → ∃ v, gI refs j = some v ∧ zVM D0 v z)  {N fr lo : Nat}   (hf : 1 ≤ fr) (hl : 21 ≤ lo)  : ∀ {n : Nat} {l1 : Int32}  {S S2 : zS} {r : Unit} , rF_keepFindings_6 gi ga vl Bs am N n l1 S = some (r, S2) → yT X fr lo 316 6 [some (.ref 209), some (.int l1)] [] (zD zTF zaF S D0) 0 0 (zQv zTF zaF D0 r S2) := by
  intro n
  induction n with
  | zero =>
    intro l1  S S2 r  h
    have h : (none : Option (Unit × zS)) = some (r, S2) := h
    cases h
  | succ n ih =>
    intro l1  S S2 r  h
    rw [rF_keepFindings_6] at h
    refine xt_pure rfl rfl rfl rfl ?_
    refine xt_pure rfl rfl rfl (st1 := .int 5 :: _) rfl ?_
    refine xt_pure rfl rfl rfl rfl ?_
    refine zt_gI 11 rfl rfl rfl rfl (x := (zI S 11)) rfl ?_
    refine xt_pure rfl rfl rfl rfl ?_
    refine xt_ic rfl rfl (fun hb => ?_) (fun hb => ?_)
    · replace h := zif_t (p := (5 * (zI S 11)).toInt ≤ l1.toInt) hb h
      refine xt_pure rfl rfl rfl rfl ?_
      refine xt_pure rfl rfl rfl (st1 := .int (-9) :: _) rfl ?_
      obtain ⟨_, S2, hc3, h⟩ := zbi h
      refine zt_Vv rfl rfl rfl rfl (xmC 176 rfl) ⟨rfl, rfl, yle rfl, yle rfl⟩ (m := 2) rfl ⟨by omega, by omega⟩ (trF_keepTold hW hL hG hA0 hA1 (by omega) (by omega) hc3) (fr1 := fr - 1) (lo1 := lo - 21) ?_
      cases h
      exact xt_vret rfl rfl rfl ⟨rfl, rfl⟩
    · replace h := zif_f (p := (5 * (zI S 11)).toInt ≤ l1.toInt) hb h
      refine xt_pure rfl rfl rfl rfl ?_
      refine xt_getf rfl rfl (xmC 203 rfl) ?_
      refine xt_pure rfl rfl rfl rfl ?_
      refine xt_pure rfl rfl rfl rfl ?_
      refine xt_getf rfl rfl (xmC 202 rfl) ?_
      refine xt_pure rfl rfl rfl rfl ?_
      obtain ⟨x4, hx4, h⟩ := zgi h
      refine zr_ild (l := (zA S 17)) rfl rfl (zmA 17 rfl rfl (l := (zA S 17)) rfl) hx4 ?_
      obtain ⟨hg, h⟩ := zgd h
      refine zt_ist 18 rfl rfl rfl rfl (l := (zA S 18)) rfl hg ?_
      refine xt_pure rfl rfl rfl (L1 := [_, some (.int (_ + 1))]) rfl ?_
      refine xt_pure rfl rfl rfl rfl ?_
      exact ih h
def rF_keepFindings (gi : Nat → Int32) (ga : Nat → List Int32) (vl : List Int64) (Bs : List (Option zH)) (am : List Int64)  (N : Nat)  (S : zS) : Option (Unit × zS) := rF_keepFindings_6 gi ga vl Bs am N N 0 (zsI S 12 (zI S 11))
theorem trF_keepFindings {X : List Int32} {D0 : List xE} {fa : Nat} {p : Nat → Nat} {gi : Nat → Int32} {ga : Nat → List Int32} {vl : List Int64} {refs : List Value} {Bs : List (Option zH)} {am : List Int64} (hW : ((209, .inl (14, 46, .ref fa)) : xE) ∈ D0) (hL : ((235, .inr (1, am.map Value.long)) : xE) ∈ D0) (hG : ∀ e ∈ zgF fa p gi ga vl, e ∈ D0) (hA0 : ((239, .inr (10, refs)) : xE) ∈ D0) (hA1 : ∀ {j : Int32} {z : Option zH}, gI Bs j = some z → ∃ v, gI refs j = some v ∧ zVM D0 v z)  {N fr lo : Nat} (hf : 1 ≤ fr) (hl : 21 ≤ lo)  {S S2 : zS} {r : Unit}  (h : rF_keepFindings gi ga vl Bs am N  S = some (r, S2)) : yK X fr lo 316 [.ref 209] (zD zTF zaF S D0) 0 0 (zQv zTF zaF D0 r S2) := by
  unfold rF_keepFindings at h
  refine yK.of rfl (yle rfl) (L := [_, _]) rfl ?_
  refine xt_pure rfl rfl rfl rfl ?_
  refine xt_pure rfl rfl rfl rfl ?_
  refine zt_gI 11 rfl rfl rfl rfl (x := (zI S 11)) rfl ?_
  refine zt_pI 12 rfl rfl rfl rfl rfl rfl ?_
  refine xt_pure rfl rfl rfl (st1 := .int 0 :: _) rfl ?_
  refine xt_pure rfl rfl rfl (L1 := [_, _]) rfl ?_
  exact trF_keepFindings_6 hW hL hG hA0 hA1 hf hl h
