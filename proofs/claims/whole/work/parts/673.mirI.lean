/-! MIRRORS: the inspector -/
def cE_failing (gi : Nat → Int32) (ga : Nat → List Int32) (As : List (Option zO)) (ne : Int32) (am : List Int64)  (N : Nat) (v1 : Int32) (S : zS) : Option (Int32 × zS) := (zb (cE_fail gi ga As ne am N v1 S) fun _ S2 => some (v1, S2))
theorem tcE_failing {X : List Int32} {D0 : List xE} {fa aa : Nat} {p : Nat → Nat} {gi : Nat → Int32} {ga : Nat → List Int32} {refs : List Value} {As : List (Option zO)} {ne : Int32} {am : List Int64} (hW2 : ((110, .inl (10, 2, .ref fa)) : xE) ∈ D0) (hW3 : ((110, .inl (10, 3, .ref aa)) : xE) ∈ D0) (hL0 : ((106, .inl (5, 2, .int ne)) : xE) ∈ D0) (hL1 : ((107, .inr (1, am.map Value.long)) : xE) ∈ D0) (hG : ∀ e ∈ zgE fa p gi ga, e ∈ D0) (hA0 : ((aa, .inr (7, refs)) : xE) ∈ D0) (hA1 : ∀ {j : Int32} {z : Option zO}, gI As j = some z → ∃ v, gI refs j = some v ∧ zVC D0 v z)  {N fr lo : Nat} (hf : 1 ≤ fr) (hl : 21 ≤ lo) {v1 : Int32} {S S2 : zS} {r : Int32}  (h : cE_failing gi ga As ne am N v1 S = some (r, S2)) : yK X fr lo 154 [.ref 118, .int v1] (zD zTE zaE S D0) 0 0 (zQi zTE zaE D0 r S2) := by
  unfold cE_failing at h
  refine yK.of rfl (yle rfl) (L := [_, _]) rfl ?_
  refine xt_pure rfl rfl rfl rfl ?_
  refine xt_getf rfl rfl (xmC 150 rfl) ?_
  refine xt_pure rfl rfl rfl rfl ?_
  obtain ⟨_, S2, hc3, h⟩ := zbi h
  refine zt_Vv rfl rfl rfl rfl (xmC 142 rfl) ⟨rfl, rfl, yle rfl, yle rfl⟩ (m := 2) rfl ⟨by omega, by omega⟩ (tcE_fail hW2 hW3 hL0 hL1 hG hA0 hA1 (by omega) (by omega) hc3) (fr1 := fr - 1) (lo1 := lo - 21) ?_
  refine xt_pure rfl rfl rfl rfl ?_
  cases h
  exact xt_iret rfl rfl rfl rfl ⟨rfl, rfl⟩
def cE_faultOfSingle (gi : Nat → Int32) (ga : Nat → List Int32) (As : List (Option zO)) (ne : Int32) (am : List Int64)  (N : Nat) (v2 : Int32) (op3 : zO) (S : zS) : Option (Int32 × zS) := (zb (cE_holds gi ga As ne am N op3 0 S) fun x1 S2 => (if x1 ≠ (0 : Int32) then (zg (gI op3.2.2.1 0) fun x4 => (if op3.2.1 ≠ (1 : Int32) then some (8, S2) else (zg (gI (ga 4) v2) fun x5 => (if x4.toInt < x5.toInt64.toInt then some (8, S2) else (zg (gI (ga 5) v2) fun x6 => (if x4.toInt ≤ x6.toInt64.toInt then some (0, S2) else some (8, S2))))))) else (zb (cE_failing gi ga As ne am N 3 S2) fun x7 S8 => some (x7, S8))))
theorem tcE_faultOfSingle {X : List Int32} {D0 : List xE} {fa aa : Nat} {p : Nat → Nat} {gi : Nat → Int32} {ga : Nat → List Int32} {refs : List Value} {As : List (Option zO)} {ne : Int32} {am : List Int64} (hW2 : ((110, .inl (10, 2, .ref fa)) : xE) ∈ D0) (hW3 : ((110, .inl (10, 3, .ref aa)) : xE) ∈ D0) (hL0 : ((106, .inl (5, 2, .int ne)) : xE) ∈ D0) (hL1 : ((107, .inr (1, am.map Value.long)) : xE) ∈ D0) (hG : ∀ e ∈ zgE fa p gi ga, e ∈ D0) (hA0 : ((aa, .inr (7, refs)) : xE) ∈ D0) (hA1 : ∀ {j : Int32} {z : Option zO}, gI As j = some z → ∃ v, gI refs j = some v ∧ zVC D0 v z)  {N fr lo : Nat} (hf : 2 ≤ fr) (hl : 42 ≤ lo) {v2 : Int32} {oap3 : Nat} {op3 : zO}  {S S2 : zS} {r : Int32} (hop3 : zOC D0 oap3 op3) (h : cE_faultOfSingle gi ga As ne am N v2 op3 S = some (r, S2)) : yK X fr lo 159 [.ref 118, .ref fa, .int v2, .ref oap3] (zD zTE zaE S D0) 0 0 (zQi zTE zaE D0 r S2) := by
  unfold cE_faultOfSingle at h
  have hkp3 := hop3
  obtain ⟨iap3, rap3, rrp3, q0p3, q1p3, q2p3, q3p3, q4p3, q5p3, q6p3⟩ := hkp3
  refine yK.of rfl (yle rfl) (L := [_, _, _, _, _, _]) rfl ?_
  refine xt_pure rfl rfl rfl rfl ?_
  refine xt_pure rfl rfl rfl (st1 := .int 0 :: _) rfl ?_
  obtain ⟨x1, S2, hc3, h⟩ := zbi h
  refine zt_Vi rfl rfl rfl rfl (zmr q0p3) ⟨rfl, rfl, yle rfl, yle rfl⟩ (m := 2) rfl ⟨by omega, by omega⟩ (tcE_holds hW2 hW3 hL0 hL1 hG hA0 hA1 (by omega) (by omega) hop3 hc3) (fr1 := fr - 1) (lo1 := lo - 21) ?_
  refine xt_if rfl rfl (fun hb => ?_) (fun hb => ?_)
  · replace h := zif_t (p := x1 ≠ (0 : Int32)) hb h
    refine xt_pure rfl rfl rfl rfl ?_
    refine xt_getf rfl rfl (zmr q2p3) ?_
    refine xt_pure rfl rfl rfl (st1 := .int 0 :: _) rfl ?_
    obtain ⟨x4, hx4, h⟩ := zgi h
    refine zr_lld (l := op3.2.2.1) rfl rfl (zmr q4p3) hx4 ?_
    refine xt_pure rfl rfl rfl (L1 := [_, _, _, _, _, _]) rfl ?_
    refine xt_pure rfl rfl rfl rfl ?_
    refine xt_getf rfl rfl (zmr q1p3) ?_
    refine xt_pure rfl rfl rfl (st1 := .int 1 :: _) rfl ?_
    refine xt_ic rfl rfl (fun hb => ?_) (fun hb => ?_)
    · replace h := zif_t (p := op3.2.1 ≠ (1 : Int32)) hb h
      refine xt_pure rfl rfl rfl (st1 := .int 8 :: _) rfl ?_
      refine xt_pure rfl rfl rfl rfl ?_
      cases h
      exact xt_iret rfl rfl rfl rfl ⟨rfl, rfl⟩
    · replace h := zif_f (p := op3.2.1 ≠ (1 : Int32)) hb h
      refine xt_pure rfl rfl rfl rfl ?_
      refine xt_pure rfl rfl rfl rfl ?_
      refine xt_getf rfl rfl (zmr (ymm hG 4 rfl)) ?_
      refine xt_pure rfl rfl rfl rfl ?_
      obtain ⟨x5, hx5, h⟩ := zgi h
      refine zr_ild (l := (ga 4)) rfl rfl (zmr (ymm hG 22 rfl)) hx5 ?_
      refine xt_pure rfl rfl rfl rfl ?_
      refine zt_lc rfl rfl rfl (fun hb => ?_) (fun hb => ?_)
      · replace h := zif_t (p := x4.toInt < x5.toInt64.toInt) hb h
        refine xt_pure rfl rfl rfl (st1 := .int 8 :: _) rfl ?_
        refine xt_pure rfl rfl rfl rfl ?_
        cases h
        exact xt_iret rfl rfl rfl rfl ⟨rfl, rfl⟩
      · replace h := zif_f (p := x4.toInt < x5.toInt64.toInt) hb h
        refine xt_pure rfl rfl rfl rfl ?_
        refine xt_pure rfl rfl rfl rfl ?_
        refine xt_getf rfl rfl (zmr (ymm hG 5 rfl)) ?_
        refine xt_pure rfl rfl rfl rfl ?_
        obtain ⟨x6, hx6, h⟩ := zgi h
        refine zr_ild (l := (ga 5)) rfl rfl (zmr (ymm hG 23 rfl)) hx6 ?_
        refine xt_pure rfl rfl rfl rfl ?_
        refine zt_lc rfl rfl rfl (fun hb => ?_) (fun hb => ?_)
        · replace h := zif_t (p := x4.toInt ≤ x6.toInt64.toInt) hb h
          refine xt_pure rfl rfl rfl (st1 := .int 0 :: _) rfl ?_
          cases h
          exact xt_iret rfl rfl rfl rfl ⟨rfl, rfl⟩
        · replace h := zif_f (p := x4.toInt ≤ x6.toInt64.toInt) hb h
          refine xt_pure rfl rfl rfl (st1 := .int 8 :: _) rfl ?_
          refine xt_pure rfl rfl rfl rfl ?_
          cases h
          exact xt_iret rfl rfl rfl rfl ⟨rfl, rfl⟩
  · replace h := zif_f (p := x1 ≠ (0 : Int32)) hb h
    refine xt_pure rfl rfl rfl rfl ?_
    refine xt_pure rfl rfl rfl (st1 := .int 3 :: _) rfl ?_
    obtain ⟨x7, S8, hc9, h⟩ := zbi h
    refine zt_Vi rfl rfl rfl rfl (xmC 150 rfl) ⟨rfl, rfl, yle rfl, yle rfl⟩ (m := 2) rfl ⟨by omega, by omega⟩ (tcE_failing hW2 hW3 hL0 hL1 hG hA0 hA1 (by omega) (by omega) hc9) (fr1 := fr - 1) (lo1 := lo - 21) ?_
    cases h
    exact xt_iret rfl rfl rfl rfl ⟨rfl, rfl⟩
def cE_faultOfMany (gi : Nat → Int32) (ga : Nat → List Int32) (As : List (Option zO)) (ne : Int32) (am : List Int64)  (N : Nat) (v2 : Int32) (op3 : zO) (S : zS) : Option (Int32 × zS) := (zg (gI (ga 6) v2) fun x1 => (zb (cE_holds gi ga As ne am N op3 (x1 - 1) S) fun x2 S3 => (if x2 ≠ (0 : Int32) then (zb (cE_trues gi ga As ne am N op3 S3) fun x5 S6 => (if x1.toInt < op3.2.1.toInt then some (8, S6) else (zg (gI (ga 4) v2) fun x8 => (if x5.toInt < x8.toInt then some (8, S6) else (zg (gI (ga 5) v2) fun x9 => (if x5.toInt ≤ x9.toInt then some (0, S6) else some (8, S6))))))) else (zb (cE_failing gi ga As ne am N 3 S3) fun x10 S11 => some (x10, S11)))))
theorem tcE_faultOfMany {X : List Int32} {D0 : List xE} {fa aa : Nat} {p : Nat → Nat} {gi : Nat → Int32} {ga : Nat → List Int32} {refs : List Value} {As : List (Option zO)} {ne : Int32} {am : List Int64} (hW2 : ((110, .inl (10, 2, .ref fa)) : xE) ∈ D0) (hW3 : ((110, .inl (10, 3, .ref aa)) : xE) ∈ D0) (hL0 : ((106, .inl (5, 2, .int ne)) : xE) ∈ D0) (hL1 : ((107, .inr (1, am.map Value.long)) : xE) ∈ D0) (hG : ∀ e ∈ zgE fa p gi ga, e ∈ D0) (hA0 : ((aa, .inr (7, refs)) : xE) ∈ D0) (hA1 : ∀ {j : Int32} {z : Option zO}, gI As j = some z → ∃ v, gI refs j = some v ∧ zVC D0 v z)  {N fr lo : Nat} (hf : 2 ≤ fr) (hl : 42 ≤ lo) {v2 : Int32} {oap3 : Nat} {op3 : zO}  {S S2 : zS} {r : Int32} (hop3 : zOC D0 oap3 op3) (h : cE_faultOfMany gi ga As ne am N v2 op3 S = some (r, S2)) : yK X fr lo 155 [.ref 118, .ref fa, .int v2, .ref oap3] (zD zTE zaE S D0) 0 0 (zQi zTE zaE D0 r S2) := by
  unfold cE_faultOfMany at h
  have hkp3 := hop3
  obtain ⟨iap3, rap3, rrp3, q0p3, q1p3, q2p3, q3p3, q4p3, q5p3, q6p3⟩ := hkp3
  refine yK.of rfl (yle rfl) (L := [_, _, _, _, _, _]) rfl ?_
  refine xt_pure rfl rfl rfl rfl ?_
  refine xt_getf rfl rfl (zmr (ymm hG 6 rfl)) ?_
  refine xt_pure rfl rfl rfl rfl ?_
  obtain ⟨x1, hx1, h⟩ := zgi h
  refine zr_ild (l := (ga 6)) rfl rfl (zmr (ymm hG 24 rfl)) hx1 ?_
  refine xt_pure rfl rfl rfl (L1 := [_, _, _, _, _, _]) rfl ?_
  refine xt_pure rfl rfl rfl rfl ?_
  refine xt_pure rfl rfl rfl rfl ?_
  refine xt_pure rfl rfl rfl (st1 := .int 1 :: _) rfl ?_
  refine xt_pure rfl rfl rfl rfl ?_
  obtain ⟨x2, S3, hc4, h⟩ := zbi h
  refine zt_Vi rfl rfl rfl rfl (zmr q0p3) ⟨rfl, rfl, yle rfl, yle rfl⟩ (m := 2) rfl ⟨by omega, by omega⟩ (tcE_holds hW2 hW3 hL0 hL1 hG hA0 hA1 (by omega) (by omega) hop3 hc4) (fr1 := fr - 1) (lo1 := lo - 21) ?_
  refine xt_if rfl rfl (fun hb => ?_) (fun hb => ?_)
  · replace h := zif_t (p := x2 ≠ (0 : Int32)) hb h
    refine xt_pure rfl rfl rfl rfl ?_
    obtain ⟨x5, S6, hc7, h⟩ := zbi h
    refine zt_Vi rfl rfl rfl rfl (zmr q0p3) ⟨rfl, rfl, yle rfl, yle rfl⟩ (m := 3) rfl ⟨by omega, by omega⟩ (tcE_trues hW2 hW3 hL0 hL1 hG hA0 hA1 (by omega) (by omega) hop3 hc7) (fr1 := fr - 1) (lo1 := lo - 22) ?_
    refine xt_pure rfl rfl rfl (L1 := [_, _, _, _, _, _]) rfl ?_
    refine xt_pure rfl rfl rfl rfl ?_
    refine xt_getf rfl rfl (zmr q1p3) ?_
    refine xt_pure rfl rfl rfl rfl ?_
    refine xt_ic rfl rfl (fun hb => ?_) (fun hb => ?_)
    · replace h := zif_t (p := x1.toInt < op3.2.1.toInt) hb h
      refine xt_pure rfl rfl rfl (st1 := .int 8 :: _) rfl ?_
      refine xt_pure rfl rfl rfl rfl ?_
      cases h
      exact xt_iret rfl rfl rfl rfl ⟨rfl, rfl⟩
    · replace h := zif_f (p := x1.toInt < op3.2.1.toInt) hb h
      refine xt_pure rfl rfl rfl rfl ?_
      refine xt_pure rfl rfl rfl rfl ?_
      refine xt_getf rfl rfl (zmr (ymm hG 4 rfl)) ?_
      refine xt_pure rfl rfl rfl rfl ?_
      obtain ⟨x8, hx8, h⟩ := zgi h
      refine zr_ild (l := (ga 4)) rfl rfl (zmr (ymm hG 22 rfl)) hx8 ?_
      refine xt_ic rfl rfl (fun hb => ?_) (fun hb => ?_)
      · replace h := zif_t (p := x5.toInt < x8.toInt) hb h
        refine xt_pure rfl rfl rfl (st1 := .int 8 :: _) rfl ?_
        refine xt_pure rfl rfl rfl rfl ?_
        cases h
        exact xt_iret rfl rfl rfl rfl ⟨rfl, rfl⟩
      · replace h := zif_f (p := x5.toInt < x8.toInt) hb h
        refine xt_pure rfl rfl rfl rfl ?_
        refine xt_pure rfl rfl rfl rfl ?_
        refine xt_getf rfl rfl (zmr (ymm hG 5 rfl)) ?_
        refine xt_pure rfl rfl rfl rfl ?_
        obtain ⟨x9, hx9, h⟩ := zgi h
        refine zr_ild (l := (ga 5)) rfl rfl (zmr (ymm hG 23 rfl)) hx9 ?_
        refine xt_ic rfl rfl (fun hb => ?_) (fun hb => ?_)
        · replace h := zif_t (p := x5.toInt ≤ x9.toInt) hb h
          refine xt_pure rfl rfl rfl (st1 := .int 0 :: _) rfl ?_
          cases h
          exact xt_iret rfl rfl rfl rfl ⟨rfl, rfl⟩
        · replace h := zif_f (p := x5.toInt ≤ x9.toInt) hb h
          refine xt_pure rfl rfl rfl (st1 := .int 8 :: _) rfl ?_
          refine xt_pure rfl rfl rfl rfl ?_
          cases h
          exact xt_iret rfl rfl rfl rfl ⟨rfl, rfl⟩
  · replace h := zif_f (p := x2 ≠ (0 : Int32)) hb h
    refine xt_pure rfl rfl rfl rfl ?_
    refine xt_pure rfl rfl rfl (st1 := .int 3 :: _) rfl ?_
    obtain ⟨x10, S11, hc12, h⟩ := zbi h
    refine zt_Vi rfl rfl rfl rfl (xmC 150 rfl) ⟨rfl, rfl, yle rfl, yle rfl⟩ (m := 2) rfl ⟨by omega, by omega⟩ (tcE_failing hW2 hW3 hL0 hL1 hG hA0 hA1 (by omega) (by omega) hc12) (fr1 := fr - 1) (lo1 := lo - 21) ?_
    cases h
    exact xt_iret rfl rfl rfl rfl ⟨rfl, rfl⟩
def cE_faultOfText_11 (gi : Nat → Int32) (ga : Nat → List Int32) (As : List (Option zO)) (ne : Int32) (am : List Int64)  (N : Nat)  : Nat → zO → Int32 → zS → Option (Int32 × zS)
  | 0, _, _, _ => none
  | n + 1, ol0, l2, S => (if ol0.2.1.toInt ≤ l2.toInt then some (0, S) else (zg (gI ol0.2.2.1 l2) fun x1 => (if x1.toInt < 32 then some (8, S) else (zg (gI ol0.2.2.1 l2) fun x2 => (if x2.toInt ≤ 126 then (cE_faultOfText_11 gi ga As ne am N n) ol0 (l2 + 1) S else some (8, S))))))
theorem tcE_faultOfText_11 {X : List Int32} {D0 : List xE} {fa aa : Nat} {p : Nat → Nat} {gi : Nat → Int32} {ga : Nat → List Int32} {refs : List Value} {As : List (Option zO)} {ne : Int32} {am : List Int64} (hW2 : ((110, .inl (10, 2, .ref fa)) : xE) ∈ D0) (hW3 : ((110, .inl (10, 3, .ref aa)) : xE) ∈ D0) (hL0 : ((106, .inl (5, 2, .int ne)) : xE) ∈ D0) (hL1 : ((107, .inr (1, am.map Value.long)) : xE) ∈ D0) (hG : ∀ e ∈ zgE fa p gi ga, e ∈ D0) (hA0 : ((aa, .inr (7, refs)) : xE) ∈ D0) (hA1 : ∀ {j : Int32} {z : Option zO}, gI As j = some z → ∃ v, gI refs j = some v ∧ zVC D0 v z)  {N fr lo : Nat}   (hf : 0 ≤ fr) (hl : 0 ≤ lo)  : ∀ {n : Nat} {oal0 : Nat} {ol0 : zO}  {l2 : Int32} {d1 : Int32} {S S2 : zS} {r : Int32} (hol0 : zOC D0 oal0 ol0), cE_faultOfText_11 gi ga As ne am N n ol0 l2 S = some (r, S2) → yT X fr lo 156 11 [some (.ref oal0), some (.int d1), some (.int l2)] [] (zD zTE zaE S D0) 0 0 (zQi zTE zaE D0 r S2) := by
  intro n
  induction n with
  | zero =>
    intro oal0 ol0 l2 d1 S S2 r hol0  h
    have h : (none : Option (Int32 × zS)) = some (r, S2) := h
    cases h
  | succ n ih =>
    intro oal0 ol0 l2 d1 S S2 r hol0  h
    rw [cE_faultOfText_11] at h
    have hkl0 := hol0
    obtain ⟨ial0, ral0, rrl0, q0l0, q1l0, q2l0, q3l0, q4l0, q5l0, q6l0⟩ := hkl0
    refine xt_pure rfl rfl rfl rfl ?_
    refine xt_pure rfl rfl rfl rfl ?_
    refine xt_getf rfl rfl (zmr q1l0) ?_
    refine xt_ic rfl rfl (fun hb => ?_) (fun hb => ?_)
    · replace h := zif_t (p := ol0.2.1.toInt ≤ l2.toInt) hb h
      refine xt_pure rfl rfl rfl (st1 := .int 0 :: _) rfl ?_
      cases h
      exact xt_iret rfl rfl rfl rfl ⟨rfl, rfl⟩
    · replace h := zif_f (p := ol0.2.1.toInt ≤ l2.toInt) hb h
      refine xt_pure rfl rfl rfl rfl ?_
      refine xt_getf rfl rfl (zmr q2l0) ?_
      refine xt_pure rfl rfl rfl rfl ?_
      obtain ⟨x1, hx1, h⟩ := zgi h
      refine zr_lld (l := ol0.2.2.1) rfl rfl (zmr q4l0) hx1 ?_
      refine xt_pure rfl rfl rfl (st1 := .long 32 :: _) rfl ?_
      refine zt_lc rfl rfl rfl (fun hb => ?_) (fun hb => ?_)
      · replace h := zif_t (p := x1.toInt < 32) hb h
        refine xt_pure rfl rfl rfl (st1 := .int 8 :: _) rfl ?_
        cases h
        exact xt_iret rfl rfl rfl rfl ⟨rfl, rfl⟩
      · replace h := zif_f (p := x1.toInt < 32) hb h
        refine xt_pure rfl rfl rfl rfl ?_
        refine xt_getf rfl rfl (zmr q2l0) ?_
        refine xt_pure rfl rfl rfl rfl ?_
        obtain ⟨x2, hx2, h⟩ := zgi h
        refine zr_lld (l := ol0.2.2.1) rfl rfl (zmr q4l0) hx2 ?_
        refine xt_pure rfl rfl rfl (st1 := .long 126 :: _) rfl ?_
        refine zt_lc rfl rfl rfl (fun hb => ?_) (fun hb => ?_)
        · replace h := zif_t (p := x2.toInt ≤ 126) hb h
          refine xt_pure rfl rfl rfl (L1 := [_, _, some (.int (_ + 1))]) rfl ?_
          refine xt_pure rfl rfl rfl rfl ?_
          exact ih hol0 h
        · replace h := zif_f (p := x2.toInt ≤ 126) hb h
          refine xt_pure rfl rfl rfl (st1 := .int 8 :: _) rfl ?_
          cases h
          exact xt_iret rfl rfl rfl rfl ⟨rfl, rfl⟩
def cE_faultOfText (gi : Nat → Int32) (ga : Nat → List Int32) (As : List (Option zO)) (ne : Int32) (am : List Int64)  (N : Nat) (op0 : zO) (v1 : Int32) (S : zS) : Option (Int32 × zS) := (if op0.2.1 = (0 : Int32) then some (8, S) else (if op0.2.1.toInt ≤ v1.toInt then cE_faultOfText_11 gi ga As ne am N N op0 0 S else some (8, S)))
theorem tcE_faultOfText {X : List Int32} {D0 : List xE} {fa aa : Nat} {p : Nat → Nat} {gi : Nat → Int32} {ga : Nat → List Int32} {refs : List Value} {As : List (Option zO)} {ne : Int32} {am : List Int64} (hW2 : ((110, .inl (10, 2, .ref fa)) : xE) ∈ D0) (hW3 : ((110, .inl (10, 3, .ref aa)) : xE) ∈ D0) (hL0 : ((106, .inl (5, 2, .int ne)) : xE) ∈ D0) (hL1 : ((107, .inr (1, am.map Value.long)) : xE) ∈ D0) (hG : ∀ e ∈ zgE fa p gi ga, e ∈ D0) (hA0 : ((aa, .inr (7, refs)) : xE) ∈ D0) (hA1 : ∀ {j : Int32} {z : Option zO}, gI As j = some z → ∃ v, gI refs j = some v ∧ zVC D0 v z)  {N fr lo : Nat} (hf : 0 ≤ fr) (hl : 0 ≤ lo) {oap0 : Nat} {op0 : zO}  {v1 : Int32} {S S2 : zS} {r : Int32} (hop0 : zOC D0 oap0 op0) (h : cE_faultOfText gi ga As ne am N op0 v1 S = some (r, S2)) : yK X fr lo 156 [.ref oap0, .int v1] (zD zTE zaE S D0) 0 0 (zQi zTE zaE D0 r S2) := by
  unfold cE_faultOfText at h
  have hkp0 := hop0
  obtain ⟨iap0, rap0, rrp0, q0p0, q1p0, q2p0, q3p0, q4p0, q5p0, q6p0⟩ := hkp0
  refine yK.of rfl (yle rfl) (L := [_, _, _]) rfl ?_
  refine xt_pure rfl rfl rfl rfl ?_
  refine xt_getf rfl rfl (zmr q1p0) ?_
  refine xt_if rfl rfl (fun hb => ?_) (fun hb => ?_)
  · replace h := zif_t (p := op0.2.1 = (0 : Int32)) hb h
    refine xt_pure rfl rfl rfl (st1 := .int 8 :: _) rfl ?_
    cases h
    exact xt_iret rfl rfl rfl rfl ⟨rfl, rfl⟩
  · replace h := zif_f (p := op0.2.1 = (0 : Int32)) hb h
    refine xt_pure rfl rfl rfl rfl ?_
    refine xt_getf rfl rfl (zmr q1p0) ?_
    refine xt_pure rfl rfl rfl rfl ?_
    refine xt_ic rfl rfl (fun hb => ?_) (fun hb => ?_)
    · replace h := zif_t (p := op0.2.1.toInt ≤ v1.toInt) hb h
      refine xt_pure rfl rfl rfl (st1 := .int 0 :: _) rfl ?_
      refine xt_pure rfl rfl rfl (L1 := [_, _, _]) rfl ?_
      exact tcE_faultOfText_11 hW2 hW3 hL0 hL1 hG hA0 hA1 hf hl hop0 h
    · replace h := zif_f (p := op0.2.1.toInt ≤ v1.toInt) hb h
      refine xt_pure rfl rfl rfl (st1 := .int 8 :: _) rfl ?_
      cases h
      exact xt_iret rfl rfl rfl rfl ⟨rfl, rfl⟩
def cE_faultOfTable_14 (gi : Nat → Int32) (ga : Nat → List Int32) (As : List (Option zO)) (ne : Int32) (am : List Int64)  (N : Nat)  : Nat → Int32 → zO → Int32 → zS → Option (Int32 × zS)
  | 0, _, _, _, _ => none
  | n + 1, l2, ol3, l4, S => (if ol3.2.1.toInt ≤ l4.toInt then some (0, S) else (zg (gI ol3.2.2.2 l4) fun z2 => (zo z2 ((zb (cE_failing gi ga As ne am N 1 S) fun x3 S4 => some (x3, S4))) fun o2 => (zg (gI (ga 6) l2) fun x6 => (if x6.toInt ≤ (Int32.ofNat o2.length).toInt then (zg (gI (ga 6) l2) fun x7 => (if (Int32.ofNat o2.length).toInt ≤ x7.toInt then (cE_faultOfTable_14 gi ga As ne am N n) l2 ol3 (l4 + 1) S else some (8, S))) else (zb (cE_failing gi ga As ne am N 3 S) fun x8 S9 => some (x8, S9)))))))
theorem tcE_faultOfTable_14 {X : List Int32} {D0 : List xE} {fa aa : Nat} {p : Nat → Nat} {gi : Nat → Int32} {ga : Nat → List Int32} {refs : List Value} {As : List (Option zO)} {ne : Int32} {am : List Int64} (hW2 : ((110, .inl (10, 2, .ref fa)) : xE) ∈ D0) (hW3 : ((110, .inl (10, 3, .ref aa)) : xE) ∈ D0) (hL0 : ((106, .inl (5, 2, .int ne)) : xE) ∈ D0) (hL1 : ((107, .inr (1, am.map Value.long)) : xE) ∈ D0) (hG : ∀ e ∈ zgE fa p gi ga, e ∈ D0) (hA0 : ((aa, .inr (7, refs)) : xE) ∈ D0) (hA1 : ∀ {j : Int32} {z : Option zO}, gI As j = some z → ∃ v, gI refs j = some v ∧ zVC D0 v z)  {N fr lo : Nat}   (hf : 2 ≤ fr) (hl : 42 ≤ lo)  : ∀ {n : Nat} {l2 : Int32} {oal3 : Nat} {ol3 : zO}  {l4 : Int32} {u5 : Option Value} {S S2 : zS} {r : Int32} (hol3 : zOC D0 oal3 ol3), cE_faultOfTable_14 gi ga As ne am N n l2 ol3 l4 S = some (r, S2) → yT X fr lo 157 14 [some (.ref 118), some (.ref fa), some (.int l2), some (.ref oal3), some (.int l4), u5] [] (zD zTE zaE S D0) 0 0 (zQi zTE zaE D0 r S2) := by
  intro n
  induction n with
  | zero =>
    intro l2 oal3 ol3 l4 u5 S S2 r hol3  h
    have h : (none : Option (Int32 × zS)) = some (r, S2) := h
    cases h
  | succ n ih =>
    intro l2 oal3 ol3 l4 u5 S S2 r hol3  h
    rw [cE_faultOfTable_14] at h
    have hkl3 := hol3
    obtain ⟨ial3, ral3, rrl3, q0l3, q1l3, q2l3, q3l3, q4l3, q5l3, q6l3⟩ := hkl3
    refine xt_pure rfl rfl rfl rfl ?_
    refine xt_pure rfl rfl rfl rfl ?_
    refine xt_getf rfl rfl (zmr q1l3) ?_
    refine xt_ic rfl rfl (fun hb => ?_) (fun hb => ?_)
    · replace h := zif_t (p := ol3.2.1.toInt ≤ l4.toInt) hb h
      refine xt_pure rfl rfl rfl (st1 := .int 0 :: _) rfl ?_
      cases h
      exact xt_iret rfl rfl rfl rfl ⟨rfl, rfl⟩
    · replace h := zif_f (p := ol3.2.1.toInt ≤ l4.toInt) hb h
      refine xt_pure rfl rfl rfl rfl ?_
      refine xt_getf rfl rfl (zmr q3l3) ?_
      refine xt_pure rfl rfl rfl rfl ?_
      obtain ⟨z2, hz2, h⟩ := zgi h
      obtain ⟨v2, hw2, hv2⟩ := q6l3 hz2
      refine zr_ald (l := rrl3) rfl rfl ⟨by decide, rfl⟩ (zmr q5l3) hw2 ?_
      rcases z2 with _ | o2
      · obtain rfl : v2 = Value.null := hv2
        replace h := zon h
        refine xt_pure rfl rfl rfl (L1 := [_, _, _, _, _, _]) rfl ?_
        refine xt_pure rfl rfl rfl rfl ?_
        refine xt_pure rfl rfl rfl rfl ?_
        refine xt_pure rfl rfl rfl rfl ?_
        refine xt_pure rfl rfl rfl (st1 := .int 1 :: _) rfl ?_
        obtain ⟨x3, S4, hc5, h⟩ := zbi h
        refine zt_Vi rfl rfl rfl rfl (xmC 150 rfl) ⟨rfl, rfl, yle rfl, yle rfl⟩ (m := 2) rfl ⟨by omega, by omega⟩ (tcE_failing hW2 hW3 hL0 hL1 hG hA0 hA1 (by omega) (by omega) hc5) (fr1 := fr - 1) (lo1 := lo - 21) ?_
        cases h
        exact xt_iret rfl rfl rfl rfl ⟨rfl, rfl⟩
      · obtain ⟨oa2, rfl, ho2⟩ := hv2
        replace h := zos h
        refine xt_pure rfl rfl rfl (L1 := [_, _, _, _, _, _]) rfl ?_
        refine xt_pure rfl rfl rfl rfl ?_
        refine xt_pure rfl rfl rfl rfl ?_
        refine xt_pure rfl rfl rfl rfl ?_
        refine zr_lenI (l := o2) rfl rfl (zmr ho2) rfl ?_
        refine xt_pure rfl rfl rfl rfl ?_
        refine xt_getf rfl rfl (zmr (ymm hG 6 rfl)) ?_
        refine xt_pure rfl rfl rfl rfl ?_
        obtain ⟨x6, hx6, h⟩ := zgi h
        refine zr_ild (l := (ga 6)) rfl rfl (zmr (ymm hG 24 rfl)) hx6 ?_
        refine xt_ic rfl rfl (fun hb => ?_) (fun hb => ?_)
        · replace h := zif_t (p := x6.toInt ≤ (Int32.ofNat o2.length).toInt) hb h
          refine xt_pure rfl rfl rfl rfl ?_
          refine zr_lenI (l := o2) rfl rfl (zmr ho2) rfl ?_
          refine xt_pure rfl rfl rfl rfl ?_
          refine xt_getf rfl rfl (zmr (ymm hG 6 rfl)) ?_
          refine xt_pure rfl rfl rfl rfl ?_
          obtain ⟨x7, hx7, h⟩ := zgi h
          refine zr_ild (l := (ga 6)) rfl rfl (zmr (ymm hG 24 rfl)) hx7 ?_
          refine xt_ic rfl rfl (fun hb => ?_) (fun hb => ?_)
          · replace h := zif_t (p := (Int32.ofNat o2.length).toInt ≤ x7.toInt) hb h
            refine xt_pure rfl rfl rfl (L1 := [_, _, _, _, some (.int (_ + 1)), _]) rfl ?_
            refine xt_pure rfl rfl rfl rfl ?_
            exact ih hol3 h
          · replace h := zif_f (p := (Int32.ofNat o2.length).toInt ≤ x7.toInt) hb h
            refine xt_pure rfl rfl rfl (st1 := .int 8 :: _) rfl ?_
            cases h
            exact xt_iret rfl rfl rfl rfl ⟨rfl, rfl⟩
        · replace h := zif_f (p := x6.toInt ≤ (Int32.ofNat o2.length).toInt) hb h
          refine xt_pure rfl rfl rfl rfl ?_
          refine xt_pure rfl rfl rfl (st1 := .int 3 :: _) rfl ?_
          obtain ⟨x8, S9, hc10, h⟩ := zbi h
          refine zt_Vi rfl rfl rfl rfl (xmC 150 rfl) ⟨rfl, rfl, yle rfl, yle rfl⟩ (m := 2) rfl ⟨by omega, by omega⟩ (tcE_failing hW2 hW3 hL0 hL1 hG hA0 hA1 (by omega) (by omega) hc10) (fr1 := fr - 1) (lo1 := lo - 21) ?_
          cases h
          exact xt_iret rfl rfl rfl rfl ⟨rfl, rfl⟩
def cE_faultOfTable (gi : Nat → Int32) (ga : Nat → List Int32) (As : List (Option zO)) (ne : Int32) (am : List Int64)  (N : Nat) (v2 : Int32) (op3 : zO) (S : zS) : Option (Int32 × zS) := (if op3.2.1 = (0 : Int32) then some (8, S) else (zg (gI (ga 5) v2) fun x1 => (if op3.2.1.toInt ≤ x1.toInt then cE_faultOfTable_14 gi ga As ne am N N v2 op3 0 S else some (8, S))))
theorem tcE_faultOfTable {X : List Int32} {D0 : List xE} {fa aa : Nat} {p : Nat → Nat} {gi : Nat → Int32} {ga : Nat → List Int32} {refs : List Value} {As : List (Option zO)} {ne : Int32} {am : List Int64} (hW2 : ((110, .inl (10, 2, .ref fa)) : xE) ∈ D0) (hW3 : ((110, .inl (10, 3, .ref aa)) : xE) ∈ D0) (hL0 : ((106, .inl (5, 2, .int ne)) : xE) ∈ D0) (hL1 : ((107, .inr (1, am.map Value.long)) : xE) ∈ D0) (hG : ∀ e ∈ zgE fa p gi ga, e ∈ D0) (hA0 : ((aa, .inr (7, refs)) : xE) ∈ D0) (hA1 : ∀ {j : Int32} {z : Option zO}, gI As j = some z → ∃ v, gI refs j = some v ∧ zVC D0 v z)  {N fr lo : Nat} (hf : 2 ≤ fr) (hl : 42 ≤ lo) {v2 : Int32} {oap3 : Nat} {op3 : zO}  {S S2 : zS} {r : Int32} (hop3 : zOC D0 oap3 op3) (h : cE_faultOfTable gi ga As ne am N v2 op3 S = some (r, S2)) : yK X fr lo 157 [.ref 118, .ref fa, .int v2, .ref oap3] (zD zTE zaE S D0) 0 0 (zQi zTE zaE D0 r S2) := by
  unfold cE_faultOfTable at h
  have hkp3 := hop3
  obtain ⟨iap3, rap3, rrp3, q0p3, q1p3, q2p3, q3p3, q4p3, q5p3, q6p3⟩ := hkp3
  refine yK.of rfl (yle rfl) (L := [_, _, _, _, _, _]) rfl ?_
  refine xt_pure rfl rfl rfl rfl ?_
  refine xt_getf rfl rfl (zmr q1p3) ?_
  refine xt_if rfl rfl (fun hb => ?_) (fun hb => ?_)
  · replace h := zif_t (p := op3.2.1 = (0 : Int32)) hb h
    refine xt_pure rfl rfl rfl (st1 := .int 8 :: _) rfl ?_
    cases h
    exact xt_iret rfl rfl rfl rfl ⟨rfl, rfl⟩
  · replace h := zif_f (p := op3.2.1 = (0 : Int32)) hb h
    refine xt_pure rfl rfl rfl rfl ?_
    refine xt_getf rfl rfl (zmr q1p3) ?_
    refine xt_pure rfl rfl rfl rfl ?_
    refine xt_getf rfl rfl (zmr (ymm hG 5 rfl)) ?_
    refine xt_pure rfl rfl rfl rfl ?_
    obtain ⟨x1, hx1, h⟩ := zgi h
    refine zr_ild (l := (ga 5)) rfl rfl (zmr (ymm hG 23 rfl)) hx1 ?_
    refine xt_ic rfl rfl (fun hb => ?_) (fun hb => ?_)
    · replace h := zif_t (p := op3.2.1.toInt ≤ x1.toInt) hb h
      refine xt_pure rfl rfl rfl (st1 := .int 0 :: _) rfl ?_
      refine xt_pure rfl rfl rfl (L1 := [_, _, _, _, _, _]) rfl ?_
      exact tcE_faultOfTable_14 hW2 hW3 hL0 hL1 hG hA0 hA1 hf hl hop3 h
    · replace h := zif_f (p := op3.2.1.toInt ≤ x1.toInt) hb h
      refine xt_pure rfl rfl rfl (st1 := .int 8 :: _) rfl ?_
      cases h
      exact xt_iret rfl rfl rfl rfl ⟨rfl, rfl⟩
def cE_faultOfEntries_8 (gi : Nat → Int32) (ga : Nat → List Int32) (As : List (Option zO)) (ne : Int32) (am : List Int64)  (N : Nat)  : Nat → zO → Int32 → zS → Option (Int32 × zS)
  | 0, _, _, _ => none
  | n + 1, ol1, l3, S => (if ol1.2.1.toInt ≤ l3.toInt then some (0, S) else (zg (gI ol1.2.2.1 l3) fun x1 => (if x1 ≠ ((-9) : Int64) then (cE_faultOfEntries_8 gi ga As ne am N n) ol1 (l3 + 1) S else (zb (cE_failing gi ga As ne am N 1 S) fun x2 S3 => some (x2, S3)))))
theorem tcE_faultOfEntries_8 {X : List Int32} {D0 : List xE} {fa aa : Nat} {p : Nat → Nat} {gi : Nat → Int32} {ga : Nat → List Int32} {refs : List Value} {As : List (Option zO)} {ne : Int32} {am : List Int64} (hW2 : ((110, .inl (10, 2, .ref fa)) : xE) ∈ D0) (hW3 : ((110, .inl (10, 3, .ref aa)) : xE) ∈ D0) (hL0 : ((106, .inl (5, 2, .int ne)) : xE) ∈ D0) (hL1 : ((107, .inr (1, am.map Value.long)) : xE) ∈ D0) (hG : ∀ e ∈ zgE fa p gi ga, e ∈ D0) (hA0 : ((aa, .inr (7, refs)) : xE) ∈ D0) (hA1 : ∀ {j : Int32} {z : Option zO}, gI As j = some z → ∃ v, gI refs j = some v ∧ zVC D0 v z)  {N fr lo : Nat}   (hf : 2 ≤ fr) (hl : 42 ≤ lo)  : ∀ {n : Nat} {oal1 : Nat} {ol1 : zO}  {l3 : Int32} {d2 : Int32} {S S2 : zS} {r : Int32} (hol1 : zOC D0 oal1 ol1), cE_faultOfEntries_8 gi ga As ne am N n ol1 l3 S = some (r, S2) → yT X fr lo 158 8 [some (.ref 118), some (.ref oal1), some (.int d2), some (.int l3)] [] (zD zTE zaE S D0) 0 0 (zQi zTE zaE D0 r S2) := by
  intro n
  induction n with
  | zero =>
    intro oal1 ol1 l3 d2 S S2 r hol1  h
    have h : (none : Option (Int32 × zS)) = some (r, S2) := h
    cases h
  | succ n ih =>
    intro oal1 ol1 l3 d2 S S2 r hol1  h
    rw [cE_faultOfEntries_8] at h
    have hkl1 := hol1
    obtain ⟨ial1, ral1, rrl1, q0l1, q1l1, q2l1, q3l1, q4l1, q5l1, q6l1⟩ := hkl1
    refine xt_pure rfl rfl rfl rfl ?_
    refine xt_pure rfl rfl rfl rfl ?_
    refine xt_getf rfl rfl (zmr q1l1) ?_
    refine xt_ic rfl rfl (fun hb => ?_) (fun hb => ?_)
    · replace h := zif_t (p := ol1.2.1.toInt ≤ l3.toInt) hb h
      refine xt_pure rfl rfl rfl (st1 := .int 0 :: _) rfl ?_
      cases h
      exact xt_iret rfl rfl rfl rfl ⟨rfl, rfl⟩
    · replace h := zif_f (p := ol1.2.1.toInt ≤ l3.toInt) hb h
      refine xt_pure rfl rfl rfl rfl ?_
      refine xt_getf rfl rfl (zmr q2l1) ?_
      refine xt_pure rfl rfl rfl rfl ?_
      obtain ⟨x1, hx1, h⟩ := zgi h
      refine zr_lld (l := ol1.2.2.1) rfl rfl (zmr q4l1) hx1 ?_
      refine xt_pure rfl rfl rfl (st1 := .long (-9) :: _) rfl ?_
      refine zt_lc rfl rfl rfl (fun hb => ?_) (fun hb => ?_)
      · replace h := zif_t (p := x1 ≠ ((-9) : Int64)) hb h
        refine xt_pure rfl rfl rfl (L1 := [_, _, _, some (.int (_ + 1))]) rfl ?_
        refine xt_pure rfl rfl rfl rfl ?_
        exact ih hol1 h
      · replace h := zif_f (p := x1 ≠ ((-9) : Int64)) hb h
        refine xt_pure rfl rfl rfl rfl ?_
        refine xt_pure rfl rfl rfl (st1 := .int 1 :: _) rfl ?_
        obtain ⟨x2, S3, hc4, h⟩ := zbi h
        refine zt_Vi rfl rfl rfl rfl (xmC 150 rfl) ⟨rfl, rfl, yle rfl, yle rfl⟩ (m := 2) rfl ⟨by omega, by omega⟩ (tcE_failing hW2 hW3 hL0 hL1 hG hA0 hA1 (by omega) (by omega) hc4) (fr1 := fr - 1) (lo1 := lo - 21) ?_
        cases h
        exact xt_iret rfl rfl rfl rfl ⟨rfl, rfl⟩
def cE_faultOfEntries (gi : Nat → Int32) (ga : Nat → List Int32) (As : List (Option zO)) (ne : Int32) (am : List Int64)  (N : Nat) (op1 : zO) (v2 : Int32) (S : zS) : Option (Int32 × zS) := (if op1.2.1.toInt ≤ v2.toInt then cE_faultOfEntries_8 gi ga As ne am N N op1 0 S else some (8, S))
theorem tcE_faultOfEntries {X : List Int32} {D0 : List xE} {fa aa : Nat} {p : Nat → Nat} {gi : Nat → Int32} {ga : Nat → List Int32} {refs : List Value} {As : List (Option zO)} {ne : Int32} {am : List Int64} (hW2 : ((110, .inl (10, 2, .ref fa)) : xE) ∈ D0) (hW3 : ((110, .inl (10, 3, .ref aa)) : xE) ∈ D0) (hL0 : ((106, .inl (5, 2, .int ne)) : xE) ∈ D0) (hL1 : ((107, .inr (1, am.map Value.long)) : xE) ∈ D0) (hG : ∀ e ∈ zgE fa p gi ga, e ∈ D0) (hA0 : ((aa, .inr (7, refs)) : xE) ∈ D0) (hA1 : ∀ {j : Int32} {z : Option zO}, gI As j = some z → ∃ v, gI refs j = some v ∧ zVC D0 v z)  {N fr lo : Nat} (hf : 2 ≤ fr) (hl : 42 ≤ lo) {oap1 : Nat} {op1 : zO}  {v2 : Int32} {S S2 : zS} {r : Int32} (hop1 : zOC D0 oap1 op1) (h : cE_faultOfEntries gi ga As ne am N op1 v2 S = some (r, S2)) : yK X fr lo 158 [.ref 118, .ref oap1, .int v2] (zD zTE zaE S D0) 0 0 (zQi zTE zaE D0 r S2) := by
  unfold cE_faultOfEntries at h
  have hkp1 := hop1
  obtain ⟨iap1, rap1, rrp1, q0p1, q1p1, q2p1, q3p1, q4p1, q5p1, q6p1⟩ := hkp1
  refine yK.of rfl (yle rfl) (L := [_, _, _, _]) rfl ?_
  refine xt_pure rfl rfl rfl rfl ?_
  refine xt_getf rfl rfl (zmr q1p1) ?_
  refine xt_pure rfl rfl rfl rfl ?_
  refine xt_ic rfl rfl (fun hb => ?_) (fun hb => ?_)
  · replace h := zif_t (p := op1.2.1.toInt ≤ v2.toInt) hb h
    refine xt_pure rfl rfl rfl (st1 := .int 0 :: _) rfl ?_
    refine xt_pure rfl rfl rfl (L1 := [_, _, _, _]) rfl ?_
    exact tcE_faultOfEntries_8 hW2 hW3 hL0 hL1 hG hA0 hA1 hf hl hop1 h
  · replace h := zif_f (p := op1.2.1.toInt ≤ v2.toInt) hb h
    refine xt_pure rfl rfl rfl (st1 := .int 8 :: _) rfl ?_
    cases h
    exact xt_iret rfl rfl rfl rfl ⟨rfl, rfl⟩
def cE_faultOf_26 (gi : Nat → Int32) (ga : Nat → List Int32) (As : List (Option zO)) (ne : Int32) (am : List Int64)  (N : Nat)  (l2 : Int32) (ol3 : zO) (l4 : Int32) (os0 : zO) (s1 : Int32) (S : zS) : Option (Int32 × zS) := (zb (cE_isOf gi ga As ne am N os0 s1 S) fun x4 S5 => (if x4 ≠ (0 : Int32) then (if l4 = 5 then (zb (cE_faultOfMany gi ga As ne am N l2 ol3 S5) fun x7 S8 => some (x7, S8)) else if l4 = 6 then (zg (gI (ga 5) l2) fun x11 => (zb (cE_faultOfText gi ga As ne am N ol3 x11 S5) fun x12 S13 => some (x12, S13))) else if l4 = 7 then (zb (cE_faultOfTable gi ga As ne am N l2 ol3 S5) fun x16 S17 => some (x16, S17)) else if l4 = 8 then (zg (gI (ga 5) l2) fun x20 => (zb (cE_faultOfEntries gi ga As ne am N ol3 x20 S5) fun x21 S22 => some (x21, S22))) else if l4 = 9 then (zg (gI (ga 5) l2) fun x25 => (zb (cE_faultOfEntries gi ga As ne am N ol3 x25 S5) fun x26 S27 => some (x26, S27))) else if l4 = 10 then some (0, S5) else (zb (cE_faultOfSingle gi ga As ne am N l2 ol3 S5) fun x31 S32 => some (x31, S32))) else (zb (cE_failing gi ga As ne am N 2 S5) fun x34 S35 => some (x34, S35))))
set_option maxRecDepth 20000 in
theorem tcE_faultOf_26 {X : List Int32} {D0 : List xE} {fa aa : Nat} {p : Nat → Nat} {gi : Nat → Int32} {ga : Nat → List Int32} {refs : List Value} {As : List (Option zO)} {ne : Int32} {am : List Int64} (hW2 : ((110, .inl (10, 2, .ref fa)) : xE) ∈ D0) (hW3 : ((110, .inl (10, 3, .ref aa)) : xE) ∈ D0) (hL0 : ((106, .inl (5, 2, .int ne)) : xE) ∈ D0) (hL1 : ((107, .inr (1, am.map Value.long)) : xE) ∈ D0) (hG : ∀ e ∈ zgE fa p gi ga, e ∈ D0) (hA0 : ((aa, .inr (7, refs)) : xE) ∈ D0) (hA1 : ∀ {j : Int32} {z : Option zO}, gI As j = some z → ∃ v, gI refs j = some v ∧ zVC D0 v z)  {N fr lo : Nat}   (hf : 3 ≤ fr) (hl : 67 ≤ lo) {l2 : Int32} {oal3 : Nat} {ol3 : zO}  {l4 : Int32} {oas0 : Nat} {os0 : zO}  {s1 : Int32}  {S S2 : zS} {r : Int32} (hol3 : zOC D0 oal3 ol3) (hos0 : zOC D0 oas0 os0) (h : cE_faultOf_26 gi ga As ne am N l2 ol3 l4 os0 s1 S = some (r, S2)) : yT X fr lo 153 26 [some (.ref 118), some (.ref fa), some (.int l2), some (.ref oal3), some (.int l4)] [.int s1, .ref oas0] (zD zTE zaE S D0) 0 0 (zQi zTE zaE D0 r S2) := by
  unfold cE_faultOf_26 at h
  have hkl3 := hol3
  obtain ⟨ial3, ral3, rrl3, q0l3, q1l3, q2l3, q3l3, q4l3, q5l3, q6l3⟩ := hkl3
  have hks0 := hos0
  obtain ⟨ias0, ras0, rrs0, q0s0, q1s0, q2s0, q3s0, q4s0, q5s0, q6s0⟩ := hks0
  obtain ⟨x4, S5, hc6, h⟩ := zbi h
  refine zt_Vi rfl rfl rfl rfl (zmr q0s0) ⟨rfl, rfl, yle rfl, yle rfl⟩ (m := 2) rfl ⟨by omega, by omega⟩ (tcE_isOf hW2 hW3 hL0 hL1 hG hA0 hA1 (by omega) (by omega) hos0 hc6) (fr1 := fr - 1) (lo1 := lo - 21) ?_
  refine xt_if rfl rfl (fun hb => ?_) (fun hb => ?_)
  · replace h := zif_t (p := x4 ≠ (0 : Int32)) hb h
    refine xt_pure rfl rfl rfl rfl ?_
    by_cases hw10 : l4 = 5
    · replace h := zif_t (p := l4 = 5) hw10 h
      refine zt_sw (tg := 34) rfl rfl rfl hw10 rfl ?_
      refine xt_pure rfl rfl rfl rfl ?_
      refine xt_pure rfl rfl rfl rfl ?_
      refine xt_pure rfl rfl rfl rfl ?_
      refine xt_pure rfl rfl rfl rfl ?_
      obtain ⟨x7, S8, hc9, h⟩ := zbi h
      refine zt_Vi rfl rfl rfl rfl (xmC 150 rfl) ⟨rfl, rfl, yle rfl, yle rfl⟩ (m := 6) rfl ⟨by omega, by omega⟩ (tcE_faultOfMany hW2 hW3 hL0 hL1 hG hA0 hA1 (by omega) (by omega) hol3 hc9) (fr1 := fr - 1) (lo1 := lo - 25) ?_
      cases h
      exact xt_iret rfl rfl rfl rfl ⟨rfl, rfl⟩
    replace h := zif_f (p := l4 = 5) hw10 h
    by_cases hw15 : l4 = 6
    · replace h := zif_t (p := l4 = 6) hw15 h
      refine zt_sw (tg := 40) rfl rfl rfl hw15 rfl ?_
      refine xt_pure rfl rfl rfl rfl ?_
      refine xt_pure rfl rfl rfl rfl ?_
      refine xt_getf rfl rfl (zmr (ymm hG 5 rfl)) ?_
      refine xt_pure rfl rfl rfl rfl ?_
      obtain ⟨x11, hx11, h⟩ := zgi h
      refine zr_ild (l := (ga 5)) rfl rfl (zmr (ymm hG 23 rfl)) hx11 ?_
      obtain ⟨x12, S13, hc14, h⟩ := zbi h
      refine zt_Si rfl rfl (by decide) rfl rfl ⟨rfl, yle rfl, yle rfl⟩ (m := 3) rfl ⟨by omega, by omega⟩ (tcE_faultOfText hW2 hW3 hL0 hL1 hG hA0 hA1 (by omega) (by omega) hol3 hc14) (fr1 := fr - 1) (lo1 := lo - 22) ?_
      cases h
      exact xt_iret rfl rfl rfl rfl ⟨rfl, rfl⟩
    replace h := zif_f (p := l4 = 6) hw15 h
    by_cases hw19 : l4 = 7
    · replace h := zif_t (p := l4 = 7) hw19 h
      refine zt_sw (tg := 47) rfl rfl rfl hw19 rfl ?_
      refine xt_pure rfl rfl rfl rfl ?_
      refine xt_pure rfl rfl rfl rfl ?_
      refine xt_pure rfl rfl rfl rfl ?_
      refine xt_pure rfl rfl rfl rfl ?_
      obtain ⟨x16, S17, hc18, h⟩ := zbi h
      refine zt_Vi rfl rfl rfl rfl (xmC 150 rfl) ⟨rfl, rfl, yle rfl, yle rfl⟩ (m := 6) rfl ⟨by omega, by omega⟩ (tcE_faultOfTable hW2 hW3 hL0 hL1 hG hA0 hA1 (by omega) (by omega) hol3 hc18) (fr1 := fr - 1) (lo1 := lo - 25) ?_
      cases h
      exact xt_iret rfl rfl rfl rfl ⟨rfl, rfl⟩
    replace h := zif_f (p := l4 = 7) hw19 h
    by_cases hw24 : l4 = 8
    · replace h := zif_t (p := l4 = 8) hw24 h
      refine zt_sw (tg := 53) rfl rfl rfl hw24 rfl ?_
      refine xt_pure rfl rfl rfl rfl ?_
      refine xt_pure rfl rfl rfl rfl ?_
      refine xt_pure rfl rfl rfl rfl ?_
      refine xt_getf rfl rfl (zmr (ymm hG 5 rfl)) ?_
      refine xt_pure rfl rfl rfl rfl ?_
      obtain ⟨x20, hx20, h⟩ := zgi h
      refine zr_ild (l := (ga 5)) rfl rfl (zmr (ymm hG 23 rfl)) hx20 ?_
      obtain ⟨x21, S22, hc23, h⟩ := zbi h
      refine zt_Vi rfl rfl rfl rfl (xmC 150 rfl) ⟨rfl, rfl, yle rfl, yle rfl⟩ (m := 4) rfl ⟨by omega, by omega⟩ (tcE_faultOfEntries hW2 hW3 hL0 hL1 hG hA0 hA1 (by omega) (by omega) hol3 hc23) (fr1 := fr - 1) (lo1 := lo - 23) ?_
      cases h
      exact xt_iret rfl rfl rfl rfl ⟨rfl, rfl⟩
    replace h := zif_f (p := l4 = 8) hw24 h
    by_cases hw29 : l4 = 9
    · replace h := zif_t (p := l4 = 9) hw29 h
      refine zt_sw (tg := 53) rfl rfl rfl hw29 rfl ?_
      refine xt_pure rfl rfl rfl rfl ?_
      refine xt_pure rfl rfl rfl rfl ?_
      refine xt_pure rfl rfl rfl rfl ?_
      refine xt_getf rfl rfl (zmr (ymm hG 5 rfl)) ?_
      refine xt_pure rfl rfl rfl rfl ?_
      obtain ⟨x25, hx25, h⟩ := zgi h
      refine zr_ild (l := (ga 5)) rfl rfl (zmr (ymm hG 23 rfl)) hx25 ?_
      obtain ⟨x26, S27, hc28, h⟩ := zbi h
      refine zt_Vi rfl rfl rfl rfl (xmC 150 rfl) ⟨rfl, rfl, yle rfl, yle rfl⟩ (m := 4) rfl ⟨by omega, by omega⟩ (tcE_faultOfEntries hW2 hW3 hL0 hL1 hG hA0 hA1 (by omega) (by omega) hol3 hc28) (fr1 := fr - 1) (lo1 := lo - 23) ?_
      cases h
      exact xt_iret rfl rfl rfl rfl ⟨rfl, rfl⟩
    replace h := zif_f (p := l4 = 9) hw29 h
    by_cases hw30 : l4 = 10
    · replace h := zif_t (p := l4 = 10) hw30 h
      refine zt_sw (tg := 61) rfl rfl rfl hw30 rfl ?_
      refine xt_pure rfl rfl rfl (st1 := .int 0 :: _) rfl ?_
      cases h
      exact xt_iret rfl rfl rfl rfl ⟨rfl, rfl⟩
    replace h := zif_f (p := l4 = 10) hw30 h
    have hxhw10 : ¬ l4.toInt = 5 := fun h => hw10 (by rw [xi32_eq, h]; rfl)
    have hxhw15 : ¬ l4.toInt = 6 := fun h => hw15 (by rw [xi32_eq, h]; rfl)
    have hxhw19 : ¬ l4.toInt = 7 := fun h => hw19 (by rw [xi32_eq, h]; rfl)
    have hxhw24 : ¬ l4.toInt = 8 := fun h => hw24 (by rw [xi32_eq, h]; rfl)
    have hxhw29 : ¬ l4.toInt = 9 := fun h => hw29 (by rw [xi32_eq, h]; rfl)
    have hxhw30 : ¬ l4.toInt = 10 := fun h => hw30 (by rw [xi32_eq, h]; rfl)
    refine yt_tsd rfl rfl (by omega) rfl ?_
    refine xt_pure rfl rfl rfl rfl ?_
    refine xt_pure rfl rfl rfl rfl ?_
    refine xt_pure rfl rfl rfl rfl ?_
    refine xt_pure rfl rfl rfl rfl ?_
    obtain ⟨x31, S32, hc33, h⟩ := zbi h
    refine zt_Vi rfl rfl rfl rfl (xmC 150 rfl) ⟨rfl, rfl, yle rfl, yle rfl⟩ (m := 6) rfl ⟨by omega, by omega⟩ (tcE_faultOfSingle hW2 hW3 hL0 hL1 hG hA0 hA1 (by omega) (by omega) hol3 hc33) (fr1 := fr - 1) (lo1 := lo - 25) ?_
    cases h
    exact xt_iret rfl rfl rfl rfl ⟨rfl, rfl⟩
  · replace h := zif_f (p := x4 ≠ (0 : Int32)) hb h
    refine xt_pure rfl rfl rfl rfl ?_
    refine xt_pure rfl rfl rfl (st1 := .int 2 :: _) rfl ?_
    obtain ⟨x34, S35, hc36, h⟩ := zbi h
    refine zt_Vi rfl rfl rfl rfl (xmC 150 rfl) ⟨rfl, rfl, yle rfl, yle rfl⟩ (m := 2) rfl ⟨by omega, by omega⟩ (tcE_failing hW2 hW3 hL0 hL1 hG hA0 hA1 (by omega) (by omega) hc36) (fr1 := fr - 1) (lo1 := lo - 21) ?_
    cases h
    exact xt_iret rfl rfl rfl rfl ⟨rfl, rfl⟩
def cE_faultOf (gi : Nat → Int32) (ga : Nat → List Int32) (As : List (Option zO)) (ne : Int32) (am : List Int64)  (N : Nat) (v2 : Int32) (zp3 : Option zO) (S : zS) : Option (Int32 × zS) := (zo zp3 ((zg (gI (ga 3) v2) fun x1 => (if x1 ≠ (1 : Int32) then some (0, S) else some (7, S)))) fun op3 => (zg (gI (ga 1) v2) fun x2 => (if x2 ≠ (10 : Int32) then (zg (gI xas x2) fun x3 => cE_faultOf_26 gi ga As ne am N v2 op3 x2 op3 x3 S) else cE_faultOf_26 gi ga As ne am N v2 op3 x2 op3 7 S)))
theorem tcE_faultOf {X : List Int32} {D0 : List xE} {fa aa : Nat} {p : Nat → Nat} {gi : Nat → Int32} {ga : Nat → List Int32} {refs : List Value} {As : List (Option zO)} {ne : Int32} {am : List Int64} (hW2 : ((110, .inl (10, 2, .ref fa)) : xE) ∈ D0) (hW3 : ((110, .inl (10, 3, .ref aa)) : xE) ∈ D0) (hL0 : ((106, .inl (5, 2, .int ne)) : xE) ∈ D0) (hL1 : ((107, .inr (1, am.map Value.long)) : xE) ∈ D0) (hG : ∀ e ∈ zgE fa p gi ga, e ∈ D0) (hA0 : ((aa, .inr (7, refs)) : xE) ∈ D0) (hA1 : ∀ {j : Int32} {z : Option zO}, gI As j = some z → ∃ v, gI refs j = some v ∧ zVC D0 v z)  {N fr lo : Nat} (hf : 3 ≤ fr) (hl : 67 ≤ lo) {v2 : Int32} {vp3 : Value} {zp3 : Option zO}  {S S2 : zS} {r : Int32} (hvp3 : zVC D0 vp3 zp3) (h : cE_faultOf gi ga As ne am N v2 zp3 S = some (r, S2)) : yK X fr lo 153 [.ref 118, .ref fa, .int v2, vp3] (zD zTE zaE S D0) 0 0 (zQi zTE zaE D0 r S2) := by
  unfold cE_faultOf at h
  rcases zp3 with _ | op3
  · obtain rfl : vp3 = Value.null := hvp3
    replace h := zon h
    refine yK.of rfl (yle rfl) (L := [_, _, _, _, _]) rfl ?_
    refine xt_pure rfl rfl rfl rfl ?_
    refine xt_pure rfl rfl rfl rfl ?_
    refine xt_pure rfl rfl rfl rfl ?_
    refine xt_getf rfl rfl (zmr (ymm hG 3 rfl)) ?_
    refine xt_pure rfl rfl rfl rfl ?_
    obtain ⟨x1, hx1, h⟩ := zgi h
    refine zr_ild (l := (ga 3)) rfl rfl (zmr (ymm hG 21 rfl)) hx1 ?_
    refine xt_pure rfl rfl rfl (st1 := .int 1 :: _) rfl ?_
    refine xt_ic rfl rfl (fun hb => ?_) (fun hb => ?_)
    · replace h := zif_t (p := x1 ≠ (1 : Int32)) hb h
      refine xt_pure rfl rfl rfl (st1 := .int 0 :: _) rfl ?_
      cases h
      exact xt_iret rfl rfl rfl rfl ⟨rfl, rfl⟩
    · replace h := zif_f (p := x1 ≠ (1 : Int32)) hb h
      refine xt_pure rfl rfl rfl (st1 := .int 7 :: _) rfl ?_
      refine xt_pure rfl rfl rfl rfl ?_
      cases h
      exact xt_iret rfl rfl rfl rfl ⟨rfl, rfl⟩
  · obtain ⟨oap3, rfl, hop3⟩ := hvp3
    replace h := zos h
    have hkp3 := hop3
    obtain ⟨iap3, rap3, rrp3, q0p3, q1p3, q2p3, q3p3, q4p3, q5p3, q6p3⟩ := hkp3
    refine yK.of rfl (yle rfl) (L := [_, _, _, _, _]) rfl ?_
    refine xt_pure rfl rfl rfl rfl ?_
    refine xt_pure rfl rfl rfl rfl ?_
    refine xt_pure rfl rfl rfl rfl ?_
    refine xt_getf rfl rfl (zmr (ymm hG 1 rfl)) ?_
    refine xt_pure rfl rfl rfl rfl ?_
    obtain ⟨x2, hx2, h⟩ := zgi h
    refine zr_ild (l := (ga 1)) rfl rfl (zmr (ymm hG 19 rfl)) hx2 ?_
    refine xt_pure rfl rfl rfl (L1 := [_, _, _, _, _]) rfl ?_
    refine xt_pure rfl rfl rfl rfl ?_
    refine xt_pure rfl rfl rfl rfl ?_
    refine xt_pure rfl rfl rfl (st1 := .int 10 :: _) rfl ?_
    refine xt_ic rfl rfl (fun hb => ?_) (fun hb => ?_)
    · replace h := zif_t (p := x2 ≠ (10 : Int32)) hb h
      refine xt_gets rfl rfl rfl ?_
      refine xt_pure rfl rfl rfl rfl ?_
      obtain ⟨x3, hx3, h⟩ := zgi h
      refine zr_ild (l := xas) rfl rfl (xmC 0 rfl) hx3 ?_
      exact tcE_faultOf_26 hW2 hW3 hL0 hL1 hG hA0 hA1 hf hl hop3 hop3 h
    · replace h := zif_f (p := x2 ≠ (10 : Int32)) hb h
      refine xt_pure rfl rfl rfl (st1 := .int 7 :: _) rfl ?_
      refine xt_pure rfl rfl rfl rfl ?_
      exact tcE_faultOf_26 hW2 hW3 hL0 hL1 hG hA0 hA1 hf hl hop3 hop3 h
def cE_add (gi : Nat → Int32) (ga : Nat → List Int32) (As : List (Option zO)) (ne : Int32) (am : List Int64)  (N : Nat) (v1 : Int32) (v2 : Int32) (v3 : Int32) (v4 : Int32) (v5 : Int32) (S : zS) : Option (Unit × zS) := (if (Int32.ofNat (zA S 17).length).toInt ≤ (zI S 16).toInt then some ((), S) else (if zok (zA S 17) (zI S 16) then (if zok (zA S 18) (zI S 16) then (if zok (zA S 19) (zI S 16) then (if zok (zA S 20) (zI S 16) then (if zok (zA S 21) (zI S 16) then some ((), (zsI (zsA (zsA (zsA (zsA (zsA S 17 (zs (zA S 17) (zI S 16) v1)) 18 (zs (zA S 18) (zI S 16) v2)) 19 (zs (zA S 19) (zI S 16) v3)) 20 (zs (zA S 20) (zI S 16) v4)) 21 (zs (zA S 21) (zI S 16) v5)) 16 ((zI S 16) + 1))) else none) else none) else none) else none) else none))
theorem tcE_add {X : List Int32} {D0 : List xE} {fa aa : Nat} {p : Nat → Nat} {gi : Nat → Int32} {ga : Nat → List Int32} {refs : List Value} {As : List (Option zO)} {ne : Int32} {am : List Int64} (hW2 : ((110, .inl (10, 2, .ref fa)) : xE) ∈ D0) (hW3 : ((110, .inl (10, 3, .ref aa)) : xE) ∈ D0) (hL0 : ((106, .inl (5, 2, .int ne)) : xE) ∈ D0) (hL1 : ((107, .inr (1, am.map Value.long)) : xE) ∈ D0) (hG : ∀ e ∈ zgE fa p gi ga, e ∈ D0) (hA0 : ((aa, .inr (7, refs)) : xE) ∈ D0) (hA1 : ∀ {j : Int32} {z : Option zO}, gI As j = some z → ∃ v, gI refs j = some v ∧ zVC D0 v z)  {N fr lo : Nat} (hf : 0 ≤ fr) (hl : 0 ≤ lo) {v1 : Int32} {v2 : Int32} {v3 : Int32} {v4 : Int32} {v5 : Int32} {S S2 : zS} {r : Unit}  (h : cE_add gi ga As ne am N v1 v2 v3 v4 v5 S = some (r, S2)) : yK X fr lo 152 [.ref 118, .int v1, .int v2, .int v3, .int v4, .int v5] (zD zTE zaE S D0) 0 0 (zQv zTE zaE D0 r S2) := by
  unfold cE_add at h
  refine yK.of rfl (yle rfl) (L := [_, _, _, _, _, _]) rfl ?_
  refine xt_pure rfl rfl rfl rfl ?_
  refine zt_gI 16 rfl rfl rfl rfl (x := (zI S 16)) rfl ?_
  refine xt_pure rfl rfl rfl rfl ?_
  refine xt_getf rfl rfl (xmC 151 rfl) ?_
  refine zr_lenI (l := (zA S 17)) rfl rfl (zmA 17 rfl rfl (l := (zA S 17)) rfl) rfl ?_
  refine xt_ic rfl rfl (fun hb => ?_) (fun hb => ?_)
  · replace h := zif_t (p := (Int32.ofNat (zA S 17).length).toInt ≤ (zI S 16).toInt) hb h
    cases h
    exact xt_vret rfl rfl rfl ⟨rfl, rfl⟩
  · replace h := zif_f (p := (Int32.ofNat (zA S 17).length).toInt ≤ (zI S 16).toInt) hb h
    refine xt_pure rfl rfl rfl rfl ?_
    refine xt_getf rfl rfl (xmC 151 rfl) ?_
    refine xt_pure rfl rfl rfl rfl ?_
    refine zt_gI 16 rfl rfl rfl rfl (x := (zI S 16)) rfl ?_
    refine xt_pure rfl rfl rfl rfl ?_
    obtain ⟨hg, h⟩ := zgd h
    refine zt_ist 17 rfl rfl rfl rfl (l := (zA S 17)) rfl hg ?_
    refine xt_pure rfl rfl rfl rfl ?_
    refine xt_getf rfl rfl (xmC 152 rfl) ?_
    refine xt_pure rfl rfl rfl rfl ?_
    refine zt_gI 16 rfl rfl rfl rfl (x := (zI S 16)) rfl ?_
    refine xt_pure rfl rfl rfl rfl ?_
    obtain ⟨hg, h⟩ := zgd h
    refine zt_ist 18 rfl rfl rfl rfl (l := (zA S 18)) rfl hg ?_
    refine xt_pure rfl rfl rfl rfl ?_
    refine xt_getf rfl rfl (xmC 153 rfl) ?_
    refine xt_pure rfl rfl rfl rfl ?_
    refine zt_gI 16 rfl rfl rfl rfl (x := (zI S 16)) rfl ?_
    refine xt_pure rfl rfl rfl rfl ?_
    obtain ⟨hg, h⟩ := zgd h
    refine zt_ist 19 rfl rfl rfl rfl (l := (zA S 19)) rfl hg ?_
    refine xt_pure rfl rfl rfl rfl ?_
    refine xt_getf rfl rfl (xmC 154 rfl) ?_
    refine xt_pure rfl rfl rfl rfl ?_
    refine zt_gI 16 rfl rfl rfl rfl (x := (zI S 16)) rfl ?_
    refine xt_pure rfl rfl rfl rfl ?_
    obtain ⟨hg, h⟩ := zgd h
    refine zt_ist 20 rfl rfl rfl rfl (l := (zA S 20)) rfl hg ?_
    refine xt_pure rfl rfl rfl rfl ?_
    refine xt_getf rfl rfl (xmC 155 rfl) ?_
    refine xt_pure rfl rfl rfl rfl ?_
    refine zt_gI 16 rfl rfl rfl rfl (x := (zI S 16)) rfl ?_
    refine xt_pure rfl rfl rfl rfl ?_
    obtain ⟨hg, h⟩ := zgd h
    refine zt_ist 21 rfl rfl rfl rfl (l := (zA S 21)) rfl hg ?_
    refine xt_pure rfl rfl rfl rfl ?_
    refine xt_pure rfl rfl rfl rfl ?_
    refine zt_gI 16 rfl rfl rfl rfl (x := (zI S 16)) rfl ?_
    refine xt_pure rfl rfl rfl (st1 := .int 1 :: _) rfl ?_
    refine xt_pure rfl rfl rfl rfl ?_
    refine zt_pI 16 rfl rfl rfl rfl rfl rfl ?_
    cases h
    exact xt_vret rfl rfl rfl ⟨rfl, rfl⟩
def cE_addOfPart (gi : Nat → Int32) (ga : Nat → List Int32) (As : List (Option zO)) (ne : Int32) (am : List Int64)  (N : Nat) (v1 : Int32) (v2 : Int32) (S : zS) : Option (Unit × zS) := (if v1 = (0 : Int32) then some ((), S) else (zb (cE_add gi ga As ne am N v1 v2 (-9) 0 (-9) S) fun _ S2 => some ((), S2)))
theorem tcE_addOfPart {X : List Int32} {D0 : List xE} {fa aa : Nat} {p : Nat → Nat} {gi : Nat → Int32} {ga : Nat → List Int32} {refs : List Value} {As : List (Option zO)} {ne : Int32} {am : List Int64} (hW2 : ((110, .inl (10, 2, .ref fa)) : xE) ∈ D0) (hW3 : ((110, .inl (10, 3, .ref aa)) : xE) ∈ D0) (hL0 : ((106, .inl (5, 2, .int ne)) : xE) ∈ D0) (hL1 : ((107, .inr (1, am.map Value.long)) : xE) ∈ D0) (hG : ∀ e ∈ zgE fa p gi ga, e ∈ D0) (hA0 : ((aa, .inr (7, refs)) : xE) ∈ D0) (hA1 : ∀ {j : Int32} {z : Option zO}, gI As j = some z → ∃ v, gI refs j = some v ∧ zVC D0 v z)  {N fr lo : Nat} (hf : 1 ≤ fr) (hl : 25 ≤ lo) {v1 : Int32} {v2 : Int32} {S S2 : zS} {r : Unit}  (h : cE_addOfPart gi ga As ne am N v1 v2 S = some (r, S2)) : yK X fr lo 151 [.ref 118, .int v1, .int v2] (zD zTE zaE S D0) 0 0 (zQv zTE zaE D0 r S2) := by
  unfold cE_addOfPart at h
  refine yK.of rfl (yle rfl) (L := [_, _, _]) rfl ?_
  refine xt_pure rfl rfl rfl rfl ?_
  refine xt_if rfl rfl (fun hb => ?_) (fun hb => ?_)
  · replace h := zif_t (p := v1 = (0 : Int32)) hb h
    cases h
    exact xt_vret rfl rfl rfl ⟨rfl, rfl⟩
  · replace h := zif_f (p := v1 = (0 : Int32)) hb h
    refine xt_pure rfl rfl rfl rfl ?_
    refine xt_pure rfl rfl rfl rfl ?_
    refine xt_pure rfl rfl rfl rfl ?_
    refine xt_pure rfl rfl rfl (st1 := .int (-9) :: _) rfl ?_
    refine xt_pure rfl rfl rfl (st1 := .int 0 :: _) rfl ?_
    refine xt_pure rfl rfl rfl (st1 := .int (-9) :: _) rfl ?_
    obtain ⟨_, S2, hc3, h⟩ := zbi h
    refine zt_Vv rfl rfl rfl rfl (xmC 150 rfl) ⟨rfl, rfl, yle rfl, yle rfl⟩ (m := 6) rfl ⟨by omega, by omega⟩ (tcE_add hW2 hW3 hL0 hL1 hG hA0 hA1 (by omega) (by omega) hc3) (fr1 := fr - 1) (lo1 := lo - 25) ?_
    cases h
    exact xt_vret rfl rfl rfl ⟨rfl, rfl⟩
def cE_isAround_4 (gi : Nat → Int32) (ga : Nat → List Int32) (As : List (Option zO)) (ne : Int32) (am : List Int64)  (N : Nat)  : Nat → Int32 → Int32 → Int32 → zS → Option (Int32 × zS)
  | 0, _, _, _, _ => none
  | n + 1, l1, l3, l4, S => (if 20 ≤ l4.toInt then (if l3 ≠ l1 then some (0, S) else some (1, S)) else (if l3 = ((-9) : Int32) then (if l3 ≠ l1 then some (0, S) else some (1, S)) else (if l3 = l1 then (if l3 ≠ l1 then some (0, S) else some (1, S)) else (zg (gI (ga 2) l3) fun x1 => (cE_isAround_4 gi ga As ne am N n) l1 x1 (l4 + 1) S))))
theorem tcE_isAround_4 {X : List Int32} {D0 : List xE} {fa aa : Nat} {p : Nat → Nat} {gi : Nat → Int32} {ga : Nat → List Int32} {refs : List Value} {As : List (Option zO)} {ne : Int32} {am : List Int64} (hW2 : ((110, .inl (10, 2, .ref fa)) : xE) ∈ D0) (hW3 : ((110, .inl (10, 3, .ref aa)) : xE) ∈ D0) (hL0 : ((106, .inl (5, 2, .int ne)) : xE) ∈ D0) (hL1 : ((107, .inr (1, am.map Value.long)) : xE) ∈ D0) (hG : ∀ e ∈ zgE fa p gi ga, e ∈ D0) (hA0 : ((aa, .inr (7, refs)) : xE) ∈ D0) (hA1 : ∀ {j : Int32} {z : Option zO}, gI As j = some z → ∃ v, gI refs j = some v ∧ zVC D0 v z)  {N fr lo : Nat}   (hf : 0 ≤ fr) (hl : 0 ≤ lo)  : ∀ {n : Nat} {l1 : Int32} {l3 : Int32} {l4 : Int32} {d2 : Int32} {S S2 : zS} {r : Int32} , cE_isAround_4 gi ga As ne am N n l1 l3 l4 S = some (r, S2) → yT X fr lo 164 4 [some (.ref fa), some (.int l1), some (.int d2), some (.int l3), some (.int l4)] [] (zD zTE zaE S D0) 0 0 (zQi zTE zaE D0 r S2) := by
  intro n
  induction n with
  | zero =>
    intro l1 l3 l4 d2 S S2 r  h
    have h : (none : Option (Int32 × zS)) = some (r, S2) := h
    cases h
  | succ n ih =>
    intro l1 l3 l4 d2 S S2 r  h
    rw [cE_isAround_4] at h
    refine xt_pure rfl rfl rfl rfl ?_
    refine xt_pure rfl rfl rfl (st1 := .int 20 :: _) rfl ?_
    refine xt_ic rfl rfl (fun hb => ?_) (fun hb => ?_)
    · replace h := zif_t (p := 20 ≤ l4.toInt) hb h
      refine xt_pure rfl rfl rfl rfl ?_
      refine xt_pure rfl rfl rfl rfl ?_
      refine xt_ic rfl rfl (fun hb => ?_) (fun hb => ?_)
      · replace h := zif_t (p := l3 ≠ l1) hb h
        refine xt_pure rfl rfl rfl (st1 := .int 0 :: _) rfl ?_
        cases h
        exact xt_iret rfl rfl rfl rfl ⟨rfl, rfl⟩
      · replace h := zif_f (p := l3 ≠ l1) hb h
        refine xt_pure rfl rfl rfl (st1 := .int 1 :: _) rfl ?_
        refine xt_pure rfl rfl rfl rfl ?_
        cases h
        exact xt_iret rfl rfl rfl rfl ⟨rfl, rfl⟩
    · replace h := zif_f (p := 20 ≤ l4.toInt) hb h
      refine xt_pure rfl rfl rfl rfl ?_
      refine xt_pure rfl rfl rfl (st1 := .int (-9) :: _) rfl ?_
      refine xt_ic rfl rfl (fun hb => ?_) (fun hb => ?_)
      · replace h := zif_t (p := l3 = ((-9) : Int32)) hb h
        refine xt_pure rfl rfl rfl rfl ?_
        refine xt_pure rfl rfl rfl rfl ?_
        refine xt_ic rfl rfl (fun hb => ?_) (fun hb => ?_)
        · replace h := zif_t (p := l3 ≠ l1) hb h
          refine xt_pure rfl rfl rfl (st1 := .int 0 :: _) rfl ?_
          cases h
          exact xt_iret rfl rfl rfl rfl ⟨rfl, rfl⟩
        · replace h := zif_f (p := l3 ≠ l1) hb h
          refine xt_pure rfl rfl rfl (st1 := .int 1 :: _) rfl ?_
          refine xt_pure rfl rfl rfl rfl ?_
          cases h
          exact xt_iret rfl rfl rfl rfl ⟨rfl, rfl⟩
      · replace h := zif_f (p := l3 = ((-9) : Int32)) hb h
        refine xt_pure rfl rfl rfl rfl ?_
        refine xt_pure rfl rfl rfl rfl ?_
        refine xt_ic rfl rfl (fun hb => ?_) (fun hb => ?_)
        · replace h := zif_t (p := l3 = l1) hb h
          refine xt_pure rfl rfl rfl rfl ?_
          refine xt_pure rfl rfl rfl rfl ?_
          refine xt_ic rfl rfl (fun hb => ?_) (fun hb => ?_)
          · replace h := zif_t (p := l3 ≠ l1) hb h
            refine xt_pure rfl rfl rfl (st1 := .int 0 :: _) rfl ?_
            cases h
            exact xt_iret rfl rfl rfl rfl ⟨rfl, rfl⟩
          · replace h := zif_f (p := l3 ≠ l1) hb h
            refine xt_pure rfl rfl rfl (st1 := .int 1 :: _) rfl ?_
            refine xt_pure rfl rfl rfl rfl ?_
            cases h
            exact xt_iret rfl rfl rfl rfl ⟨rfl, rfl⟩
        · replace h := zif_f (p := l3 = l1) hb h
          refine xt_pure rfl rfl rfl rfl ?_
          refine xt_getf rfl rfl (zmr (ymm hG 2 rfl)) ?_
          refine xt_pure rfl rfl rfl rfl ?_
          obtain ⟨x1, hx1, h⟩ := zgi h
          refine zr_ild (l := (ga 2)) rfl rfl (zmr (ymm hG 20 rfl)) hx1 ?_
          refine xt_pure rfl rfl rfl (L1 := [_, _, _, _, _]) rfl ?_
          refine xt_pure rfl rfl rfl (L1 := [_, _, _, _, some (.int (_ + 1))]) rfl ?_
          refine xt_pure rfl rfl rfl rfl ?_
          exact ih h
def cE_isAround (gi : Nat → Int32) (ga : Nat → List Int32) (As : List (Option zO)) (ne : Int32) (am : List Int64)  (N : Nat) (v1 : Int32) (v2 : Int32) (S : zS) : Option (Int32 × zS) := cE_isAround_4 gi ga As ne am N N v1 v2 0 S
theorem tcE_isAround {X : List Int32} {D0 : List xE} {fa aa : Nat} {p : Nat → Nat} {gi : Nat → Int32} {ga : Nat → List Int32} {refs : List Value} {As : List (Option zO)} {ne : Int32} {am : List Int64} (hW2 : ((110, .inl (10, 2, .ref fa)) : xE) ∈ D0) (hW3 : ((110, .inl (10, 3, .ref aa)) : xE) ∈ D0) (hL0 : ((106, .inl (5, 2, .int ne)) : xE) ∈ D0) (hL1 : ((107, .inr (1, am.map Value.long)) : xE) ∈ D0) (hG : ∀ e ∈ zgE fa p gi ga, e ∈ D0) (hA0 : ((aa, .inr (7, refs)) : xE) ∈ D0) (hA1 : ∀ {j : Int32} {z : Option zO}, gI As j = some z → ∃ v, gI refs j = some v ∧ zVC D0 v z)  {N fr lo : Nat} (hf : 0 ≤ fr) (hl : 0 ≤ lo) {v1 : Int32} {v2 : Int32} {S S2 : zS} {r : Int32}  (h : cE_isAround gi ga As ne am N v1 v2 S = some (r, S2)) : yK X fr lo 164 [.ref fa, .int v1, .int v2] (zD zTE zaE S D0) 0 0 (zQi zTE zaE D0 r S2) := by
  unfold cE_isAround at h
  refine yK.of rfl (yle rfl) (L := [_, _, _, _, _]) rfl ?_
  refine xt_pure rfl rfl rfl rfl ?_
  refine xt_pure rfl rfl rfl (L1 := [_, _, _, _, _]) rfl ?_
  refine xt_pure rfl rfl rfl (st1 := .int 0 :: _) rfl ?_
  refine xt_pure rfl rfl rfl (L1 := [_, _, _, _, _]) rfl ?_
  exact tcE_isAround_4 hW2 hW3 hL0 hL1 hG hA0 hA1 hf hl h
def cE_inspect_118_108 (gi : Nat → Int32) (ga : Nat → List Int32) (As : List (Option zO)) (ne : Int32) (am : List Int64)  (N : Nat)  : Nat → Int32 → zS → Option (Int32 × zS)
  | 0, _, _ => none
  | n + 1, l3, S => (if (gi 10).toInt ≤ l3.toInt then some ((zI S 16), S) else (zg (gI (ga 12) l3) fun x4 => (zb (cE_fix gi ga As ne am N (N / 16) x4 0 S) fun x5 S6 => (if (zI S6 1) = (0 : Int32) then (if x5 ≠ (0 : Int64) then (cE_inspect_118_108 gi ga As ne am N n) (l3 + 1) S6 else (zg (gI (ga 11) l3) fun x8 => (zb (cE_add gi ga As ne am N 9 (-9) l3 x8 (-9) S6) fun _ S10 => (cE_inspect_118_108 gi ga As ne am N n) (l3 + 1) S10))) else (zg (gI (ga 11) l3) fun x12 => (zb (cE_add gi ga As ne am N (zI S6 1) (-9) l3 x12 (zI S6 2) S6) fun _ S14 => (cE_inspect_118_108 gi ga As ne am N n) (l3 + 1) S14))))))
theorem tcE_inspect_118_108 {X : List Int32} {D0 : List xE} {fa aa : Nat} {p : Nat → Nat} {gi : Nat → Int32} {ga : Nat → List Int32} {refs : List Value} {As : List (Option zO)} {ne : Int32} {am : List Int64} (hW2 : ((110, .inl (10, 2, .ref fa)) : xE) ∈ D0) (hW3 : ((110, .inl (10, 3, .ref aa)) : xE) ∈ D0) (hL0 : ((106, .inl (5, 2, .int ne)) : xE) ∈ D0) (hL1 : ((107, .inr (1, am.map Value.long)) : xE) ∈ D0) (hG : ∀ e ∈ zgE fa p gi ga, e ∈ D0) (hA0 : ((aa, .inr (7, refs)) : xE) ∈ D0) (hA1 : ∀ {j : Int32} {z : Option zO}, gI As j = some z → ∃ v, gI refs j = some v ∧ zVC D0 v z)  {N fr lo : Nat}   (hf : 5 + 3 * (N / 16) ≤ fr) (hl : 127 + 73 * (N / 16) ≤ lo)  : ∀ {n : Nat} {l3 : Int32} {u4 : Option Value} {u5 : Option Value} {S S2 : zS} {r : Int32} , cE_inspect_118_108 gi ga As ne am N n l3 S = some (r, S2) → yT X fr lo 130 108 [some (.ref 118), some (.ref fa), some (.ref aa), some (.int l3), u4, u5, none] [] (zD zTE zaE S D0) 0 0 (zQi zTE zaE D0 r S2) := by
  intro n
  induction n with
  | zero =>
    intro l3 u4 u5 S S2 r  h
    have h : (none : Option (Int32 × zS)) = some (r, S2) := h
    cases h
  | succ n ih =>
    intro l3 u4 u5 S S2 r  h
    rw [cE_inspect_118_108] at h
    refine xt_pure rfl rfl rfl rfl ?_
    refine xt_pure rfl rfl rfl rfl ?_
    refine xt_getf rfl rfl (zmr (ymm hG 10 rfl)) ?_
    refine xt_ic rfl rfl (fun hb => ?_) (fun hb => ?_)
    · replace h := zif_t (p := (gi 10).toInt ≤ l3.toInt) hb h
      refine xt_pure rfl rfl rfl rfl ?_
      refine zt_gI 16 rfl rfl rfl rfl (x := (zI S 16)) rfl ?_
      cases h
      exact xt_iret rfl rfl rfl rfl ⟨rfl, rfl⟩
    · replace h := zif_f (p := (gi 10).toInt ≤ l3.toInt) hb h
      refine xt_pure rfl rfl rfl rfl ?_
      refine xt_getf rfl rfl (xmC 150 rfl) ?_
      refine xt_pure rfl rfl rfl rfl ?_
      refine xt_getf rfl rfl (zmr (ymm hG 12 rfl)) ?_
      refine xt_pure rfl rfl rfl rfl ?_
      obtain ⟨x4, hx4, h⟩ := zgi h
      refine zr_ild (l := (ga 12)) rfl rfl (zmr (ymm hG 28 rfl)) hx4 ?_
      refine xt_pure rfl rfl rfl (st1 := .int 0 :: _) rfl ?_
      obtain ⟨x5, S6, hc7, h⟩ := zbi h
      refine zt_Vl rfl rfl rfl rfl (xmC 142 rfl) ⟨rfl, rfl, yle rfl, yle rfl⟩ (m := 7) rfl ⟨by omega, by omega⟩ ((tcE_fix hW2 hW3 hL0 hL1 hG hA0 hA1 (by omega) (by omega)) hc7) (fr1 := fr - 1) (lo1 := lo - 26) ?_
      refine xt_pure rfl rfl rfl (L1 := [_, _, _, _, _, _, _]) rfl ?_
      refine xt_pure rfl rfl rfl rfl ?_
      refine xt_getf rfl rfl (xmC 150 rfl) ?_
      refine zt_gI 1 rfl rfl rfl rfl (x := (zI S6 1)) rfl ?_
      refine xt_if rfl rfl (fun hb => ?_) (fun hb => ?_)
      · replace h := zif_t (p := (zI S6 1) = (0 : Int32)) hb h
        refine xt_pure rfl rfl rfl rfl ?_
        refine xt_pure rfl rfl rfl (st1 := .long 0 :: _) rfl ?_
        refine zt_lc rfl rfl rfl (fun hb => ?_) (fun hb => ?_)
        · replace h := zif_t (p := x5 ≠ (0 : Int64)) hb h
          refine xt_pure rfl rfl rfl (L1 := [_, _, _, some (.int (_ + 1)), _, _, _]) rfl ?_
          refine xt_pure rfl rfl rfl rfl ?_
          exact ih h
        · replace h := zif_f (p := x5 ≠ (0 : Int64)) hb h
          refine xt_pure rfl rfl rfl rfl ?_
          refine xt_pure rfl rfl rfl (st1 := .int 9 :: _) rfl ?_
          refine xt_pure rfl rfl rfl (st1 := .int (-9) :: _) rfl ?_
          refine xt_pure rfl rfl rfl rfl ?_
          refine xt_pure rfl rfl rfl rfl ?_
          refine xt_getf rfl rfl (zmr (ymm hG 11 rfl)) ?_
          refine xt_pure rfl rfl rfl rfl ?_
          obtain ⟨x8, hx8, h⟩ := zgi h
          refine zr_ild (l := (ga 11)) rfl rfl (zmr (ymm hG 27 rfl)) hx8 ?_
          refine xt_pure rfl rfl rfl (st1 := .int (-9) :: _) rfl ?_
          obtain ⟨_, S10, hc11, h⟩ := zbi h
          refine zt_Vv rfl rfl rfl rfl (xmC 150 rfl) ⟨rfl, rfl, yle rfl, yle rfl⟩ (m := 6) rfl ⟨by omega, by omega⟩ (tcE_add hW2 hW3 hL0 hL1 hG hA0 hA1 (by omega) (by omega) hc11) (fr1 := fr - 1) (lo1 := lo - 25) ?_
          refine xt_pure rfl rfl rfl (L1 := [_, _, _, some (.int (_ + 1)), _, _, _]) rfl ?_
          refine xt_pure rfl rfl rfl rfl ?_
          exact ih h
      · replace h := zif_f (p := (zI S6 1) = (0 : Int32)) hb h
        refine xt_pure rfl rfl rfl rfl ?_
        refine xt_pure rfl rfl rfl rfl ?_
        refine xt_getf rfl rfl (xmC 150 rfl) ?_
        refine zt_gI 1 rfl rfl rfl rfl (x := (zI S6 1)) rfl ?_
        refine xt_pure rfl rfl rfl (st1 := .int (-9) :: _) rfl ?_
        refine xt_pure rfl rfl rfl rfl ?_
        refine xt_pure rfl rfl rfl rfl ?_
        refine xt_getf rfl rfl (zmr (ymm hG 11 rfl)) ?_
        refine xt_pure rfl rfl rfl rfl ?_
        obtain ⟨x12, hx12, h⟩ := zgi h
        refine zr_ild (l := (ga 11)) rfl rfl (zmr (ymm hG 27 rfl)) hx12 ?_
        refine xt_pure rfl rfl rfl rfl ?_
        refine xt_getf rfl rfl (xmC 150 rfl) ?_
        refine zt_gI 2 rfl rfl rfl rfl (x := (zI S6 2)) rfl ?_
        obtain ⟨_, S14, hc15, h⟩ := zbi h
        refine zt_Vv rfl rfl rfl rfl (xmC 150 rfl) ⟨rfl, rfl, yle rfl, yle rfl⟩ (m := 6) rfl ⟨by omega, by omega⟩ (tcE_add hW2 hW3 hL0 hL1 hG hA0 hA1 (by omega) (by omega) hc15) (fr1 := fr - 1) (lo1 := lo - 25) ?_
        refine xt_pure rfl rfl rfl rfl ?_
        refine xt_pure rfl rfl rfl (L1 := [_, _, _, some (.int (_ + 1)), _, _, _]) rfl ?_
        refine xt_pure rfl rfl rfl rfl ?_
        exact ih h
def cE_inspect_118_71 (gi : Nat → Int32) (ga : Nat → List Int32) (As : List (Option zO)) (ne : Int32) (am : List Int64)  (N : Nat) (k10 : Int32 → zS → Option (Int32 × zS)) (l3 : Int32) (s1 : Int32) (s2 : Int32) (S : zS) : Option (Int32 × zS) := (if zok (zA S 22) s1 ∧ (s2 = 0 ∨ s2 = 1) then (if (zI S 1) = (0 : Int32) then (zg (gI (zs (zA S 22) s1 s2) l3) fun x17 => (if x17 = (0 : Int32) then k10 (l3 + 1) (zsA S 22 (zs (zA S 22) s1 s2)) else (zg (gI (ga 1) l3) fun x18 => (if x18 = (11 : Int32) then k10 (l3 + 1) (zsA S 22 (zs (zA S 22) s1 s2)) else (zg (gI As l3) fun z19 => (zo z19 ((zb (cE_faultOf gi ga As ne am N l3 none (zsA S 22 (zs (zA S 22) s1 s2))) fun x20 S21 => (zb (cE_addOfPart gi ga As ne am N x20 l3 S21) fun _ S24 => k10 (l3 + 1) S24))) fun o19 => (zb (cE_faultOf gi ga As ne am N l3 (some o19) (zsA S 22 (zs (zA S 22) s1 s2))) fun x26 S27 => (zb (cE_addOfPart gi ga As ne am N x26 l3 S27) fun _ S30 => k10 (l3 + 1) S30)))))))) else (zb (cE_addOfPart gi ga As ne am N (zI S 1) l3 (zsA S 22 (zs (zA S 22) s1 s2))) fun _ S33 => k10 (l3 + 1) S33)) else none)
theorem tcE_inspect_118_71 {X : List Int32} {D0 : List xE} {fa aa : Nat} {p : Nat → Nat} {gi : Nat → Int32} {ga : Nat → List Int32} {refs : List Value} {As : List (Option zO)} {ne : Int32} {am : List Int64} (hW2 : ((110, .inl (10, 2, .ref fa)) : xE) ∈ D0) (hW3 : ((110, .inl (10, 3, .ref aa)) : xE) ∈ D0) (hL0 : ((106, .inl (5, 2, .int ne)) : xE) ∈ D0) (hL1 : ((107, .inr (1, am.map Value.long)) : xE) ∈ D0) (hG : ∀ e ∈ zgE fa p gi ga, e ∈ D0) (hA0 : ((aa, .inr (7, refs)) : xE) ∈ D0) (hA1 : ∀ {j : Int32} {z : Option zO}, gI As j = some z → ∃ v, gI refs j = some v ∧ zVC D0 v z)  {N fr lo : Nat} {k10 : Int32 → zS → Option (Int32 × zS)} (hk10 : ∀ {l3 : Int32} {u4 : Option Value} {u5 : Option Value} {S S2 : zS} {r : Int32} , k10 l3 S = some (r, S2) → yT X fr lo 130 10 [some (.ref 118), some (.ref fa), some (.ref aa), some (.int l3), u4, u5, none] [] (zD zTE zaE S D0) 0 0 (zQi zTE zaE D0 r S2)) (hf : 5 + 3 * (N / 16) ≤ fr) (hl : 127 + 73 * (N / 16) ≤ lo) {l3 : Int32} {s1 : Int32} {s2 : Int32} {d4 : Int32} {d5 : Int64} {S S2 : zS} {r : Int32}  (h : cE_inspect_118_71 gi ga As ne am N k10 l3 s1 s2 S = some (r, S2)) : yT X fr lo 130 71 [some (.ref 118), some (.ref fa), some (.ref aa), some (.int l3), some (.int d4), some (.long d5), none] [.int s2, .int s1, .ref 124] (zD zTE zaE S D0) 0 0 (zQi zTE zaE D0 r S2) := by
  unfold cE_inspect_118_71 at h
  obtain ⟨hg, h⟩ := zgd h
  refine zt_bst 22 rfl rfl (Or.inr ⟨rfl, by rcases hg.2 with hg | hg <;> rw [hg] <;> rfl⟩) rfl rfl (l := (zA S 22)) rfl hg.1 ?_
  refine xt_pure rfl rfl rfl rfl ?_
  refine xt_getf rfl rfl (xmC 150 rfl) ?_
  refine zt_gI 1 rfl rfl rfl rfl (x := (zI S 1)) rfl ?_
  refine xt_if rfl rfl (fun hb => ?_) (fun hb => ?_)
  · replace h := zif_t (p := (zI S 1) = (0 : Int32)) hb h
    refine xt_pure rfl rfl rfl rfl ?_
    refine xt_getf rfl rfl (xmC 156 rfl) ?_
    refine xt_pure rfl rfl rfl rfl ?_
    obtain ⟨x17, hx17, h⟩ := zgi h
    refine zr_bld (l := (zs (zA S 22) s1 s2)) rfl rfl (by decide) (zmA 22 rfl rfl (l := (zs (zA S 22) s1 s2)) rfl) hx17 ?_
    refine xt_if rfl rfl (fun hb => ?_) (fun hb => ?_)
    · replace h := zif_t (p := x17 = (0 : Int32)) hb h
      refine xt_pure rfl rfl rfl (L1 := [_, _, _, some (.int (_ + 1)), _, _, _]) rfl ?_
      refine xt_pure rfl rfl rfl rfl ?_
      exact hk10 h
    · replace h := zif_f (p := x17 = (0 : Int32)) hb h
      refine xt_pure rfl rfl rfl rfl ?_
      refine xt_getf rfl rfl (zmr (ymm hG 1 rfl)) ?_
      refine xt_pure rfl rfl rfl rfl ?_
      obtain ⟨x18, hx18, h⟩ := zgi h
      refine zr_ild (l := (ga 1)) rfl rfl (zmr (ymm hG 19 rfl)) hx18 ?_
      refine xt_pure rfl rfl rfl (st1 := .int 11 :: _) rfl ?_
      refine xt_ic rfl rfl (fun hb => ?_) (fun hb => ?_)
      · replace h := zif_t (p := x18 = (11 : Int32)) hb h
        refine xt_pure rfl rfl rfl (L1 := [_, _, _, some (.int (_ + 1)), _, _, _]) rfl ?_
        refine xt_pure rfl rfl rfl rfl ?_
        exact hk10 h
      · replace h := zif_f (p := x18 = (11 : Int32)) hb h
        refine xt_pure rfl rfl rfl rfl ?_
        refine xt_pure rfl rfl rfl rfl ?_
        refine xt_pure rfl rfl rfl rfl ?_
        refine xt_pure rfl rfl rfl rfl ?_
        refine xt_pure rfl rfl rfl rfl ?_
        refine xt_pure rfl rfl rfl rfl ?_
        obtain ⟨z19, hz19, h⟩ := zgi h
        obtain ⟨v19, hw19, hv19⟩ := hA1 hz19
        refine zr_ald (l := refs) rfl rfl ⟨by decide, rfl⟩ (zmr hA0) hw19 ?_
        rcases z19 with _ | o19
        · obtain rfl : v19 = Value.null := hv19
          replace h := zon h
          obtain ⟨x20, S21, hc22, h⟩ := zbi h
          refine zt_Vi rfl rfl rfl rfl (xmC 150 rfl) ⟨rfl, rfl, yle rfl, yle rfl⟩ (m := 5) rfl ⟨by omega, by omega⟩ (tcE_faultOf hW2 hW3 hL0 hL1 hG hA0 hA1 (by omega) (by omega) zvnC hc22) (fr1 := fr - 1) (lo1 := lo - 24) ?_
          refine xt_pure rfl rfl rfl rfl ?_
          obtain ⟨_, S24, hc25, h⟩ := zbi h
          refine zt_Vv rfl rfl rfl rfl (xmC 150 rfl) ⟨rfl, rfl, yle rfl, yle rfl⟩ (m := 3) rfl ⟨by omega, by omega⟩ (tcE_addOfPart hW2 hW3 hL0 hL1 hG hA0 hA1 (by omega) (by omega) hc25) (fr1 := fr - 1) (lo1 := lo - 22) ?_
          refine xt_pure rfl rfl rfl (L1 := [_, _, _, some (.int (_ + 1)), _, _, _]) rfl ?_
          refine xt_pure rfl rfl rfl rfl ?_
          exact hk10 h
        · obtain ⟨oa19, rfl, ho19⟩ := hv19
          replace h := zos h
          have hk19 := ho19
          obtain ⟨ia19, ra19, rr19, q019, q119, q219, q319, q419, q519, q619⟩ := hk19
          obtain ⟨x26, S27, hc28, h⟩ := zbi h
          refine zt_Vi rfl rfl rfl rfl (xmC 150 rfl) ⟨rfl, rfl, yle rfl, yle rfl⟩ (m := 5) rfl ⟨by omega, by omega⟩ (tcE_faultOf hW2 hW3 hL0 hL1 hG hA0 hA1 (by omega) (by omega) (zvsC ho19) hc28) (fr1 := fr - 1) (lo1 := lo - 24) ?_
          refine xt_pure rfl rfl rfl rfl ?_
          obtain ⟨_, S30, hc31, h⟩ := zbi h
          refine zt_Vv rfl rfl rfl rfl (xmC 150 rfl) ⟨rfl, rfl, yle rfl, yle rfl⟩ (m := 3) rfl ⟨by omega, by omega⟩ (tcE_addOfPart hW2 hW3 hL0 hL1 hG hA0 hA1 (by omega) (by omega) hc31) (fr1 := fr - 1) (lo1 := lo - 22) ?_
          refine xt_pure rfl rfl rfl (L1 := [_, _, _, some (.int (_ + 1)), _, _, _]) rfl ?_
          refine xt_pure rfl rfl rfl rfl ?_
          exact hk10 h
  · replace h := zif_f (p := (zI S 1) = (0 : Int32)) hb h
    refine xt_pure rfl rfl rfl rfl ?_
    refine xt_pure rfl rfl rfl rfl ?_
    refine xt_getf rfl rfl (xmC 150 rfl) ?_
    refine zt_gI 1 rfl rfl rfl rfl (x := (zI S 1)) rfl ?_
    refine xt_pure rfl rfl rfl rfl ?_
    obtain ⟨_, S33, hc34, h⟩ := zbi h
    refine zt_Vv rfl rfl rfl rfl (xmC 150 rfl) ⟨rfl, rfl, yle rfl, yle rfl⟩ (m := 3) rfl ⟨by omega, by omega⟩ (tcE_addOfPart hW2 hW3 hL0 hL1 hG hA0 hA1 (by omega) (by omega) hc34) (fr1 := fr - 1) (lo1 := lo - 22) ?_
    refine xt_pure rfl rfl rfl rfl ?_
    refine xt_pure rfl rfl rfl (L1 := [_, _, _, some (.int (_ + 1)), _, _, _]) rfl ?_
    refine xt_pure rfl rfl rfl rfl ?_
    exact hk10 h
def cE_inspect_118_54 (gi : Nat → Int32) (ga : Nat → List Int32) (As : List (Option zO)) (ne : Int32) (am : List Int64)  (N : Nat) (k10 : Int32 → zS → Option (Int32 × zS)) (l3 : Int32) (l4 : Int32) (s0 : Int64) (S : zS) : Option (Int32 × zS) := (if l4 = (0 : Int32) then cE_inspect_118_71 gi ga As ne am N k10 l3 l3 0 S else (if (zI S 1) ≠ (0 : Int32) then cE_inspect_118_71 gi ga As ne am N k10 l3 l3 0 S else (if s0 = (0 : Int64) then cE_inspect_118_71 gi ga As ne am N k10 l3 l3 0 S else cE_inspect_118_71 gi ga As ne am N k10 l3 l3 1 S)))
theorem tcE_inspect_118_54 {X : List Int32} {D0 : List xE} {fa aa : Nat} {p : Nat → Nat} {gi : Nat → Int32} {ga : Nat → List Int32} {refs : List Value} {As : List (Option zO)} {ne : Int32} {am : List Int64} (hW2 : ((110, .inl (10, 2, .ref fa)) : xE) ∈ D0) (hW3 : ((110, .inl (10, 3, .ref aa)) : xE) ∈ D0) (hL0 : ((106, .inl (5, 2, .int ne)) : xE) ∈ D0) (hL1 : ((107, .inr (1, am.map Value.long)) : xE) ∈ D0) (hG : ∀ e ∈ zgE fa p gi ga, e ∈ D0) (hA0 : ((aa, .inr (7, refs)) : xE) ∈ D0) (hA1 : ∀ {j : Int32} {z : Option zO}, gI As j = some z → ∃ v, gI refs j = some v ∧ zVC D0 v z)  {N fr lo : Nat} {k10 : Int32 → zS → Option (Int32 × zS)} (hk10 : ∀ {l3 : Int32} {u4 : Option Value} {u5 : Option Value} {S S2 : zS} {r : Int32} , k10 l3 S = some (r, S2) → yT X fr lo 130 10 [some (.ref 118), some (.ref fa), some (.ref aa), some (.int l3), u4, u5, none] [] (zD zTE zaE S D0) 0 0 (zQi zTE zaE D0 r S2)) (hf : 5 + 3 * (N / 16) ≤ fr) (hl : 127 + 73 * (N / 16) ≤ lo) {l3 : Int32} {l4 : Int32} {s0 : Int64} {u5 : Option Value} {S S2 : zS} {r : Int32}  (h : cE_inspect_118_54 gi ga As ne am N k10 l3 l4 s0 S = some (r, S2)) : yT X fr lo 130 54 [some (.ref 118), some (.ref fa), some (.ref aa), some (.int l3), some (.int l4), u5, none] [.long s0] (zD zTE zaE S D0) 0 0 (zQi zTE zaE D0 r S2) := by
  unfold cE_inspect_118_54 at h
  refine xt_pure rfl rfl rfl (L1 := [_, _, _, _, _, _, _]) rfl ?_
  refine xt_pure rfl rfl rfl rfl ?_
  refine xt_getf rfl rfl (xmC 156 rfl) ?_
  refine xt_pure rfl rfl rfl rfl ?_
  refine xt_pure rfl rfl rfl rfl ?_
  refine xt_if rfl rfl (fun hb => ?_) (fun hb => ?_)
  · replace h := zif_t (p := l4 = (0 : Int32)) hb h
    refine xt_pure rfl rfl rfl (st1 := .int 0 :: _) rfl ?_
    exact tcE_inspect_118_71 hW2 hW3 hL0 hL1 hG hA0 hA1 hk10 hf hl h
  · replace h := zif_f (p := l4 = (0 : Int32)) hb h
    refine xt_pure rfl rfl rfl rfl ?_
    refine xt_getf rfl rfl (xmC 150 rfl) ?_
    refine zt_gI 1 rfl rfl rfl rfl (x := (zI S 1)) rfl ?_
    refine xt_if rfl rfl (fun hb => ?_) (fun hb => ?_)
    · replace h := zif_t (p := (zI S 1) ≠ (0 : Int32)) hb h
      refine xt_pure rfl rfl rfl (st1 := .int 0 :: _) rfl ?_
      exact tcE_inspect_118_71 hW2 hW3 hL0 hL1 hG hA0 hA1 hk10 hf hl h
    · replace h := zif_f (p := (zI S 1) ≠ (0 : Int32)) hb h
      refine xt_pure rfl rfl rfl rfl ?_
      refine xt_pure rfl rfl rfl (st1 := .long 0 :: _) rfl ?_
      refine zt_lc rfl rfl rfl (fun hb => ?_) (fun hb => ?_)
      · replace h := zif_t (p := s0 = (0 : Int64)) hb h
        refine xt_pure rfl rfl rfl (st1 := .int 0 :: _) rfl ?_
        exact tcE_inspect_118_71 hW2 hW3 hL0 hL1 hG hA0 hA1 hk10 hf hl h
      · replace h := zif_f (p := s0 = (0 : Int64)) hb h
        refine xt_pure rfl rfl rfl (st1 := .int 1 :: _) rfl ?_
        refine xt_pure rfl rfl rfl rfl ?_
        exact tcE_inspect_118_71 hW2 hW3 hL0 hL1 hG hA0 hA1 hk10 hf hl h
def cE_inspect_118_35 (gi : Nat → Int32) (ga : Nat → List Int32) (As : List (Option zO)) (ne : Int32) (am : List Int64)  (N : Nat) (k10 : Int32 → zS → Option (Int32 × zS)) (l3 : Int32) (s0 : Int32) (S : zS) : Option (Int32 × zS) := (if s0 = (0 : Int32) then cE_inspect_118_54 gi ga As ne am N k10 l3 s0 1 S else (zg (gI (ga 7) l3) fun x35 => (if x35 = ((-9) : Int32) then cE_inspect_118_54 gi ga As ne am N k10 l3 s0 1 S else (zg (gI (ga 7) l3) fun x36 => (zb (cE_fix gi ga As ne am N (N / 16) x36 0 S) fun x37 S38 => cE_inspect_118_54 gi ga As ne am N k10 l3 s0 x37 S38)))))
theorem tcE_inspect_118_35 {X : List Int32} {D0 : List xE} {fa aa : Nat} {p : Nat → Nat} {gi : Nat → Int32} {ga : Nat → List Int32} {refs : List Value} {As : List (Option zO)} {ne : Int32} {am : List Int64} (hW2 : ((110, .inl (10, 2, .ref fa)) : xE) ∈ D0) (hW3 : ((110, .inl (10, 3, .ref aa)) : xE) ∈ D0) (hL0 : ((106, .inl (5, 2, .int ne)) : xE) ∈ D0) (hL1 : ((107, .inr (1, am.map Value.long)) : xE) ∈ D0) (hG : ∀ e ∈ zgE fa p gi ga, e ∈ D0) (hA0 : ((aa, .inr (7, refs)) : xE) ∈ D0) (hA1 : ∀ {j : Int32} {z : Option zO}, gI As j = some z → ∃ v, gI refs j = some v ∧ zVC D0 v z)  {N fr lo : Nat} {k10 : Int32 → zS → Option (Int32 × zS)} (hk10 : ∀ {l3 : Int32} {u4 : Option Value} {u5 : Option Value} {S S2 : zS} {r : Int32} , k10 l3 S = some (r, S2) → yT X fr lo 130 10 [some (.ref 118), some (.ref fa), some (.ref aa), some (.int l3), u4, u5, none] [] (zD zTE zaE S D0) 0 0 (zQi zTE zaE D0 r S2)) (hf : 5 + 3 * (N / 16) ≤ fr) (hl : 127 + 73 * (N / 16) ≤ lo) {l3 : Int32} {s0 : Int32} {u4 : Option Value} {u5 : Option Value} {S S2 : zS} {r : Int32}  (h : cE_inspect_118_35 gi ga As ne am N k10 l3 s0 S = some (r, S2)) : yT X fr lo 130 35 [some (.ref 118), some (.ref fa), some (.ref aa), some (.int l3), u4, u5, none] [.int s0] (zD zTE zaE S D0) 0 0 (zQi zTE zaE D0 r S2) := by
  unfold cE_inspect_118_35 at h
  refine xt_pure rfl rfl rfl (L1 := [_, _, _, _, _, _, _]) rfl ?_
  refine xt_pure rfl rfl rfl rfl ?_
  refine xt_if rfl rfl (fun hb => ?_) (fun hb => ?_)
  · replace h := zif_t (p := s0 = (0 : Int32)) hb h
    refine xt_pure rfl rfl rfl (st1 := .long 1 :: _) rfl ?_
    exact tcE_inspect_118_54 hW2 hW3 hL0 hL1 hG hA0 hA1 hk10 hf hl h
  · replace h := zif_f (p := s0 = (0 : Int32)) hb h
    refine xt_pure rfl rfl rfl rfl ?_
    refine xt_getf rfl rfl (zmr (ymm hG 7 rfl)) ?_
    refine xt_pure rfl rfl rfl rfl ?_
    obtain ⟨x35, hx35, h⟩ := zgi h
    refine zr_ild (l := (ga 7)) rfl rfl (zmr (ymm hG 25 rfl)) hx35 ?_
    refine xt_pure rfl rfl rfl (st1 := .int (-9) :: _) rfl ?_
    refine xt_ic rfl rfl (fun hb => ?_) (fun hb => ?_)
    · replace h := zif_t (p := x35 = ((-9) : Int32)) hb h
      refine xt_pure rfl rfl rfl (st1 := .long 1 :: _) rfl ?_
      exact tcE_inspect_118_54 hW2 hW3 hL0 hL1 hG hA0 hA1 hk10 hf hl h
    · replace h := zif_f (p := x35 = ((-9) : Int32)) hb h
      refine xt_pure rfl rfl rfl rfl ?_
      refine xt_getf rfl rfl (xmC 150 rfl) ?_
      refine xt_pure rfl rfl rfl rfl ?_
      refine xt_getf rfl rfl (zmr (ymm hG 7 rfl)) ?_
      refine xt_pure rfl rfl rfl rfl ?_
      obtain ⟨x36, hx36, h⟩ := zgi h
      refine zr_ild (l := (ga 7)) rfl rfl (zmr (ymm hG 25 rfl)) hx36 ?_
      refine xt_pure rfl rfl rfl (st1 := .int 0 :: _) rfl ?_
      obtain ⟨x37, S38, hc39, h⟩ := zbi h
      refine zt_Vl rfl rfl rfl rfl (xmC 142 rfl) ⟨rfl, rfl, yle rfl, yle rfl⟩ (m := 7) rfl ⟨by omega, by omega⟩ ((tcE_fix hW2 hW3 hL0 hL1 hG hA0 hA1 (by omega) (by omega)) hc39) (fr1 := fr - 1) (lo1 := lo - 26) ?_
      refine xt_pure rfl rfl rfl rfl ?_
      exact tcE_inspect_118_54 hW2 hW3 hL0 hL1 hG hA0 hA1 hk10 hf hl h
def cE_inspect_118_10 (gi : Nat → Int32) (ga : Nat → List Int32) (As : List (Option zO)) (ne : Int32) (am : List Int64)  (N : Nat)  : Nat → Int32 → zS → Option (Int32 × zS)
  | 0, _, _ => none
  | n + 1, l3, S => (if (gi 0).toInt ≤ l3.toInt then cE_inspect_118_108 gi ga As ne am N N 0 S else (zg (gI (ga 2) l3) fun x16 => (if x16 = ((-9) : Int32) then cE_inspect_118_35 gi ga As ne am N (cE_inspect_118_10 gi ga As ne am N n) l3 1 (zsI S 1 0) else (zg (gI (ga 2) l3) fun x40 => (zg (gI (zA S 22) x40) fun x41 => (if x41 = (0 : Int32) then cE_inspect_118_35 gi ga As ne am N (cE_inspect_118_10 gi ga As ne am N n) l3 0 (zsI S 1 0) else cE_inspect_118_35 gi ga As ne am N (cE_inspect_118_10 gi ga As ne am N n) l3 1 (zsI S 1 0)))))))
theorem tcE_inspect_118_10 {X : List Int32} {D0 : List xE} {fa aa : Nat} {p : Nat → Nat} {gi : Nat → Int32} {ga : Nat → List Int32} {refs : List Value} {As : List (Option zO)} {ne : Int32} {am : List Int64} (hW2 : ((110, .inl (10, 2, .ref fa)) : xE) ∈ D0) (hW3 : ((110, .inl (10, 3, .ref aa)) : xE) ∈ D0) (hL0 : ((106, .inl (5, 2, .int ne)) : xE) ∈ D0) (hL1 : ((107, .inr (1, am.map Value.long)) : xE) ∈ D0) (hG : ∀ e ∈ zgE fa p gi ga, e ∈ D0) (hA0 : ((aa, .inr (7, refs)) : xE) ∈ D0) (hA1 : ∀ {j : Int32} {z : Option zO}, gI As j = some z → ∃ v, gI refs j = some v ∧ zVC D0 v z)  {N fr lo : Nat}   (hf : 5 + 3 * (N / 16) ≤ fr) (hl : 127 + 73 * (N / 16) ≤ lo)  : ∀ {n : Nat} {l3 : Int32} {u4 : Option Value} {u5 : Option Value} {S S2 : zS} {r : Int32} , cE_inspect_118_10 gi ga As ne am N n l3 S = some (r, S2) → yT X fr lo 130 10 [some (.ref 118), some (.ref fa), some (.ref aa), some (.int l3), u4, u5, none] [] (zD zTE zaE S D0) 0 0 (zQi zTE zaE D0 r S2) := by
  intro n
  induction n with
  | zero =>
    intro l3 u4 u5 S S2 r  h
    have h : (none : Option (Int32 × zS)) = some (r, S2) := h
    cases h
  | succ n ih =>
    intro l3 u4 u5 S S2 r  h
    rw [cE_inspect_118_10] at h
    refine xt_pure rfl rfl rfl rfl ?_
    refine xt_pure rfl rfl rfl rfl ?_
    refine xt_getf rfl rfl (zmr (ymm hG 0 rfl)) ?_
    refine xt_ic rfl rfl (fun hb => ?_) (fun hb => ?_)
    · replace h := zif_t (p := (gi 0).toInt ≤ l3.toInt) hb h
      refine xt_pure rfl rfl rfl (st1 := .int 0 :: _) rfl ?_
      refine xt_pure rfl rfl rfl (L1 := [_, _, _, _, _, _, _]) rfl ?_
      exact tcE_inspect_118_108 hW2 hW3 hL0 hL1 hG hA0 hA1 hf hl h
    · replace h := zif_f (p := (gi 0).toInt ≤ l3.toInt) hb h
      refine xt_pure rfl rfl rfl rfl ?_
      refine xt_getf rfl rfl (xmC 150 rfl) ?_
      refine xt_pure rfl rfl rfl (st1 := .int 0 :: _) rfl ?_
      refine zt_pI 1 rfl rfl rfl rfl rfl rfl ?_
      refine xt_pure rfl rfl rfl rfl ?_
      refine xt_getf rfl rfl (zmr (ymm hG 2 rfl)) ?_
      refine xt_pure rfl rfl rfl rfl ?_
      obtain ⟨x16, hx16, h⟩ := zgi h
      refine zr_ild (l := (ga 2)) rfl rfl (zmr (ymm hG 20 rfl)) hx16 ?_
      refine xt_pure rfl rfl rfl (st1 := .int (-9) :: _) rfl ?_
      refine xt_ic rfl rfl (fun hb => ?_) (fun hb => ?_)
      · replace h := zif_t (p := x16 = ((-9) : Int32)) hb h
        refine xt_pure rfl rfl rfl (st1 := .int 1 :: _) rfl ?_
        refine xt_pure rfl rfl rfl rfl ?_
        exact tcE_inspect_118_35 hW2 hW3 hL0 hL1 hG hA0 hA1 (fun h => ih h) hf hl h
      · replace h := zif_f (p := x16 = ((-9) : Int32)) hb h
        refine xt_pure rfl rfl rfl rfl ?_
        refine xt_getf rfl rfl (xmC 156 rfl) ?_
        refine xt_pure rfl rfl rfl rfl ?_
        refine xt_getf rfl rfl (zmr (ymm hG 2 rfl)) ?_
        refine xt_pure rfl rfl rfl rfl ?_
        obtain ⟨x40, hx40, h⟩ := zgi h
        refine zr_ild (l := (ga 2)) rfl rfl (zmr (ymm hG 20 rfl)) hx40 ?_
        obtain ⟨x41, hx41, h⟩ := zgi h
        refine zr_bld (l := (zA S 22)) rfl rfl (by decide) (zmA 22 rfl rfl (l := (zA S 22)) rfl) hx41 ?_
        refine xt_if rfl rfl (fun hb => ?_) (fun hb => ?_)
        · replace h := zif_t (p := x41 = (0 : Int32)) hb h
          refine xt_pure rfl rfl rfl (st1 := .int 0 :: _) rfl ?_
          exact tcE_inspect_118_35 hW2 hW3 hL0 hL1 hG hA0 hA1 (fun h => ih h) hf hl h
        · replace h := zif_f (p := x41 = (0 : Int32)) hb h
          refine xt_pure rfl rfl rfl (st1 := .int 1 :: _) rfl ?_
          refine xt_pure rfl rfl rfl rfl ?_
          exact tcE_inspect_118_35 hW2 hW3 hL0 hL1 hG hA0 hA1 (fun h => ih h) hf hl h
def cE_inspect_118 (gi : Nat → Int32) (ga : Nat → List Int32) (As : List (Option zO)) (ne : Int32) (am : List Int64)  (N : Nat)  (S : zS) : Option (Int32 × zS) := (zb (cB_begin N (zsI S 16 0)) fun _ S2 => cE_inspect_118_10 gi ga As ne am N N 0 S2)
theorem tcE_inspect_118 {X : List Int32} {D0 : List xE} {fa aa : Nat} {p : Nat → Nat} {gi : Nat → Int32} {ga : Nat → List Int32} {refs : List Value} {As : List (Option zO)} {ne : Int32} {am : List Int64} (hW2 : ((110, .inl (10, 2, .ref fa)) : xE) ∈ D0) (hW3 : ((110, .inl (10, 3, .ref aa)) : xE) ∈ D0) (hL0 : ((106, .inl (5, 2, .int ne)) : xE) ∈ D0) (hL1 : ((107, .inr (1, am.map Value.long)) : xE) ∈ D0) (hG : ∀ e ∈ zgE fa p gi ga, e ∈ D0) (hA0 : ((aa, .inr (7, refs)) : xE) ∈ D0) (hA1 : ∀ {j : Int32} {z : Option zO}, gI As j = some z → ∃ v, gI refs j = some v ∧ zVC D0 v z)  {N fr lo : Nat} (hf : 5 + 3 * (N / 16) ≤ fr) (hl : 127 + 73 * (N / 16) ≤ lo) {Da : List xE} (hbeg : ∀ {S S2 : zS} {r : Unit}, cB_begin N S = some (r, S2) → yK X 0 0 131 [.ref 110, .ref fa, .ref aa] (zD zTE zaE S Da) 0 0 (zQv zTE zaE D0 r S2))  {S S2 : zS} {r : Int32}  (h : cE_inspect_118 gi ga As ne am N  S = some (r, S2)) : yK X fr lo 130 [.ref 118, .ref fa, .ref aa] (zD zTE zaE S Da) 0 0 (zQi zTE zaE D0 r S2) := by
  unfold cE_inspect_118 at h
  refine yK.of rfl (yle rfl) (L := [_, _, _, _, _, _, _]) rfl ?_
  refine xt_pure rfl rfl rfl rfl ?_
  refine xt_pure rfl rfl rfl (st1 := .int 0 :: _) rfl ?_
  refine zt_pI 16 rfl rfl rfl rfl rfl rfl ?_
  refine xt_pure rfl rfl rfl rfl ?_
  refine xt_getf rfl rfl (xmC 150 rfl) ?_
  refine xt_pure rfl rfl rfl rfl ?_
  refine xt_pure rfl rfl rfl rfl ?_
  obtain ⟨_, S2, hc3, h⟩ := zbi h
  refine zt_Vv rfl rfl rfl rfl (xmC 142 rfl) ⟨rfl, rfl, yle rfl, yle rfl⟩ (m := 4) rfl ⟨by omega, by omega⟩ (hbeg hc3) (fr1 := 0) (lo1 := 0) ?_
  refine xt_pure rfl rfl rfl (st1 := .int 0 :: _) rfl ?_
  refine xt_pure rfl rfl rfl (L1 := [_, _, _, _, _, _, _]) rfl ?_
  exact tcE_inspect_118_10 hW2 hW3 hL0 hL1 hG hA0 hA1 hf hl h
def cE_showsAlone_7 (gi : Nat → Int32) (ga : Nat → List Int32) (As : List (Option zO)) (ne : Int32) (am : List Int64)  (N : Nat)  : Nat → Int32 → Int32 → zS → Option (Int32 × zS)
  | 0, _, _, _ => none
  | n + 1, l3, l4, S => (if l3.toInt < l4.toInt then some (1, S) else (zg (gI (ga 7) l4) fun x4 => (if x4 = ((-9) : Int32) then (cE_showsAlone_7 gi ga As ne am N n) l3 (l4 + 1) S else (zb (cE_isAround gi ga As ne am N l4 l3 S) fun x5 S6 => (if x5 = (0 : Int32) then (cE_showsAlone_7 gi ga As ne am N n) l3 (l4 + 1) S6 else (zg (gI (ga 7) l4) fun x8 => (zb (cE_fix gi ga As ne am N (N / 16) x8 0 S6) fun x9 S10 => (if x9 = (0 : Int64) then some (0, S10) else (if (zI S10 1) = (0 : Int32) then (cE_showsAlone_7 gi ga As ne am N n) l3 (l4 + 1) S10 else some (0, S10))))))))))
theorem tcE_showsAlone_7 {X : List Int32} {D0 : List xE} {fa aa : Nat} {p : Nat → Nat} {gi : Nat → Int32} {ga : Nat → List Int32} {refs : List Value} {As : List (Option zO)} {ne : Int32} {am : List Int64} (hW2 : ((110, .inl (10, 2, .ref fa)) : xE) ∈ D0) (hW3 : ((110, .inl (10, 3, .ref aa)) : xE) ∈ D0) (hL0 : ((106, .inl (5, 2, .int ne)) : xE) ∈ D0) (hL1 : ((107, .inr (1, am.map Value.long)) : xE) ∈ D0) (hG : ∀ e ∈ zgE fa p gi ga, e ∈ D0) (hA0 : ((aa, .inr (7, refs)) : xE) ∈ D0) (hA1 : ∀ {j : Int32} {z : Option zO}, gI As j = some z → ∃ v, gI refs j = some v ∧ zVC D0 v z)  {N fr lo : Nat}   (hf : 5 + 3 * (N / 16) ≤ fr) (hl : 127 + 73 * (N / 16) ≤ lo)  : ∀ {n : Nat} {l3 : Int32} {l4 : Int32}  {S S2 : zS} {r : Int32} , cE_showsAlone_7 gi ga As ne am N n l3 l4 S = some (r, S2) → yT X fr lo 163 7 [some (.ref 118), some (.ref fa), some (.ref aa), some (.int l3), some (.int l4)] [] (zD zTE zaE S D0) 0 0 (zQi zTE zaE D0 r S2) := by
  intro n
  induction n with
  | zero =>
    intro l3 l4  S S2 r  h
    have h : (none : Option (Int32 × zS)) = some (r, S2) := h
    cases h
  | succ n ih =>
    intro l3 l4  S S2 r  h
    rw [cE_showsAlone_7] at h
    refine xt_pure rfl rfl rfl rfl ?_
    refine xt_pure rfl rfl rfl rfl ?_
    refine xt_ic rfl rfl (fun hb => ?_) (fun hb => ?_)
    · replace h := zif_t (p := l3.toInt < l4.toInt) hb h
      refine xt_pure rfl rfl rfl (st1 := .int 1 :: _) rfl ?_
      cases h
      exact xt_iret rfl rfl rfl rfl ⟨rfl, rfl⟩
    · replace h := zif_f (p := l3.toInt < l4.toInt) hb h
      refine xt_pure rfl rfl rfl rfl ?_
      refine xt_getf rfl rfl (zmr (ymm hG 7 rfl)) ?_
      refine xt_pure rfl rfl rfl rfl ?_
      obtain ⟨x4, hx4, h⟩ := zgi h
      refine zr_ild (l := (ga 7)) rfl rfl (zmr (ymm hG 25 rfl)) hx4 ?_
      refine xt_pure rfl rfl rfl (st1 := .int (-9) :: _) rfl ?_
      refine xt_ic rfl rfl (fun hb => ?_) (fun hb => ?_)
      · replace h := zif_t (p := x4 = ((-9) : Int32)) hb h
        refine xt_pure rfl rfl rfl (L1 := [_, _, _, _, some (.int (_ + 1))]) rfl ?_
        refine xt_pure rfl rfl rfl rfl ?_
        exact ih h
      · replace h := zif_f (p := x4 = ((-9) : Int32)) hb h
        refine xt_pure rfl rfl rfl rfl ?_
        refine xt_pure rfl rfl rfl rfl ?_
        refine xt_pure rfl rfl rfl rfl ?_
        obtain ⟨x5, S6, hc7, h⟩ := zbi h
        refine zt_Si rfl rfl (by decide) rfl rfl ⟨rfl, yle rfl, yle rfl⟩ (m := 5) rfl ⟨by omega, by omega⟩ (tcE_isAround hW2 hW3 hL0 hL1 hG hA0 hA1 (by omega) (by omega) hc7) (fr1 := fr - 1) (lo1 := lo - 24) ?_
        refine xt_if rfl rfl (fun hb => ?_) (fun hb => ?_)
        · replace h := zif_t (p := x5 = (0 : Int32)) hb h
          refine xt_pure rfl rfl rfl (L1 := [_, _, _, _, some (.int (_ + 1))]) rfl ?_
          refine xt_pure rfl rfl rfl rfl ?_
          exact ih h
        · replace h := zif_f (p := x5 = (0 : Int32)) hb h
          refine xt_pure rfl rfl rfl rfl ?_
          refine xt_getf rfl rfl (xmC 150 rfl) ?_
          refine xt_pure rfl rfl rfl rfl ?_
          refine xt_getf rfl rfl (zmr (ymm hG 7 rfl)) ?_
          refine xt_pure rfl rfl rfl rfl ?_
          obtain ⟨x8, hx8, h⟩ := zgi h
          refine zr_ild (l := (ga 7)) rfl rfl (zmr (ymm hG 25 rfl)) hx8 ?_
          refine xt_pure rfl rfl rfl (st1 := .int 0 :: _) rfl ?_
          obtain ⟨x9, S10, hc11, h⟩ := zbi h
          refine zt_Vl rfl rfl rfl rfl (xmC 142 rfl) ⟨rfl, rfl, yle rfl, yle rfl⟩ (m := 7) rfl ⟨by omega, by omega⟩ ((tcE_fix hW2 hW3 hL0 hL1 hG hA0 hA1 (by omega) (by omega)) hc11) (fr1 := fr - 1) (lo1 := lo - 26) ?_
          refine xt_pure rfl rfl rfl (st1 := .long 0 :: _) rfl ?_
          refine zt_lc rfl rfl rfl (fun hb => ?_) (fun hb => ?_)
          · replace h := zif_t (p := x9 = (0 : Int64)) hb h
            refine xt_pure rfl rfl rfl (st1 := .int 0 :: _) rfl ?_
            cases h
            exact xt_iret rfl rfl rfl rfl ⟨rfl, rfl⟩
          · replace h := zif_f (p := x9 = (0 : Int64)) hb h
            refine xt_pure rfl rfl rfl rfl ?_
            refine xt_getf rfl rfl (xmC 150 rfl) ?_
            refine zt_gI 1 rfl rfl rfl rfl (x := (zI S10 1)) rfl ?_
            refine xt_if rfl rfl (fun hb => ?_) (fun hb => ?_)
            · replace h := zif_t (p := (zI S10 1) = (0 : Int32)) hb h
              refine xt_pure rfl rfl rfl (L1 := [_, _, _, _, some (.int (_ + 1))]) rfl ?_
              refine xt_pure rfl rfl rfl rfl ?_
              exact ih h
            · replace h := zif_f (p := (zI S10 1) = (0 : Int32)) hb h
              refine xt_pure rfl rfl rfl (st1 := .int 0 :: _) rfl ?_
              cases h
              exact xt_iret rfl rfl rfl rfl ⟨rfl, rfl⟩
def cE_showsAlone (gi : Nat → Int32) (ga : Nat → List Int32) (As : List (Option zO)) (ne : Int32) (am : List Int64)  (N : Nat) (v3 : Int32) (S : zS) : Option (Int32 × zS) := (zb (cB_begin N S) fun _ S2 => cE_showsAlone_7 gi ga As ne am N N v3 0 S2)
theorem tcE_showsAlone {X : List Int32} {D0 : List xE} {fa aa : Nat} {p : Nat → Nat} {gi : Nat → Int32} {ga : Nat → List Int32} {refs : List Value} {As : List (Option zO)} {ne : Int32} {am : List Int64} (hW2 : ((110, .inl (10, 2, .ref fa)) : xE) ∈ D0) (hW3 : ((110, .inl (10, 3, .ref aa)) : xE) ∈ D0) (hL0 : ((106, .inl (5, 2, .int ne)) : xE) ∈ D0) (hL1 : ((107, .inr (1, am.map Value.long)) : xE) ∈ D0) (hG : ∀ e ∈ zgE fa p gi ga, e ∈ D0) (hA0 : ((aa, .inr (7, refs)) : xE) ∈ D0) (hA1 : ∀ {j : Int32} {z : Option zO}, gI As j = some z → ∃ v, gI refs j = some v ∧ zVC D0 v z)  {N fr lo : Nat} (hf : 5 + 3 * (N / 16) ≤ fr) (hl : 127 + 73 * (N / 16) ≤ lo) {Da : List xE} (hbeg : ∀ {S S2 : zS} {r : Unit}, cB_begin N S = some (r, S2) → yK X 0 0 131 [.ref 110, .ref fa, .ref aa] (zD zTE zaE S Da) 0 0 (zQv zTE zaE D0 r S2)) {v3 : Int32} {S S2 : zS} {r : Int32}  (h : cE_showsAlone gi ga As ne am N v3 S = some (r, S2)) : yK X fr lo 163 [.ref 118, .ref fa, .ref aa, .int v3] (zD zTE zaE S Da) 0 0 (zQi zTE zaE D0 r S2) := by
  unfold cE_showsAlone at h
  refine yK.of rfl (yle rfl) (L := [_, _, _, _, _]) rfl ?_
  refine xt_pure rfl rfl rfl rfl ?_
  refine xt_getf rfl rfl (xmC 150 rfl) ?_
  refine xt_pure rfl rfl rfl rfl ?_
  refine xt_pure rfl rfl rfl rfl ?_
  obtain ⟨_, S2, hc3, h⟩ := zbi h
  refine zt_Vv rfl rfl rfl rfl (xmC 142 rfl) ⟨rfl, rfl, yle rfl, yle rfl⟩ (m := 4) rfl ⟨by omega, by omega⟩ (hbeg hc3) (fr1 := 0) (lo1 := 0) ?_
  refine xt_pure rfl rfl rfl (st1 := .int 0 :: _) rfl ?_
  refine xt_pure rfl rfl rfl (L1 := [_, _, _, _, _]) rfl ?_
  exact tcE_showsAlone_7 hW2 hW3 hL0 hL1 hG hA0 hA1 hf hl h
def cE_failing_154_175 (gi : Nat → Int32) (ga : Nat → List Int32) (As : List (Option zO)) (ne : Int32) (am : List Int64)  (N : Nat) (v1 : Int32) (S : zS) : Option (Int32 × zS) := (zb (cE_fail gi ga As ne am N v1 S) fun _ S2 => some (v1, S2))
theorem tcE_failing_154_175 {X : List Int32} {D0 : List xE} {fa aa : Nat} {p : Nat → Nat} {gi : Nat → Int32} {ga : Nat → List Int32} {refs : List Value} {As : List (Option zO)} {ne : Int32} {am : List Int64} (hW2 : ((110, .inl (10, 2, .ref fa)) : xE) ∈ D0) (hW3 : ((110, .inl (10, 3, .ref aa)) : xE) ∈ D0) (hL0 : ((106, .inl (5, 2, .int ne)) : xE) ∈ D0) (hL1 : ((107, .inr (1, am.map Value.long)) : xE) ∈ D0) (hG : ∀ e ∈ zgE fa p gi ga, e ∈ D0) (hA0 : ((aa, .inr (7, refs)) : xE) ∈ D0) (hA1 : ∀ {j : Int32} {z : Option zO}, gI As j = some z → ∃ v, gI refs j = some v ∧ zVC D0 v z)  {N fr lo : Nat} (hf : 1 ≤ fr) (hl : 21 ≤ lo) {v1 : Int32} {S S2 : zS} {r : Int32}  (h : cE_failing_154_175 gi ga As ne am N v1 S = some (r, S2)) : yK X fr lo 154 [.ref 175, .int v1] (zD zTE zaE S D0) 0 0 (zQi zTE zaE D0 r S2) := by
  unfold cE_failing_154_175 at h
  refine yK.of rfl (yle rfl) (L := [_, _]) rfl ?_
  refine xt_pure rfl rfl rfl rfl ?_
  refine xt_getf rfl rfl (xmC 166 rfl) ?_
  refine xt_pure rfl rfl rfl rfl ?_
  obtain ⟨_, S2, hc3, h⟩ := zbi h
  refine zt_Vv rfl rfl rfl rfl (xmC 142 rfl) ⟨rfl, rfl, yle rfl, yle rfl⟩ (m := 2) rfl ⟨by omega, by omega⟩ (tcE_fail hW2 hW3 hL0 hL1 hG hA0 hA1 (by omega) (by omega) hc3) (fr1 := fr - 1) (lo1 := lo - 21) ?_
  refine xt_pure rfl rfl rfl rfl ?_
  cases h
  exact xt_iret rfl rfl rfl rfl ⟨rfl, rfl⟩
def cE_faultOfSingle_159_175_fa_oC (gi : Nat → Int32) (ga : Nat → List Int32) (As : List (Option zO)) (ne : Int32) (am : List Int64)  (N : Nat) (v2 : Int32) (op3 : zO) (S : zS) : Option (Int32 × zS) := (zb (cE_holds gi ga As ne am N op3 0 S) fun x1 S2 => (if x1 ≠ (0 : Int32) then (zg (gI op3.2.2.1 0) fun x4 => (if op3.2.1 ≠ (1 : Int32) then some (8, S2) else (zg (gI (ga 4) v2) fun x5 => (if x4.toInt < x5.toInt64.toInt then some (8, S2) else (zg (gI (ga 5) v2) fun x6 => (if x4.toInt ≤ x6.toInt64.toInt then some (0, S2) else some (8, S2))))))) else (zb (cE_failing_154_175 gi ga As ne am N 3 S2) fun x7 S8 => some (x7, S8))))
theorem tcE_faultOfSingle_159_175_fa_oC {X : List Int32} {D0 : List xE} {fa aa : Nat} {p : Nat → Nat} {gi : Nat → Int32} {ga : Nat → List Int32} {refs : List Value} {As : List (Option zO)} {ne : Int32} {am : List Int64} (hW2 : ((110, .inl (10, 2, .ref fa)) : xE) ∈ D0) (hW3 : ((110, .inl (10, 3, .ref aa)) : xE) ∈ D0) (hL0 : ((106, .inl (5, 2, .int ne)) : xE) ∈ D0) (hL1 : ((107, .inr (1, am.map Value.long)) : xE) ∈ D0) (hG : ∀ e ∈ zgE fa p gi ga, e ∈ D0) (hA0 : ((aa, .inr (7, refs)) : xE) ∈ D0) (hA1 : ∀ {j : Int32} {z : Option zO}, gI As j = some z → ∃ v, gI refs j = some v ∧ zVC D0 v z)  {N fr lo : Nat} (hf : 2 ≤ fr) (hl : 42 ≤ lo) {v2 : Int32} {oap3 : Nat} {op3 : zO}  {S S2 : zS} {r : Int32} (hop3 : zOC D0 oap3 op3) (h : cE_faultOfSingle_159_175_fa_oC gi ga As ne am N v2 op3 S = some (r, S2)) : yK X fr lo 159 [.ref 175, .ref fa, .int v2, .ref oap3] (zD zTE zaE S D0) 0 0 (zQi zTE zaE D0 r S2) := by
  unfold cE_faultOfSingle_159_175_fa_oC at h
  have hkp3 := hop3
  obtain ⟨iap3, rap3, rrp3, q0p3, q1p3, q2p3, q3p3, q4p3, q5p3, q6p3⟩ := hkp3
  refine yK.of rfl (yle rfl) (L := [_, _, _, _, _, _]) rfl ?_
  refine xt_pure rfl rfl rfl rfl ?_
  refine xt_pure rfl rfl rfl (st1 := .int 0 :: _) rfl ?_
  obtain ⟨x1, S2, hc3, h⟩ := zbi h
  refine zt_Vi rfl rfl rfl rfl (zmr q0p3) ⟨rfl, rfl, yle rfl, yle rfl⟩ (m := 2) rfl ⟨by omega, by omega⟩ (tcE_holds hW2 hW3 hL0 hL1 hG hA0 hA1 (by omega) (by omega) hop3 hc3) (fr1 := fr - 1) (lo1 := lo - 21) ?_
  refine xt_if rfl rfl (fun hb => ?_) (fun hb => ?_)
  · replace h := zif_t (p := x1 ≠ (0 : Int32)) hb h
    refine xt_pure rfl rfl rfl rfl ?_
    refine xt_getf rfl rfl (zmr q2p3) ?_
    refine xt_pure rfl rfl rfl (st1 := .int 0 :: _) rfl ?_
    obtain ⟨x4, hx4, h⟩ := zgi h
    refine zr_lld (l := op3.2.2.1) rfl rfl (zmr q4p3) hx4 ?_
    refine xt_pure rfl rfl rfl (L1 := [_, _, _, _, _, _]) rfl ?_
    refine xt_pure rfl rfl rfl rfl ?_
    refine xt_getf rfl rfl (zmr q1p3) ?_
    refine xt_pure rfl rfl rfl (st1 := .int 1 :: _) rfl ?_
    refine xt_ic rfl rfl (fun hb => ?_) (fun hb => ?_)
    · replace h := zif_t (p := op3.2.1 ≠ (1 : Int32)) hb h
      refine xt_pure rfl rfl rfl (st1 := .int 8 :: _) rfl ?_
      refine xt_pure rfl rfl rfl rfl ?_
      cases h
      exact xt_iret rfl rfl rfl rfl ⟨rfl, rfl⟩
    · replace h := zif_f (p := op3.2.1 ≠ (1 : Int32)) hb h
      refine xt_pure rfl rfl rfl rfl ?_
      refine xt_pure rfl rfl rfl rfl ?_
      refine xt_getf rfl rfl (zmr (ymm hG 4 rfl)) ?_
      refine xt_pure rfl rfl rfl rfl ?_
      obtain ⟨x5, hx5, h⟩ := zgi h
      refine zr_ild (l := (ga 4)) rfl rfl (zmr (ymm hG 22 rfl)) hx5 ?_
      refine xt_pure rfl rfl rfl rfl ?_
      refine zt_lc rfl rfl rfl (fun hb => ?_) (fun hb => ?_)
      · replace h := zif_t (p := x4.toInt < x5.toInt64.toInt) hb h
        refine xt_pure rfl rfl rfl (st1 := .int 8 :: _) rfl ?_
        refine xt_pure rfl rfl rfl rfl ?_
        cases h
        exact xt_iret rfl rfl rfl rfl ⟨rfl, rfl⟩
      · replace h := zif_f (p := x4.toInt < x5.toInt64.toInt) hb h
        refine xt_pure rfl rfl rfl rfl ?_
        refine xt_pure rfl rfl rfl rfl ?_
        refine xt_getf rfl rfl (zmr (ymm hG 5 rfl)) ?_
        refine xt_pure rfl rfl rfl rfl ?_
        obtain ⟨x6, hx6, h⟩ := zgi h
        refine zr_ild (l := (ga 5)) rfl rfl (zmr (ymm hG 23 rfl)) hx6 ?_
        refine xt_pure rfl rfl rfl rfl ?_
        refine zt_lc rfl rfl rfl (fun hb => ?_) (fun hb => ?_)
        · replace h := zif_t (p := x4.toInt ≤ x6.toInt64.toInt) hb h
          refine xt_pure rfl rfl rfl (st1 := .int 0 :: _) rfl ?_
          cases h
          exact xt_iret rfl rfl rfl rfl ⟨rfl, rfl⟩
        · replace h := zif_f (p := x4.toInt ≤ x6.toInt64.toInt) hb h
          refine xt_pure rfl rfl rfl (st1 := .int 8 :: _) rfl ?_
          refine xt_pure rfl rfl rfl rfl ?_
          cases h
          exact xt_iret rfl rfl rfl rfl ⟨rfl, rfl⟩
  · replace h := zif_f (p := x1 ≠ (0 : Int32)) hb h
    refine xt_pure rfl rfl rfl rfl ?_
    refine xt_pure rfl rfl rfl (st1 := .int 3 :: _) rfl ?_
    obtain ⟨x7, S8, hc9, h⟩ := zbi h
    refine zt_Vi rfl rfl rfl rfl (xmC 166 rfl) ⟨rfl, rfl, yle rfl, yle rfl⟩ (m := 2) rfl ⟨by omega, by omega⟩ (tcE_failing_154_175 hW2 hW3 hL0 hL1 hG hA0 hA1 (by omega) (by omega) hc9) (fr1 := fr - 1) (lo1 := lo - 21) ?_
    cases h
    exact xt_iret rfl rfl rfl rfl ⟨rfl, rfl⟩
def cE_faultOfMany_155_175_fa_oC (gi : Nat → Int32) (ga : Nat → List Int32) (As : List (Option zO)) (ne : Int32) (am : List Int64)  (N : Nat) (v2 : Int32) (op3 : zO) (S : zS) : Option (Int32 × zS) := (zg (gI (ga 6) v2) fun x1 => (zb (cE_holds gi ga As ne am N op3 (x1 - 1) S) fun x2 S3 => (if x2 ≠ (0 : Int32) then (zb (cE_trues gi ga As ne am N op3 S3) fun x5 S6 => (if x1.toInt < op3.2.1.toInt then some (8, S6) else (zg (gI (ga 4) v2) fun x8 => (if x5.toInt < x8.toInt then some (8, S6) else (zg (gI (ga 5) v2) fun x9 => (if x5.toInt ≤ x9.toInt then some (0, S6) else some (8, S6))))))) else (zb (cE_failing_154_175 gi ga As ne am N 3 S3) fun x10 S11 => some (x10, S11)))))
theorem tcE_faultOfMany_155_175_fa_oC {X : List Int32} {D0 : List xE} {fa aa : Nat} {p : Nat → Nat} {gi : Nat → Int32} {ga : Nat → List Int32} {refs : List Value} {As : List (Option zO)} {ne : Int32} {am : List Int64} (hW2 : ((110, .inl (10, 2, .ref fa)) : xE) ∈ D0) (hW3 : ((110, .inl (10, 3, .ref aa)) : xE) ∈ D0) (hL0 : ((106, .inl (5, 2, .int ne)) : xE) ∈ D0) (hL1 : ((107, .inr (1, am.map Value.long)) : xE) ∈ D0) (hG : ∀ e ∈ zgE fa p gi ga, e ∈ D0) (hA0 : ((aa, .inr (7, refs)) : xE) ∈ D0) (hA1 : ∀ {j : Int32} {z : Option zO}, gI As j = some z → ∃ v, gI refs j = some v ∧ zVC D0 v z)  {N fr lo : Nat} (hf : 2 ≤ fr) (hl : 42 ≤ lo) {v2 : Int32} {oap3 : Nat} {op3 : zO}  {S S2 : zS} {r : Int32} (hop3 : zOC D0 oap3 op3) (h : cE_faultOfMany_155_175_fa_oC gi ga As ne am N v2 op3 S = some (r, S2)) : yK X fr lo 155 [.ref 175, .ref fa, .int v2, .ref oap3] (zD zTE zaE S D0) 0 0 (zQi zTE zaE D0 r S2) := by
  unfold cE_faultOfMany_155_175_fa_oC at h
  have hkp3 := hop3
  obtain ⟨iap3, rap3, rrp3, q0p3, q1p3, q2p3, q3p3, q4p3, q5p3, q6p3⟩ := hkp3
  refine yK.of rfl (yle rfl) (L := [_, _, _, _, _, _]) rfl ?_
  refine xt_pure rfl rfl rfl rfl ?_
  refine xt_getf rfl rfl (zmr (ymm hG 6 rfl)) ?_
  refine xt_pure rfl rfl rfl rfl ?_
  obtain ⟨x1, hx1, h⟩ := zgi h
  refine zr_ild (l := (ga 6)) rfl rfl (zmr (ymm hG 24 rfl)) hx1 ?_
  refine xt_pure rfl rfl rfl (L1 := [_, _, _, _, _, _]) rfl ?_
  refine xt_pure rfl rfl rfl rfl ?_
  refine xt_pure rfl rfl rfl rfl ?_
  refine xt_pure rfl rfl rfl (st1 := .int 1 :: _) rfl ?_
  refine xt_pure rfl rfl rfl rfl ?_
  obtain ⟨x2, S3, hc4, h⟩ := zbi h
  refine zt_Vi rfl rfl rfl rfl (zmr q0p3) ⟨rfl, rfl, yle rfl, yle rfl⟩ (m := 2) rfl ⟨by omega, by omega⟩ (tcE_holds hW2 hW3 hL0 hL1 hG hA0 hA1 (by omega) (by omega) hop3 hc4) (fr1 := fr - 1) (lo1 := lo - 21) ?_
  refine xt_if rfl rfl (fun hb => ?_) (fun hb => ?_)
  · replace h := zif_t (p := x2 ≠ (0 : Int32)) hb h
    refine xt_pure rfl rfl rfl rfl ?_
    obtain ⟨x5, S6, hc7, h⟩ := zbi h
    refine zt_Vi rfl rfl rfl rfl (zmr q0p3) ⟨rfl, rfl, yle rfl, yle rfl⟩ (m := 3) rfl ⟨by omega, by omega⟩ (tcE_trues hW2 hW3 hL0 hL1 hG hA0 hA1 (by omega) (by omega) hop3 hc7) (fr1 := fr - 1) (lo1 := lo - 22) ?_
    refine xt_pure rfl rfl rfl (L1 := [_, _, _, _, _, _]) rfl ?_
    refine xt_pure rfl rfl rfl rfl ?_
    refine xt_getf rfl rfl (zmr q1p3) ?_
    refine xt_pure rfl rfl rfl rfl ?_
    refine xt_ic rfl rfl (fun hb => ?_) (fun hb => ?_)
    · replace h := zif_t (p := x1.toInt < op3.2.1.toInt) hb h
      refine xt_pure rfl rfl rfl (st1 := .int 8 :: _) rfl ?_
      refine xt_pure rfl rfl rfl rfl ?_
      cases h
      exact xt_iret rfl rfl rfl rfl ⟨rfl, rfl⟩
    · replace h := zif_f (p := x1.toInt < op3.2.1.toInt) hb h
      refine xt_pure rfl rfl rfl rfl ?_
      refine xt_pure rfl rfl rfl rfl ?_
      refine xt_getf rfl rfl (zmr (ymm hG 4 rfl)) ?_
      refine xt_pure rfl rfl rfl rfl ?_
      obtain ⟨x8, hx8, h⟩ := zgi h
      refine zr_ild (l := (ga 4)) rfl rfl (zmr (ymm hG 22 rfl)) hx8 ?_
      refine xt_ic rfl rfl (fun hb => ?_) (fun hb => ?_)
      · replace h := zif_t (p := x5.toInt < x8.toInt) hb h
        refine xt_pure rfl rfl rfl (st1 := .int 8 :: _) rfl ?_
        refine xt_pure rfl rfl rfl rfl ?_
        cases h
        exact xt_iret rfl rfl rfl rfl ⟨rfl, rfl⟩
      · replace h := zif_f (p := x5.toInt < x8.toInt) hb h
        refine xt_pure rfl rfl rfl rfl ?_
        refine xt_pure rfl rfl rfl rfl ?_
        refine xt_getf rfl rfl (zmr (ymm hG 5 rfl)) ?_
        refine xt_pure rfl rfl rfl rfl ?_
        obtain ⟨x9, hx9, h⟩ := zgi h
        refine zr_ild (l := (ga 5)) rfl rfl (zmr (ymm hG 23 rfl)) hx9 ?_
        refine xt_ic rfl rfl (fun hb => ?_) (fun hb => ?_)
        · replace h := zif_t (p := x5.toInt ≤ x9.toInt) hb h
          refine xt_pure rfl rfl rfl (st1 := .int 0 :: _) rfl ?_
          cases h
          exact xt_iret rfl rfl rfl rfl ⟨rfl, rfl⟩
        · replace h := zif_f (p := x5.toInt ≤ x9.toInt) hb h
          refine xt_pure rfl rfl rfl (st1 := .int 8 :: _) rfl ?_
          refine xt_pure rfl rfl rfl rfl ?_
          cases h
          exact xt_iret rfl rfl rfl rfl ⟨rfl, rfl⟩
  · replace h := zif_f (p := x2 ≠ (0 : Int32)) hb h
    refine xt_pure rfl rfl rfl rfl ?_
    refine xt_pure rfl rfl rfl (st1 := .int 3 :: _) rfl ?_
    obtain ⟨x10, S11, hc12, h⟩ := zbi h
    refine zt_Vi rfl rfl rfl rfl (xmC 166 rfl) ⟨rfl, rfl, yle rfl, yle rfl⟩ (m := 2) rfl ⟨by omega, by omega⟩ (tcE_failing_154_175 hW2 hW3 hL0 hL1 hG hA0 hA1 (by omega) (by omega) hc12) (fr1 := fr - 1) (lo1 := lo - 21) ?_
    cases h
    exact xt_iret rfl rfl rfl rfl ⟨rfl, rfl⟩
def cE_faultOfTable_157_175_fa_oC_14 (gi : Nat → Int32) (ga : Nat → List Int32) (As : List (Option zO)) (ne : Int32) (am : List Int64)  (N : Nat)  : Nat → Int32 → zO → Int32 → zS → Option (Int32 × zS)
  | 0, _, _, _, _ => none
  | n + 1, l2, ol3, l4, S => (if ol3.2.1.toInt ≤ l4.toInt then some (0, S) else (zg (gI ol3.2.2.2 l4) fun z2 => (zo z2 ((zb (cE_failing_154_175 gi ga As ne am N 1 S) fun x3 S4 => some (x3, S4))) fun o2 => (zg (gI (ga 6) l2) fun x6 => (if x6.toInt ≤ (Int32.ofNat o2.length).toInt then (zg (gI (ga 6) l2) fun x7 => (if (Int32.ofNat o2.length).toInt ≤ x7.toInt then (cE_faultOfTable_157_175_fa_oC_14 gi ga As ne am N n) l2 ol3 (l4 + 1) S else some (8, S))) else (zb (cE_failing_154_175 gi ga As ne am N 3 S) fun x8 S9 => some (x8, S9)))))))
theorem tcE_faultOfTable_157_175_fa_oC_14 {X : List Int32} {D0 : List xE} {fa aa : Nat} {p : Nat → Nat} {gi : Nat → Int32} {ga : Nat → List Int32} {refs : List Value} {As : List (Option zO)} {ne : Int32} {am : List Int64} (hW2 : ((110, .inl (10, 2, .ref fa)) : xE) ∈ D0) (hW3 : ((110, .inl (10, 3, .ref aa)) : xE) ∈ D0) (hL0 : ((106, .inl (5, 2, .int ne)) : xE) ∈ D0) (hL1 : ((107, .inr (1, am.map Value.long)) : xE) ∈ D0) (hG : ∀ e ∈ zgE fa p gi ga, e ∈ D0) (hA0 : ((aa, .inr (7, refs)) : xE) ∈ D0) (hA1 : ∀ {j : Int32} {z : Option zO}, gI As j = some z → ∃ v, gI refs j = some v ∧ zVC D0 v z)  {N fr lo : Nat}   (hf : 2 ≤ fr) (hl : 42 ≤ lo)  : ∀ {n : Nat} {l2 : Int32} {oal3 : Nat} {ol3 : zO}  {l4 : Int32} {u5 : Option Value} {S S2 : zS} {r : Int32} (hol3 : zOC D0 oal3 ol3), cE_faultOfTable_157_175_fa_oC_14 gi ga As ne am N n l2 ol3 l4 S = some (r, S2) → yT X fr lo 157 14 [some (.ref 175), some (.ref fa), some (.int l2), some (.ref oal3), some (.int l4), u5] [] (zD zTE zaE S D0) 0 0 (zQi zTE zaE D0 r S2) := by
  intro n
  induction n with
  | zero =>
    intro l2 oal3 ol3 l4 u5 S S2 r hol3  h
    have h : (none : Option (Int32 × zS)) = some (r, S2) := h
    cases h
  | succ n ih =>
    intro l2 oal3 ol3 l4 u5 S S2 r hol3  h
    rw [cE_faultOfTable_157_175_fa_oC_14] at h
    have hkl3 := hol3
    obtain ⟨ial3, ral3, rrl3, q0l3, q1l3, q2l3, q3l3, q4l3, q5l3, q6l3⟩ := hkl3
    refine xt_pure rfl rfl rfl rfl ?_
    refine xt_pure rfl rfl rfl rfl ?_
    refine xt_getf rfl rfl (zmr q1l3) ?_
    refine xt_ic rfl rfl (fun hb => ?_) (fun hb => ?_)
    · replace h := zif_t (p := ol3.2.1.toInt ≤ l4.toInt) hb h
      refine xt_pure rfl rfl rfl (st1 := .int 0 :: _) rfl ?_
      cases h
      exact xt_iret rfl rfl rfl rfl ⟨rfl, rfl⟩
    · replace h := zif_f (p := ol3.2.1.toInt ≤ l4.toInt) hb h
      refine xt_pure rfl rfl rfl rfl ?_
      refine xt_getf rfl rfl (zmr q3l3) ?_
      refine xt_pure rfl rfl rfl rfl ?_
      obtain ⟨z2, hz2, h⟩ := zgi h
      obtain ⟨v2, hw2, hv2⟩ := q6l3 hz2
      refine zr_ald (l := rrl3) rfl rfl ⟨by decide, rfl⟩ (zmr q5l3) hw2 ?_
      rcases z2 with _ | o2
      · obtain rfl : v2 = Value.null := hv2
        replace h := zon h
        refine xt_pure rfl rfl rfl (L1 := [_, _, _, _, _, _]) rfl ?_
        refine xt_pure rfl rfl rfl rfl ?_
        refine xt_pure rfl rfl rfl rfl ?_
        refine xt_pure rfl rfl rfl rfl ?_
        refine xt_pure rfl rfl rfl (st1 := .int 1 :: _) rfl ?_
        obtain ⟨x3, S4, hc5, h⟩ := zbi h
        refine zt_Vi rfl rfl rfl rfl (xmC 166 rfl) ⟨rfl, rfl, yle rfl, yle rfl⟩ (m := 2) rfl ⟨by omega, by omega⟩ (tcE_failing_154_175 hW2 hW3 hL0 hL1 hG hA0 hA1 (by omega) (by omega) hc5) (fr1 := fr - 1) (lo1 := lo - 21) ?_
        cases h
        exact xt_iret rfl rfl rfl rfl ⟨rfl, rfl⟩
      · obtain ⟨oa2, rfl, ho2⟩ := hv2
        replace h := zos h
        refine xt_pure rfl rfl rfl (L1 := [_, _, _, _, _, _]) rfl ?_
        refine xt_pure rfl rfl rfl rfl ?_
        refine xt_pure rfl rfl rfl rfl ?_
        refine xt_pure rfl rfl rfl rfl ?_
        refine zr_lenI (l := o2) rfl rfl (zmr ho2) rfl ?_
        refine xt_pure rfl rfl rfl rfl ?_
        refine xt_getf rfl rfl (zmr (ymm hG 6 rfl)) ?_
        refine xt_pure rfl rfl rfl rfl ?_
        obtain ⟨x6, hx6, h⟩ := zgi h
        refine zr_ild (l := (ga 6)) rfl rfl (zmr (ymm hG 24 rfl)) hx6 ?_
        refine xt_ic rfl rfl (fun hb => ?_) (fun hb => ?_)
        · replace h := zif_t (p := x6.toInt ≤ (Int32.ofNat o2.length).toInt) hb h
          refine xt_pure rfl rfl rfl rfl ?_
          refine zr_lenI (l := o2) rfl rfl (zmr ho2) rfl ?_
          refine xt_pure rfl rfl rfl rfl ?_
          refine xt_getf rfl rfl (zmr (ymm hG 6 rfl)) ?_
          refine xt_pure rfl rfl rfl rfl ?_
          obtain ⟨x7, hx7, h⟩ := zgi h
          refine zr_ild (l := (ga 6)) rfl rfl (zmr (ymm hG 24 rfl)) hx7 ?_
          refine xt_ic rfl rfl (fun hb => ?_) (fun hb => ?_)
          · replace h := zif_t (p := (Int32.ofNat o2.length).toInt ≤ x7.toInt) hb h
            refine xt_pure rfl rfl rfl (L1 := [_, _, _, _, some (.int (_ + 1)), _]) rfl ?_
            refine xt_pure rfl rfl rfl rfl ?_
            exact ih hol3 h
          · replace h := zif_f (p := (Int32.ofNat o2.length).toInt ≤ x7.toInt) hb h
            refine xt_pure rfl rfl rfl (st1 := .int 8 :: _) rfl ?_
            cases h
            exact xt_iret rfl rfl rfl rfl ⟨rfl, rfl⟩
        · replace h := zif_f (p := x6.toInt ≤ (Int32.ofNat o2.length).toInt) hb h
          refine xt_pure rfl rfl rfl rfl ?_
          refine xt_pure rfl rfl rfl (st1 := .int 3 :: _) rfl ?_
          obtain ⟨x8, S9, hc10, h⟩ := zbi h
          refine zt_Vi rfl rfl rfl rfl (xmC 166 rfl) ⟨rfl, rfl, yle rfl, yle rfl⟩ (m := 2) rfl ⟨by omega, by omega⟩ (tcE_failing_154_175 hW2 hW3 hL0 hL1 hG hA0 hA1 (by omega) (by omega) hc10) (fr1 := fr - 1) (lo1 := lo - 21) ?_
          cases h
          exact xt_iret rfl rfl rfl rfl ⟨rfl, rfl⟩
def cE_faultOfTable_157_175_fa_oC (gi : Nat → Int32) (ga : Nat → List Int32) (As : List (Option zO)) (ne : Int32) (am : List Int64)  (N : Nat) (v2 : Int32) (op3 : zO) (S : zS) : Option (Int32 × zS) := (if op3.2.1 = (0 : Int32) then some (8, S) else (zg (gI (ga 5) v2) fun x1 => (if op3.2.1.toInt ≤ x1.toInt then cE_faultOfTable_157_175_fa_oC_14 gi ga As ne am N N v2 op3 0 S else some (8, S))))
theorem tcE_faultOfTable_157_175_fa_oC {X : List Int32} {D0 : List xE} {fa aa : Nat} {p : Nat → Nat} {gi : Nat → Int32} {ga : Nat → List Int32} {refs : List Value} {As : List (Option zO)} {ne : Int32} {am : List Int64} (hW2 : ((110, .inl (10, 2, .ref fa)) : xE) ∈ D0) (hW3 : ((110, .inl (10, 3, .ref aa)) : xE) ∈ D0) (hL0 : ((106, .inl (5, 2, .int ne)) : xE) ∈ D0) (hL1 : ((107, .inr (1, am.map Value.long)) : xE) ∈ D0) (hG : ∀ e ∈ zgE fa p gi ga, e ∈ D0) (hA0 : ((aa, .inr (7, refs)) : xE) ∈ D0) (hA1 : ∀ {j : Int32} {z : Option zO}, gI As j = some z → ∃ v, gI refs j = some v ∧ zVC D0 v z)  {N fr lo : Nat} (hf : 2 ≤ fr) (hl : 42 ≤ lo) {v2 : Int32} {oap3 : Nat} {op3 : zO}  {S S2 : zS} {r : Int32} (hop3 : zOC D0 oap3 op3) (h : cE_faultOfTable_157_175_fa_oC gi ga As ne am N v2 op3 S = some (r, S2)) : yK X fr lo 157 [.ref 175, .ref fa, .int v2, .ref oap3] (zD zTE zaE S D0) 0 0 (zQi zTE zaE D0 r S2) := by
  unfold cE_faultOfTable_157_175_fa_oC at h
  have hkp3 := hop3
  obtain ⟨iap3, rap3, rrp3, q0p3, q1p3, q2p3, q3p3, q4p3, q5p3, q6p3⟩ := hkp3
  refine yK.of rfl (yle rfl) (L := [_, _, _, _, _, _]) rfl ?_
  refine xt_pure rfl rfl rfl rfl ?_
  refine xt_getf rfl rfl (zmr q1p3) ?_
  refine xt_if rfl rfl (fun hb => ?_) (fun hb => ?_)
  · replace h := zif_t (p := op3.2.1 = (0 : Int32)) hb h
    refine xt_pure rfl rfl rfl (st1 := .int 8 :: _) rfl ?_
    cases h
    exact xt_iret rfl rfl rfl rfl ⟨rfl, rfl⟩
  · replace h := zif_f (p := op3.2.1 = (0 : Int32)) hb h
    refine xt_pure rfl rfl rfl rfl ?_
    refine xt_getf rfl rfl (zmr q1p3) ?_
    refine xt_pure rfl rfl rfl rfl ?_
    refine xt_getf rfl rfl (zmr (ymm hG 5 rfl)) ?_
    refine xt_pure rfl rfl rfl rfl ?_
    obtain ⟨x1, hx1, h⟩ := zgi h
    refine zr_ild (l := (ga 5)) rfl rfl (zmr (ymm hG 23 rfl)) hx1 ?_
    refine xt_ic rfl rfl (fun hb => ?_) (fun hb => ?_)
    · replace h := zif_t (p := op3.2.1.toInt ≤ x1.toInt) hb h
      refine xt_pure rfl rfl rfl (st1 := .int 0 :: _) rfl ?_
      refine xt_pure rfl rfl rfl (L1 := [_, _, _, _, _, _]) rfl ?_
      exact tcE_faultOfTable_157_175_fa_oC_14 hW2 hW3 hL0 hL1 hG hA0 hA1 hf hl hop3 h
    · replace h := zif_f (p := op3.2.1.toInt ≤ x1.toInt) hb h
      refine xt_pure rfl rfl rfl (st1 := .int 8 :: _) rfl ?_
      cases h
      exact xt_iret rfl rfl rfl rfl ⟨rfl, rfl⟩
def cE_faultOfEntries_158_175_oC_8 (gi : Nat → Int32) (ga : Nat → List Int32) (As : List (Option zO)) (ne : Int32) (am : List Int64)  (N : Nat)  : Nat → zO → Int32 → zS → Option (Int32 × zS)
  | 0, _, _, _ => none
  | n + 1, ol1, l3, S => (if ol1.2.1.toInt ≤ l3.toInt then some (0, S) else (zg (gI ol1.2.2.1 l3) fun x1 => (if x1 ≠ ((-9) : Int64) then (cE_faultOfEntries_158_175_oC_8 gi ga As ne am N n) ol1 (l3 + 1) S else (zb (cE_failing_154_175 gi ga As ne am N 1 S) fun x2 S3 => some (x2, S3)))))
theorem tcE_faultOfEntries_158_175_oC_8 {X : List Int32} {D0 : List xE} {fa aa : Nat} {p : Nat → Nat} {gi : Nat → Int32} {ga : Nat → List Int32} {refs : List Value} {As : List (Option zO)} {ne : Int32} {am : List Int64} (hW2 : ((110, .inl (10, 2, .ref fa)) : xE) ∈ D0) (hW3 : ((110, .inl (10, 3, .ref aa)) : xE) ∈ D0) (hL0 : ((106, .inl (5, 2, .int ne)) : xE) ∈ D0) (hL1 : ((107, .inr (1, am.map Value.long)) : xE) ∈ D0) (hG : ∀ e ∈ zgE fa p gi ga, e ∈ D0) (hA0 : ((aa, .inr (7, refs)) : xE) ∈ D0) (hA1 : ∀ {j : Int32} {z : Option zO}, gI As j = some z → ∃ v, gI refs j = some v ∧ zVC D0 v z)  {N fr lo : Nat}   (hf : 2 ≤ fr) (hl : 42 ≤ lo)  : ∀ {n : Nat} {oal1 : Nat} {ol1 : zO}  {l3 : Int32} {d2 : Int32} {S S2 : zS} {r : Int32} (hol1 : zOC D0 oal1 ol1), cE_faultOfEntries_158_175_oC_8 gi ga As ne am N n ol1 l3 S = some (r, S2) → yT X fr lo 158 8 [some (.ref 175), some (.ref oal1), some (.int d2), some (.int l3)] [] (zD zTE zaE S D0) 0 0 (zQi zTE zaE D0 r S2) := by
  intro n
  induction n with
  | zero =>
    intro oal1 ol1 l3 d2 S S2 r hol1  h
    have h : (none : Option (Int32 × zS)) = some (r, S2) := h
    cases h
  | succ n ih =>
    intro oal1 ol1 l3 d2 S S2 r hol1  h
    rw [cE_faultOfEntries_158_175_oC_8] at h
    have hkl1 := hol1
    obtain ⟨ial1, ral1, rrl1, q0l1, q1l1, q2l1, q3l1, q4l1, q5l1, q6l1⟩ := hkl1
    refine xt_pure rfl rfl rfl rfl ?_
    refine xt_pure rfl rfl rfl rfl ?_
    refine xt_getf rfl rfl (zmr q1l1) ?_
    refine xt_ic rfl rfl (fun hb => ?_) (fun hb => ?_)
    · replace h := zif_t (p := ol1.2.1.toInt ≤ l3.toInt) hb h
      refine xt_pure rfl rfl rfl (st1 := .int 0 :: _) rfl ?_
      cases h
      exact xt_iret rfl rfl rfl rfl ⟨rfl, rfl⟩
    · replace h := zif_f (p := ol1.2.1.toInt ≤ l3.toInt) hb h
      refine xt_pure rfl rfl rfl rfl ?_
      refine xt_getf rfl rfl (zmr q2l1) ?_
      refine xt_pure rfl rfl rfl rfl ?_
      obtain ⟨x1, hx1, h⟩ := zgi h
      refine zr_lld (l := ol1.2.2.1) rfl rfl (zmr q4l1) hx1 ?_
      refine xt_pure rfl rfl rfl (st1 := .long (-9) :: _) rfl ?_
      refine zt_lc rfl rfl rfl (fun hb => ?_) (fun hb => ?_)
      · replace h := zif_t (p := x1 ≠ ((-9) : Int64)) hb h
        refine xt_pure rfl rfl rfl (L1 := [_, _, _, some (.int (_ + 1))]) rfl ?_
        refine xt_pure rfl rfl rfl rfl ?_
        exact ih hol1 h
      · replace h := zif_f (p := x1 ≠ ((-9) : Int64)) hb h
        refine xt_pure rfl rfl rfl rfl ?_
        refine xt_pure rfl rfl rfl (st1 := .int 1 :: _) rfl ?_
        obtain ⟨x2, S3, hc4, h⟩ := zbi h
        refine zt_Vi rfl rfl rfl rfl (xmC 166 rfl) ⟨rfl, rfl, yle rfl, yle rfl⟩ (m := 2) rfl ⟨by omega, by omega⟩ (tcE_failing_154_175 hW2 hW3 hL0 hL1 hG hA0 hA1 (by omega) (by omega) hc4) (fr1 := fr - 1) (lo1 := lo - 21) ?_
        cases h
        exact xt_iret rfl rfl rfl rfl ⟨rfl, rfl⟩
def cE_faultOfEntries_158_175_oC (gi : Nat → Int32) (ga : Nat → List Int32) (As : List (Option zO)) (ne : Int32) (am : List Int64)  (N : Nat) (op1 : zO) (v2 : Int32) (S : zS) : Option (Int32 × zS) := (if op1.2.1.toInt ≤ v2.toInt then cE_faultOfEntries_158_175_oC_8 gi ga As ne am N N op1 0 S else some (8, S))
theorem tcE_faultOfEntries_158_175_oC {X : List Int32} {D0 : List xE} {fa aa : Nat} {p : Nat → Nat} {gi : Nat → Int32} {ga : Nat → List Int32} {refs : List Value} {As : List (Option zO)} {ne : Int32} {am : List Int64} (hW2 : ((110, .inl (10, 2, .ref fa)) : xE) ∈ D0) (hW3 : ((110, .inl (10, 3, .ref aa)) : xE) ∈ D0) (hL0 : ((106, .inl (5, 2, .int ne)) : xE) ∈ D0) (hL1 : ((107, .inr (1, am.map Value.long)) : xE) ∈ D0) (hG : ∀ e ∈ zgE fa p gi ga, e ∈ D0) (hA0 : ((aa, .inr (7, refs)) : xE) ∈ D0) (hA1 : ∀ {j : Int32} {z : Option zO}, gI As j = some z → ∃ v, gI refs j = some v ∧ zVC D0 v z)  {N fr lo : Nat} (hf : 2 ≤ fr) (hl : 42 ≤ lo) {oap1 : Nat} {op1 : zO}  {v2 : Int32} {S S2 : zS} {r : Int32} (hop1 : zOC D0 oap1 op1) (h : cE_faultOfEntries_158_175_oC gi ga As ne am N op1 v2 S = some (r, S2)) : yK X fr lo 158 [.ref 175, .ref oap1, .int v2] (zD zTE zaE S D0) 0 0 (zQi zTE zaE D0 r S2) := by
  unfold cE_faultOfEntries_158_175_oC at h
  have hkp1 := hop1
  obtain ⟨iap1, rap1, rrp1, q0p1, q1p1, q2p1, q3p1, q4p1, q5p1, q6p1⟩ := hkp1
  refine yK.of rfl (yle rfl) (L := [_, _, _, _]) rfl ?_
  refine xt_pure rfl rfl rfl rfl ?_
  refine xt_getf rfl rfl (zmr q1p1) ?_
  refine xt_pure rfl rfl rfl rfl ?_
  refine xt_ic rfl rfl (fun hb => ?_) (fun hb => ?_)
  · replace h := zif_t (p := op1.2.1.toInt ≤ v2.toInt) hb h
    refine xt_pure rfl rfl rfl (st1 := .int 0 :: _) rfl ?_
    refine xt_pure rfl rfl rfl (L1 := [_, _, _, _]) rfl ?_
    exact tcE_faultOfEntries_158_175_oC_8 hW2 hW3 hL0 hL1 hG hA0 hA1 hf hl hop1 h
  · replace h := zif_f (p := op1.2.1.toInt ≤ v2.toInt) hb h
    refine xt_pure rfl rfl rfl (st1 := .int 8 :: _) rfl ?_
    cases h
    exact xt_iret rfl rfl rfl rfl ⟨rfl, rfl⟩
def cE_faultOf_153_175_fa_zC_26 (gi : Nat → Int32) (ga : Nat → List Int32) (As : List (Option zO)) (ne : Int32) (am : List Int64)  (N : Nat)  (l2 : Int32) (ol3 : zO) (l4 : Int32) (os0 : zO) (s1 : Int32) (S : zS) : Option (Int32 × zS) := (zb (cE_isOf gi ga As ne am N os0 s1 S) fun x4 S5 => (if x4 ≠ (0 : Int32) then (if l4 = 5 then (zb (cE_faultOfMany_155_175_fa_oC gi ga As ne am N l2 ol3 S5) fun x7 S8 => some (x7, S8)) else if l4 = 6 then (zg (gI (ga 5) l2) fun x11 => (zb (cE_faultOfText gi ga As ne am N ol3 x11 S5) fun x12 S13 => some (x12, S13))) else if l4 = 7 then (zb (cE_faultOfTable_157_175_fa_oC gi ga As ne am N l2 ol3 S5) fun x16 S17 => some (x16, S17)) else if l4 = 8 then (zg (gI (ga 5) l2) fun x20 => (zb (cE_faultOfEntries_158_175_oC gi ga As ne am N ol3 x20 S5) fun x21 S22 => some (x21, S22))) else if l4 = 9 then (zg (gI (ga 5) l2) fun x25 => (zb (cE_faultOfEntries_158_175_oC gi ga As ne am N ol3 x25 S5) fun x26 S27 => some (x26, S27))) else if l4 = 10 then some (0, S5) else (zb (cE_faultOfSingle_159_175_fa_oC gi ga As ne am N l2 ol3 S5) fun x31 S32 => some (x31, S32))) else (zb (cE_failing_154_175 gi ga As ne am N 2 S5) fun x34 S35 => some (x34, S35))))
set_option maxRecDepth 20000 in
theorem tcE_faultOf_153_175_fa_zC_26 {X : List Int32} {D0 : List xE} {fa aa : Nat} {p : Nat → Nat} {gi : Nat → Int32} {ga : Nat → List Int32} {refs : List Value} {As : List (Option zO)} {ne : Int32} {am : List Int64} (hW2 : ((110, .inl (10, 2, .ref fa)) : xE) ∈ D0) (hW3 : ((110, .inl (10, 3, .ref aa)) : xE) ∈ D0) (hL0 : ((106, .inl (5, 2, .int ne)) : xE) ∈ D0) (hL1 : ((107, .inr (1, am.map Value.long)) : xE) ∈ D0) (hG : ∀ e ∈ zgE fa p gi ga, e ∈ D0) (hA0 : ((aa, .inr (7, refs)) : xE) ∈ D0) (hA1 : ∀ {j : Int32} {z : Option zO}, gI As j = some z → ∃ v, gI refs j = some v ∧ zVC D0 v z)  {N fr lo : Nat}   (hf : 3 ≤ fr) (hl : 67 ≤ lo) {l2 : Int32} {oal3 : Nat} {ol3 : zO}  {l4 : Int32} {oas0 : Nat} {os0 : zO}  {s1 : Int32}  {S S2 : zS} {r : Int32} (hol3 : zOC D0 oal3 ol3) (hos0 : zOC D0 oas0 os0) (h : cE_faultOf_153_175_fa_zC_26 gi ga As ne am N l2 ol3 l4 os0 s1 S = some (r, S2)) : yT X fr lo 153 26 [some (.ref 175), some (.ref fa), some (.int l2), some (.ref oal3), some (.int l4)] [.int s1, .ref oas0] (zD zTE zaE S D0) 0 0 (zQi zTE zaE D0 r S2) := by
  unfold cE_faultOf_153_175_fa_zC_26 at h
  have hkl3 := hol3
  obtain ⟨ial3, ral3, rrl3, q0l3, q1l3, q2l3, q3l3, q4l3, q5l3, q6l3⟩ := hkl3
  have hks0 := hos0
  obtain ⟨ias0, ras0, rrs0, q0s0, q1s0, q2s0, q3s0, q4s0, q5s0, q6s0⟩ := hks0
  obtain ⟨x4, S5, hc6, h⟩ := zbi h
  refine zt_Vi rfl rfl rfl rfl (zmr q0s0) ⟨rfl, rfl, yle rfl, yle rfl⟩ (m := 2) rfl ⟨by omega, by omega⟩ (tcE_isOf hW2 hW3 hL0 hL1 hG hA0 hA1 (by omega) (by omega) hos0 hc6) (fr1 := fr - 1) (lo1 := lo - 21) ?_
  refine xt_if rfl rfl (fun hb => ?_) (fun hb => ?_)
  · replace h := zif_t (p := x4 ≠ (0 : Int32)) hb h
    refine xt_pure rfl rfl rfl rfl ?_
    by_cases hw10 : l4 = 5
    · replace h := zif_t (p := l4 = 5) hw10 h
      refine zt_sw (tg := 34) rfl rfl rfl hw10 rfl ?_
      refine xt_pure rfl rfl rfl rfl ?_
      refine xt_pure rfl rfl rfl rfl ?_
      refine xt_pure rfl rfl rfl rfl ?_
      refine xt_pure rfl rfl rfl rfl ?_
      obtain ⟨x7, S8, hc9, h⟩ := zbi h
      refine zt_Vi rfl rfl rfl rfl (xmC 166 rfl) ⟨rfl, rfl, yle rfl, yle rfl⟩ (m := 6) rfl ⟨by omega, by omega⟩ (tcE_faultOfMany_155_175_fa_oC hW2 hW3 hL0 hL1 hG hA0 hA1 (by omega) (by omega) hol3 hc9) (fr1 := fr - 1) (lo1 := lo - 25) ?_
      cases h
      exact xt_iret rfl rfl rfl rfl ⟨rfl, rfl⟩
    replace h := zif_f (p := l4 = 5) hw10 h
    by_cases hw15 : l4 = 6
    · replace h := zif_t (p := l4 = 6) hw15 h
      refine zt_sw (tg := 40) rfl rfl rfl hw15 rfl ?_
      refine xt_pure rfl rfl rfl rfl ?_
      refine xt_pure rfl rfl rfl rfl ?_
      refine xt_getf rfl rfl (zmr (ymm hG 5 rfl)) ?_
      refine xt_pure rfl rfl rfl rfl ?_
      obtain ⟨x11, hx11, h⟩ := zgi h
      refine zr_ild (l := (ga 5)) rfl rfl (zmr (ymm hG 23 rfl)) hx11 ?_
      obtain ⟨x12, S13, hc14, h⟩ := zbi h
      refine zt_Si rfl rfl (by decide) rfl rfl ⟨rfl, yle rfl, yle rfl⟩ (m := 3) rfl ⟨by omega, by omega⟩ (tcE_faultOfText hW2 hW3 hL0 hL1 hG hA0 hA1 (by omega) (by omega) hol3 hc14) (fr1 := fr - 1) (lo1 := lo - 22) ?_
      cases h
      exact xt_iret rfl rfl rfl rfl ⟨rfl, rfl⟩
    replace h := zif_f (p := l4 = 6) hw15 h
    by_cases hw19 : l4 = 7
    · replace h := zif_t (p := l4 = 7) hw19 h
      refine zt_sw (tg := 47) rfl rfl rfl hw19 rfl ?_
      refine xt_pure rfl rfl rfl rfl ?_
      refine xt_pure rfl rfl rfl rfl ?_
      refine xt_pure rfl rfl rfl rfl ?_
      refine xt_pure rfl rfl rfl rfl ?_
      obtain ⟨x16, S17, hc18, h⟩ := zbi h
      refine zt_Vi rfl rfl rfl rfl (xmC 166 rfl) ⟨rfl, rfl, yle rfl, yle rfl⟩ (m := 6) rfl ⟨by omega, by omega⟩ (tcE_faultOfTable_157_175_fa_oC hW2 hW3 hL0 hL1 hG hA0 hA1 (by omega) (by omega) hol3 hc18) (fr1 := fr - 1) (lo1 := lo - 25) ?_
      cases h
      exact xt_iret rfl rfl rfl rfl ⟨rfl, rfl⟩
    replace h := zif_f (p := l4 = 7) hw19 h
    by_cases hw24 : l4 = 8
    · replace h := zif_t (p := l4 = 8) hw24 h
      refine zt_sw (tg := 53) rfl rfl rfl hw24 rfl ?_
      refine xt_pure rfl rfl rfl rfl ?_
      refine xt_pure rfl rfl rfl rfl ?_
      refine xt_pure rfl rfl rfl rfl ?_
      refine xt_getf rfl rfl (zmr (ymm hG 5 rfl)) ?_
      refine xt_pure rfl rfl rfl rfl ?_
      obtain ⟨x20, hx20, h⟩ := zgi h
      refine zr_ild (l := (ga 5)) rfl rfl (zmr (ymm hG 23 rfl)) hx20 ?_
      obtain ⟨x21, S22, hc23, h⟩ := zbi h
      refine zt_Vi rfl rfl rfl rfl (xmC 166 rfl) ⟨rfl, rfl, yle rfl, yle rfl⟩ (m := 4) rfl ⟨by omega, by omega⟩ (tcE_faultOfEntries_158_175_oC hW2 hW3 hL0 hL1 hG hA0 hA1 (by omega) (by omega) hol3 hc23) (fr1 := fr - 1) (lo1 := lo - 23) ?_
      cases h
      exact xt_iret rfl rfl rfl rfl ⟨rfl, rfl⟩
    replace h := zif_f (p := l4 = 8) hw24 h
    by_cases hw29 : l4 = 9
    · replace h := zif_t (p := l4 = 9) hw29 h
      refine zt_sw (tg := 53) rfl rfl rfl hw29 rfl ?_
      refine xt_pure rfl rfl rfl rfl ?_
      refine xt_pure rfl rfl rfl rfl ?_
      refine xt_pure rfl rfl rfl rfl ?_
      refine xt_getf rfl rfl (zmr (ymm hG 5 rfl)) ?_
      refine xt_pure rfl rfl rfl rfl ?_
      obtain ⟨x25, hx25, h⟩ := zgi h
      refine zr_ild (l := (ga 5)) rfl rfl (zmr (ymm hG 23 rfl)) hx25 ?_
      obtain ⟨x26, S27, hc28, h⟩ := zbi h
      refine zt_Vi rfl rfl rfl rfl (xmC 166 rfl) ⟨rfl, rfl, yle rfl, yle rfl⟩ (m := 4) rfl ⟨by omega, by omega⟩ (tcE_faultOfEntries_158_175_oC hW2 hW3 hL0 hL1 hG hA0 hA1 (by omega) (by omega) hol3 hc28) (fr1 := fr - 1) (lo1 := lo - 23) ?_
      cases h
      exact xt_iret rfl rfl rfl rfl ⟨rfl, rfl⟩
    replace h := zif_f (p := l4 = 9) hw29 h
    by_cases hw30 : l4 = 10
    · replace h := zif_t (p := l4 = 10) hw30 h
      refine zt_sw (tg := 61) rfl rfl rfl hw30 rfl ?_
      refine xt_pure rfl rfl rfl (st1 := .int 0 :: _) rfl ?_
      cases h
      exact xt_iret rfl rfl rfl rfl ⟨rfl, rfl⟩
    replace h := zif_f (p := l4 = 10) hw30 h
    have hxhw10 : ¬ l4.toInt = 5 := fun h => hw10 (by rw [xi32_eq, h]; rfl)
    have hxhw15 : ¬ l4.toInt = 6 := fun h => hw15 (by rw [xi32_eq, h]; rfl)
    have hxhw19 : ¬ l4.toInt = 7 := fun h => hw19 (by rw [xi32_eq, h]; rfl)
    have hxhw24 : ¬ l4.toInt = 8 := fun h => hw24 (by rw [xi32_eq, h]; rfl)
    have hxhw29 : ¬ l4.toInt = 9 := fun h => hw29 (by rw [xi32_eq, h]; rfl)
    have hxhw30 : ¬ l4.toInt = 10 := fun h => hw30 (by rw [xi32_eq, h]; rfl)
    refine yt_tsd rfl rfl (by omega) rfl ?_
    refine xt_pure rfl rfl rfl rfl ?_
    refine xt_pure rfl rfl rfl rfl ?_
    refine xt_pure rfl rfl rfl rfl ?_
    refine xt_pure rfl rfl rfl rfl ?_
    obtain ⟨x31, S32, hc33, h⟩ := zbi h
    refine zt_Vi rfl rfl rfl rfl (xmC 166 rfl) ⟨rfl, rfl, yle rfl, yle rfl⟩ (m := 6) rfl ⟨by omega, by omega⟩ (tcE_faultOfSingle_159_175_fa_oC hW2 hW3 hL0 hL1 hG hA0 hA1 (by omega) (by omega) hol3 hc33) (fr1 := fr - 1) (lo1 := lo - 25) ?_
    cases h
    exact xt_iret rfl rfl rfl rfl ⟨rfl, rfl⟩
  · replace h := zif_f (p := x4 ≠ (0 : Int32)) hb h
    refine xt_pure rfl rfl rfl rfl ?_
    refine xt_pure rfl rfl rfl (st1 := .int 2 :: _) rfl ?_
    obtain ⟨x34, S35, hc36, h⟩ := zbi h
    refine zt_Vi rfl rfl rfl rfl (xmC 166 rfl) ⟨rfl, rfl, yle rfl, yle rfl⟩ (m := 2) rfl ⟨by omega, by omega⟩ (tcE_failing_154_175 hW2 hW3 hL0 hL1 hG hA0 hA1 (by omega) (by omega) hc36) (fr1 := fr - 1) (lo1 := lo - 21) ?_
    cases h
    exact xt_iret rfl rfl rfl rfl ⟨rfl, rfl⟩
def cE_faultOf_153_175_fa_zC (gi : Nat → Int32) (ga : Nat → List Int32) (As : List (Option zO)) (ne : Int32) (am : List Int64)  (N : Nat) (v2 : Int32) (zp3 : Option zO) (S : zS) : Option (Int32 × zS) := (zo zp3 ((zg (gI (ga 3) v2) fun x1 => (if x1 ≠ (1 : Int32) then some (0, S) else some (7, S)))) fun op3 => (zg (gI (ga 1) v2) fun x2 => (if x2 ≠ (10 : Int32) then (zg (gI xas x2) fun x3 => cE_faultOf_153_175_fa_zC_26 gi ga As ne am N v2 op3 x2 op3 x3 S) else cE_faultOf_153_175_fa_zC_26 gi ga As ne am N v2 op3 x2 op3 7 S)))
theorem tcE_faultOf_153_175_fa_zC {X : List Int32} {D0 : List xE} {fa aa : Nat} {p : Nat → Nat} {gi : Nat → Int32} {ga : Nat → List Int32} {refs : List Value} {As : List (Option zO)} {ne : Int32} {am : List Int64} (hW2 : ((110, .inl (10, 2, .ref fa)) : xE) ∈ D0) (hW3 : ((110, .inl (10, 3, .ref aa)) : xE) ∈ D0) (hL0 : ((106, .inl (5, 2, .int ne)) : xE) ∈ D0) (hL1 : ((107, .inr (1, am.map Value.long)) : xE) ∈ D0) (hG : ∀ e ∈ zgE fa p gi ga, e ∈ D0) (hA0 : ((aa, .inr (7, refs)) : xE) ∈ D0) (hA1 : ∀ {j : Int32} {z : Option zO}, gI As j = some z → ∃ v, gI refs j = some v ∧ zVC D0 v z)  {N fr lo : Nat} (hf : 3 ≤ fr) (hl : 67 ≤ lo) {v2 : Int32} {vp3 : Value} {zp3 : Option zO}  {S S2 : zS} {r : Int32} (hvp3 : zVC D0 vp3 zp3) (h : cE_faultOf_153_175_fa_zC gi ga As ne am N v2 zp3 S = some (r, S2)) : yK X fr lo 153 [.ref 175, .ref fa, .int v2, vp3] (zD zTE zaE S D0) 0 0 (zQi zTE zaE D0 r S2) := by
  unfold cE_faultOf_153_175_fa_zC at h
  rcases zp3 with _ | op3
  · obtain rfl : vp3 = Value.null := hvp3
    replace h := zon h
    refine yK.of rfl (yle rfl) (L := [_, _, _, _, _]) rfl ?_
    refine xt_pure rfl rfl rfl rfl ?_
    refine xt_pure rfl rfl rfl rfl ?_
    refine xt_pure rfl rfl rfl rfl ?_
    refine xt_getf rfl rfl (zmr (ymm hG 3 rfl)) ?_
    refine xt_pure rfl rfl rfl rfl ?_
    obtain ⟨x1, hx1, h⟩ := zgi h
    refine zr_ild (l := (ga 3)) rfl rfl (zmr (ymm hG 21 rfl)) hx1 ?_
    refine xt_pure rfl rfl rfl (st1 := .int 1 :: _) rfl ?_
    refine xt_ic rfl rfl (fun hb => ?_) (fun hb => ?_)
    · replace h := zif_t (p := x1 ≠ (1 : Int32)) hb h
      refine xt_pure rfl rfl rfl (st1 := .int 0 :: _) rfl ?_
      cases h
      exact xt_iret rfl rfl rfl rfl ⟨rfl, rfl⟩
    · replace h := zif_f (p := x1 ≠ (1 : Int32)) hb h
      refine xt_pure rfl rfl rfl (st1 := .int 7 :: _) rfl ?_
      refine xt_pure rfl rfl rfl rfl ?_
      cases h
      exact xt_iret rfl rfl rfl rfl ⟨rfl, rfl⟩
  · obtain ⟨oap3, rfl, hop3⟩ := hvp3
    replace h := zos h
    have hkp3 := hop3
    obtain ⟨iap3, rap3, rrp3, q0p3, q1p3, q2p3, q3p3, q4p3, q5p3, q6p3⟩ := hkp3
    refine yK.of rfl (yle rfl) (L := [_, _, _, _, _]) rfl ?_
    refine xt_pure rfl rfl rfl rfl ?_
    refine xt_pure rfl rfl rfl rfl ?_
    refine xt_pure rfl rfl rfl rfl ?_
    refine xt_getf rfl rfl (zmr (ymm hG 1 rfl)) ?_
    refine xt_pure rfl rfl rfl rfl ?_
    obtain ⟨x2, hx2, h⟩ := zgi h
    refine zr_ild (l := (ga 1)) rfl rfl (zmr (ymm hG 19 rfl)) hx2 ?_
    refine xt_pure rfl rfl rfl (L1 := [_, _, _, _, _]) rfl ?_
    refine xt_pure rfl rfl rfl rfl ?_
    refine xt_pure rfl rfl rfl rfl ?_
    refine xt_pure rfl rfl rfl (st1 := .int 10 :: _) rfl ?_
    refine xt_ic rfl rfl (fun hb => ?_) (fun hb => ?_)
    · replace h := zif_t (p := x2 ≠ (10 : Int32)) hb h
      refine xt_gets rfl rfl rfl ?_
      refine xt_pure rfl rfl rfl rfl ?_
      obtain ⟨x3, hx3, h⟩ := zgi h
      refine zr_ild (l := xas) rfl rfl (xmC 0 rfl) hx3 ?_
      exact tcE_faultOf_153_175_fa_zC_26 hW2 hW3 hL0 hL1 hG hA0 hA1 hf hl hop3 hop3 h
    · replace h := zif_f (p := x2 ≠ (10 : Int32)) hb h
      refine xt_pure rfl rfl rfl (st1 := .int 7 :: _) rfl ?_
      refine xt_pure rfl rfl rfl rfl ?_
      exact tcE_faultOf_153_175_fa_zC_26 hW2 hW3 hL0 hL1 hG hA0 hA1 hf hl hop3 hop3 h
def cE_add_152_175 (gi : Nat → Int32) (ga : Nat → List Int32) (As : List (Option zO)) (ne : Int32) (am : List Int64)  (N : Nat) (v1 : Int32) (v2 : Int32) (v3 : Int32) (v4 : Int32) (v5 : Int32) (S : zS) : Option (Unit × zS) := (if (Int32.ofNat (zA S 24).length).toInt ≤ (zI S 23).toInt then some ((), S) else (if zok (zA S 24) (zI S 23) then (if zok (zA S 25) (zI S 23) then (if zok (zA S 26) (zI S 23) then (if zok (zA S 27) (zI S 23) then (if zok (zA S 28) (zI S 23) then some ((), (zsI (zsA (zsA (zsA (zsA (zsA S 24 (zs (zA S 24) (zI S 23) v1)) 25 (zs (zA S 25) (zI S 23) v2)) 26 (zs (zA S 26) (zI S 23) v3)) 27 (zs (zA S 27) (zI S 23) v4)) 28 (zs (zA S 28) (zI S 23) v5)) 23 ((zI S 23) + 1))) else none) else none) else none) else none) else none))
theorem tcE_add_152_175 {X : List Int32} {D0 : List xE} {fa aa : Nat} {p : Nat → Nat} {gi : Nat → Int32} {ga : Nat → List Int32} {refs : List Value} {As : List (Option zO)} {ne : Int32} {am : List Int64} (hW2 : ((110, .inl (10, 2, .ref fa)) : xE) ∈ D0) (hW3 : ((110, .inl (10, 3, .ref aa)) : xE) ∈ D0) (hL0 : ((106, .inl (5, 2, .int ne)) : xE) ∈ D0) (hL1 : ((107, .inr (1, am.map Value.long)) : xE) ∈ D0) (hG : ∀ e ∈ zgE fa p gi ga, e ∈ D0) (hA0 : ((aa, .inr (7, refs)) : xE) ∈ D0) (hA1 : ∀ {j : Int32} {z : Option zO}, gI As j = some z → ∃ v, gI refs j = some v ∧ zVC D0 v z)  {N fr lo : Nat} (hf : 0 ≤ fr) (hl : 0 ≤ lo) {v1 : Int32} {v2 : Int32} {v3 : Int32} {v4 : Int32} {v5 : Int32} {S S2 : zS} {r : Unit}  (h : cE_add_152_175 gi ga As ne am N v1 v2 v3 v4 v5 S = some (r, S2)) : yK X fr lo 152 [.ref 175, .int v1, .int v2, .int v3, .int v4, .int v5] (zD zTE zaE S D0) 0 0 (zQv zTE zaE D0 r S2) := by
  unfold cE_add_152_175 at h
  refine yK.of rfl (yle rfl) (L := [_, _, _, _, _, _]) rfl ?_
  refine xt_pure rfl rfl rfl rfl ?_
  refine zt_gI 23 rfl rfl rfl rfl (x := (zI S 23)) rfl ?_
  refine xt_pure rfl rfl rfl rfl ?_
  refine xt_getf rfl rfl (xmC 167 rfl) ?_
  refine zr_lenI (l := (zA S 24)) rfl rfl (zmA 24 rfl rfl (l := (zA S 24)) rfl) rfl ?_
  refine xt_ic rfl rfl (fun hb => ?_) (fun hb => ?_)
  · replace h := zif_t (p := (Int32.ofNat (zA S 24).length).toInt ≤ (zI S 23).toInt) hb h
    cases h
    exact xt_vret rfl rfl rfl ⟨rfl, rfl⟩
  · replace h := zif_f (p := (Int32.ofNat (zA S 24).length).toInt ≤ (zI S 23).toInt) hb h
    refine xt_pure rfl rfl rfl rfl ?_
    refine xt_getf rfl rfl (xmC 167 rfl) ?_
    refine xt_pure rfl rfl rfl rfl ?_
    refine zt_gI 23 rfl rfl rfl rfl (x := (zI S 23)) rfl ?_
    refine xt_pure rfl rfl rfl rfl ?_
    obtain ⟨hg, h⟩ := zgd h
    refine zt_ist 24 rfl rfl rfl rfl (l := (zA S 24)) rfl hg ?_
    refine xt_pure rfl rfl rfl rfl ?_
    refine xt_getf rfl rfl (xmC 168 rfl) ?_
    refine xt_pure rfl rfl rfl rfl ?_
    refine zt_gI 23 rfl rfl rfl rfl (x := (zI S 23)) rfl ?_
    refine xt_pure rfl rfl rfl rfl ?_
    obtain ⟨hg, h⟩ := zgd h
    refine zt_ist 25 rfl rfl rfl rfl (l := (zA S 25)) rfl hg ?_
    refine xt_pure rfl rfl rfl rfl ?_
    refine xt_getf rfl rfl (xmC 169 rfl) ?_
    refine xt_pure rfl rfl rfl rfl ?_
    refine zt_gI 23 rfl rfl rfl rfl (x := (zI S 23)) rfl ?_
    refine xt_pure rfl rfl rfl rfl ?_
    obtain ⟨hg, h⟩ := zgd h
    refine zt_ist 26 rfl rfl rfl rfl (l := (zA S 26)) rfl hg ?_
    refine xt_pure rfl rfl rfl rfl ?_
    refine xt_getf rfl rfl (xmC 170 rfl) ?_
    refine xt_pure rfl rfl rfl rfl ?_
    refine zt_gI 23 rfl rfl rfl rfl (x := (zI S 23)) rfl ?_
    refine xt_pure rfl rfl rfl rfl ?_
    obtain ⟨hg, h⟩ := zgd h
    refine zt_ist 27 rfl rfl rfl rfl (l := (zA S 27)) rfl hg ?_
    refine xt_pure rfl rfl rfl rfl ?_
    refine xt_getf rfl rfl (xmC 171 rfl) ?_
    refine xt_pure rfl rfl rfl rfl ?_
    refine zt_gI 23 rfl rfl rfl rfl (x := (zI S 23)) rfl ?_
    refine xt_pure rfl rfl rfl rfl ?_
    obtain ⟨hg, h⟩ := zgd h
    refine zt_ist 28 rfl rfl rfl rfl (l := (zA S 28)) rfl hg ?_
    refine xt_pure rfl rfl rfl rfl ?_
    refine xt_pure rfl rfl rfl rfl ?_
    refine zt_gI 23 rfl rfl rfl rfl (x := (zI S 23)) rfl ?_
    refine xt_pure rfl rfl rfl (st1 := .int 1 :: _) rfl ?_
    refine xt_pure rfl rfl rfl rfl ?_
    refine zt_pI 23 rfl rfl rfl rfl rfl rfl ?_
    cases h
    exact xt_vret rfl rfl rfl ⟨rfl, rfl⟩
def cE_addOfPart_151_175 (gi : Nat → Int32) (ga : Nat → List Int32) (As : List (Option zO)) (ne : Int32) (am : List Int64)  (N : Nat) (v1 : Int32) (v2 : Int32) (S : zS) : Option (Unit × zS) := (if v1 = (0 : Int32) then some ((), S) else (zb (cE_add_152_175 gi ga As ne am N v1 v2 (-9) 0 (-9) S) fun _ S2 => some ((), S2)))
theorem tcE_addOfPart_151_175 {X : List Int32} {D0 : List xE} {fa aa : Nat} {p : Nat → Nat} {gi : Nat → Int32} {ga : Nat → List Int32} {refs : List Value} {As : List (Option zO)} {ne : Int32} {am : List Int64} (hW2 : ((110, .inl (10, 2, .ref fa)) : xE) ∈ D0) (hW3 : ((110, .inl (10, 3, .ref aa)) : xE) ∈ D0) (hL0 : ((106, .inl (5, 2, .int ne)) : xE) ∈ D0) (hL1 : ((107, .inr (1, am.map Value.long)) : xE) ∈ D0) (hG : ∀ e ∈ zgE fa p gi ga, e ∈ D0) (hA0 : ((aa, .inr (7, refs)) : xE) ∈ D0) (hA1 : ∀ {j : Int32} {z : Option zO}, gI As j = some z → ∃ v, gI refs j = some v ∧ zVC D0 v z)  {N fr lo : Nat} (hf : 1 ≤ fr) (hl : 25 ≤ lo) {v1 : Int32} {v2 : Int32} {S S2 : zS} {r : Unit}  (h : cE_addOfPart_151_175 gi ga As ne am N v1 v2 S = some (r, S2)) : yK X fr lo 151 [.ref 175, .int v1, .int v2] (zD zTE zaE S D0) 0 0 (zQv zTE zaE D0 r S2) := by
  unfold cE_addOfPart_151_175 at h
  refine yK.of rfl (yle rfl) (L := [_, _, _]) rfl ?_
  refine xt_pure rfl rfl rfl rfl ?_
  refine xt_if rfl rfl (fun hb => ?_) (fun hb => ?_)
  · replace h := zif_t (p := v1 = (0 : Int32)) hb h
    cases h
    exact xt_vret rfl rfl rfl ⟨rfl, rfl⟩
  · replace h := zif_f (p := v1 = (0 : Int32)) hb h
    refine xt_pure rfl rfl rfl rfl ?_
    refine xt_pure rfl rfl rfl rfl ?_
    refine xt_pure rfl rfl rfl rfl ?_
    refine xt_pure rfl rfl rfl (st1 := .int (-9) :: _) rfl ?_
    refine xt_pure rfl rfl rfl (st1 := .int 0 :: _) rfl ?_
    refine xt_pure rfl rfl rfl (st1 := .int (-9) :: _) rfl ?_
    obtain ⟨_, S2, hc3, h⟩ := zbi h
    refine zt_Vv rfl rfl rfl rfl (xmC 166 rfl) ⟨rfl, rfl, yle rfl, yle rfl⟩ (m := 6) rfl ⟨by omega, by omega⟩ (tcE_add_152_175 hW2 hW3 hL0 hL1 hG hA0 hA1 (by omega) (by omega) hc3) (fr1 := fr - 1) (lo1 := lo - 25) ?_
    cases h
    exact xt_vret rfl rfl rfl ⟨rfl, rfl⟩
def cE_inspect_175_108 (gi : Nat → Int32) (ga : Nat → List Int32) (As : List (Option zO)) (ne : Int32) (am : List Int64)  (N : Nat)  : Nat → Int32 → zS → Option (Int32 × zS)
  | 0, _, _ => none
  | n + 1, l3, S => (if (gi 10).toInt ≤ l3.toInt then some ((zI S 23), S) else (zg (gI (ga 12) l3) fun x4 => (zb (cE_fix gi ga As ne am N (N / 16) x4 0 S) fun x5 S6 => (if (zI S6 1) = (0 : Int32) then (if x5 ≠ (0 : Int64) then (cE_inspect_175_108 gi ga As ne am N n) (l3 + 1) S6 else (zg (gI (ga 11) l3) fun x8 => (zb (cE_add_152_175 gi ga As ne am N 9 (-9) l3 x8 (-9) S6) fun _ S10 => (cE_inspect_175_108 gi ga As ne am N n) (l3 + 1) S10))) else (zg (gI (ga 11) l3) fun x12 => (zb (cE_add_152_175 gi ga As ne am N (zI S6 1) (-9) l3 x12 (zI S6 2) S6) fun _ S14 => (cE_inspect_175_108 gi ga As ne am N n) (l3 + 1) S14))))))
theorem tcE_inspect_175_108 {X : List Int32} {D0 : List xE} {fa aa : Nat} {p : Nat → Nat} {gi : Nat → Int32} {ga : Nat → List Int32} {refs : List Value} {As : List (Option zO)} {ne : Int32} {am : List Int64} (hW2 : ((110, .inl (10, 2, .ref fa)) : xE) ∈ D0) (hW3 : ((110, .inl (10, 3, .ref aa)) : xE) ∈ D0) (hL0 : ((106, .inl (5, 2, .int ne)) : xE) ∈ D0) (hL1 : ((107, .inr (1, am.map Value.long)) : xE) ∈ D0) (hG : ∀ e ∈ zgE fa p gi ga, e ∈ D0) (hA0 : ((aa, .inr (7, refs)) : xE) ∈ D0) (hA1 : ∀ {j : Int32} {z : Option zO}, gI As j = some z → ∃ v, gI refs j = some v ∧ zVC D0 v z)  {N fr lo : Nat}   (hf : 5 + 3 * (N / 16) ≤ fr) (hl : 127 + 73 * (N / 16) ≤ lo)  : ∀ {n : Nat} {l3 : Int32} {u4 : Option Value} {u5 : Option Value} {S S2 : zS} {r : Int32} , cE_inspect_175_108 gi ga As ne am N n l3 S = some (r, S2) → yT X fr lo 130 108 [some (.ref 175), some (.ref fa), some (.ref aa), some (.int l3), u4, u5, none] [] (zD zTE zaE S D0) 0 0 (zQi zTE zaE D0 r S2) := by
  intro n
  induction n with
  | zero =>
    intro l3 u4 u5 S S2 r  h
    have h : (none : Option (Int32 × zS)) = some (r, S2) := h
    cases h
  | succ n ih =>
    intro l3 u4 u5 S S2 r  h
    rw [cE_inspect_175_108] at h
    refine xt_pure rfl rfl rfl rfl ?_
    refine xt_pure rfl rfl rfl rfl ?_
    refine xt_getf rfl rfl (zmr (ymm hG 10 rfl)) ?_
    refine xt_ic rfl rfl (fun hb => ?_) (fun hb => ?_)
    · replace h := zif_t (p := (gi 10).toInt ≤ l3.toInt) hb h
      refine xt_pure rfl rfl rfl rfl ?_
      refine zt_gI 23 rfl rfl rfl rfl (x := (zI S 23)) rfl ?_
      cases h
      exact xt_iret rfl rfl rfl rfl ⟨rfl, rfl⟩
    · replace h := zif_f (p := (gi 10).toInt ≤ l3.toInt) hb h
      refine xt_pure rfl rfl rfl rfl ?_
      refine xt_getf rfl rfl (xmC 166 rfl) ?_
      refine xt_pure rfl rfl rfl rfl ?_
      refine xt_getf rfl rfl (zmr (ymm hG 12 rfl)) ?_
      refine xt_pure rfl rfl rfl rfl ?_
      obtain ⟨x4, hx4, h⟩ := zgi h
      refine zr_ild (l := (ga 12)) rfl rfl (zmr (ymm hG 28 rfl)) hx4 ?_
      refine xt_pure rfl rfl rfl (st1 := .int 0 :: _) rfl ?_
      obtain ⟨x5, S6, hc7, h⟩ := zbi h
      refine zt_Vl rfl rfl rfl rfl (xmC 142 rfl) ⟨rfl, rfl, yle rfl, yle rfl⟩ (m := 7) rfl ⟨by omega, by omega⟩ ((tcE_fix hW2 hW3 hL0 hL1 hG hA0 hA1 (by omega) (by omega)) hc7) (fr1 := fr - 1) (lo1 := lo - 26) ?_
      refine xt_pure rfl rfl rfl (L1 := [_, _, _, _, _, _, _]) rfl ?_
      refine xt_pure rfl rfl rfl rfl ?_
      refine xt_getf rfl rfl (xmC 166 rfl) ?_
      refine zt_gI 1 rfl rfl rfl rfl (x := (zI S6 1)) rfl ?_
      refine xt_if rfl rfl (fun hb => ?_) (fun hb => ?_)
      · replace h := zif_t (p := (zI S6 1) = (0 : Int32)) hb h
        refine xt_pure rfl rfl rfl rfl ?_
        refine xt_pure rfl rfl rfl (st1 := .long 0 :: _) rfl ?_
        refine zt_lc rfl rfl rfl (fun hb => ?_) (fun hb => ?_)
        · replace h := zif_t (p := x5 ≠ (0 : Int64)) hb h
          refine xt_pure rfl rfl rfl (L1 := [_, _, _, some (.int (_ + 1)), _, _, _]) rfl ?_
          refine xt_pure rfl rfl rfl rfl ?_
          exact ih h
        · replace h := zif_f (p := x5 ≠ (0 : Int64)) hb h
          refine xt_pure rfl rfl rfl rfl ?_
          refine xt_pure rfl rfl rfl (st1 := .int 9 :: _) rfl ?_
          refine xt_pure rfl rfl rfl (st1 := .int (-9) :: _) rfl ?_
          refine xt_pure rfl rfl rfl rfl ?_
          refine xt_pure rfl rfl rfl rfl ?_
          refine xt_getf rfl rfl (zmr (ymm hG 11 rfl)) ?_
          refine xt_pure rfl rfl rfl rfl ?_
          obtain ⟨x8, hx8, h⟩ := zgi h
          refine zr_ild (l := (ga 11)) rfl rfl (zmr (ymm hG 27 rfl)) hx8 ?_
          refine xt_pure rfl rfl rfl (st1 := .int (-9) :: _) rfl ?_
          obtain ⟨_, S10, hc11, h⟩ := zbi h
          refine zt_Vv rfl rfl rfl rfl (xmC 166 rfl) ⟨rfl, rfl, yle rfl, yle rfl⟩ (m := 6) rfl ⟨by omega, by omega⟩ (tcE_add_152_175 hW2 hW3 hL0 hL1 hG hA0 hA1 (by omega) (by omega) hc11) (fr1 := fr - 1) (lo1 := lo - 25) ?_
          refine xt_pure rfl rfl rfl (L1 := [_, _, _, some (.int (_ + 1)), _, _, _]) rfl ?_
          refine xt_pure rfl rfl rfl rfl ?_
          exact ih h
      · replace h := zif_f (p := (zI S6 1) = (0 : Int32)) hb h
        refine xt_pure rfl rfl rfl rfl ?_
        refine xt_pure rfl rfl rfl rfl ?_
        refine xt_getf rfl rfl (xmC 166 rfl) ?_
        refine zt_gI 1 rfl rfl rfl rfl (x := (zI S6 1)) rfl ?_
        refine xt_pure rfl rfl rfl (st1 := .int (-9) :: _) rfl ?_
        refine xt_pure rfl rfl rfl rfl ?_
        refine xt_pure rfl rfl rfl rfl ?_
        refine xt_getf rfl rfl (zmr (ymm hG 11 rfl)) ?_
        refine xt_pure rfl rfl rfl rfl ?_
        obtain ⟨x12, hx12, h⟩ := zgi h
        refine zr_ild (l := (ga 11)) rfl rfl (zmr (ymm hG 27 rfl)) hx12 ?_
        refine xt_pure rfl rfl rfl rfl ?_
        refine xt_getf rfl rfl (xmC 166 rfl) ?_
        refine zt_gI 2 rfl rfl rfl rfl (x := (zI S6 2)) rfl ?_
        obtain ⟨_, S14, hc15, h⟩ := zbi h
        refine zt_Vv rfl rfl rfl rfl (xmC 166 rfl) ⟨rfl, rfl, yle rfl, yle rfl⟩ (m := 6) rfl ⟨by omega, by omega⟩ (tcE_add_152_175 hW2 hW3 hL0 hL1 hG hA0 hA1 (by omega) (by omega) hc15) (fr1 := fr - 1) (lo1 := lo - 25) ?_
        refine xt_pure rfl rfl rfl rfl ?_
        refine xt_pure rfl rfl rfl (L1 := [_, _, _, some (.int (_ + 1)), _, _, _]) rfl ?_
        refine xt_pure rfl rfl rfl rfl ?_
        exact ih h
def cE_inspect_175_71 (gi : Nat → Int32) (ga : Nat → List Int32) (As : List (Option zO)) (ne : Int32) (am : List Int64)  (N : Nat) (k10 : Int32 → zS → Option (Int32 × zS)) (l3 : Int32) (s1 : Int32) (s2 : Int32) (S : zS) : Option (Int32 × zS) := (if zok (zA S 29) s1 ∧ (s2 = 0 ∨ s2 = 1) then (if (zI S 1) = (0 : Int32) then (zg (gI (zs (zA S 29) s1 s2) l3) fun x17 => (if x17 = (0 : Int32) then k10 (l3 + 1) (zsA S 29 (zs (zA S 29) s1 s2)) else (zg (gI (ga 1) l3) fun x18 => (if x18 = (11 : Int32) then k10 (l3 + 1) (zsA S 29 (zs (zA S 29) s1 s2)) else (zg (gI As l3) fun z19 => (zo z19 ((zb (cE_faultOf_153_175_fa_zC gi ga As ne am N l3 none (zsA S 29 (zs (zA S 29) s1 s2))) fun x20 S21 => (zb (cE_addOfPart_151_175 gi ga As ne am N x20 l3 S21) fun _ S24 => k10 (l3 + 1) S24))) fun o19 => (zb (cE_faultOf_153_175_fa_zC gi ga As ne am N l3 (some o19) (zsA S 29 (zs (zA S 29) s1 s2))) fun x26 S27 => (zb (cE_addOfPart_151_175 gi ga As ne am N x26 l3 S27) fun _ S30 => k10 (l3 + 1) S30)))))))) else (zb (cE_addOfPart_151_175 gi ga As ne am N (zI S 1) l3 (zsA S 29 (zs (zA S 29) s1 s2))) fun _ S33 => k10 (l3 + 1) S33)) else none)
theorem tcE_inspect_175_71 {X : List Int32} {D0 : List xE} {fa aa : Nat} {p : Nat → Nat} {gi : Nat → Int32} {ga : Nat → List Int32} {refs : List Value} {As : List (Option zO)} {ne : Int32} {am : List Int64} (hW2 : ((110, .inl (10, 2, .ref fa)) : xE) ∈ D0) (hW3 : ((110, .inl (10, 3, .ref aa)) : xE) ∈ D0) (hL0 : ((106, .inl (5, 2, .int ne)) : xE) ∈ D0) (hL1 : ((107, .inr (1, am.map Value.long)) : xE) ∈ D0) (hG : ∀ e ∈ zgE fa p gi ga, e ∈ D0) (hA0 : ((aa, .inr (7, refs)) : xE) ∈ D0) (hA1 : ∀ {j : Int32} {z : Option zO}, gI As j = some z → ∃ v, gI refs j = some v ∧ zVC D0 v z)  {N fr lo : Nat} {k10 : Int32 → zS → Option (Int32 × zS)} (hk10 : ∀ {l3 : Int32} {u4 : Option Value} {u5 : Option Value} {S S2 : zS} {r : Int32} , k10 l3 S = some (r, S2) → yT X fr lo 130 10 [some (.ref 175), some (.ref fa), some (.ref aa), some (.int l3), u4, u5, none] [] (zD zTE zaE S D0) 0 0 (zQi zTE zaE D0 r S2)) (hf : 5 + 3 * (N / 16) ≤ fr) (hl : 127 + 73 * (N / 16) ≤ lo) {l3 : Int32} {s1 : Int32} {s2 : Int32} {d4 : Int32} {d5 : Int64} {S S2 : zS} {r : Int32}  (h : cE_inspect_175_71 gi ga As ne am N k10 l3 s1 s2 S = some (r, S2)) : yT X fr lo 130 71 [some (.ref 175), some (.ref fa), some (.ref aa), some (.int l3), some (.int d4), some (.long d5), none] [.int s2, .int s1, .ref 181] (zD zTE zaE S D0) 0 0 (zQi zTE zaE D0 r S2) := by
  unfold cE_inspect_175_71 at h
  obtain ⟨hg, h⟩ := zgd h
  refine zt_bst 29 rfl rfl (Or.inr ⟨rfl, by rcases hg.2 with hg | hg <;> rw [hg] <;> rfl⟩) rfl rfl (l := (zA S 29)) rfl hg.1 ?_
  refine xt_pure rfl rfl rfl rfl ?_
  refine xt_getf rfl rfl (xmC 166 rfl) ?_
  refine zt_gI 1 rfl rfl rfl rfl (x := (zI S 1)) rfl ?_
  refine xt_if rfl rfl (fun hb => ?_) (fun hb => ?_)
  · replace h := zif_t (p := (zI S 1) = (0 : Int32)) hb h
    refine xt_pure rfl rfl rfl rfl ?_
    refine xt_getf rfl rfl (xmC 172 rfl) ?_
    refine xt_pure rfl rfl rfl rfl ?_
    obtain ⟨x17, hx17, h⟩ := zgi h
    refine zr_bld (l := (zs (zA S 29) s1 s2)) rfl rfl (by decide) (zmA 29 rfl rfl (l := (zs (zA S 29) s1 s2)) rfl) hx17 ?_
    refine xt_if rfl rfl (fun hb => ?_) (fun hb => ?_)
    · replace h := zif_t (p := x17 = (0 : Int32)) hb h
      refine xt_pure rfl rfl rfl (L1 := [_, _, _, some (.int (_ + 1)), _, _, _]) rfl ?_
      refine xt_pure rfl rfl rfl rfl ?_
      exact hk10 h
    · replace h := zif_f (p := x17 = (0 : Int32)) hb h
      refine xt_pure rfl rfl rfl rfl ?_
      refine xt_getf rfl rfl (zmr (ymm hG 1 rfl)) ?_
      refine xt_pure rfl rfl rfl rfl ?_
      obtain ⟨x18, hx18, h⟩ := zgi h
      refine zr_ild (l := (ga 1)) rfl rfl (zmr (ymm hG 19 rfl)) hx18 ?_
      refine xt_pure rfl rfl rfl (st1 := .int 11 :: _) rfl ?_
      refine xt_ic rfl rfl (fun hb => ?_) (fun hb => ?_)
      · replace h := zif_t (p := x18 = (11 : Int32)) hb h
        refine xt_pure rfl rfl rfl (L1 := [_, _, _, some (.int (_ + 1)), _, _, _]) rfl ?_
        refine xt_pure rfl rfl rfl rfl ?_
        exact hk10 h
      · replace h := zif_f (p := x18 = (11 : Int32)) hb h
        refine xt_pure rfl rfl rfl rfl ?_
        refine xt_pure rfl rfl rfl rfl ?_
        refine xt_pure rfl rfl rfl rfl ?_
        refine xt_pure rfl rfl rfl rfl ?_
        refine xt_pure rfl rfl rfl rfl ?_
        refine xt_pure rfl rfl rfl rfl ?_
        obtain ⟨z19, hz19, h⟩ := zgi h
        obtain ⟨v19, hw19, hv19⟩ := hA1 hz19
        refine zr_ald (l := refs) rfl rfl ⟨by decide, rfl⟩ (zmr hA0) hw19 ?_
        rcases z19 with _ | o19
        · obtain rfl : v19 = Value.null := hv19
          replace h := zon h
          obtain ⟨x20, S21, hc22, h⟩ := zbi h
          refine zt_Vi rfl rfl rfl rfl (xmC 166 rfl) ⟨rfl, rfl, yle rfl, yle rfl⟩ (m := 5) rfl ⟨by omega, by omega⟩ (tcE_faultOf_153_175_fa_zC hW2 hW3 hL0 hL1 hG hA0 hA1 (by omega) (by omega) zvnC hc22) (fr1 := fr - 1) (lo1 := lo - 24) ?_
          refine xt_pure rfl rfl rfl rfl ?_
          obtain ⟨_, S24, hc25, h⟩ := zbi h
          refine zt_Vv rfl rfl rfl rfl (xmC 166 rfl) ⟨rfl, rfl, yle rfl, yle rfl⟩ (m := 3) rfl ⟨by omega, by omega⟩ (tcE_addOfPart_151_175 hW2 hW3 hL0 hL1 hG hA0 hA1 (by omega) (by omega) hc25) (fr1 := fr - 1) (lo1 := lo - 22) ?_
          refine xt_pure rfl rfl rfl (L1 := [_, _, _, some (.int (_ + 1)), _, _, _]) rfl ?_
          refine xt_pure rfl rfl rfl rfl ?_
          exact hk10 h
        · obtain ⟨oa19, rfl, ho19⟩ := hv19
          replace h := zos h
          have hk19 := ho19
          obtain ⟨ia19, ra19, rr19, q019, q119, q219, q319, q419, q519, q619⟩ := hk19
          obtain ⟨x26, S27, hc28, h⟩ := zbi h
          refine zt_Vi rfl rfl rfl rfl (xmC 166 rfl) ⟨rfl, rfl, yle rfl, yle rfl⟩ (m := 5) rfl ⟨by omega, by omega⟩ (tcE_faultOf_153_175_fa_zC hW2 hW3 hL0 hL1 hG hA0 hA1 (by omega) (by omega) (zvsC ho19) hc28) (fr1 := fr - 1) (lo1 := lo - 24) ?_
          refine xt_pure rfl rfl rfl rfl ?_
          obtain ⟨_, S30, hc31, h⟩ := zbi h
          refine zt_Vv rfl rfl rfl rfl (xmC 166 rfl) ⟨rfl, rfl, yle rfl, yle rfl⟩ (m := 3) rfl ⟨by omega, by omega⟩ (tcE_addOfPart_151_175 hW2 hW3 hL0 hL1 hG hA0 hA1 (by omega) (by omega) hc31) (fr1 := fr - 1) (lo1 := lo - 22) ?_
          refine xt_pure rfl rfl rfl (L1 := [_, _, _, some (.int (_ + 1)), _, _, _]) rfl ?_
          refine xt_pure rfl rfl rfl rfl ?_
          exact hk10 h
  · replace h := zif_f (p := (zI S 1) = (0 : Int32)) hb h
    refine xt_pure rfl rfl rfl rfl ?_
    refine xt_pure rfl rfl rfl rfl ?_
    refine xt_getf rfl rfl (xmC 166 rfl) ?_
    refine zt_gI 1 rfl rfl rfl rfl (x := (zI S 1)) rfl ?_
    refine xt_pure rfl rfl rfl rfl ?_
    obtain ⟨_, S33, hc34, h⟩ := zbi h
    refine zt_Vv rfl rfl rfl rfl (xmC 166 rfl) ⟨rfl, rfl, yle rfl, yle rfl⟩ (m := 3) rfl ⟨by omega, by omega⟩ (tcE_addOfPart_151_175 hW2 hW3 hL0 hL1 hG hA0 hA1 (by omega) (by omega) hc34) (fr1 := fr - 1) (lo1 := lo - 22) ?_
    refine xt_pure rfl rfl rfl rfl ?_
    refine xt_pure rfl rfl rfl (L1 := [_, _, _, some (.int (_ + 1)), _, _, _]) rfl ?_
    refine xt_pure rfl rfl rfl rfl ?_
    exact hk10 h
def cE_inspect_175_54 (gi : Nat → Int32) (ga : Nat → List Int32) (As : List (Option zO)) (ne : Int32) (am : List Int64)  (N : Nat) (k10 : Int32 → zS → Option (Int32 × zS)) (l3 : Int32) (l4 : Int32) (s0 : Int64) (S : zS) : Option (Int32 × zS) := (if l4 = (0 : Int32) then cE_inspect_175_71 gi ga As ne am N k10 l3 l3 0 S else (if (zI S 1) ≠ (0 : Int32) then cE_inspect_175_71 gi ga As ne am N k10 l3 l3 0 S else (if s0 = (0 : Int64) then cE_inspect_175_71 gi ga As ne am N k10 l3 l3 0 S else cE_inspect_175_71 gi ga As ne am N k10 l3 l3 1 S)))
theorem tcE_inspect_175_54 {X : List Int32} {D0 : List xE} {fa aa : Nat} {p : Nat → Nat} {gi : Nat → Int32} {ga : Nat → List Int32} {refs : List Value} {As : List (Option zO)} {ne : Int32} {am : List Int64} (hW2 : ((110, .inl (10, 2, .ref fa)) : xE) ∈ D0) (hW3 : ((110, .inl (10, 3, .ref aa)) : xE) ∈ D0) (hL0 : ((106, .inl (5, 2, .int ne)) : xE) ∈ D0) (hL1 : ((107, .inr (1, am.map Value.long)) : xE) ∈ D0) (hG : ∀ e ∈ zgE fa p gi ga, e ∈ D0) (hA0 : ((aa, .inr (7, refs)) : xE) ∈ D0) (hA1 : ∀ {j : Int32} {z : Option zO}, gI As j = some z → ∃ v, gI refs j = some v ∧ zVC D0 v z)  {N fr lo : Nat} {k10 : Int32 → zS → Option (Int32 × zS)} (hk10 : ∀ {l3 : Int32} {u4 : Option Value} {u5 : Option Value} {S S2 : zS} {r : Int32} , k10 l3 S = some (r, S2) → yT X fr lo 130 10 [some (.ref 175), some (.ref fa), some (.ref aa), some (.int l3), u4, u5, none] [] (zD zTE zaE S D0) 0 0 (zQi zTE zaE D0 r S2)) (hf : 5 + 3 * (N / 16) ≤ fr) (hl : 127 + 73 * (N / 16) ≤ lo) {l3 : Int32} {l4 : Int32} {s0 : Int64} {u5 : Option Value} {S S2 : zS} {r : Int32}  (h : cE_inspect_175_54 gi ga As ne am N k10 l3 l4 s0 S = some (r, S2)) : yT X fr lo 130 54 [some (.ref 175), some (.ref fa), some (.ref aa), some (.int l3), some (.int l4), u5, none] [.long s0] (zD zTE zaE S D0) 0 0 (zQi zTE zaE D0 r S2) := by
  unfold cE_inspect_175_54 at h
  refine xt_pure rfl rfl rfl (L1 := [_, _, _, _, _, _, _]) rfl ?_
  refine xt_pure rfl rfl rfl rfl ?_
  refine xt_getf rfl rfl (xmC 172 rfl) ?_
  refine xt_pure rfl rfl rfl rfl ?_
  refine xt_pure rfl rfl rfl rfl ?_
  refine xt_if rfl rfl (fun hb => ?_) (fun hb => ?_)
  · replace h := zif_t (p := l4 = (0 : Int32)) hb h
    refine xt_pure rfl rfl rfl (st1 := .int 0 :: _) rfl ?_
    exact tcE_inspect_175_71 hW2 hW3 hL0 hL1 hG hA0 hA1 hk10 hf hl h
  · replace h := zif_f (p := l4 = (0 : Int32)) hb h
    refine xt_pure rfl rfl rfl rfl ?_
    refine xt_getf rfl rfl (xmC 166 rfl) ?_
    refine zt_gI 1 rfl rfl rfl rfl (x := (zI S 1)) rfl ?_
    refine xt_if rfl rfl (fun hb => ?_) (fun hb => ?_)
    · replace h := zif_t (p := (zI S 1) ≠ (0 : Int32)) hb h
      refine xt_pure rfl rfl rfl (st1 := .int 0 :: _) rfl ?_
      exact tcE_inspect_175_71 hW2 hW3 hL0 hL1 hG hA0 hA1 hk10 hf hl h
    · replace h := zif_f (p := (zI S 1) ≠ (0 : Int32)) hb h
      refine xt_pure rfl rfl rfl rfl ?_
      refine xt_pure rfl rfl rfl (st1 := .long 0 :: _) rfl ?_
      refine zt_lc rfl rfl rfl (fun hb => ?_) (fun hb => ?_)
      · replace h := zif_t (p := s0 = (0 : Int64)) hb h
        refine xt_pure rfl rfl rfl (st1 := .int 0 :: _) rfl ?_
        exact tcE_inspect_175_71 hW2 hW3 hL0 hL1 hG hA0 hA1 hk10 hf hl h
      · replace h := zif_f (p := s0 = (0 : Int64)) hb h
        refine xt_pure rfl rfl rfl (st1 := .int 1 :: _) rfl ?_
        refine xt_pure rfl rfl rfl rfl ?_
        exact tcE_inspect_175_71 hW2 hW3 hL0 hL1 hG hA0 hA1 hk10 hf hl h
def cE_inspect_175_35 (gi : Nat → Int32) (ga : Nat → List Int32) (As : List (Option zO)) (ne : Int32) (am : List Int64)  (N : Nat) (k10 : Int32 → zS → Option (Int32 × zS)) (l3 : Int32) (s0 : Int32) (S : zS) : Option (Int32 × zS) := (if s0 = (0 : Int32) then cE_inspect_175_54 gi ga As ne am N k10 l3 s0 1 S else (zg (gI (ga 7) l3) fun x35 => (if x35 = ((-9) : Int32) then cE_inspect_175_54 gi ga As ne am N k10 l3 s0 1 S else (zg (gI (ga 7) l3) fun x36 => (zb (cE_fix gi ga As ne am N (N / 16) x36 0 S) fun x37 S38 => cE_inspect_175_54 gi ga As ne am N k10 l3 s0 x37 S38)))))
theorem tcE_inspect_175_35 {X : List Int32} {D0 : List xE} {fa aa : Nat} {p : Nat → Nat} {gi : Nat → Int32} {ga : Nat → List Int32} {refs : List Value} {As : List (Option zO)} {ne : Int32} {am : List Int64} (hW2 : ((110, .inl (10, 2, .ref fa)) : xE) ∈ D0) (hW3 : ((110, .inl (10, 3, .ref aa)) : xE) ∈ D0) (hL0 : ((106, .inl (5, 2, .int ne)) : xE) ∈ D0) (hL1 : ((107, .inr (1, am.map Value.long)) : xE) ∈ D0) (hG : ∀ e ∈ zgE fa p gi ga, e ∈ D0) (hA0 : ((aa, .inr (7, refs)) : xE) ∈ D0) (hA1 : ∀ {j : Int32} {z : Option zO}, gI As j = some z → ∃ v, gI refs j = some v ∧ zVC D0 v z)  {N fr lo : Nat} {k10 : Int32 → zS → Option (Int32 × zS)} (hk10 : ∀ {l3 : Int32} {u4 : Option Value} {u5 : Option Value} {S S2 : zS} {r : Int32} , k10 l3 S = some (r, S2) → yT X fr lo 130 10 [some (.ref 175), some (.ref fa), some (.ref aa), some (.int l3), u4, u5, none] [] (zD zTE zaE S D0) 0 0 (zQi zTE zaE D0 r S2)) (hf : 5 + 3 * (N / 16) ≤ fr) (hl : 127 + 73 * (N / 16) ≤ lo) {l3 : Int32} {s0 : Int32} {u4 : Option Value} {u5 : Option Value} {S S2 : zS} {r : Int32}  (h : cE_inspect_175_35 gi ga As ne am N k10 l3 s0 S = some (r, S2)) : yT X fr lo 130 35 [some (.ref 175), some (.ref fa), some (.ref aa), some (.int l3), u4, u5, none] [.int s0] (zD zTE zaE S D0) 0 0 (zQi zTE zaE D0 r S2) := by
  unfold cE_inspect_175_35 at h
  refine xt_pure rfl rfl rfl (L1 := [_, _, _, _, _, _, _]) rfl ?_
  refine xt_pure rfl rfl rfl rfl ?_
  refine xt_if rfl rfl (fun hb => ?_) (fun hb => ?_)
  · replace h := zif_t (p := s0 = (0 : Int32)) hb h
    refine xt_pure rfl rfl rfl (st1 := .long 1 :: _) rfl ?_
    exact tcE_inspect_175_54 hW2 hW3 hL0 hL1 hG hA0 hA1 hk10 hf hl h
  · replace h := zif_f (p := s0 = (0 : Int32)) hb h
    refine xt_pure rfl rfl rfl rfl ?_
    refine xt_getf rfl rfl (zmr (ymm hG 7 rfl)) ?_
    refine xt_pure rfl rfl rfl rfl ?_
    obtain ⟨x35, hx35, h⟩ := zgi h
    refine zr_ild (l := (ga 7)) rfl rfl (zmr (ymm hG 25 rfl)) hx35 ?_
    refine xt_pure rfl rfl rfl (st1 := .int (-9) :: _) rfl ?_
    refine xt_ic rfl rfl (fun hb => ?_) (fun hb => ?_)
    · replace h := zif_t (p := x35 = ((-9) : Int32)) hb h
      refine xt_pure rfl rfl rfl (st1 := .long 1 :: _) rfl ?_
      exact tcE_inspect_175_54 hW2 hW3 hL0 hL1 hG hA0 hA1 hk10 hf hl h
    · replace h := zif_f (p := x35 = ((-9) : Int32)) hb h
      refine xt_pure rfl rfl rfl rfl ?_
      refine xt_getf rfl rfl (xmC 166 rfl) ?_
      refine xt_pure rfl rfl rfl rfl ?_
      refine xt_getf rfl rfl (zmr (ymm hG 7 rfl)) ?_
      refine xt_pure rfl rfl rfl rfl ?_
      obtain ⟨x36, hx36, h⟩ := zgi h
      refine zr_ild (l := (ga 7)) rfl rfl (zmr (ymm hG 25 rfl)) hx36 ?_
      refine xt_pure rfl rfl rfl (st1 := .int 0 :: _) rfl ?_
      obtain ⟨x37, S38, hc39, h⟩ := zbi h
      refine zt_Vl rfl rfl rfl rfl (xmC 142 rfl) ⟨rfl, rfl, yle rfl, yle rfl⟩ (m := 7) rfl ⟨by omega, by omega⟩ ((tcE_fix hW2 hW3 hL0 hL1 hG hA0 hA1 (by omega) (by omega)) hc39) (fr1 := fr - 1) (lo1 := lo - 26) ?_
      refine xt_pure rfl rfl rfl rfl ?_
      exact tcE_inspect_175_54 hW2 hW3 hL0 hL1 hG hA0 hA1 hk10 hf hl h
def cE_inspect_175_10 (gi : Nat → Int32) (ga : Nat → List Int32) (As : List (Option zO)) (ne : Int32) (am : List Int64)  (N : Nat)  : Nat → Int32 → zS → Option (Int32 × zS)
  | 0, _, _ => none
  | n + 1, l3, S => (if (gi 0).toInt ≤ l3.toInt then cE_inspect_175_108 gi ga As ne am N N 0 S else (zg (gI (ga 2) l3) fun x16 => (if x16 = ((-9) : Int32) then cE_inspect_175_35 gi ga As ne am N (cE_inspect_175_10 gi ga As ne am N n) l3 1 (zsI S 1 0) else (zg (gI (ga 2) l3) fun x40 => (zg (gI (zA S 29) x40) fun x41 => (if x41 = (0 : Int32) then cE_inspect_175_35 gi ga As ne am N (cE_inspect_175_10 gi ga As ne am N n) l3 0 (zsI S 1 0) else cE_inspect_175_35 gi ga As ne am N (cE_inspect_175_10 gi ga As ne am N n) l3 1 (zsI S 1 0)))))))
theorem tcE_inspect_175_10 {X : List Int32} {D0 : List xE} {fa aa : Nat} {p : Nat → Nat} {gi : Nat → Int32} {ga : Nat → List Int32} {refs : List Value} {As : List (Option zO)} {ne : Int32} {am : List Int64} (hW2 : ((110, .inl (10, 2, .ref fa)) : xE) ∈ D0) (hW3 : ((110, .inl (10, 3, .ref aa)) : xE) ∈ D0) (hL0 : ((106, .inl (5, 2, .int ne)) : xE) ∈ D0) (hL1 : ((107, .inr (1, am.map Value.long)) : xE) ∈ D0) (hG : ∀ e ∈ zgE fa p gi ga, e ∈ D0) (hA0 : ((aa, .inr (7, refs)) : xE) ∈ D0) (hA1 : ∀ {j : Int32} {z : Option zO}, gI As j = some z → ∃ v, gI refs j = some v ∧ zVC D0 v z)  {N fr lo : Nat}   (hf : 5 + 3 * (N / 16) ≤ fr) (hl : 127 + 73 * (N / 16) ≤ lo)  : ∀ {n : Nat} {l3 : Int32} {u4 : Option Value} {u5 : Option Value} {S S2 : zS} {r : Int32} , cE_inspect_175_10 gi ga As ne am N n l3 S = some (r, S2) → yT X fr lo 130 10 [some (.ref 175), some (.ref fa), some (.ref aa), some (.int l3), u4, u5, none] [] (zD zTE zaE S D0) 0 0 (zQi zTE zaE D0 r S2) := by
  intro n
  induction n with
  | zero =>
    intro l3 u4 u5 S S2 r  h
    have h : (none : Option (Int32 × zS)) = some (r, S2) := h
    cases h
  | succ n ih =>
    intro l3 u4 u5 S S2 r  h
    rw [cE_inspect_175_10] at h
    refine xt_pure rfl rfl rfl rfl ?_
    refine xt_pure rfl rfl rfl rfl ?_
    refine xt_getf rfl rfl (zmr (ymm hG 0 rfl)) ?_
    refine xt_ic rfl rfl (fun hb => ?_) (fun hb => ?_)
    · replace h := zif_t (p := (gi 0).toInt ≤ l3.toInt) hb h
      refine xt_pure rfl rfl rfl (st1 := .int 0 :: _) rfl ?_
      refine xt_pure rfl rfl rfl (L1 := [_, _, _, _, _, _, _]) rfl ?_
      exact tcE_inspect_175_108 hW2 hW3 hL0 hL1 hG hA0 hA1 hf hl h
    · replace h := zif_f (p := (gi 0).toInt ≤ l3.toInt) hb h
      refine xt_pure rfl rfl rfl rfl ?_
      refine xt_getf rfl rfl (xmC 166 rfl) ?_
      refine xt_pure rfl rfl rfl (st1 := .int 0 :: _) rfl ?_
      refine zt_pI 1 rfl rfl rfl rfl rfl rfl ?_
      refine xt_pure rfl rfl rfl rfl ?_
      refine xt_getf rfl rfl (zmr (ymm hG 2 rfl)) ?_
      refine xt_pure rfl rfl rfl rfl ?_
      obtain ⟨x16, hx16, h⟩ := zgi h
      refine zr_ild (l := (ga 2)) rfl rfl (zmr (ymm hG 20 rfl)) hx16 ?_
      refine xt_pure rfl rfl rfl (st1 := .int (-9) :: _) rfl ?_
      refine xt_ic rfl rfl (fun hb => ?_) (fun hb => ?_)
      · replace h := zif_t (p := x16 = ((-9) : Int32)) hb h
        refine xt_pure rfl rfl rfl (st1 := .int 1 :: _) rfl ?_
        refine xt_pure rfl rfl rfl rfl ?_
        exact tcE_inspect_175_35 hW2 hW3 hL0 hL1 hG hA0 hA1 (fun h => ih h) hf hl h
      · replace h := zif_f (p := x16 = ((-9) : Int32)) hb h
        refine xt_pure rfl rfl rfl rfl ?_
        refine xt_getf rfl rfl (xmC 172 rfl) ?_
        refine xt_pure rfl rfl rfl rfl ?_
        refine xt_getf rfl rfl (zmr (ymm hG 2 rfl)) ?_
        refine xt_pure rfl rfl rfl rfl ?_
        obtain ⟨x40, hx40, h⟩ := zgi h
        refine zr_ild (l := (ga 2)) rfl rfl (zmr (ymm hG 20 rfl)) hx40 ?_
        obtain ⟨x41, hx41, h⟩ := zgi h
        refine zr_bld (l := (zA S 29)) rfl rfl (by decide) (zmA 29 rfl rfl (l := (zA S 29)) rfl) hx41 ?_
        refine xt_if rfl rfl (fun hb => ?_) (fun hb => ?_)
        · replace h := zif_t (p := x41 = (0 : Int32)) hb h
          refine xt_pure rfl rfl rfl (st1 := .int 0 :: _) rfl ?_
          exact tcE_inspect_175_35 hW2 hW3 hL0 hL1 hG hA0 hA1 (fun h => ih h) hf hl h
        · replace h := zif_f (p := x41 = (0 : Int32)) hb h
          refine xt_pure rfl rfl rfl (st1 := .int 1 :: _) rfl ?_
          refine xt_pure rfl rfl rfl rfl ?_
          exact tcE_inspect_175_35 hW2 hW3 hL0 hL1 hG hA0 hA1 (fun h => ih h) hf hl h
def cE_inspect_175 (gi : Nat → Int32) (ga : Nat → List Int32) (As : List (Option zO)) (ne : Int32) (am : List Int64)  (N : Nat)  (S : zS) : Option (Int32 × zS) := (zb (cB_begin N (zsI S 23 0)) fun _ S2 => cE_inspect_175_10 gi ga As ne am N N 0 S2)
theorem tcE_inspect_175 {X : List Int32} {D0 : List xE} {fa aa : Nat} {p : Nat → Nat} {gi : Nat → Int32} {ga : Nat → List Int32} {refs : List Value} {As : List (Option zO)} {ne : Int32} {am : List Int64} (hW2 : ((110, .inl (10, 2, .ref fa)) : xE) ∈ D0) (hW3 : ((110, .inl (10, 3, .ref aa)) : xE) ∈ D0) (hL0 : ((106, .inl (5, 2, .int ne)) : xE) ∈ D0) (hL1 : ((107, .inr (1, am.map Value.long)) : xE) ∈ D0) (hG : ∀ e ∈ zgE fa p gi ga, e ∈ D0) (hA0 : ((aa, .inr (7, refs)) : xE) ∈ D0) (hA1 : ∀ {j : Int32} {z : Option zO}, gI As j = some z → ∃ v, gI refs j = some v ∧ zVC D0 v z)  {N fr lo : Nat} (hf : 5 + 3 * (N / 16) ≤ fr) (hl : 127 + 73 * (N / 16) ≤ lo) {Da : List xE} (hbeg : ∀ {S S2 : zS} {r : Unit}, cB_begin N S = some (r, S2) → yK X 0 0 131 [.ref 110, .ref fa, .ref aa] (zD zTE zaE S Da) 0 0 (zQv zTE zaE D0 r S2))  {S S2 : zS} {r : Int32}  (h : cE_inspect_175 gi ga As ne am N  S = some (r, S2)) : yK X fr lo 130 [.ref 175, .ref fa, .ref aa] (zD zTE zaE S Da) 0 0 (zQi zTE zaE D0 r S2) := by
  unfold cE_inspect_175 at h
  refine yK.of rfl (yle rfl) (L := [_, _, _, _, _, _, _]) rfl ?_
  refine xt_pure rfl rfl rfl rfl ?_
  refine xt_pure rfl rfl rfl (st1 := .int 0 :: _) rfl ?_
  refine zt_pI 23 rfl rfl rfl rfl rfl rfl ?_
  refine xt_pure rfl rfl rfl rfl ?_
  refine xt_getf rfl rfl (xmC 166 rfl) ?_
  refine xt_pure rfl rfl rfl rfl ?_
  refine xt_pure rfl rfl rfl rfl ?_
  obtain ⟨_, S2, hc3, h⟩ := zbi h
  refine zt_Vv rfl rfl rfl rfl (xmC 142 rfl) ⟨rfl, rfl, yle rfl, yle rfl⟩ (m := 4) rfl ⟨by omega, by omega⟩ (hbeg hc3) (fr1 := 0) (lo1 := 0) ?_
  refine xt_pure rfl rfl rfl (st1 := .int 0 :: _) rfl ?_
  refine xt_pure rfl rfl rfl (L1 := [_, _, _, _, _, _, _]) rfl ?_
  exact tcE_inspect_175_10 hW2 hW3 hL0 hL1 hG hA0 hA1 hf hl h
