/-! ANSWERS READ: kindOf, item, cellOf, receipt, earlier -/
theorem askP_some {F : yF} {p : Int32} {P : yPt} (h : askP F p = some P) : 0 ≤ p.toInt ∧ p.toInt < F.1.length ∧ F.1[p.toInt.toNat]? = some P ∧ P.1 ≠ 11 := by
  unfold askP at h
  cases hg : gI F.1 p with
  | none => rw [hg] at h; cases h
  | some P2 =>
    rw [hg] at h
    have h2 : (if P2.1 = 11 then none else some P2) = some P := h
    split at h2
    · cases h2
    · cases h2
      obtain ⟨g1, g2, g3, _, _⟩ := gI_some hg
      exact ⟨g1, g2, g3, by assumption⟩
theorem ansP_inv {Fs : List yF} {Dr : List yD} {x p : Int32} {d : yD} {F : yF} {P : yPt} (h : ansP Fs Dr x p = some (d, F, P)) : gI Dr x = some d ∧ Fs[d.1]? = some F ∧ askP F p = some P := by
  unfold ansP at h
  obtain ⟨d2, h1, h2⟩ := Option.bind_eq_some_iff.mp h
  obtain ⟨F2, h3, h4⟩ := Option.bind_eq_some_iff.mp h2
  obtain ⟨P2, h5, h6⟩ := Option.map_eq_some_iff.mp h4
  cases h6
  exact ⟨h1, h3, h5⟩
theorem answ_some {Fs : List yF} {Dr : List yD} {x p : Int32} {d : yD} {F : yF} {P : yPt} {z : Option yO} (h1 : gI Dr x = some d) (h2 : Fs[d.1]? = some F) (h3 : askP F p = some P) (h4 : d.2.1[p.toInt.toNat]? = some z) : answ Fs Dr x p = some z := by
  unfold answ ansP
  rw [h1]
  simp only [Option.bind_some, h2, h3, Option.map_some]
  exact h4
theorem answ_none1 {Fs : List yF} {Dr : List yD} {x p : Int32} (h1 : gI Dr x = none) : answ Fs Dr x p = none := by simp [answ, ansP, h1]
theorem answ_none2 {Fs : List yF} {Dr : List yD} {x p : Int32} {d : yD} {F : yF} (h1 : gI Dr x = some d) (h2 : Fs[d.1]? = some F) (h3 : askP F p = none) : answ Fs Dr x p = none := by simp [answ, ansP, h1, h2, h3]
theorem answ_none3 {Fs : List yF} {Dr : List yD} {x p : Int32} (h1 : ansP Fs Dr x p = none) : answ Fs Dr x p = none := by simp [answ, h1]
theorem gI_R {R : List yDR} {x : Int32} {r : yDR} (h : gI R x = some r) : gI (R.map (fun r => r.2.2.2.2.2)) x = some r.2.2.2.2.2 := by rw [gI_map, h]; rfl
theorem gI_R0 {R : List yDR} {x : Int32} (h : gI R x = none) : gI (R.map (fun r => r.2.2.2.2.2)) x = none := by rw [gI_map, h]; rfl
def kindV (Fs : List yF) (Dr : List yD) (x p : Int32) : Int32 := match answ Fs Dr x p with
  | none => -1
  | some none => -9
  | some (some o) => Int32.ofNat o.1
def rowV (r : Option (List Int32)) : Int64 := match r with
  | none => -9
  | some l => (Int32.ofNat l.length).toInt64
def itmV (o : yO) (i : Int32) : Int64 := if i.toInt = -1 then (Int32.ofNat (osz o)).toInt64 else if ¬ (0 ≤ i.toInt ∧ i.toInt < osz o) then -100 else if o.1 = 4 then rowV ((gI o.2.2 i).getD none) else (gI (cit o) i).getD 0
def itemV (Fs : List yF) (Dr : List yD) (x p i : Int32) : Int64 := match answ Fs Dr x p with
  | some (some o) => itmV o i
  | _ => -100
def celV (o : yO) (i j : Int32) : Int32 := if o.1 = 4 ∧ 0 ≤ i.toInt ∧ i.toInt < osz o then (match (gI o.2.2 i).getD none with
  | none => 0
  | some l => (gI l j).getD 0) else 0
def cellV (Fs : List yF) (Dr : List yD) (x p i j : Int32) : Int32 := match answ Fs Dr x p with
  | some (some o) => celV o i j
  | _ => 0
def rcV (Dr : List yD) (x : Int32) : Int32 := match gI Dr x with
  | none => -1
  | some d => d.2.2.2.1
def earV (Dr : List yD) (x y : Int32) : Int32 := match gI Dr x, gI Dr y with
  | some d, some e => if d.2.2.2.1 = -9 ∨ e.2.2.2.1 = -9 then -2 else if d.2.2.2.1.toInt ≤ e.2.2.2.1.toInt then 0 else 1
  | _, _ => -1
theorem osz_le {o : yO} (k1 : o.1 ≤ 7) (k2 : o.1 = 4 → o.2.1 = [] ∧ o.2.2.length ≤ 6 ∧ ∀ l, some l ∈ o.2.2 → l.length ≤ 6) (k3 : o.1 ≠ 4 → o.2.2 = [] ∧ o.2.1.length ≤ 12) : osz o ≤ 12 := by
  unfold osz
  split
  · have := (k2 (by assumption)).2.1; omega
  · exact (k3 (by assumption)).2
theorem cit_len (o : yO) : (cit o).length = o.2.1.length := by
  unfold cit
  split <;> simp
theorem osz4 {o : yO} (h : o.1 = 4) : osz o = o.2.2.length := if_pos h
theorem osz_n4 {o : yO} (h : o.1 ≠ 4) : osz o = o.2.1.length := if_neg h
theorem ck_answerOf {X : List Int32} {D0 : List xE} {Fs : List yF} {R : List yDR} {x y : Int32} (hok : ∀ (i : Nat) F, Fs[i]? = some F → F.1.length ≤ 20) (hDs : yDsC Fs R D0) : yK X 1 21 118 [.ref 78, .int x, .int y] (D0) 0 0 (fun w D => (D0 = D ∧ (∀ ob, answ Fs (R.map (fun r => r.2.2.2.2.2)) x y ≠ some (some ob)) ∧ w = some .null) ∨ (D0 = D ∧ ∃ ob oa, answ Fs (R.map (fun r => r.2.2.2.2.2)) x y = some (some ob) ∧ yOC D0 oa ob ∧ w = some (.ref oa))) := by
  refine yK.of rfl (yle rfl) (L := [_, _, _, _]) rfl ?_
  refine xt_pure rfl rfl rfl rfl ?_
  refine xt_pure rfl rfl rfl rfl ?_
  refine xt_callV rfl rfl rfl rfl (xmC 115 rfl) ⟨rfl, rfl, yle rfl, yle rfl, yle rfl, yle rfl⟩ (ck_draftAt hDs.1) (c2 := 0) (s2 := 0) ⟨yle rfl, yle rfl⟩ ?_
  rintro _ _ (⟨rfl, hg0, rfl⟩ | ⟨rfl, ⟨da0, aa0, fa0, refs0, lt0, d0⟩, hg0, rfl⟩)
  · skip
    show yT _ _ _ _ _ _ (_ :: _) _ _ _ _
    refine xt_pure rfl rfl rfl (L1 := [_, _, _, _]) rfl ?_
    refine xt_pure rfl rfl rfl rfl ?_
    refine xt_pure rfl rfl rfl rfl ?_
    refine xt_pure rfl rfl rfl rfl ?_
    refine xt_pure rfl rfl rfl rfl ?_
    refine xt_aret rfl rfl rfl rfl rfl ?_
    exact Or.inl ⟨rfl, (by rw [answ_none1 (gI_R0 hg0)]; rintro ob h; cases h), rfl⟩
  · skip
    obtain ⟨hE0, F0, hF0, hC0, hA0, hH0⟩ := hDs.2 _ (List.mem_of_getElem? (gI_some hg0).2.2.1)
    have hA10 := hA0.1
    have hA20 := hA0.2.1
    dsimp only at hA10 hA20 hF0
    have hCC0 := hC0
    dsimp only at hCC0
    obtain ⟨p0, q0, hG0, hL0, hK0, hQ0, hS0, hT0⟩ := hCC0
    show yT _ _ _ _ _ _ (_ :: _) _ _ _ _
    refine xt_pure rfl rfl rfl (L1 := [_, _, _, _]) rfl ?_
    refine xt_pure rfl rfl rfl rfl ?_
    refine xt_pure rfl rfl rfl rfl ?_
    refine xt_pure rfl rfl rfl rfl ?_
    refine xt_getf rfl rfl (xmS 0 rfl (ymm hE0 1 rfl)) ?_
    refine xt_pure rfl rfl rfl rfl ?_
    refine xt_callV rfl rfl rfl rfl (xmS 0 rfl (ymm hG0 0 rfl)) ⟨rfl, rfl, yle rfl, yle rfl, yle rfl, yle rfl⟩ (ck_answered (hok _ _ hF0) hC0) (c2 := 0) (s2 := 0) ⟨yle rfl, yle rfl⟩ ?_
    rintro _ _ (⟨rfl, ⟨P1, hP1⟩, rfl⟩ | ⟨rfl, hP1, rfl⟩)
    · skip
      obtain ⟨b11, b21, b31, b41⟩ := askP_some hP1
      have b51 := (hok _ _ hF0)
      show yT _ _ _ _ _ _ (_ :: _) _ _ _ _
      refine xt_pure rfl rfl rfl rfl ?_
      refine xt_pure rfl rfl rfl rfl ?_
      refine xt_getf rfl rfl (xmS 0 rfl (ymm hE0 2 rfl)) ?_
      refine xt_pure rfl rfl rfl rfl ?_
      refine yt_ald rfl rfl ⟨by decide, rfl⟩ (xmS 0 rfl (ymm hE0 7 rfl)) ⟨by first | omega | (simp only [List.length_append, List.length_set, List.length_map, List.length_replicate, List.length_cons, List.length_nil, Int32.reduceToInt]; omega), by first | omega | (simp only [List.length_append, List.length_set, List.length_map, List.length_replicate, List.length_cons, List.length_nil, Int32.reduceToInt]; omega)⟩ ?_
      intro x2 hx2
      obtain ⟨z, hz⟩ := ynth (l := d0.2.1) (x := y) (by omega)
      have hv := hA0.2.2 _ _ _ hx2 hz
      rcases z with _ | ob
      · skip
        obtain rfl : _ = Value.null := hv
        refine xt_aret rfl rfl rfl rfl rfl ?_
        exact Or.inl ⟨rfl, (by rw [answ_some (gI_R hg0) hF0 hP1 hz]; rintro ob h; cases h), rfl⟩
      · skip
        obtain ⟨oa, rfl, ia, ra, jk, rr, q1, q2, q3, q4, q5, q6, q7, q8⟩ := hv
        refine xt_aret rfl rfl rfl rfl rfl ?_
        exact Or.inr ⟨rfl, ob, oa, answ_some (gI_R hg0) hF0 hP1 hz, ⟨ia, ra, jk, rr, q1, q2, q3, q4, q5, q6, q7, q8⟩, rfl⟩
    · skip
      show yT _ _ _ _ _ _ (_ :: _) _ _ _ _
      refine xt_pure rfl rfl rfl rfl ?_
      refine xt_pure rfl rfl rfl rfl ?_
      refine xt_pure rfl rfl rfl rfl ?_
      refine xt_aret rfl rfl rfl rfl rfl ?_
      exact Or.inl ⟨rfl, (by rw [answ_none2 (gI_R hg0) hF0 hP1]; rintro ob h; cases h), rfl⟩
theorem cR_kindOf {X : List Int32} {D0 : List xE} {Fs : List yF} {R : List yDR} {Dr : List yD} {x y : Int32} (hok : ∀ (i : Nat) F, Fs[i]? = some F → F.1.length ≤ 20) (hR : R.map (fun r => r.2.2.2.2.2) = Dr) (hDs : yDsC Fs R D0) : yK X 1 21 116 [.ref 78, .int x, .int y] (D0) 0 0 (fun w D => w = some (.int (kindV Fs Dr x y)) ∧ D = D0) := by
  refine yK.of rfl (yle rfl) (L := [_, _, _, _, _]) rfl ?_
  refine xt_pure rfl rfl rfl rfl ?_
  refine xt_pure rfl rfl rfl rfl ?_
  refine xt_callV rfl rfl rfl rfl (xmC 115 rfl) ⟨rfl, rfl, yle rfl, yle rfl, yle rfl, yle rfl⟩ (ck_draftAt hDs.1) (c2 := 0) (s2 := 0) ⟨yle rfl, yle rfl⟩ ?_
  rintro _ _ (⟨rfl, hg0, rfl⟩ | ⟨rfl, ⟨da0, aa0, fa0, refs0, lt0, d0⟩, hg0, rfl⟩)
  · skip
    show yT _ _ _ _ _ _ (_ :: _) _ _ _ _
    refine xt_pure rfl rfl rfl (L1 := [_, _, _, _, _]) rfl ?_
    refine xt_pure rfl rfl rfl rfl ?_
    refine xt_pure rfl rfl rfl rfl ?_
    refine xt_pure rfl rfl rfl (st1 := .int (-1) :: _) rfl ?_
    refine xt_iret rfl rfl rfl rfl ?_
    subst hR
    refine ⟨?_, rfl⟩
    rw [kindV, answ_none1 (gI_R0 hg0)]
  · skip
    obtain ⟨hE0, F0, hF0, hC0, hA0, hH0⟩ := hDs.2 _ (List.mem_of_getElem? (gI_some hg0).2.2.1)
    have hA10 := hA0.1
    have hA20 := hA0.2.1
    dsimp only at hA10 hA20 hF0
    have hCC0 := hC0
    dsimp only at hCC0
    obtain ⟨p0, q0, hG0, hL0, hK0, hQ0, hS0, hT0⟩ := hCC0
    show yT _ _ _ _ _ _ (_ :: _) _ _ _ _
    refine xt_pure rfl rfl rfl (L1 := [_, _, _, _, _]) rfl ?_
    refine xt_pure rfl rfl rfl rfl ?_
    refine xt_pure rfl rfl rfl rfl ?_
    refine xt_pure rfl rfl rfl rfl ?_
    refine xt_getf rfl rfl (xmS 0 rfl (ymm hE0 1 rfl)) ?_
    refine xt_pure rfl rfl rfl rfl ?_
    refine xt_callV rfl rfl rfl rfl (xmS 0 rfl (ymm hG0 0 rfl)) ⟨rfl, rfl, yle rfl, yle rfl, yle rfl, yle rfl⟩ (ck_answered (hok _ _ hF0) hC0) (c2 := 0) (s2 := 0) ⟨yle rfl, yle rfl⟩ ?_
    rintro _ _ (⟨rfl, ⟨P1, hP1⟩, rfl⟩ | ⟨rfl, hP1, rfl⟩)
    · skip
      obtain ⟨b11, b21, b31, b41⟩ := askP_some hP1
      have b51 := (hok _ _ hF0)
      show yT _ _ _ _ _ _ (_ :: _) _ _ _ _
      refine xt_pure rfl rfl rfl rfl ?_
      refine xt_pure rfl rfl rfl rfl ?_
      refine xt_getf rfl rfl (xmS 0 rfl (ymm hE0 2 rfl)) ?_
      refine xt_pure rfl rfl rfl rfl ?_
      refine yt_ald rfl rfl ⟨by decide, rfl⟩ (xmS 0 rfl (ymm hE0 7 rfl)) ⟨by first | omega | (simp only [List.length_append, List.length_set, List.length_map, List.length_replicate, List.length_cons, List.length_nil, Int32.reduceToInt]; omega), by first | omega | (simp only [List.length_append, List.length_set, List.length_map, List.length_replicate, List.length_cons, List.length_nil, Int32.reduceToInt]; omega)⟩ ?_
      intro x2 hx2
      obtain ⟨z, hz⟩ := ynth (l := d0.2.1) (x := y) (by omega)
      have hv := hA0.2.2 _ _ _ hx2 hz
      rcases z with _ | ob
      · skip
        obtain rfl : _ = Value.null := hv
        refine xt_pure rfl rfl rfl (L1 := [_, _, _, _, _]) rfl ?_
        refine xt_pure rfl rfl rfl rfl ?_
        refine xt_pure rfl rfl rfl rfl ?_
        refine xt_pure rfl rfl rfl (st1 := .int (-9) :: _) rfl ?_
        refine xt_pure rfl rfl rfl rfl ?_
        refine xt_iret rfl rfl rfl rfl ?_
        subst hR
        refine ⟨?_, rfl⟩
        rw [kindV, answ_some (gI_R hg0) hF0 hP1 hz]
      · skip
        obtain ⟨oa, rfl, ia, ra, jk, rr, q1, q2, q3, q4, q5, q6, q7, q8⟩ := hv
        refine xt_pure rfl rfl rfl (L1 := [_, _, _, _, _]) rfl ?_
        refine xt_pure rfl rfl rfl rfl ?_
        refine xt_pure rfl rfl rfl rfl ?_
        refine xt_pure rfl rfl rfl rfl ?_
        refine xt_getf rfl rfl (xmS 0 rfl q1) ?_
        refine xt_iret rfl rfl rfl rfl ?_
        subst hR
        refine ⟨?_, rfl⟩
        rw [kindV, answ_some (gI_R hg0) hF0 hP1 hz]
    · skip
      show yT _ _ _ _ _ _ (_ :: _) _ _ _ _
      refine xt_pure rfl rfl rfl rfl ?_
      refine xt_pure rfl rfl rfl (st1 := .int (-1) :: _) rfl ?_
      refine xt_iret rfl rfl rfl rfl ?_
      subst hR
      refine ⟨?_, rfl⟩
      rw [kindV, answ_none2 (gI_R hg0) hF0 hP1]
theorem mR_kindOf {X : List Int32} {D0 : List xE} {Fs : List yF} {Dr : List yD} {x y : Int32} (hok : ∀ (i : Nat) F, Fs[i]? = some F → F.1.length ≤ 20) (hFs : yFsM Fs D0) (hDs : yDsM Fs Dr D0) : yK X 3 68 275 [.ref 209, .int x, .int y] (D0) 0 0 (fun w D => w = some (.int (kindV Fs Dr x y)) ∧ D = D0) := by
  have hFs0 := hFs
  have hDs0 := hDs
  obtain ⟨fa, f1, f2, f3, f4, f5⟩ := hFs
  obtain ⟨of, fi, rc, sg, mr, d1, d2, d3, d4, d5, d6, d7, d8, hD⟩ := hDs
  refine yK.of rfl (yle rfl) (L := [_, _, _, _]) rfl ?_
  refine xt_pure rfl rfl rfl rfl ?_
  refine xt_pure rfl rfl rfl rfl ?_
  refine xt_pure rfl rfl rfl rfl ?_
  refine xt_callV rfl rfl rfl rfl (xmC 176 rfl) ⟨rfl, rfl, yle rfl, yle rfl, yle rfl, yle rfl⟩ (mk_isAnswer hok hFs0 hDs0) (c2 := 0) (s2 := 0) ⟨yle rfl, yle rfl⟩ ?_
  rintro _ _ (⟨rfl, ⟨⟨d, F, P⟩, ht0⟩, rfl⟩ | ⟨rfl, ht0, rfl⟩)
  · skip
    obtain ⟨t1, t2, t3⟩ := ansP_inv ht0
    obtain ⟨b1, b2, b3, b4⟩ := askP_some t3
    obtain ⟨c1, c2, c3, -, -⟩ := gI_some t1
    obtain ⟨o1, -, o3, o4, o5, o6, o7⟩ := hD _ d c3
    have b5 := hok _ _ t2
    show yT _ _ _ _ _ _ (_ :: _) _ _ _ _
    refine xt_pure rfl rfl rfl rfl ?_
    refine xt_pure rfl rfl rfl rfl ?_
    refine xt_getf rfl rfl (xmC 188 rfl) ?_
    refine xt_pure rfl rfl rfl (st1 := .int 20 :: _) rfl ?_
    refine xt_pure rfl rfl rfl rfl ?_
    refine xt_pure rfl rfl rfl rfl ?_
    refine xt_pure rfl rfl rfl rfl ?_
    refine xt_pure rfl rfl rfl rfl ?_
    have hj : (20 * x + y).toInt = 20 * x.toInt + y.toInt := by
      have em : (20 * x).toInt = 20 * x.toInt := yi_mul (x := 20) (by simp only [Int32.reduceToInt]; omega) (by simp only [Int32.reduceToInt]; omega)
      rw [yi_plus (by rw [em]; omega) (by rw [em]; omega), em]
    refine yt_ald rfl rfl ⟨by decide, rfl⟩ (xmS 0 rfl d8) ⟨by rw [hj]; omega, by rw [hj]; omega⟩ ?_
    intro x1 hx1
    rw [hj, show (20 * x.toInt + y.toInt).toNat = 20 * x.toInt.toNat + y.toInt.toNat by omega] at hx1
    obtain ⟨z, hz⟩ := ynth (l := d.2.1) (x := y) (by omega)
    obtain ⟨v, v1, v2⟩ := o7 _ _ hz
    cases v1.symm.trans hx1
    rcases z with _ | ob
    · skip
      obtain rfl : _ = Value.null := v2
      refine xt_pure rfl rfl rfl (L1 := [_, _, _, _]) rfl ?_
      refine xt_pure rfl rfl rfl rfl ?_
      refine xt_pure rfl rfl rfl rfl ?_
      refine xt_pure rfl rfl rfl (st1 := .int (-9) :: _) rfl ?_
      refine xt_pure rfl rfl rfl rfl ?_
      refine xt_iret rfl rfl rfl rfl ?_
      refine ⟨?_, rfl⟩
      rw [kindV, answ_some t1 t2 t3 hz]
    · skip
      obtain ⟨oa, rfl, ia, ra, ca, jk, rs, cs, m1, m2, m3, m4, m5, m6, m7, m8, m9, m10, m11, m12, m13⟩ := v2
      refine xt_pure rfl rfl rfl (L1 := [_, _, _, _]) rfl ?_
      refine xt_pure rfl rfl rfl rfl ?_
      refine xt_pure rfl rfl rfl rfl ?_
      refine xt_pure rfl rfl rfl rfl ?_
      refine xt_getf rfl rfl (xmS 0 rfl m1) ?_
      refine xt_iret rfl rfl rfl rfl ?_
      refine ⟨?_, rfl⟩
      rw [kindV, answ_some t1 t2 t3 hz]
  · skip
    show yT _ _ _ _ _ _ (_ :: _) _ _ _ _
    refine xt_pure rfl rfl rfl rfl ?_
    refine xt_pure rfl rfl rfl (st1 := .int (-1) :: _) rfl ?_
    refine xt_iret rfl rfl rfl rfl ?_
    refine ⟨?_, rfl⟩
    rw [kindV, answ_none3 ht0]
theorem cR_receipt {X : List Int32} {D0 : List xE} {Fs : List yF} {R : List yDR} {Dr : List yD} {x : Int32} (hok : ∀ (i : Nat) F, Fs[i]? = some F → F.1.length ≤ 20) (hR : R.map (fun r => r.2.2.2.2.2) = Dr) (hDs : yDsC Fs R D0) : yK X 1 21 169 [.ref 78, .int x] (D0) 0 0 (fun w D => w = some (.int (rcV Dr x)) ∧ D = D0) := by
  refine yK.of rfl (yle rfl) (L := [_, _, _]) rfl ?_
  refine xt_pure rfl rfl rfl rfl ?_
  refine xt_pure rfl rfl rfl rfl ?_
  refine xt_callV rfl rfl rfl rfl (xmC 115 rfl) ⟨rfl, rfl, yle rfl, yle rfl, yle rfl, yle rfl⟩ (ck_draftAt hDs.1) (c2 := 0) (s2 := 0) ⟨yle rfl, yle rfl⟩ ?_
  rintro _ _ (⟨rfl, hg0, rfl⟩ | ⟨rfl, ⟨da0, aa0, fa0, refs0, lt0, d0⟩, hg0, rfl⟩)
  · skip
    show yT _ _ _ _ _ _ (_ :: _) _ _ _ _
    refine xt_pure rfl rfl rfl (L1 := [_, _, _]) rfl ?_
    refine xt_pure rfl rfl rfl rfl ?_
    refine xt_pure rfl rfl rfl rfl ?_
    refine xt_pure rfl rfl rfl (st1 := .int (-1) :: _) rfl ?_
    refine xt_pure rfl rfl rfl rfl ?_
    refine xt_iret rfl rfl rfl rfl ?_
    subst hR
    refine ⟨?_, rfl⟩
    rw [rcV, gI_R0 hg0]
  · skip
    obtain ⟨hE0, F0, hF0, hC0, hA0, hH0⟩ := hDs.2 _ (List.mem_of_getElem? (gI_some hg0).2.2.1)
    have hA10 := hA0.1
    have hA20 := hA0.2.1
    dsimp only at hA10 hA20 hF0
    have hCC0 := hC0
    dsimp only at hCC0
    obtain ⟨p0, q0, hG0, hL0, hK0, hQ0, hS0, hT0⟩ := hCC0
    show yT _ _ _ _ _ _ (_ :: _) _ _ _ _
    refine xt_pure rfl rfl rfl (L1 := [_, _, _]) rfl ?_
    refine xt_pure rfl rfl rfl rfl ?_
    refine xt_pure rfl rfl rfl rfl ?_
    refine xt_pure rfl rfl rfl rfl ?_
    refine xt_getf rfl rfl (xmS 0 rfl (ymm hE0 5 rfl)) ?_
    refine xt_iret rfl rfl rfl rfl ?_
    subst hR
    refine ⟨?_, rfl⟩
    rw [rcV, gI_R hg0]
theorem mR_receipt {X : List Int32} {D0 : List xE} {Fs : List yF} {Dr : List yD} {x : Int32} (hok : ∀ (i : Nat) F, Fs[i]? = some F → F.1.length ≤ 20) (hFs : yFsM Fs D0) (hDs : yDsM Fs Dr D0) : yK X 2 46 325 [.ref 209, .int x] (D0) 0 0 (fun w D => w = some (.int (rcV Dr x)) ∧ D = D0) := by
  have hFs0 := hFs
  have hDs0 := hDs
  obtain ⟨fa, f1, f2, f3, f4, f5⟩ := hFs
  obtain ⟨of, fi, rc, sg, mr, d1, d2, d3, d4, d5, d6, d7, d8, hD⟩ := hDs
  refine yK.of rfl (yle rfl) (L := [_, _]) rfl ?_
  refine xt_pure rfl rfl rfl rfl ?_
  refine xt_pure rfl rfl rfl rfl ?_
  refine xt_callV rfl rfl rfl rfl (xmC 176 rfl) ⟨rfl, rfl, yle rfl, yle rfl, yle rfl, yle rfl⟩ (mk_isDraft (by omega) d3) (c2 := 0) (s2 := 0) ⟨yle rfl, yle rfl⟩ ?_
  rintro _ _ (⟨rfl, hp0, rfl⟩ | ⟨rfl, hp0, rfl⟩)
  · skip
    obtain ⟨d, hd⟩ := ynth (l := Dr) (x := x) (by omega)
    obtain ⟨o1, -, o3, o4, o5, o6, o7⟩ := hD _ d hd
    show yT _ _ _ _ _ _ (_ :: _) _ _ _ _
    refine xt_pure rfl rfl rfl rfl ?_
    refine xt_pure rfl rfl rfl rfl ?_
    refine xt_getf rfl rfl (xmC 190 rfl) ?_
    refine xt_pure rfl rfl rfl rfl ?_
    refine yt_ild rfl rfl (xmS 0 rfl d6) ⟨by first | omega | (simp only [List.length_append, List.length_set, List.length_map, List.length_replicate, List.length_cons, List.length_nil, Int32.reduceToInt]; omega), by first | omega | (simp only [List.length_append, List.length_set, List.length_map, List.length_replicate, List.length_cons, List.length_nil, Int32.reduceToInt]; omega)⟩ ?_
    intro x1 hx1
    refine xt_pure rfl rfl rfl rfl ?_
    refine xt_iret rfl rfl rfl rfl ?_
    refine ⟨?_, rfl⟩
    cases o4.symm.trans hx1
    rw [rcV, gI_in (by omega) hd]
  · skip
    show yT _ _ _ _ _ _ (_ :: _) _ _ _ _
    refine xt_pure rfl rfl rfl rfl ?_
    refine xt_pure rfl rfl rfl (st1 := .int (-1) :: _) rfl ?_
    refine xt_iret rfl rfl rfl rfl ?_
    refine ⟨?_, rfl⟩
    rw [rcV, gI_out (by omega)]
theorem cR_earlier {X : List Int32} {D0 : List xE} {Fs : List yF} {R : List yDR} {Dr : List yD} {x y : Int32} (hok : ∀ (i : Nat) F, Fs[i]? = some F → F.1.length ≤ 20) (hR : R.map (fun r => r.2.2.2.2.2) = Dr) (hDs : yDsC Fs R D0) : yK X 1 21 170 [.ref 78, .int x, .int y] (D0) 0 0 (fun w D => w = some (.int (earV Dr x y)) ∧ D = D0) := by
  refine yK.of rfl (yle rfl) (L := [_, _, _, _, _]) rfl ?_
  refine xt_pure rfl rfl rfl rfl ?_
  refine xt_pure rfl rfl rfl rfl ?_
  refine xt_callV rfl rfl rfl rfl (xmC 115 rfl) ⟨rfl, rfl, yle rfl, yle rfl, yle rfl, yle rfl⟩ (ck_draftAt hDs.1) (c2 := 0) (s2 := 0) ⟨yle rfl, yle rfl⟩ ?_
  rintro _ _ (⟨rfl, hg0, rfl⟩ | ⟨rfl, ⟨da0, aa0, fa0, refs0, lt0, d0⟩, hg0, rfl⟩)
  · skip
    show yT _ _ _ _ _ _ (_ :: _) _ _ _ _
    refine xt_pure rfl rfl rfl (L1 := [_, _, _, _, _]) rfl ?_
    refine xt_pure rfl rfl rfl rfl ?_
    refine xt_pure rfl rfl rfl rfl ?_
    refine xt_callV rfl rfl rfl rfl (xmC 115 rfl) ⟨rfl, rfl, yle rfl, yle rfl, yle rfl, yle rfl⟩ (ck_draftAt hDs.1) (c2 := 0) (s2 := 0) ⟨yle rfl, yle rfl⟩ ?_
    rintro _ _ (⟨rfl, hg1, rfl⟩ | ⟨rfl, ⟨da1, aa1, fa1, refs1, lt1, d1⟩, hg1, rfl⟩)
    · skip
      show yT _ _ _ _ _ _ (_ :: _) _ _ _ _
      refine xt_pure rfl rfl rfl (L1 := [_, _, _, _, _]) rfl ?_
      refine xt_pure rfl rfl rfl rfl ?_
      refine xt_pure rfl rfl rfl rfl ?_
      refine xt_pure rfl rfl rfl (st1 := .int (-1) :: _) rfl ?_
      refine xt_iret rfl rfl rfl rfl ?_
      subst hR
      refine ⟨?_, rfl⟩
      rw [earV, gI_R0 hg0, gI_R0 hg1]
    · skip
      obtain ⟨hE1, F1, hF1, hC1, hA1, hH1⟩ := hDs.2 _ (List.mem_of_getElem? (gI_some hg1).2.2.1)
      have hA11 := hA1.1
      have hA21 := hA1.2.1
      dsimp only at hA11 hA21 hF1
      have hCC1 := hC1
      dsimp only at hCC1
      obtain ⟨p1, q1, hG1, hL1, hK1, hQ1, hS1, hT1⟩ := hCC1
      show yT _ _ _ _ _ _ (_ :: _) _ _ _ _
      refine xt_pure rfl rfl rfl (L1 := [_, _, _, _, _]) rfl ?_
      refine xt_pure rfl rfl rfl rfl ?_
      refine xt_pure rfl rfl rfl rfl ?_
      refine xt_pure rfl rfl rfl (st1 := .int (-1) :: _) rfl ?_
      refine xt_iret rfl rfl rfl rfl ?_
      subst hR
      refine ⟨?_, rfl⟩
      rw [earV, gI_R0 hg0, gI_R hg1]
  · skip
    obtain ⟨hE0, F0, hF0, hC0, hA0, hH0⟩ := hDs.2 _ (List.mem_of_getElem? (gI_some hg0).2.2.1)
    have hA10 := hA0.1
    have hA20 := hA0.2.1
    dsimp only at hA10 hA20 hF0
    have hCC0 := hC0
    dsimp only at hCC0
    obtain ⟨p0, q0, hG0, hL0, hK0, hQ0, hS0, hT0⟩ := hCC0
    show yT _ _ _ _ _ _ (_ :: _) _ _ _ _
    refine xt_pure rfl rfl rfl (L1 := [_, _, _, _, _]) rfl ?_
    refine xt_pure rfl rfl rfl rfl ?_
    refine xt_pure rfl rfl rfl rfl ?_
    refine xt_callV rfl rfl rfl rfl (xmC 115 rfl) ⟨rfl, rfl, yle rfl, yle rfl, yle rfl, yle rfl⟩ (ck_draftAt hDs.1) (c2 := 0) (s2 := 0) ⟨yle rfl, yle rfl⟩ ?_
    rintro _ _ (⟨rfl, hg2, rfl⟩ | ⟨rfl, ⟨da2, aa2, fa2, refs2, lt2, d2⟩, hg2, rfl⟩)
    · skip
      show yT _ _ _ _ _ _ (_ :: _) _ _ _ _
      refine xt_pure rfl rfl rfl (L1 := [_, _, _, _, _]) rfl ?_
      refine xt_pure rfl rfl rfl rfl ?_
      refine xt_pure rfl rfl rfl rfl ?_
      refine xt_pure rfl rfl rfl rfl ?_
      refine xt_pure rfl rfl rfl rfl ?_
      refine xt_pure rfl rfl rfl (st1 := .int (-1) :: _) rfl ?_
      refine xt_iret rfl rfl rfl rfl ?_
      subst hR
      refine ⟨?_, rfl⟩
      rw [earV, gI_R hg0, gI_R0 hg2]
    · skip
      obtain ⟨hE2, F2, hF2, hC2, hA2, hH2⟩ := hDs.2 _ (List.mem_of_getElem? (gI_some hg2).2.2.1)
      have hA12 := hA2.1
      have hA22 := hA2.2.1
      dsimp only at hA12 hA22 hF2
      have hCC2 := hC2
      dsimp only at hCC2
      obtain ⟨p2, q2, hG2, hL2, hK2, hQ2, hS2, hT2⟩ := hCC2
      show yT _ _ _ _ _ _ (_ :: _) _ _ _ _
      refine xt_pure rfl rfl rfl (L1 := [_, _, _, _, _]) rfl ?_
      refine xt_pure rfl rfl rfl rfl ?_
      refine xt_pure rfl rfl rfl rfl ?_
      refine xt_pure rfl rfl rfl rfl ?_
      refine xt_pure rfl rfl rfl rfl ?_
      refine xt_pure rfl rfl rfl rfl ?_
      refine xt_getf rfl rfl (xmS 0 rfl (ymm hE0 5 rfl)) ?_
      refine xt_pure rfl rfl rfl (st1 := .int (-9) :: _) rfl ?_
      refine yt_ic rfl rfl ?_ ?_
      · intro (hb17_3 : (_ : Int32) = (-9))
        have hb17_3z : Int32.toInt _ = ((-9) : Int) := congrArg Int32.toInt hb17_3
        refine xt_pure rfl rfl rfl (st1 := .int (-2) :: _) rfl ?_
        refine xt_iret rfl rfl rfl rfl ?_
        subst hR
        refine ⟨?_, rfl⟩
        rw [earV, gI_R hg0, gI_R hg2]
        dsimp only
        try simp only [xi32_eq, xi64_eq, Int32.toInt_toInt64, Int32.reduceToInt, Int64.reduceToInt, y_m9, y_m1, y_m100, y64_m9, y64_m1, Ne, y_n1x] at hb17_3
        simp only [xi32_eq, y_m9]
        repeat' split
        all_goals first | rfl | (exfalso; omega)
      · intro (hb17_3 : (_ : Int32) ≠ (-9))
        have hb17_3z : ¬ Int32.toInt _ = ((-9) : Int) := fun h => hb17_3 (Int32.toInt_inj.mp h)
        refine xt_pure rfl rfl rfl rfl ?_
        refine xt_getf rfl rfl (xmS 0 rfl (ymm hE2 5 rfl)) ?_
        refine xt_pure rfl rfl rfl (st1 := .int (-9) :: _) rfl ?_
        refine yt_ic rfl rfl ?_ ?_
        · intro (hb21_4 : (_ : Int32) ≠ (-9))
          have hb21_4z : ¬ Int32.toInt _ = ((-9) : Int) := fun h => hb21_4 (Int32.toInt_inj.mp h)
          refine xt_pure rfl rfl rfl rfl ?_
          refine xt_getf rfl rfl (xmS 0 rfl (ymm hE0 5 rfl)) ?_
          refine xt_pure rfl rfl rfl rfl ?_
          refine xt_getf rfl rfl (xmS 0 rfl (ymm hE2 5 rfl)) ?_
          refine yt_ic rfl rfl ?_ ?_
          · intro (hb28_5 : Int32.toInt _ < Int32.toInt _)
            refine xt_pure rfl rfl rfl (st1 := .int 1 :: _) rfl ?_
            refine xt_iret rfl rfl rfl rfl ?_
            subst hR
            refine ⟨?_, rfl⟩
            rw [earV, gI_R hg0, gI_R hg2]
            dsimp only
            try simp only [xi32_eq, xi64_eq, Int32.toInt_toInt64, Int32.reduceToInt, Int64.reduceToInt, y_m9, y_m1, y_m100, y64_m9, y64_m1, Ne, y_n1x] at hb17_3 hb21_4 hb28_5
            simp only [xi32_eq, y_m9]
            repeat' split
            all_goals first | rfl | (exfalso; omega)
          · intro (hb28_5 : Int32.toInt _ ≤ Int32.toInt _)
            refine xt_pure rfl rfl rfl (st1 := .int 0 :: _) rfl ?_
            refine xt_pure rfl rfl rfl rfl ?_
            refine xt_iret rfl rfl rfl rfl ?_
            subst hR
            refine ⟨?_, rfl⟩
            rw [earV, gI_R hg0, gI_R hg2]
            dsimp only
            try simp only [xi32_eq, xi64_eq, Int32.toInt_toInt64, Int32.reduceToInt, Int64.reduceToInt, y_m9, y_m1, y_m100, y64_m9, y64_m1, Ne, y_n1x] at hb17_3 hb21_4 hb28_5
            simp only [xi32_eq, y_m9]
            repeat' split
            all_goals first | rfl | (exfalso; omega)
        · intro (hb21_4 : (_ : Int32) = (-9))
          have hb21_4z : Int32.toInt _ = ((-9) : Int) := congrArg Int32.toInt hb21_4
          refine xt_pure rfl rfl rfl (st1 := .int (-2) :: _) rfl ?_
          refine xt_iret rfl rfl rfl rfl ?_
          subst hR
          refine ⟨?_, rfl⟩
          rw [earV, gI_R hg0, gI_R hg2]
          dsimp only
          try simp only [xi32_eq, xi64_eq, Int32.toInt_toInt64, Int32.reduceToInt, Int64.reduceToInt, y_m9, y_m1, y_m100, y64_m9, y64_m1, Ne, y_n1x] at hb17_3 hb21_4
          simp only [xi32_eq, y_m9]
          repeat' split
          all_goals first | rfl | (exfalso; omega)
theorem mR_earlier {X : List Int32} {D0 : List xE} {Fs : List yF} {Dr : List yD} {x y : Int32} (hok : ∀ (i : Nat) F, Fs[i]? = some F → F.1.length ≤ 20) (hFs : yFsM Fs D0) (hDs : yDsM Fs Dr D0) : yK X 2 46 326 [.ref 209, .int x, .int y] (D0) 0 0 (fun w D => w = some (.int (earV Dr x y)) ∧ D = D0) := by
  have hFs0 := hFs
  have hDs0 := hDs
  obtain ⟨fa, f1, f2, f3, f4, f5⟩ := hFs
  obtain ⟨of, fi, rc, sg, mr, d1, d2, d3, d4, d5, d6, d7, d8, hD⟩ := hDs
  refine yK.of rfl (yle rfl) (L := [_, _, _]) rfl ?_
  refine xt_pure rfl rfl rfl rfl ?_
  refine xt_pure rfl rfl rfl rfl ?_
  refine xt_callV rfl rfl rfl rfl (xmC 176 rfl) ⟨rfl, rfl, yle rfl, yle rfl, yle rfl, yle rfl⟩ (mk_isDraft (by omega) d3) (c2 := 0) (s2 := 0) ⟨yle rfl, yle rfl⟩ ?_
  rintro _ _ (⟨rfl, hp0, rfl⟩ | ⟨rfl, hp0, rfl⟩)
  · skip
    obtain ⟨da, hda⟩ := ynth (l := Dr) (x := x) (by omega)
    obtain ⟨o1a, -, o3a, o4a, o5a, o6a, o7a⟩ := hD _ da hda
    show yT _ _ _ _ _ _ (_ :: _) _ _ _ _
    refine xt_pure rfl rfl rfl rfl ?_
    refine xt_pure rfl rfl rfl rfl ?_
    refine xt_pure rfl rfl rfl rfl ?_
    refine xt_callV rfl rfl rfl rfl (xmC 176 rfl) ⟨rfl, rfl, yle rfl, yle rfl, yle rfl, yle rfl⟩ (mk_isDraft (by omega) d3) (c2 := 0) (s2 := 0) ⟨yle rfl, yle rfl⟩ ?_
    rintro _ _ (⟨rfl, hp1, rfl⟩ | ⟨rfl, hp1, rfl⟩)
    · skip
      obtain ⟨db, hdb⟩ := ynth (l := Dr) (x := y) (by omega)
      obtain ⟨o1b, -, o3b, o4b, o5b, o6b, o7b⟩ := hD _ db hdb
      show yT _ _ _ _ _ _ (_ :: _) _ _ _ _
      refine xt_pure rfl rfl rfl rfl ?_
      refine xt_pure rfl rfl rfl rfl ?_
      refine xt_getf rfl rfl (xmC 189 rfl) ?_
      refine xt_pure rfl rfl rfl rfl ?_
      refine yt_bld rfl rfl (by decide) (xmS 0 rfl d5) ⟨by first | omega | (simp only [List.length_append, List.length_set, List.length_map, List.length_replicate, List.length_cons, List.length_nil, Int32.reduceToInt]; omega), by first | omega | (simp only [List.length_append, List.length_set, List.length_map, List.length_replicate, List.length_cons, List.length_nil, Int32.reduceToInt]; omega)⟩ ?_
      intro x2 hx2
      refine yt_if rfl rfl ?_ ?_
      · intro (hb14_3 : (_ : Int32) = 0)
        have hb14_3z : Int32.toInt _ = (0 : Int) := congrArg Int32.toInt hb14_3
        refine xt_pure rfl rfl rfl (st1 := .int (-2) :: _) rfl ?_
        refine xt_iret rfl rfl rfl rfl ?_
        refine ⟨?_, rfl⟩
        cases o3a.symm.trans hx2
        rw [earV, gI_in (by omega) hda, gI_in (by omega) hdb]
        dsimp only
        rw [if_pos]
        left
        by_cases h9 : da.2.2.2.1 = -9
        · exact h9
        · rw [if_neg h9] at hb14_3; exact absurd hb14_3 (by decide)
      · intro (hb14_3 : (_ : Int32) ≠ 0)
        have hb14_3z : ¬ Int32.toInt _ = (0 : Int) := fun h => hb14_3 (Int32.toInt_inj.mp h)
        refine xt_pure rfl rfl rfl rfl ?_
        refine xt_getf rfl rfl (xmC 189 rfl) ?_
        refine xt_pure rfl rfl rfl rfl ?_
        refine yt_bld rfl rfl (by decide) (xmS 0 rfl d5) ⟨by first | omega | (simp only [List.length_append, List.length_set, List.length_map, List.length_replicate, List.length_cons, List.length_nil, Int32.reduceToInt]; omega), by first | omega | (simp only [List.length_append, List.length_set, List.length_map, List.length_replicate, List.length_cons, List.length_nil, Int32.reduceToInt]; omega)⟩ ?_
        intro x4 hx4
        refine yt_if rfl rfl ?_ ?_
        · intro (hb19_5 : (_ : Int32) ≠ 0)
          have hb19_5z : ¬ Int32.toInt _ = (0 : Int) := fun h => hb19_5 (Int32.toInt_inj.mp h)
          refine xt_pure rfl rfl rfl rfl ?_
          refine xt_getf rfl rfl (xmC 190 rfl) ?_
          refine xt_pure rfl rfl rfl rfl ?_
          refine yt_ild rfl rfl (xmS 0 rfl d6) ⟨by first | omega | (simp only [List.length_append, List.length_set, List.length_map, List.length_replicate, List.length_cons, List.length_nil, Int32.reduceToInt]; omega), by first | omega | (simp only [List.length_append, List.length_set, List.length_map, List.length_replicate, List.length_cons, List.length_nil, Int32.reduceToInt]; omega)⟩ ?_
          intro x6 hx6
          refine xt_pure rfl rfl rfl rfl ?_
          refine xt_getf rfl rfl (xmC 190 rfl) ?_
          refine xt_pure rfl rfl rfl rfl ?_
          refine yt_ild rfl rfl (xmS 0 rfl d6) ⟨by first | omega | (simp only [List.length_append, List.length_set, List.length_map, List.length_replicate, List.length_cons, List.length_nil, Int32.reduceToInt]; omega), by first | omega | (simp only [List.length_append, List.length_set, List.length_map, List.length_replicate, List.length_cons, List.length_nil, Int32.reduceToInt]; omega)⟩ ?_
          intro x7 hx7
          refine yt_ic rfl rfl ?_ ?_
          · intro (hb30_8 : Int32.toInt _ ≤ Int32.toInt _)
            refine xt_pure rfl rfl rfl (st1 := .int 0 :: _) rfl ?_
            refine xt_iret rfl rfl rfl rfl ?_
            refine ⟨?_, rfl⟩
            cases o3a.symm.trans hx2
            cases o3b.symm.trans hx4
            cases o4b.symm.trans hx6
            cases o4a.symm.trans hx7
            rw [earV, gI_in (by omega) hda, gI_in (by omega) hdb]
            dsimp only
            rw [if_neg]
            · first | rw [if_neg (by omega)] | rw [if_pos (by omega)]
            · rintro (h9 | h9)
              · rw [if_pos h9] at hb14_3; exact absurd rfl hb14_3
              · rw [if_pos h9] at hb19_5; exact absurd rfl hb19_5
          · intro (hb30_8 : Int32.toInt _ < Int32.toInt _)
            refine xt_pure rfl rfl rfl (st1 := .int 1 :: _) rfl ?_
            refine xt_pure rfl rfl rfl rfl ?_
            refine xt_iret rfl rfl rfl rfl ?_
            refine ⟨?_, rfl⟩
            cases o3a.symm.trans hx2
            cases o3b.symm.trans hx4
            cases o4b.symm.trans hx6
            cases o4a.symm.trans hx7
            rw [earV, gI_in (by omega) hda, gI_in (by omega) hdb]
            dsimp only
            rw [if_neg]
            · first | rw [if_neg (by omega)] | rw [if_pos (by omega)]
            · rintro (h9 | h9)
              · rw [if_pos h9] at hb14_3; exact absurd rfl hb14_3
              · rw [if_pos h9] at hb19_5; exact absurd rfl hb19_5
        · intro (hb19_5 : (_ : Int32) = 0)
          have hb19_5z : Int32.toInt _ = (0 : Int) := congrArg Int32.toInt hb19_5
          refine xt_pure rfl rfl rfl (st1 := .int (-2) :: _) rfl ?_
          refine xt_iret rfl rfl rfl rfl ?_
          refine ⟨?_, rfl⟩
          cases o3a.symm.trans hx2
          cases o3b.symm.trans hx4
          rw [earV, gI_in (by omega) hda, gI_in (by omega) hdb]
          dsimp only
          rw [if_pos]
          right
          by_cases h9 : db.2.2.2.1 = -9
          · exact h9
          · rw [if_neg h9] at hb19_5; exact absurd hb19_5 (by decide)
    · skip
      show yT _ _ _ _ _ _ (_ :: _) _ _ _ _
      refine xt_pure rfl rfl rfl rfl ?_
      refine xt_pure rfl rfl rfl (st1 := .int (-1) :: _) rfl ?_
      refine xt_iret rfl rfl rfl rfl ?_
      refine ⟨?_, rfl⟩
      rw [earV, gI_in (by omega) hda, gI_out (show y.toInt < 0 ∨ (Dr.length : Int) ≤ y.toInt by omega)]
  · skip
    show yT _ _ _ _ _ _ (_ :: _) _ _ _ _
    refine xt_pure rfl rfl rfl rfl ?_
    refine xt_pure rfl rfl rfl (st1 := .int (-1) :: _) rfl ?_
    refine xt_iret rfl rfl rfl rfl ?_
    refine ⟨?_, rfl⟩
    rw [earV, gI_out (show x.toInt < 0 ∨ (Dr.length : Int) ≤ x.toInt by omega)]
theorem cR_item {X : List Int32} {D0 : List xE} {Fs : List yF} {R : List yDR} {Dr : List yD} {En : List (Int64 × Int32)} {x y i : Int32} (hok : ∀ (i : Nat) F, Fs[i]? = some F → F.1.length ≤ 20) (hR : R.map (fun r => r.2.2.2.2.2) = Dr) (hDs : yDsC Fs R D0) (hans : ∀ x y ob, answ Fs Dr x y = some (some ob) → yOk En ob) : yK X 2 44 117 [.ref 78, .int x, .int y, .int i] (D0) 0 0 (fun w D => w = some (.long (itemV Fs Dr x y i)) ∧ D = D0) := by
  subst hR
  refine yK.of rfl (yle rfl) (L := [_, _, _, _, _]) rfl ?_
  refine xt_pure rfl rfl rfl rfl ?_
  refine xt_pure rfl rfl rfl rfl ?_
  refine xt_pure rfl rfl rfl rfl ?_
  refine xt_callV rfl rfl rfl rfl (xmC 115 rfl) ⟨rfl, rfl, yle rfl, yle rfl, yle rfl, yle rfl⟩ (ck_answerOf hok hDs) (c2 := 0) (s2 := 0) ⟨yle rfl, yle rfl⟩ ?_
  rintro _ _ (⟨rfl, hw0, rfl⟩ | ⟨rfl, ob, oa, hw0, ⟨ia, ra, jk, rr, q1, q2, q3, q4, q5, q6, q7, q8⟩, rfl⟩)
  · skip
    show yT _ _ _ _ _ _ (_ :: _) _ _ _ _
    refine xt_pure rfl rfl rfl (L1 := [_, _, _, _, _]) rfl ?_
    refine xt_pure rfl rfl rfl rfl ?_
    refine xt_pure rfl rfl rfl rfl ?_
    refine xt_pure rfl rfl rfl (st1 := .long (-100) :: _) rfl ?_
    refine xt_lret rfl rfl rfl ?_
    refine ⟨?_, rfl⟩
    rw [itemV]
    split
    · exact absurd (by assumption) (hw0 _)
    · rfl
  · skip
    have hob := hans _ _ _ hw0
    obtain ⟨k1, k2, k3, -⟩ := hob
    have es := yi_nat (i := ob.1) (by omega)
    have ez := yi_nat (i := osz ob) (by have := osz_le k1 k2 k3; omega)
    have ez2 := osz_le k1 k2 k3
    show yT _ _ _ _ _ _ (_ :: _) _ _ _ _
    refine xt_pure rfl rfl rfl (L1 := [_, _, _, _, _]) rfl ?_
    refine xt_pure rfl rfl rfl rfl ?_
    refine xt_pure rfl rfl rfl rfl ?_
    refine xt_pure rfl rfl rfl rfl ?_
    refine xt_pure rfl rfl rfl (st1 := .int (-1) :: _) rfl ?_
    refine yt_ic rfl rfl ?_ ?_
    · intro (hb11_1 : (_ : Int32) ≠ (-1))
      have hb11_1z : ¬ Int32.toInt _ = ((-1) : Int) := fun h => hb11_1 (Int32.toInt_inj.mp h)
      refine xt_pure rfl rfl rfl rfl ?_
      refine xt_pure rfl rfl rfl rfl ?_
      refine yt_inV (c1 := 0) (s1 := 0) (c2 := 0) (s2 := 0) (fr1 := 0) (lo1 := 0) rfl rfl rfl rfl (xmS 0 rfl q1) ⟨rfl, rfl, yle rfl, yle rfl, yle rfl, yle rfl⟩ (yle rfl) (L1 := [_, _]) rfl ⟨yle rfl, yle rfl⟩ ?_
      refine xt_pure rfl rfl rfl rfl ?_
      refine yt_if rfl rfl ?_ ?_
      · intro (hb1_2 : Int32.toInt _ < (0 : Int))
        refine xt_pure rfl rfl rfl (st1 := .int 0 :: _) rfl ?_
        refine xt_iret rfl rfl rfl rfl ?_
        show yT _ _ _ _ _ _ (_ :: _) _ _ _ _
        refine xt_pure rfl rfl rfl rfl ?_
        refine xt_pure rfl rfl rfl (st1 := .long (-100) :: _) rfl ?_
        refine xt_lret rfl rfl rfl ?_
        refine ⟨?_, rfl⟩
        rw [itemV]
        rw [hw0]
        dsimp only
        unfold itmV
        rw [if_neg (by omega), if_pos (by omega)]
      · intro (hb1_2 : (0 : Int) ≤ Int32.toInt _)
        refine xt_pure rfl rfl rfl rfl ?_
        refine xt_pure rfl rfl rfl rfl ?_
        refine xt_getf rfl rfl (xmS 0 rfl q2) ?_
        refine yt_ic rfl rfl ?_ ?_
        · intro (hb5_3 : Int32.toInt _ ≤ Int32.toInt _)
          refine xt_pure rfl rfl rfl (st1 := .int 0 :: _) rfl ?_
          refine xt_iret rfl rfl rfl rfl ?_
          show yT _ _ _ _ _ _ (_ :: _) _ _ _ _
          refine xt_pure rfl rfl rfl rfl ?_
          refine xt_pure rfl rfl rfl (st1 := .long (-100) :: _) rfl ?_
          refine xt_lret rfl rfl rfl ?_
          refine ⟨?_, rfl⟩
          rw [itemV]
          rw [hw0]
          dsimp only
          unfold itmV
          rw [if_neg (by omega), if_pos (by omega)]
        · intro (hb5_3 : Int32.toInt _ < Int32.toInt _)
          refine xt_pure rfl rfl rfl (st1 := .int 1 :: _) rfl ?_
          refine xt_pure rfl rfl rfl rfl ?_
          refine xt_iret rfl rfl rfl rfl ?_
          show yT _ _ _ _ _ _ (_ :: _) _ _ _ _
          refine xt_pure rfl rfl rfl rfl ?_
          refine xt_pure rfl rfl rfl rfl ?_
          refine xt_getf rfl rfl (xmS 0 rfl q1) ?_
          refine xt_pure rfl rfl rfl (st1 := .int 4 :: _) rfl ?_
          refine yt_ic rfl rfl ?_ ?_
          · intro (hk : (_ : Int32) = 4)
            have hkz : Int32.toInt _ = (4 : Int) := congrArg Int32.toInt hk
            refine xt_pure rfl rfl rfl rfl ?_
            refine xt_getf rfl rfl (xmS 0 rfl q4) ?_
            refine xt_pure rfl rfl rfl rfl ?_
            refine yt_ald rfl rfl ⟨by decide, rfl⟩ (xmS 0 rfl q6) ⟨by omega, by have h1 := osz4 (o := ob) (by omega); have h2 := q7 (by omega); omega⟩ ?_
            intro x5 hx5
            have h4 : ob.1 = 4 := by omega
            have hz4 := osz4 h4
            obtain ⟨rw, hrw⟩ := ynth (l := ob.2.2) (x := i) (by omega)
            have hv := q8 _ _ _ hx5 hrw
            rcases rw with _ | l
            · skip
              obtain rfl : _ = Value.null := hv
              refine xt_pure rfl rfl rfl rfl ?_
              refine xt_pure rfl rfl rfl (st1 := .long (-9) :: _) rfl ?_
              refine xt_pure rfl rfl rfl rfl ?_
              refine xt_lret rfl rfl rfl ?_
              refine ⟨?_, rfl⟩
              rw [itemV]
              rw [hw0]
              dsimp only
              unfold itmV
              rw [if_neg (by omega), if_neg (by omega), if_pos h4, gI_in (by omega) hrw]
              rfl
            · skip
              obtain ⟨k, rfl, hk2⟩ := hv
              refine xt_pure rfl rfl rfl rfl ?_
              refine xt_pure rfl rfl rfl rfl ?_
              refine xt_getf rfl rfl (xmS 0 rfl q4) ?_
              refine xt_pure rfl rfl rfl rfl ?_
              refine xt_aald rfl rfl ⟨by decide, rfl⟩ (xmS 0 rfl q6) (yjn (by omega)).1 (v := .ref k) (by rw [(yjn (by omega)).2]; assumption) ?_
              refine xt_alen rfl rfl (xmS 0 rfl hk2) rfl ?_
              refine xt_pure rfl rfl rfl rfl ?_
              refine xt_lret rfl rfl rfl ?_
              refine ⟨?_, rfl⟩
              rw [itemV]
              rw [hw0]
              dsimp only
              unfold itmV
              rw [if_neg (by omega), if_neg (by omega), if_pos h4, gI_in (by omega) hrw]
              simp [rowV]
          · intro (hk : (_ : Int32) ≠ 4)
            have hkz : ¬ Int32.toInt _ = (4 : Int) := fun h => hk (Int32.toInt_inj.mp h)
            refine xt_pure rfl rfl rfl rfl ?_
            refine xt_getf rfl rfl (xmS 0 rfl q3) ?_
            refine xt_pure rfl rfl rfl rfl ?_
            refine yt_lld rfl rfl (xmS 0 rfl q5) ⟨by omega, by rw [List.length_append, cit_len]; have := osz_n4 (o := ob) (by omega); omega⟩ ?_
            intro x6 hx6
            refine xt_lret rfl rfl rfl ?_
            refine ⟨?_, rfl⟩
            rw [itemV]
            rw [hw0]
            dsimp only
            unfold itmV
            rw [if_neg (by omega), if_neg (by omega), if_neg (by omega), gI_in (by omega) (yapp hx6 (by rw [cit_len]; have := osz_n4 (o := ob) (by omega); omega))]
            rfl
    · intro (hb11_1 : (_ : Int32) = (-1))
      have hb11_1z : Int32.toInt _ = ((-1) : Int) := congrArg Int32.toInt hb11_1
      refine xt_pure rfl rfl rfl rfl ?_
      refine xt_getf rfl rfl (xmS 0 rfl q2) ?_
      refine xt_pure rfl rfl rfl rfl ?_
      refine xt_lret rfl rfl rfl ?_
      refine ⟨?_, rfl⟩
      rw [itemV]
      rw [hw0]
      dsimp only
      unfold itmV
      rw [if_pos (by omega)]
