/-! CALLS OVER BLOCKS: the class: sign, give, take back -/
def fldE (e : xE) : Nat := match e.2 with
  | .inl f => 100 * f.1 + f.2.1 + 1
  | .inr _ => 0
section GVC
variable {X : List Int32} {N B B2 B3 Rm : List xE} {Fs : List yF} {Dr : List yD} {En : List (Int64 × Int32)} {R : List yDR} {x y : Int32} {z : Option yO} {gv : Nat}
theorem ix_ne {D : List xE} {i j : Nat} {a b : xE} (h1 : D[i]? = some a) (h2 : D[j]? = some b) (h : Nat.beq (fldE a) (fldE b) = false) : i ≠ j := fun e => by
  subst e
  rw [h1] at h2
  injection h2 with h2
  rw [h2] at h
  exact absurd (Nat.beq_refl (fldE b)) (by rw [h]; decide)
theorem set_at {D : List xE} {i j : Nat} {a b : xE} (h : D[j]? = some b) (hne : i ≠ j) : (D.set i a)[j]? = some b := by
  rw [List.getElem?_set_ne hne]
  exact h
theorem sgR_inv {d : yD} {F : yF} (h : sgR Fs Dr x y = some (d, F)) : gI Dr x = some d ∧ Fs[d.1]? = some F ∧ (0 ≤ y.toInt ∧ y.toInt < F.2.2.2.1.2.2.toInt) := by
  unfold sgR at h
  obtain ⟨d2, h1, h2⟩ := Option.bind_eq_some_iff.mp h
  obtain ⟨F2, h3, h4⟩ := Option.bind_eq_some_iff.mp h2
  by_cases hy : 0 ≤ y.toInt ∧ y.toInt < F2.2.2.2.1.2.2.toInt
  · rw [if_pos hy] at h4
    injection h4 with h4
    injection h4 with h5 h6
    subst h5
    subst h6
    exact ⟨h1, h3, hy⟩
  · rw [if_neg hy] at h4
    cases h4
theorem sgT_no (h : ¬ sgOk Fs Dr x y) : sgT Fs Dr x y = Dr := by
  rw [sgT]
  rcases hs : sgR Fs Dr x y with _ | ⟨d, F⟩
  · rfl
  · show (if d.2.2.2.1 ≠ -9 ∧ y = d.2.2.2.2 then _ else _) = _
    rw [if_neg (fun hc => h ⟨d, F, hs, hc.1, hc.2⟩)]
theorem sgT_yes {d : yD} {F : yF} (hs : sgR Fs Dr x y = some (d, F)) (h1 : d.2.2.2.1 ≠ -9) (h2 : y = d.2.2.2.2) : sgT Fs Dr x y = Dr.set x.toInt.toNat (d.1, d.2.1, d.2.2.1, d.2.2.2.1, y + 1) := by
  rw [sgT, hs]
  show (if d.2.2.2.1 ≠ -9 ∧ y = d.2.2.2.2 then _ else _) = _
  rw [if_pos ⟨h1, h2⟩]
theorem oC_sign (hD : pDr Fs En Dr) (h : cDr Fs Dr N B) (sN : N ⊆ Rm) : yK X 1 21 171 [.ref 78, .int x, .int y] (B ++ Rm) 0 0 (fun w D => w = some (.int (sgV Fs Dr x y)) ∧ ∃ B', D.Perm (B' ++ Rm) ∧ cDr Fs (sgT Fs Dr x y) N B') := by
  obtain ⟨R, rfl, rfl, h3⟩ := h.R
  have uN : N ⊆ cRE R ++ Rm := fun e he => List.mem_append_right _ (sN he)
  refine (cK_sign rfl (ds_C hD.l30 h3 (List.subset_append_left _ _) uN)).mono (Nat.le_refl _) (Nat.le_refl _) ?_
  rintro w D ⟨rfl, ⟨hno, rfl⟩ | ⟨⟨d, F, hs, k1, k2⟩, r, i, hg, hi, rfl⟩⟩
  · rw [sgT_no hno]
    exact ⟨rfl, _, .refl _, R, rfl, rfl, h3⟩
  · rw [sgT_yes hs k1 k2]
    obtain ⟨g1, g2, g3, -, -⟩ := gI_some hg
    have hd := (sgR_inv hs).1
    rw [gI_ix hg] at hd
    injection hd with hd
    obtain ⟨da, aa, fa, refs, lt, d1, A, ch, rc, sg⟩ := r
    subst hd
    have k2' : y = sg := k2
    have hr := h3 _ (List.mem_of_getElem? g3)
    refine ⟨rfl, cRE (R.set x.toInt.toNat (da, aa, fa, refs, lt, d1, A, ch, rc, y + 1)), pq fun φ => ?_, R.set x.toInt.toNat (da, aa, fa, refs, lt, d1, A, ch, rc, y + 1), by rw [List.map_set], rfl, h3.set hr⟩
    have s1 := cRE_set (φ := φ) (r2 := (da, aa, fa, refs, lt, d1, A, ch, rc, y + 1)) g3 rfl
    have s2 := cn_s (φ := φ) (b := (da, .inl (1, 6, .int (sg + 1)))) hi
    have s3 : cn φ (dfR (da, aa, fa, refs, lt, d1, A, ch, rc, y + 1)) + φ (da, .inl (1, 6, .int sg)) = cn φ (dfR (da, aa, fa, refs, lt, d1, A, ch, rc, sg)) + φ (da, .inl (1, 6, .int (sg + 1))) := by
      rw [k2']
      simp only [dfR, dfE, cn_c, cn_n]
      omega
    have s4 : cn φ (cRE R ++ Rm) = cn φ (cRE R) + cn φ Rm := cn_a
    rw [cn_a]
    show cn φ ((cRE R ++ Rm).set i (da, .inl (1, 6, .int (sg + 1)))) = _
    have s2' : cn φ ((cRE R ++ Rm).set i (da, .inl (1, 6, .int (sg + 1)))) + φ (da, .inl (1, 6, .int sg)) = cn φ (cRE R ++ Rm) + φ (da, .inl (1, 6, .int (sg + 1))) := s2
    omega
theorem an_put {N2 : List xE} {refs : List Value} {A : List (Option yO)} {p : Nat} {v : Value} {z : Option yO} (h : yAnB N refs A) (s : N ⊆ N2) (hv : yVB N2 v z) : yAnB N2 (refs.set p v) (A.set p z) := (h.mono s).put hv
theorem gv_no1 (h : gI Dr x = none) : gvV Fs Dr gv x y = -1 ∧ gvG Fs Dr gv x y = false := by
  have : ansP Fs Dr x y = none := by simp [ansP, h]
  rw [gvV, gvG, this]
  exact ⟨rfl, rfl⟩
theorem gv_no2 {d : yD} {F : yF} (h : gI Dr x = some d) (h2 : Fs[d.1]? = some F) (h3 : askP F y = none) : gvV Fs Dr gv x y = -1 ∧ gvG Fs Dr gv x y = false := by
  have : ansP Fs Dr x y = none := by simp [ansP, h, h2, h3]
  rw [gvV, gvG, this]
  exact ⟨rfl, rfl⟩
theorem ansP_yes {d : yD} {F : yF} {P : yPt} (h : gI Dr x = some d) (h2 : Fs[d.1]? = some F) (h3 : askP F y = some P) : ansP Fs Dr x y = some (d, F, P) := by simp [ansP, h, h2, h3]
theorem gv_2 {d : yD} {F : yF} {P : yPt} (h : ansP Fs Dr x y = some (d, F, P)) (hr : d.2.2.2.1 ≠ -9) : gvV Fs Dr gv x y = -2 ∧ gvG Fs Dr gv x y = false := by
  rw [gvV, gvG, h]
  exact ⟨if_pos hr, by simp [hr]⟩
theorem gv_3 {d : yD} {F : yF} {P : yPt} (h : ansP Fs Dr x y = some (d, F, P)) (hr : d.2.2.2.1 = -9) (hg : ¬ gv < 400) : gvV Fs Dr gv x y = -3 ∧ gvG Fs Dr gv x y = false := by
  rw [gvV, gvG, h]
  exact ⟨(if_neg (fun h => h hr)).trans (if_neg hg), by simp [hr, hg]⟩
theorem gv_ok {d : yD} {F : yF} {P : yPt} (h : ansP Fs Dr x y = some (d, F, P)) (hr : d.2.2.2.1 = -9) (hg : gv < 400) : gvV Fs Dr gv x y = Int32.ofNat d.2.2.1.length + 1 ∧ gvG Fs Dr gv x y = true := by
  rw [gvV, gvG, h]
  exact ⟨(if_neg (fun h => h hr)).trans (if_pos hg), by simp [hr, hg]⟩
theorem cDk.ob (hk : pDk En z) (h : cDk z N B) : ∃ hv E, B = (78, .inl (11, 6, hv)) :: E ∧ (∀ D, N ⊆ D → obV D hv) ∧ yVB (E ++ N) hv z := by
  cases z with
  | none =>
    obtain rfl : B = _ := h
    exact ⟨.null, [], rfl, fun _ _ => .inl rfl, rfl⟩
  | some ob =>
    obtain ⟨a, ia, ra, ks, h1, rfl, h3, h4, h5, h6⟩ := h
    refine ⟨.ref a, _, rfl, fun D s => .inr ⟨a, _, rfl, s h3⟩, a, rfl, ia, ra, [], ks.map krV, List.mem_append_right _ h3, List.mem_append_right _ h4, List.mem_append_right _ h5, List.mem_append_right _ h6, ?_, ?_, ?_, ?_, ?_⟩
    · rw [List.append_nil]
      simp
    · simp
    · intro _
      rw [h1, List.length_map, List.length_map]
    · intro i v r hv hr
      rw [h1, List.getElem?_map] at hr
      rw [List.getElem?_map] at hv
      rcases hk : ks[i]? with _ | o
      · rw [hk] at hv
        cases hv
      · rw [hk] at hv hr
        injection hv with hv
        injection hr with hr
        subst hv
        subst hr
        cases o with
        | none => exact rfl
        | some p =>
          refine ⟨p.1, rfl, List.mem_append_left _ (List.mem_cons_of_mem _ (List.mem_cons_of_mem _ ?_))⟩
          rw [krE, List.mem_filterMap]
          exact ⟨some p, List.mem_of_getElem? hk, rfl⟩
    · have k := hk ob rfl
      rw [List.append_nil, cit_len]
      by_cases e4 : ob.1 = 4
      · rw [(k.2.1 e4).1]
        exact Nat.zero_le _
      · have := (k.2.2.1 e4).2
        omega
theorem oC_give (hF : pFs Fs) (hD : pDr Fs En Dr) (hk : pDk En z) (hg4 : gv ≤ 400) (h1 : cDk z N B) (h2 : cDr Fs Dr N B2) (h3 : cGv gv B3) (sN : N ⊆ Rm) : yK X 3 160 110 [.ref 78, .int x, .int y] (B ++ (B2 ++ (B3 ++ Rm))) 1 3 (fun w D => w = some (.int (gvV Fs Dr gv x y)) ∧ ∃ B' B2' B3' G, D.Perm (B' ++ (B2' ++ (B3' ++ (G ++ Rm)))) ∧ cDk (if gvG Fs Dr gv x y then none else z) (G ++ N) B' ∧ cDr Fs (if gvG Fs Dr gv x y then updD Dr x (gvD y z) else Dr) (G ++ N) B2' ∧ cGv (if gvG Fs Dr gv x y then gv + 1 else gv) B3') := by
  have h10 := h1
  obtain ⟨hv, E, rfl, ho, hvB⟩ := h1.ob hk
  obtain ⟨R, rfl, rfl, h4⟩ := h2.R
  obtain rfl : B3 = _ := h3
  have uN : N ⊆ (78, .inl (11, 10, .int (Int32.ofNat gv))) :: (78, .inl (11, 6, hv)) :: (E ++ (cRE R ++ Rm)) := fun e he => List.mem_cons_of_mem _ (List.mem_cons_of_mem _ (List.mem_append_right _ (List.mem_append_right _ (sN he))))
  have uR : cRE R ⊆ (78, .inl (11, 10, .int (Int32.ofNat gv))) :: (78, .inl (11, 6, hv)) :: (E ++ (cRE R ++ Rm)) := fun e he => List.mem_cons_of_mem _ (List.mem_cons_of_mem _ (List.mem_append_right _ (List.mem_append_left _ he)))
  have tg : (Int32.ofNat gv).toInt = gv := yi_nat (by omega)
  refine yK.perm (D2 := (78, .inl (11, 10, .int (Int32.ofNat gv))) :: (78, .inl (11, 6, hv)) :: (E ++ (cRE R ++ Rm))) (pq fun φ => by simp only [cn_c, cn_a, cn_n]; omega) ?_
  refine (cK_give (jg := 0) (jh := 1) hF.l20 (ds_C hD.l30 h4 uR uN) rfl rfl (ho _ uN)).mono (Nat.le_refl _) (Nat.le_refl _) ?_
  have same : gvG Fs (R.map fun r => r.2.2.2.2.2) gv x y = false → ∃ B' B2' B3' G, ((78, .inl (11, 10, .int (Int32.ofNat gv))) :: (78, .inl (11, 6, hv)) :: (E ++ (cRE R ++ Rm))).Perm (B' ++ (B2' ++ (B3' ++ (G ++ Rm)))) ∧ cDk (if gvG Fs (R.map fun r => r.2.2.2.2.2) gv x y then none else z) (G ++ N) B' ∧ cDr Fs (if gvG Fs (R.map fun r => r.2.2.2.2.2) gv x y then updD (R.map fun r => r.2.2.2.2.2) x (gvD y z) else (R.map fun r => r.2.2.2.2.2)) (G ++ N) B2' ∧ cGv (if gvG Fs (R.map fun r => r.2.2.2.2.2) gv x y then gv + 1 else gv) B3' := by
    intro h
    rw [h]
    exact ⟨_ :: E, cRE R, [(78, .inl (11, 10, .int (Int32.ofNat gv)))], [], pq fun φ => by simp only [cn_c, cn_a, cn_n]; omega, h10, ⟨R, rfl, rfl, h4⟩, rfl⟩
  rintro w D (⟨g1, rfl, rfl⟩ | ⟨r, F, g1, g2, g3, rfl, rfl⟩ | ⟨r, F, P, g1, g2, g3, g4, rfl, rfl⟩ | ⟨r, F, P, g1, g2, g3, g4, g5, rfl, rfl⟩ | ⟨r, F, P, g1, g2, g3, g4, g5, rfl, v0, g, i3, i4, i7, q0, q3, q4, q7, rfl⟩)
  · obtain ⟨e1, e2⟩ := gv_no1 (Fs := Fs) (gv := gv) (y := y) (gI_R0 g1)
    rw [e1]
    exact ⟨rfl, same e2⟩
  · obtain ⟨e1, e2⟩ := gv_no2 (gv := gv) (gI_R g1) g2 g3
    rw [e1]
    exact ⟨rfl, same e2⟩
  · obtain ⟨e1, e2⟩ := gv_2 (gv := gv) (ansP_yes (gI_R g1) g2 g3) g4
    rw [e1]
    exact ⟨rfl, same e2⟩
  · obtain ⟨e1, e2⟩ := gv_3 (gv := gv) (ansP_yes (gI_R g1) g2 g3) g4 (by omega)
    rw [e1]
    exact ⟨rfl, same e2⟩
  · obtain ⟨e1, e2⟩ := gv_ok (gv := gv) (ansP_yes (gI_R g1) g2 g3) g4 (by omega)
    rw [e1, e2]
    obtain ⟨x1, x2, x3, -, -⟩ := gI_some g1
    obtain ⟨y1, y2, y3, y4⟩ := askP_some g3
    obtain ⟨⟨F2, f1, f2⟩, a1, a2⟩ := h4 r (List.mem_of_getElem? x3)
    have hup : updD (R.map fun r => r.2.2.2.2.2) x (gvD y z) = (R.map fun r => r.2.2.2.2.2).set x.toInt.toNat (gvD y z r.2.2.2.2.2) := by rw [updD, gI_R g1]
    obtain ⟨da, aa, fa, refs, lt, d1, A, ch, rc, sg⟩ := r
    obtain ⟨z1, z2, z3, -, -⟩ := gI_some q0
    have hA20 := a1.2.1
    have hl20 := hF.l20 _ _ g2
    obtain ⟨z0, hz0⟩ : ∃ z0, A[y.toInt.toNat]? = some z0 := ⟨_, List.getElem?_eq_getElem (by have : A.length = 20 := hA20; omega)⟩
    have hv0 : yVB N v0 z0 := a1.2.2 _ _ _ z3 hz0
    have sG : N ⊆ ((g, .inl (3, 0, .int y)) :: (g, .inl (3, 1, v0)) :: (g, .inl (3, 2, lt)) :: E) ++ N := List.subset_append_right _ _
    have sE : E ++ N ⊆ ((g, .inl (3, 0, .int y)) :: (g, .inl (3, 1, v0)) :: (g, .inl (3, 2, lt)) :: E) ++ N := fun e he => List.mem_cons_of_mem _ (List.mem_cons_of_mem _ (List.mem_cons_of_mem _ he))
    have hn : (R.set x.toInt.toNat (da, aa, fa, refs.set y.toInt.toNat hv, .ref g, gvD y z (d1, A, ch, rc, sg))).map (fun r => r.2.2.2.2.2) = (R.map fun r => r.2.2.2.2.2).set x.toInt.toNat (gvD y z (d1, A, ch, rc, sg)) := List.map_set
    refine ⟨rfl, [(78, .inl (11, 6, .null))], cRE (R.set x.toInt.toNat (da, aa, fa, refs.set y.toInt.toNat hv, .ref g, gvD y z (d1, A, ch, rc, sg))), [(78, .inl (11, 10, .int (Int32.ofNat (gv + 1))))], (g, .inl (3, 0, .int y)) :: (g, .inl (3, 1, v0)) :: (g, .inl (3, 2, lt)) :: E, pq fun φ => ?_, rfl, ⟨R.set x.toInt.toNat (da, aa, fa, refs.set y.toInt.toNat hv, .ref g, gvD y z (d1, A, ch, rc, sg)), hn.trans hup.symm, rfl, ?_⟩, rfl⟩
    · have e0 : ((78, .inl (11, 10, .int (Int32.ofNat gv))) :: (78, .inl (11, 6, hv)) :: (E ++ (cRE R ++ Rm)))[0]? = some (78, .inl (11, 10, .int (Int32.ofNat gv))) := rfl
      have e1 : ((78, .inl (11, 10, .int (Int32.ofNat gv))) :: (78, .inl (11, 6, hv)) :: (E ++ (cRE R ++ Rm)))[1]? = some (78, .inl (11, 6, hv)) := rfl
      have n03 := ix_ne e0 q3 rfl
      have n04 := ix_ne e0 q4 rfl
      have n07 := ix_ne e0 q7 rfl
      have n13 := ix_ne e1 q3 rfl
      have n14 := ix_ne e1 q4 rfl
      have n17 := ix_ne e1 q7 rfl
      have n34 := ix_ne q3 q4 rfl
      have n37 := ix_ne q3 q7 rfl
      have n47 := ix_ne q4 q7 rfl
      have s0 := cn_s (φ := φ) (b := (78, .inl (11, 10, .int (Int32.ofNat gv + 1)))) e0
      have s3 := cn_s (φ := φ) (b := (da, .inl (1, 3, .ref g))) (set_at (a := (78, .inl (11, 10, .int (Int32.ofNat gv + 1)))) q3 n03)
      have s4 := cn_s (φ := φ) (b := (da, .inl (1, 4, .int (Int32.ofNat ch.length + 1)))) (set_at (a := (da, .inl (1, 3, .ref g))) (set_at (a := (78, .inl (11, 10, .int (Int32.ofNat gv + 1)))) q4 n04) n34)
      have s7 := cn_s (φ := φ) (b := (aa, .inr (7, refs.set y.toInt.toNat hv))) (set_at (a := (da, .inl (1, 4, .int (Int32.ofNat ch.length + 1)))) (set_at (a := (da, .inl (1, 3, .ref g))) (set_at (a := (78, .inl (11, 10, .int (Int32.ofNat gv + 1)))) q7 n07) n37) n47)
      have s1 := cn_s (φ := φ) (b := (78, .inl (11, 6, .null))) (set_at (a := (aa, .inr (7, refs.set y.toInt.toNat hv))) (set_at (a := (da, .inl (1, 4, .int (Int32.ofNat ch.length + 1)))) (set_at (a := (da, .inl (1, 3, .ref g))) (set_at (a := (78, .inl (11, 10, .int (Int32.ofNat gv + 1)))) e1 (show (0 : Nat) ≠ 1 by decide)) n13.symm) n14.symm) n17.symm)
      have sR := cRE_set (φ := φ) (r2 := (da, aa, fa, refs.set y.toInt.toNat hv, .ref g, gvD y z (d1, A, ch, rc, sg))) x3 rfl
      have sd : cn φ (dfR (da, aa, fa, refs.set y.toInt.toNat hv, .ref g, gvD y z (d1, A, ch, rc, sg))) + φ (da, .inl (1, 3, lt)) + φ (da, .inl (1, 4, .int (Int32.ofNat ch.length))) + φ (aa, .inr (7, refs)) = cn φ (dfR (da, aa, fa, refs, lt, d1, A, ch, rc, sg)) + φ (da, .inl (1, 3, .ref g)) + φ (da, .inl (1, 4, .int (Int32.ofNat ch.length + 1))) + φ (aa, .inr (7, refs.set y.toInt.toNat hv)) := by
        have ec : Int32.ofNat (ch.length + 1) = Int32.ofNat ch.length + 1 := by rw [Int32.ofNat_add]; rfl
        simp only [dfR, dfE, gvD, cn_c, cn_n, List.length_cons, ec]
        omega
      have eg : (78, .inl (11, 10, .int (Int32.ofNat (gv + 1)))) = ((78, .inl (11, 10, .int (Int32.ofNat gv + 1))) : xE) := by
        rw [Int32.ofNat_add]
        rfl
      rw [eg]
      simp only [cn_c, cn_a, cn_n] at s0 s1 s3 s4 s7 sR sd ⊢
      omega
    · refine (h4.mono sG).set ⟨⟨F2, f1, f2.mono sG⟩, an_put a1 sG (hvB.mono sE), g, v0, lt, rfl, ?_, by simp, by simp, ?_, by show y.toInt.toNat < 20; omega, a2.mono sG⟩
      · show ((g, .inl (3, 0, .int (Int32.ofNat y.toInt.toNat))) : xE) ∈ _
        rw [yi_id y1]
        simp
      · have : ((A[y.toInt.toNat]?).getD none) = z0 := by rw [hz0]; rfl
        show yVB _ v0 ((A[y.toInt.toNat]?).getD none)
        rw [this]
        exact hv0.mono sG
theorem oC_back (hD : pDr Fs En Dr) (h : cDr Fs Dr N B) (sN : N ⊆ Rm) : yK X 1 30 114 [.ref 78, .int x] (B ++ Rm) 0 0 (fun w D => w = some (.int (bkV Dr x)) ∧ ∃ B', D.Perm (B' ++ Rm) ∧ cDr Fs (updD Dr x bkD) N B') := by
  obtain ⟨R, rfl, rfl, h3⟩ := h.R
  have uN : N ⊆ cRE R ++ Rm := fun e he => List.mem_append_right _ (sN he)
  refine yK.nd fun nd => ?_
  refine (cK_takeBack (ds_C hD.l30 h3 (List.subset_append_left _ _) uN)).mono (Nat.le_refl _) (Nat.le_refl _) ?_
  rintro w D (⟨g1, rfl, rfl⟩ | ⟨r, g1, g2, rfl, rfl⟩ | ⟨r, p, z, rest, g1, g2, g3, rfl, g, bv, ev, i3, i4, i7, q0, q1, q2, q3, q4, q7, rfl⟩)
  · rw [bkV, updD, gI_R0 g1]
    exact ⟨rfl, _, .refl _, R, rfl, rfl, h3⟩
  · have hself : (R.map fun r => r.2.2.2.2.2).set x.toInt.toNat r.2.2.2.2.2 = R.map fun r => r.2.2.2.2.2 := by
      obtain ⟨x1, x2, x3, -, -⟩ := gI_some g1
      rw [← List.map_set]
      exact map_set1 x3 rfl
    rw [bkV, updD, gI_R g1]
    obtain ⟨da, aa, fa, refs, lt, d1, A, ch, rc, sg⟩ := r
    rcases g2 with g2 | g2
    · have g2' : rc ≠ -9 := g2
      refine ⟨by show _ = some (Value.int (if rc ≠ -9 then -2 else _)); rw [if_pos g2'], _, .refl _, ?_⟩
      have : bkD (d1, A, ch, rc, sg) = (d1, A, ch, rc, sg) := if_pos g2'
      show cDr Fs ((R.map fun r => r.2.2.2.2.2).set x.toInt.toNat (bkD (d1, A, ch, rc, sg))) N _
      rw [this, hself]
      exact ⟨R, rfl, rfl, h3⟩
    · have g2' : ch = [] := g2
      subst g2'
      by_cases g2' : rc = -9
      · refine ⟨by show _ = some (Value.int (if rc ≠ -9 then -2 else -2)); rw [if_neg (fun h => h g2')], _, .refl _, ?_⟩
        have : bkD (d1, A, [], rc, sg) = (d1, A, [], rc, sg) := if_neg (fun h => h g2')
        show cDr Fs ((R.map fun r => r.2.2.2.2.2).set x.toInt.toNat (bkD (d1, A, [], rc, sg))) N _
        rw [this, hself]
        exact ⟨R, rfl, rfl, h3⟩
      · refine ⟨by show _ = some (Value.int (if rc ≠ -9 then -2 else -2)); rw [if_pos g2'], _, .refl _, ?_⟩
        have : bkD (d1, A, [], rc, sg) = (d1, A, [], rc, sg) := if_pos g2'
        show cDr Fs ((R.map fun r => r.2.2.2.2.2).set x.toInt.toNat (bkD (d1, A, [], rc, sg))) N _
        rw [this, hself]
        exact ⟨R, rfl, rfl, h3⟩
  · rw [bkV, updD, gI_R g1]
    obtain ⟨x1, x2, x3, -, -⟩ := gI_some g1
    obtain ⟨da, aa, fa, refs, lt, d1, A, ch, rc, sg⟩ := r
    have g2' : rc = -9 := g2
    have g3' : ch = (p, z) :: rest := g3
    subst g3'
    have q0' : lt = .ref g := q0
    obtain ⟨⟨F2, f1, f2⟩, a1, g', bv', ev', b1, b2, b3, b4, b5, b6, b7⟩ := h3 _ (List.mem_of_getElem? x3)
    have eg : g = g' := by
      have b1' : lt = .ref g' := b1
      rw [q0'] at b1'
      injection b1'
    subst eg
    have e3 := nd_eq nd q1 (uN b3) rfl
    injection e3 with _ e3
    injection e3 with e3
    injection e3 with _ e3
    injection e3 with _ e3
    subst e3
    have e4 := nd_eq nd q2 (uN b4) rfl
    injection e4 with _ e4
    injection e4 with e4
    injection e4 with _ e4
    injection e4 with _ e4
    subst e4
    have eb : bkD (d1, A, (p, z) :: rest, rc, sg) = (d1, A.set p z, rest, rc, sg) := if_neg (fun h => h g2')
    refine ⟨by show _ = some (Value.int (if rc ≠ -9 then -2 else Int32.ofNat p)); rw [if_neg (fun h => h g2')], cRE (R.set x.toInt.toNat (da, aa, fa, refs.set p bv, ev, d1, A.set p z, rest, rc, sg)), pq fun φ => ?_, ?_⟩
    · have n34 := ix_ne q3 q4 rfl
      have n37 := ix_ne q3 q7 rfl
      have n47 := ix_ne q4 q7 rfl
      have s7 := cn_s (φ := φ) (b := (aa, .inr (7, refs.set p bv))) q7
      have s3 := cn_s (φ := φ) (b := (da, .inl (1, 3, ev))) (set_at (a := (aa, .inr (7, refs.set p bv))) q3 n37.symm)
      have s4 := cn_s (φ := φ) (b := (da, .inl (1, 4, .int (Int32.ofNat ((p, z) :: rest).length - 1)))) (set_at (a := (da, .inl (1, 3, ev))) (set_at (a := (aa, .inr (7, refs.set p bv))) q4 n47.symm) n34)
      have sR := cRE_set (φ := φ) (r2 := (da, aa, fa, refs.set p bv, ev, d1, A.set p z, rest, rc, sg)) x3 rfl
      have sd : cn φ (dfR (da, aa, fa, refs.set p bv, ev, d1, A.set p z, rest, rc, sg)) + φ (da, .inl (1, 3, lt)) + φ (da, .inl (1, 4, .int (Int32.ofNat ((p, z) :: rest).length))) + φ (aa, .inr (7, refs)) = cn φ (dfR (da, aa, fa, refs, lt, d1, A, (p, z) :: rest, rc, sg)) + φ (da, .inl (1, 3, ev)) + φ (da, .inl (1, 4, .int (Int32.ofNat ((p, z) :: rest).length - 1))) + φ (aa, .inr (7, refs.set p bv)) := by
        have ec : Int32.ofNat ((p, z) :: rest).length - 1 = Int32.ofNat rest.length := by
          rw [List.length_cons, yi_s1]
        rw [ec]
        simp only [dfR, dfE, cn_c, cn_n]
        omega
      rw [cn_a]
      have s7' : cn φ ((cRE R ++ Rm).set i7 (aa, .inr (7, refs.set p bv))) + φ (aa, .inr (7, refs)) = cn φ (cRE R ++ Rm) + φ (aa, .inr (7, refs.set p bv)) := s7
      rw [cn_a (A := cRE R)] at s7'
      show cn φ ((((cRE R ++ Rm).set i7 (aa, .inr (7, refs.set p bv))).set i3 (da, .inl (1, 3, ev))).set i4 (da, .inl (1, 4, .int (Int32.ofNat ((p, z) :: rest).length - 1)))) = _
      have s3' : cn φ (((cRE R ++ Rm).set i7 (aa, .inr (7, refs.set p bv))).set i3 (da, .inl (1, 3, ev))) + φ (da, .inl (1, 3, lt)) = cn φ ((cRE R ++ Rm).set i7 (aa, .inr (7, refs.set p bv))) + φ (da, .inl (1, 3, ev)) := s3
      have s4' : cn φ ((((cRE R ++ Rm).set i7 (aa, .inr (7, refs.set p bv))).set i3 (da, .inl (1, 3, ev))).set i4 (da, .inl (1, 4, .int (Int32.ofNat ((p, z) :: rest).length - 1)))) + φ (da, .inl (1, 4, .int (Int32.ofNat ((p, z) :: rest).length))) = cn φ (((cRE R ++ Rm).set i7 (aa, .inr (7, refs.set p bv))).set i3 (da, .inl (1, 3, ev))) + φ (da, .inl (1, 4, .int (Int32.ofNat ((p, z) :: rest).length - 1))) := s4
      omega
    · show cDr Fs ((R.map fun r => r.2.2.2.2.2).set x.toInt.toNat (bkD (d1, A, (p, z) :: rest, rc, sg))) N _
      rw [eb]
      exact ⟨R.set x.toInt.toNat (da, aa, fa, refs.set p bv, ev, d1, A.set p z, rest, rc, sg), List.map_set, rfl, h3.set ⟨⟨F2, f1, f2⟩, a1.put b5, b7⟩⟩
end GVC
