/-! CALLS OVER BLOCKS: submit -/
section SUB
variable {X : List Int32} {N B B2 B3 B4 B5 B6 Rm : List xE} {Fs : List yF} {Dr : List yD} {En : List (Int64 × Int32)} {K : Nat} {ev n0 x y : Int32} {fd : List yFd} {to : Int32 × Int32 × Int32} {va : Int64} {gv : Nat}
theorem sb_0 (h : gI Dr x = none) : sbA Fs Dr En K ev n0 x y = (-1, none, false) := by rw [sbA, wkD_no h]
theorem sb_yes {d : yD} {F : yF} (h : gI Dr x = some d) (h2 : Fs[d.1]? = some F) : sbA Fs Dr En K ev n0 x y = if ¬ (0 ≤ y.toInt ∧ y.toInt ≤ 9999) then (-1, none, false) else if 10000 ≤ ev.toInt then (-3, none, false) else if d.2.2.2.1 ≠ -9 then (-2, none, false) else if F.2.2.2.1.2.1 ≠ -9 ∧ F.2.2.2.1.2.1.toInt < y.toInt then (-4, none, false) else if (inspR F d.2.1 En K ev).2.2 ≠ [] then (-10 - Int32.ofNat (inspR F d.2.1 En K ev).2.2.length, some (inspR F d.2.1 En K ev), false) else (n0 + 1, some (inspR F d.2.1 En K ev), true) := by rw [sbA, wkD_yes h h2]
theorem oC_submit (hKe : K = 300) (hF : pFs Fs) (hD : pDr Fs En Dr) (hE : cLe En B5) (h : cDr Fs Dr N B3) (hW : cWk ev fd B) (hT : cTo to B2) (hn : cRc n0 B4) (s5 : B5 ⊆ Rm) (sN : N ⊆ Rm) : yK X 200 5000 168 [.ref 78, .int x, .int y] (B ++ (B2 ++ (B3 ++ (B4 ++ Rm)))) 0 0 (fun w D => w = some (.int (sbA Fs Dr En K ev n0 x y).1) ∧ ∃ B' B2' B3' B4', D.Perm (B' ++ (B2' ++ (B3' ++ (B4' ++ Rm)))) ∧ cWk (wkE ev (sbA Fs Dr En K ev n0 x y).2.1) (wkF fd (sbA Fs Dr En K ev n0 x y).2.1) B' ∧ cTo (wkT to (sbA Fs Dr En K ev n0 x y).2.1) B2' ∧ cDr Fs (if (sbA Fs Dr En K ev n0 x y).2.2 then updD Dr x (sbD n0) else Dr) N B3' ∧ cRc (if (sbA Fs Dr En K ev n0 x y).2.2 then n0 + 1 else n0) B4') := by
  have hW0 := hW
  have h0 := h
  obtain ⟨R, rfl, rfl, h3⟩ := h.R
  obtain ⟨S, w, u, v, sh, sh2, fd2, rfl, w1, rfl, w3, w4⟩ := hW
  obtain rfl : B2 = _ := hT
  obtain rfl : B4 = _ := hn
  have pm : ∀ {S : zS} {u v : Value} {t : List Int32}, (EC S u v t ((78, .inl (11, 9, .int n0)) :: (cRE R ++ Rm))).Perm ((zE zaE S 0 zTE ++ [(110, .inl (10, 2, u)), (110, .inl (10, 3, v))]) ++ ([(125, .inr (0, t.map Value.int))] ++ (cRE R ++ ([(78, .inl (11, 9, .int n0))] ++ Rm)))) := pq fun φ => by
    simp only [cn_c, cn_a, cn_n, cn_z]
    omega
  have u1 : Rm ⊆ (78, .inl (11, 9, .int n0)) :: (cRE R ++ Rm) := fun e he => List.mem_cons_of_mem _ (List.mem_append_right _ he)
  have u2 : cRE R ⊆ (78, .inl (11, 9, .int n0)) :: (cRE R ++ Rm) := fun e he => List.mem_cons_of_mem _ (List.mem_append_left _ he)
  refine yK.perm pm.symm ?_
  refine (cK_submit (j := 0) hKe (dr_C hF hD hE h3 u2 (fun e he => u1 (s5 he)) (fun e he => u1 (sN he))) w1 w3 rfl).mono (Nat.le_refl _) (Nat.le_refl _) ?_
  have same : ∀ {V : Int32}, sbA Fs (R.map fun r => r.2.2.2.2.2) En K w.1 n0 x y = (V, none, false) → (some (.int V) : Option Value) = some (.int (sbA Fs (R.map fun r => r.2.2.2.2.2) En K w.1 n0 x y).1) ∧ ∃ B' B2' B3' B4', (EC S u v [to.1, to.1, to.2.1, to.2.2] ((78, .inl (11, 9, .int n0)) :: (cRE R ++ Rm))).Perm (B' ++ (B2' ++ (B3' ++ (B4' ++ Rm)))) ∧ cWk (wkE w.1 (sbA Fs (R.map fun r => r.2.2.2.2.2) En K w.1 n0 x y).2.1) (wkF fd (sbA Fs (R.map fun r => r.2.2.2.2.2) En K w.1 n0 x y).2.1) B' ∧ cTo (wkT to (sbA Fs (R.map fun r => r.2.2.2.2.2) En K w.1 n0 x y).2.1) B2' ∧ cDr Fs (if (sbA Fs (R.map fun r => r.2.2.2.2.2) En K w.1 n0 x y).2.2 then updD (R.map fun r => r.2.2.2.2.2) x (sbD n0) else (R.map fun r => r.2.2.2.2.2)) N B3' ∧ cRc (if (sbA Fs (R.map fun r => r.2.2.2.2.2) En K w.1 n0 x y).2.2 then n0 + 1 else n0) B4' := by
    intro V hV
    rw [hV]
    exact ⟨rfl, _, _, _, _, pm, hW0, rfl, h0, rfl⟩
  rintro a D (⟨g1, rfl, rfl⟩ | ⟨r, g1, g2, rfl, rfl⟩ | ⟨r, g1, g2, g3, rfl, rfl⟩ | ⟨r, g1, g2, g3, g4, rfl, rfl⟩ | ⟨r, F, g1, g2, g3, g4, g5, g6, rfl, rfl⟩ | ⟨r, F, S', g1, g2, g3, g4, g5, g6, q1, q2, q3, ⟨q4, rfl, rfl⟩ | ⟨q4, rfl, i, hi, rfl⟩⟩)
  · exact same (sb_0 (gI_R0 g1))
  · obtain ⟨F, hf⟩ := hD.fo (gI_R g1)
    exact same (by rw [sb_yes (gI_R g1) hf, if_pos g2])
  · obtain ⟨F, hf⟩ := hD.fo (gI_R g1)
    exact same (by rw [sb_yes (gI_R g1) hf, if_neg (fun h => h g2), if_pos g3])
  · obtain ⟨F, hf⟩ := hD.fo (gI_R g1)
    exact same (by rw [sb_yes (gI_R g1) hf, if_neg (fun h => h g2), if_neg g3, if_pos g4])
  · exact same (by rw [sb_yes (gI_R g1) g5, if_neg (fun h => h g2), if_neg g3, if_neg (fun h => h g4), if_pos g6])
  · rw [sb_yes (gI_R g1) g5, if_neg (fun h => h g2), if_neg g3, if_neg (fun h => h g4), if_neg g6, if_pos q4]
    exact ⟨rfl, _, _, _, _, pm, ⟨S', _, _, _, _, sh2, fd2, rfl, q1, rfl, q2.self, ins_175 q2 w4⟩, rfl, h0, rfl⟩
  · rw [sb_yes (gI_R g1) g5, if_neg (fun h => h g2), if_neg g3, if_neg (fun h => h g4), if_neg g6, if_neg (fun h => h q4)]
    obtain ⟨x1, x2, x3, -, -⟩ := gI_some g1
    have hup : updD (R.map fun r => r.2.2.2.2.2) x (sbD n0) = (R.map fun r => r.2.2.2.2.2).set x.toInt.toNat (sbD n0 r.2.2.2.2.2) := by rw [updD, gI_R g1]
    obtain ⟨da, aa, fa, refs, lt, d1, A, ch, rc, sg⟩ := r
    have hr := h3 _ (List.mem_of_getElem? x3)
    have hn : (R.set x.toInt.toNat (da, aa, fa, refs, lt, d1, A, ch, n0 + 1, sg)).map (fun r => r.2.2.2.2.2) = (R.map fun r => r.2.2.2.2.2).set x.toInt.toNat (d1, A, ch, n0 + 1, sg) := List.map_set
    have hW2 : cWk (inspR F A En K w.1).1.1 (inspR F A En K w.1).2.2 (zE zaE S' 0 zTE ++ [(110, .inl (10, 2, .ref fa)), (110, .inl (10, 3, .ref aa))]) := ⟨S', _, _, _, _, sh2, fd2, rfl, q1, rfl, q2.self, ins_175 q2 w4⟩
    refine ⟨rfl, (zE zaE S' 0 zTE ++ ([(110, .inl (10, 2, .ref fa)), (110, .inl (10, 3, .ref aa))] : List xE)), [(125, .inr (0, ([(inspR F A En K w.1).1.2.1, (inspR F A En K w.1).1.2.1, (inspR F A En K w.1).1.2.2.1, -9] : List Int32).map Value.int))], cRE (R.set x.toInt.toNat (da, aa, fa, refs, lt, d1, A, ch, n0 + 1, sg)), [(78, .inl (11, 9, .int (n0 + 1)))], pq fun φ => ?_, hW2, rfl, ⟨R.set x.toInt.toNat (da, aa, fa, refs, lt, d1, A, ch, n0 + 1, sg), hn.trans hup.symm, rfl, h3.set hr⟩, rfl⟩
    have e0 : ((78, .inl (11, 9, .int n0)) :: (cRE R ++ Rm))[0]? = some (78, .inl (11, 9, .int n0)) := rfl
    have n0i := ix_ne e0 hi rfl
    have s0 := cn_s (φ := φ) (b := (78, .inl (11, 9, .int (n0 + 1)))) e0
    have s1 := cn_s (φ := φ) (b := (da, .inl (1, 5, .int (n0 + 1)))) (set_at (a := (78, .inl (11, 9, .int (n0 + 1)))) hi n0i)
    have sR := cRE_set (φ := φ) (r2 := (da, aa, fa, refs, lt, d1, A, ch, n0 + 1, sg)) x3 rfl
    have sd : cn φ (dfR (da, aa, fa, refs, lt, d1, A, ch, n0 + 1, sg)) + φ (da, .inl (1, 5, .int rc)) = cn φ (dfR (da, aa, fa, refs, lt, d1, A, ch, rc, sg)) + φ (da, .inl (1, 5, .int (n0 + 1))) := by
      simp only [dfR, dfE, cn_c, cn_n]
      omega
    rw [cn_c, cn_a] at s0
    rw [cn_z]
    simp only [cn_c, cn_a, cn_n] at s1 ⊢
    omega
theorem oM_submit (hKe : K = 300) (hn9 : n0 + 1 ≠ -9) (hF : pFs Fs) (hD : pDr Fs En Dr) (hE : mLe En B5) (hM : mFs Fs N B6) (h : mDr Fs Dr N B2) (hW : mWk ev fd to va B) (hn : mRc n0 B3) (s5 : B5 ⊆ Rm) (s6 : B6 ⊆ Rm) (sN : N ⊆ Rm) : yK X 1200 33000 324 [.ref 209, .int x, .int y] (B ++ (B2 ++ (B3 ++ Rm))) 0 0 (fun w D => w = some (.int (sbA Fs Dr En K ev n0 x y).1) ∧ ∃ B' B2' B3', D.Perm (B' ++ (B2' ++ (B3' ++ Rm))) ∧ mWk (wkE ev (sbA Fs Dr En K ev n0 x y).2.1) (wkF fd (sbA Fs Dr En K ev n0 x y).2.1) (wkT to (sbA Fs Dr En K ev n0 x y).2.1) va B' ∧ mDr Fs (if (sbA Fs Dr En K ev n0 x y).2.2 then updD Dr x (sbD n0) else Dr) N B2' ∧ mRc (if (sbA Fs Dr En K ev n0 x y).2.2 then n0 + 1 else n0) B3') := by
  have hW0 := hW
  have h0 := h
  obtain ⟨S, w, u, d0, sh, fd2, rfl, w1, rfl, w3, w4, w5, rfl⟩ := hW
  obtain rfl : B3 = _ := hn
  obtain ⟨of, fi, rc, sg, mr, sp, ⟨l1, l2, l3, l4, l5⟩, ⟨p1, p2⟩, rfl, h4, h5⟩ := h
  have pm : ∀ {S : zS} {u : Value} {fi rc : List Int32} {n0 : Int32}, (EM S u ((209, .inl (14, 65, .int n0)) :: (240, .inr (3, fi.map Value.int)) :: (241, .inr (0, rc.map Value.int)) :: (209, .inl (14, 26, .int (Int32.ofNat Dr.length))) :: (238, .inr (0, of.map Value.int)) :: (242, .inr (0, sg.map Value.int)) :: (239, .inr (10, mr)) :: (237, .inr (10, svl sp)) :: (sD sp ++ Rm))).Perm ((zE zaF S 0 zTF ++ [(209, .inl (14, 46, u))]) ++ (((209, .inl (14, 26, .int (Int32.ofNat Dr.length))) :: (238, .inr (0, of.map Value.int)) :: (240, .inr (3, fi.map Value.int)) :: (241, .inr (0, rc.map Value.int)) :: (242, .inr (0, sg.map Value.int)) :: (239, .inr (10, mr)) :: (237, .inr (10, svl sp)) :: sD sp) ++ ([(209, .inl (14, 65, .int n0))] ++ Rm))) := pq fun φ => by
    simp only [cn_c, cn_a, cn_n, cn_z]
    omega
  have u1 : Rm ⊆ (209, .inl (14, 65, .int n0)) :: (240, .inr (3, fi.map Value.int)) :: (241, .inr (0, rc.map Value.int)) :: (209, .inl (14, 26, .int (Int32.ofNat Dr.length))) :: (238, .inr (0, of.map Value.int)) :: (242, .inr (0, sg.map Value.int)) :: (239, .inr (10, mr)) :: (237, .inr (10, svl sp)) :: (sD sp ++ Rm) := fun e he => by simp [he]
  have u2 : ((209, .inl (14, 26, .int (Int32.ofNat Dr.length))) :: (238, .inr (0, of.map Value.int)) :: (240, .inr (3, fi.map Value.int)) :: (241, .inr (0, rc.map Value.int)) :: (242, .inr (0, sg.map Value.int)) :: (239, .inr (10, mr)) :: (237, .inr (10, svl sp)) :: sD sp) ⊆ (209, .inl (14, 65, .int n0)) :: (240, .inr (3, fi.map Value.int)) :: (241, .inr (0, rc.map Value.int)) :: (209, .inl (14, 26, .int (Int32.ofNat Dr.length))) :: (238, .inr (0, of.map Value.int)) :: (242, .inr (0, sg.map Value.int)) :: (239, .inr (10, mr)) :: (237, .inr (10, svl sp)) :: (sD sp ++ Rm) := fun e he => by
    simp only [List.mem_cons] at he
    simp only [List.mem_cons, List.mem_append]
    rcases he with rfl | rfl | rfl | rfl | rfl | rfl | rfl | he
    all_goals simp_all
  refine yK.perm pm.symm ?_
  refine (mK_submit (j := 0) (k1 := 1) (k2 := 2) hKe (dr_M hF h0 hD hE hM u2 (fun e he => u1 (s5 he)) (fun e he => u1 (s6 he)) (fun e he => u1 (sN he))) w1 w3 w4.2.1 rfl rfl rfl l2 l3 (fun i d hd => (h4 i d hd).2.1)).mono (Nat.le_refl _) (Nat.le_refl _) ?_
  have same : ∀ {V : Int32}, sbA Fs Dr En K w.1 n0 x y = (V, none, false) → (some (.int V) : Option Value) = some (.int (sbA Fs Dr En K w.1 n0 x y).1) ∧ ∃ B' B2' B3', (EM S u ((209, .inl (14, 65, .int n0)) :: (240, .inr (3, fi.map Value.int)) :: (241, .inr (0, rc.map Value.int)) :: (209, .inl (14, 26, .int (Int32.ofNat Dr.length))) :: (238, .inr (0, of.map Value.int)) :: (242, .inr (0, sg.map Value.int)) :: (239, .inr (10, mr)) :: (237, .inr (10, svl sp)) :: (sD sp ++ Rm))).Perm (B' ++ (B2' ++ (B3' ++ Rm))) ∧ mWk (wkE w.1 (sbA Fs Dr En K w.1 n0 x y).2.1) (wkF fd (sbA Fs Dr En K w.1 n0 x y).2.1) (wkT to (sbA Fs Dr En K w.1 n0 x y).2.1) (zJ S 10) B' ∧ mDr Fs (if (sbA Fs Dr En K w.1 n0 x y).2.2 then updD Dr x (sbD n0) else Dr) N B2' ∧ mRc (if (sbA Fs Dr En K w.1 n0 x y).2.2 then n0 + 1 else n0) B3' := by
    intro V hV
    rw [hV]
    exact ⟨rfl, _, _, _, pm, hW0, h0, rfl⟩
  rintro a D (⟨g1, rfl, rfl⟩ | ⟨d, g1, g2, rfl, rfl⟩ | ⟨d, g1, g2, g3, rfl, rfl⟩ | ⟨d, g1, g2, g3, g4, rfl, rfl⟩ | ⟨d, F, g1, g2, g3, g4, g5, g6, rfl, rfl⟩ | ⟨d, F, fa, S', g1, g2, g3, g4, g5, g6, q1, q2, q3, q4, q5, q6, ⟨q7, rfl, rfl⟩ | ⟨q7, rfl, rfl⟩⟩)
  · exact same (sb_0 g1)
  · obtain ⟨F, hf⟩ := hD.fo g1
    exact same (by rw [sb_yes g1 hf, if_pos g2])
  · obtain ⟨F, hf⟩ := hD.fo g1
    exact same (by rw [sb_yes g1 hf, if_neg (fun h => h g2), if_pos g3])
  · obtain ⟨F, hf⟩ := hD.fo g1
    exact same (by rw [sb_yes g1 hf, if_neg (fun h => h g2), if_neg g3, if_pos g4])
  · exact same (by rw [sb_yes g1 g5, if_neg (fun h => h g2), if_neg g3, if_neg (fun h => h g4), if_pos g6])
  · rw [sb_yes g1 g5, if_neg (fun h => h g2), if_neg g3, if_neg (fun h => h g4), if_neg g6, if_pos q7]
    exact ⟨rfl, _, _, _, pm, ⟨S', _, _, x, _, _, rfl, q1.out, rfl, q2, q3, q4, q5⟩, h0, rfl⟩
  · rw [sb_yes g1 g5, if_neg (fun h => h g2), if_neg g3, if_neg (fun h => h g4), if_neg g6, if_neg (fun h => h q7)]
    obtain ⟨x1, x2, x3, -, -⟩ := gI_some g1
    have h30 := hD.1
    have hup : updD Dr x (sbD n0) = Dr.set x.toInt.toNat (sbD n0 d) := by rw [updD, g1]
    refine ⟨rfl, _, _, _, pm (fi := fi.set x.toInt.toNat 1) (rc := rc.set x.toInt.toNat (n0 + 1)) (n0 := n0 + 1), ⟨S', _, _, x, _, _, rfl, q1.out, rfl, q2, q3, q4, q5⟩, ?_, rfl⟩
    show mDr Fs (updD Dr x (sbD n0)) N _
    rw [hup]
    refine ⟨of, fi.set x.toInt.toNat 1, rc.set x.toInt.toNat (n0 + 1), sg, mr, sp, ⟨l1, by rw [List.length_set]; exact l2, by rw [List.length_set]; exact l3, l4, l5⟩, ⟨p1, p2⟩, by rw [List.length_set], fun i d2 hd2 => ?_, by rw [List.length_set]; exact h5⟩
    by_cases ei : x.toInt.toNat = i
    · subst ei
      rw [List.getElem?_set_self (by omega)] at hd2
      injection hd2 with hd2
      subst hd2
      obtain ⟨r1, r2, r3, r4, r5⟩ := h4 _ d x3
      refine ⟨r1, ?_, ?_, r4, r5⟩
      · rw [List.getElem?_set_self (by omega)]
        show _ = some (if n0 + 1 = -9 then (0 : Int32) else 1)
        rw [if_neg hn9]
      · rw [List.getElem?_set_self (by omega)]
        rfl
    · rw [List.getElem?_set_ne ei] at hd2
      obtain ⟨r1, r2, r3, r4, r5⟩ := h4 _ d2 hd2
      exact ⟨r1, by rw [List.getElem?_set_ne ei]; exact r2, by rw [List.getElem?_set_ne ei]; exact r3, r4, r5⟩
theorem mLg.upd {f : yD → yD} (hf : ∀ d, (f d).2.2.1 = d.2.2.1) (h : mLg Dr gv N B) : mLg (updD Dr x f) gv N B := by
  rw [updD]
  rcases hg : gI Dr x with _ | d
  · exact h
  · obtain ⟨x1, x2, x3, -, -⟩ := gI_some hg
    obtain ⟨lg, gd, gp, gu, gw, h1, h2, h3, h4, h5⟩ := h
    show mLg (Dr.set x.toInt.toNat (f d)) gv N B
    refine ⟨lg, gd, gp, gu, gw, h1, h2, h3, fun i d2 hd2 => ?_, by rw [List.length_set]; exact h5⟩
    by_cases ei : x.toInt.toNat = i
    · subst ei
      rw [List.getElem?_set_self (by omega)] at hd2
      injection hd2 with hd2
      subst hd2
      rw [hf]
      exact h4 _ d x3
    · rw [List.getElem?_set_ne ei] at hd2
      exact h4 _ d2 hd2
end SUB
