/-! CALLS OVER BLOCKS: shown, figure, stats -/
def swA (Fs : List yF) (Dr : List yD) (En : List (Int64 × Int32)) (K : Nat) (ev x y : Int32) : Int32 × Option yW := match wkD Fs Dr x with
  | none => (-1, none)
  | some (d, F) => match gI F.1 y with
    | none => (-1, none)
    | some _ => if 10000 ≤ ev.toInt then (-3, none) else (if (shR F d.2.1 En K 20 y.toInt.toNat (w0R ev)).1 then 1 else 0, some (shR F d.2.1 En K 20 y.toInt.toNat (w0R ev)).2)
def fgA (Fs : List yF) (Dr : List yD) (En : List (Int64 × Int32)) (K : Nat) (ev x y : Int32) : Int32 × Option (yW × (Int64 ⊕ Int32)) := match wkD Fs Dr x with
  | none => (-1, none)
  | some (d, F) => match gI F.2.1 y with
    | none => (-1, none)
    | some _ => if 10000 ≤ ev.toInt then (-3, none) else match (figx F d.2.1 En K 12 y (w0R ev)).1 with
      | .inl z => (0, some ((figx F d.2.1 En K 12 y (w0R ev)).2, .inl z))
      | .inr z => (z.1, some ((figx F d.2.1 En K 12 y (w0R ev)).2, .inr z.2))
def swE (ev : Int32) (o : Option yW) : Int32 := match o with
  | none => ev
  | some w => w.1
def swT (to : Int32 × Int32 × Int32) (o : Option yW) : Int32 × Int32 × Int32 := match o with
  | none => to
  | some w => (w.2.1, w.2.2.1, -9)
def fgE (ev : Int32) (o : Option (yW × (Int64 ⊕ Int32))) : Int32 := match o with
  | none => ev
  | some w => w.1.1
def fgT (to : Int32 × Int32 × Int32) (o : Option (yW × (Int64 ⊕ Int32))) : Int32 × Int32 × Int32 := match o with
  | none => to
  | some (w, .inl _) => (w.2.1, w.2.2.1, -9)
  | some (w, .inr m) => (w.2.1, w.2.2.1, m)
def fgZ (va : Int64) (o : Option (yW × (Int64 ⊕ Int32))) : Int64 := match o with
  | some (_, .inl z) => z
  | _ => va
def stA (Fs : List yF) (Dr : List yD) (En : List (Int64 × Int32)) (ev x y z : Int32) : Int64 × Int32 := match (gI Fs x).bind fun F => askP F y with
  | none => (-100, ev)
  | some P => if ¬ (0 ≤ z.toInt ∧ z.toInt ≤ 2) then (-100, ev) else if 10000 ≤ ev.toInt then (-101, ev) else (stV z (stR En P.1 y x.toInt.toNat z Dr 0 0 0 ev), (stR En P.1 y x.toInt.toNat z Dr 0 0 0 ev).2.2.2)
section SHW
variable {X : List Int32} {N B B2 B3 B4 B5 B6 Rm : List xE} {Fs : List yF} {Dr : List yD} {En : List (Int64 × Int32)} {K : Nat} {ev x y z : Int32} {fd : List yFd} {to : Int32 × Int32 × Int32} {va : Int64}
theorem sw_2 {d : yD} {F : yF} (h : gI Dr x = some d) (h2 : Fs[d.1]? = some F) (h3 : gI F.1 y = none) : swA Fs Dr En K ev x y = (-1, none) := by
  rw [swA, wkD_yes h h2]
  show (match gI F.1 y with | none => _ | some _ => _) = _
  rw [h3]
theorem sw_3 {d : yD} {F : yF} {P : yPt} (h : gI Dr x = some d) (h2 : Fs[d.1]? = some F) (h3 : gI F.1 y = some P) : swA Fs Dr En K ev x y = if 10000 ≤ ev.toInt then (-3, none) else (if (shR F d.2.1 En K 20 y.toInt.toNat (w0R ev)).1 then 1 else 0, some (shR F d.2.1 En K 20 y.toInt.toNat (w0R ev)).2) := by
  rw [swA, wkD_yes h h2]
  show (match gI F.1 y with | none => _ | some _ => _) = _
  rw [h3]
theorem fg_2 {d : yD} {F : yF} (h : gI Dr x = some d) (h2 : Fs[d.1]? = some F) (h3 : gI F.2.1 y = none) : fgA Fs Dr En K ev x y = (-1, none) := by
  rw [fgA, wkD_yes h h2]
  show (match gI F.2.1 y with | none => _ | some _ => _) = _
  rw [h3]
theorem fg_3 {d : yD} {F : yF} {P : Int32 × Int32} (h : gI Dr x = some d) (h2 : Fs[d.1]? = some F) (h3 : gI F.2.1 y = some P) : fgA Fs Dr En K ev x y = if 10000 ≤ ev.toInt then (-3, none) else match (figx F d.2.1 En K 12 y (w0R ev)).1 with
      | .inl z => (0, some ((figx F d.2.1 En K 12 y (w0R ev)).2, .inl z))
      | .inr z => (z.1, some ((figx F d.2.1 En K 12 y (w0R ev)).2, .inr z.2)) := by
  rw [fgA, wkD_yes h h2]
  show (match gI F.2.1 y with | none => _ | some _ => _) = _
  rw [h3]
theorem oC_shown (hKe : K = 300) (hF : pFs Fs) (hD : pDr Fs En Dr) (hE : cLe En B3) (h : cDr Fs Dr N B4) (hW : cWk ev fd B) (hT : cTo to B2) (s3 : B3 ⊆ Rm) (s4 : B4 ⊆ Rm) (sN : N ⊆ Rm) : yK X 200 5000 162 [.ref 78, .int x, .int y] (B ++ (B2 ++ Rm)) 0 0 (fun w D => w = some (.int (swA Fs Dr En K ev x y).1) ∧ ∃ B' B2', D.Perm (B' ++ (B2' ++ Rm)) ∧ cWk (swE ev (swA Fs Dr En K ev x y).2) fd B' ∧ cTo (swT to (swA Fs Dr En K ev x y).2) B2') := by
  have hW0 := hW
  obtain ⟨R, rfl, rfl, h3⟩ := h.R
  obtain ⟨S, w, u, v, sh, sh2, fd2, rfl, w1, rfl, w3, w4⟩ := hW
  obtain rfl : B2 = _ := hT
  refine yK.perm ec_perm0 ?_
  refine (cK_shown hKe (dr_C hF hD hE h3 s4 s3 sN) w1).mono (Nat.le_refl _) (Nat.le_refl _) ?_
  rintro a D (⟨g1, rfl, rfl⟩ | ⟨r, F, g1, g2, g3, rfl, rfl⟩ | ⟨r, F, P, g1, g2, g3, g4, rfl, rfl⟩ | ⟨r, F, P, g1, g2, g3, g4, S', rfl, rfl, q1, q2⟩)
  · rw [swA, wkD_no (gI_R0 g1)]
    exact ⟨rfl, _, _, ec_perm0.symm, hW0, rfl⟩
  · rw [sw_2 (gI_R g1) g2 g3]
    exact ⟨rfl, _, _, ec_perm0.symm, hW0, rfl⟩
  · rw [sw_3 (gI_R g1) g2 g3, if_pos g4]
    exact ⟨rfl, _, _, ec_perm0.symm, hW0, rfl⟩
  · rw [sw_3 (gI_R g1) g2 g3, if_neg g4]
    obtain ⟨i1, i2⟩ := ins_fr q2 w3 w4
    exact ⟨rfl, _, _, ec_perm0.symm, ⟨S', _, _, _, sh, sh2, fd2, rfl, q1, rfl, i1, i2⟩, rfl⟩
theorem insM_fr {Q S : zS} {sh : List Bool} {fd fd2 : List yFd} (h1 : insM Q Q sh fd) (e1 : zI S 11 = zI Q 11) (e2 : zA S 17 = zA Q 17) (e3 : zA S 19 = zA Q 19) : insM S S sh fd := by
  obtain ⟨q1, ⟨c1, c2⟩, q3, q4, -⟩ := h1
  exact ⟨e1.trans q1, ⟨by rw [e2]; exact c1, by rw [e3]; exact c2⟩, by rw [e2]; exact q3, by rw [e3]; exact q4, rfl, rfl, rfl, rfl, rfl, rfl⟩
theorem lsM_fr {Q S : zS} {fd : List yFd} (h1 : lsM Q fd) (e1 : zI S 12 = zI Q 12) (e2 : zA S 18 = zA Q 18) : lsM S fd := by
  obtain ⟨q1, q2, q3, q4⟩ := h1
  exact ⟨e1.trans q1, by rw [e2]; exact q2, q3, by rw [e2]; exact q4⟩
theorem oM_shown (hKe : K = 300) (hF : pFs Fs) (hD : pDr Fs En Dr) (hE : mLe En B3) (h : mDr Fs Dr N B4) (hM : mFs Fs N B5) (hW : mWk ev fd to va B) (s3 : B3 ⊆ Rm) (s4 : B4 ⊆ Rm) (s5 : B5 ⊆ Rm) (sN : N ⊆ Rm) : yK X 1200 33000 319 [.ref 209, .int x, .int y] (B ++ Rm) 0 0 (fun w D => w = some (.int (swA Fs Dr En K ev x y).1) ∧ ∃ B', D.Perm (B' ++ Rm) ∧ mWk (swE ev (swA Fs Dr En K ev x y).2) fd (swT to (swA Fs Dr En K ev x y).2) va B') := by
  have hW0 := hW
  obtain ⟨S, w, u, d0, sh, fd2, rfl, w1, rfl, w3, w4, w5, rfl⟩ := hW
  refine yK.perm em_perm0 ?_
  refine (mK_shown hKe (dr_M hF h hD hE hM s4 s3 s5 sN) w1).mono (Nat.le_refl _) (Nat.le_refl _) ?_
  rintro a D (⟨g1, rfl, rfl⟩ | ⟨d, F, g1, g2, g3, rfl, rfl⟩ | ⟨d, F, P, g1, g2, g3, g4, rfl, rfl⟩ | ⟨d, F, P, g1, g2, g3, g4, fa, S', rfl, rfl, q1, q2, q3, q4, q5, q6, q7, q8⟩)
  · rw [swA, wkD_no g1]
    exact ⟨rfl, _, em_perm0.symm, hW0⟩
  · rw [sw_2 g1 g2 g3]
    exact ⟨rfl, _, em_perm0.symm, hW0⟩
  · rw [sw_3 g1 g2 g3, if_pos g4]
    exact ⟨rfl, _, em_perm0.symm, hW0⟩
  · rw [sw_3 g1 g2 g3, if_neg g4]
    exact ⟨rfl, _, em_perm0.symm, S', _, _, x, sh, fd2, rfl, q1.out, rfl, insM_fr (fd2 := fd2) w3 q4 q6 q8, lsM_fr w4 q5 q7, q2, q3⟩
theorem oC_figure (hKe : K = 300) (hF : pFs Fs) (hD : pDr Fs En Dr) (hE : cLe En B4) (h : cDr Fs Dr N B5) (hW : cWk ev fd B) (hT : cTo to B2) (hV : cVa va B3) (s4 : B4 ⊆ Rm) (s5 : B5 ⊆ Rm) (sN : N ⊆ Rm) : yK X 200 5000 165 [.ref 78, .int x, .int y] (B ++ (B2 ++ (B3 ++ Rm))) 0 0 (fun w D => w = some (.int (fgA Fs Dr En K ev x y).1) ∧ ∃ B' B2' B3', D.Perm (B' ++ (B2' ++ (B3' ++ Rm))) ∧ cWk (fgE ev (fgA Fs Dr En K ev x y).2) fd B' ∧ cTo (fgT to (fgA Fs Dr En K ev x y).2) B2' ∧ cVa (fgZ va (fgA Fs Dr En K ev x y).2) B3') := by
  have hW0 := hW
  obtain ⟨R, rfl, rfl, h3⟩ := h.R
  obtain ⟨S, w, u, v, sh, sh2, fd2, rfl, w1, rfl, w3, w4⟩ := hW
  obtain rfl : B2 = _ := hT
  obtain rfl : B3 = _ := hV
  refine yK.nd fun nd => ?_
  have up : Rm ⊆ [(78, .inl (11, 13, .long va))] ++ Rm := List.subset_append_right _ _
  have nd2 : (([(78, .inl (11, 13, .long va))] ++ Rm : List xE).map xkey).Nodup := by
    refine nd.sublist (List.Sublist.map _ ?_)
    exact (List.sublist_append_right _ _).trans (List.sublist_append_right _ _)
  have ix : ∀ {j : Nat} {v0 : Int64}, ([(78, .inl (11, 13, .long va))] ++ Rm : List xE)[j]? = some (78, .inl (11, 13, .long v0)) → j = 0 := by
    intro j v0 hj
    have hjl := (List.getElem?_eq_some_iff.mp hj).1
    have k0 : (([(78, .inl (11, 13, .long va))] ++ Rm : List xE).map xkey)[j]? = (([(78, .inl (11, 13, .long va))] ++ Rm : List xE).map xkey)[0]? := by
      rw [List.getElem?_map, List.getElem?_map, hj]
      rfl
    exact (List.getElem?_inj (by rw [List.length_map]; exact hjl) nd2).mp k0
  refine yK.perm ec_perm0 ?_
  refine (cK_figure hKe (dr_C hF hD hE h3 (fun e he => up (s5 he)) (fun e he => up (s4 he)) (fun e he => up (sN he))) w1 (j := 0) rfl).mono (Nat.le_refl _) (Nat.le_refl _) ?_
  rintro a D (⟨g1, rfl, rfl⟩ | ⟨r, F, g1, g2, g3, rfl, rfl⟩ | ⟨r, F, P, g1, g2, g3, g4, rfl, rfl⟩ | ⟨r, F, P, g1, g2, g3, g4, S', j, v0, m, hj, q1, q2, ⟨z, q3, rfl, rfl, rfl⟩ | ⟨z, q3, rfl, rfl, rfl⟩⟩)
  · rw [fgA, wkD_no (gI_R0 g1)]
    exact ⟨rfl, _, _, _, ec_perm0.symm, hW0, rfl, rfl⟩
  · rw [fg_2 (gI_R g1) g2 g3]
    exact ⟨rfl, _, _, _, ec_perm0.symm, hW0, rfl, rfl⟩
  · rw [fg_3 (gI_R g1) g2 g3, if_pos g4]
    exact ⟨rfl, _, _, _, ec_perm0.symm, hW0, rfl, rfl⟩
  · rw [fg_3 (gI_R g1) g2 g3, if_neg g4, q3]
    obtain ⟨i1, i2⟩ := ins_fr q2 w3 w4
    obtain rfl := ix hj
    exact ⟨rfl, _, _, [(78, .inl (11, 13, .long z))], ec_perm0.symm, ⟨S', _, _, _, sh, sh2, fd2, rfl, q1, rfl, i1, i2⟩, rfl, rfl⟩
  · rw [fg_3 (gI_R g1) g2 g3, if_neg g4, q3]
    obtain ⟨i1, i2⟩ := ins_fr q2 w3 w4
    exact ⟨rfl, _, _, _, ec_perm0.symm, ⟨S', _, _, _, sh, sh2, fd2, rfl, q1, rfl, i1, i2⟩, rfl, rfl⟩
theorem oM_figure (hKe : K = 300) (hF : pFs Fs) (hD : pDr Fs En Dr) (hE : mLe En B3) (h : mDr Fs Dr N B4) (hM : mFs Fs N B5) (hW : mWk ev fd to va B) (s3 : B3 ⊆ Rm) (s4 : B4 ⊆ Rm) (s5 : B5 ⊆ Rm) (sN : N ⊆ Rm) : yK X 1200 33000 321 [.ref 209, .int x, .int y] (B ++ Rm) 0 0 (fun w D => w = some (.int (fgA Fs Dr En K ev x y).1) ∧ ∃ B', D.Perm (B' ++ Rm) ∧ mWk (fgE ev (fgA Fs Dr En K ev x y).2) fd (fgT to (fgA Fs Dr En K ev x y).2) (fgZ va (fgA Fs Dr En K ev x y).2) B') := by
  have hW0 := hW
  obtain ⟨S, w, u, d0, sh, fd2, rfl, w1, rfl, w3, w4, w5, rfl⟩ := hW
  refine yK.perm em_perm0 ?_
  refine (mK_figure hKe (dr_M hF h hD hE hM s4 s3 s5 sN) w1).mono (Nat.le_refl _) (Nat.le_refl _) ?_
  rintro a D (⟨g1, rfl, rfl⟩ | ⟨d, F, g1, g2, g3, rfl, rfl⟩ | ⟨d, F, P, g1, g2, g3, g4, rfl, rfl⟩ | ⟨d, F, P, g1, g2, g3, g4, fa, S', rfl, q1, ⟨q2, q3⟩, ⟨q4, q5, q6, q7, q8⟩, ⟨z, k1, rfl, k3, k4⟩ | ⟨z, k1, rfl, k3, k4⟩⟩)
  · rw [fgA, wkD_no g1]
    exact ⟨rfl, _, em_perm0.symm, hW0⟩
  · rw [fg_2 g1 g2 g3]
    exact ⟨rfl, _, em_perm0.symm, hW0⟩
  · rw [fg_3 g1 g2 g3, if_pos g4]
    exact ⟨rfl, _, em_perm0.symm, hW0⟩
  · rw [fg_3 g1 g2 g3, if_neg g4, k1]
    exact ⟨rfl, _, em_perm0.symm, S', _, _, x, sh, fd2, rfl, q1.out, rfl, insM_fr (fd2 := fd2) w3 q4 q6 q8, lsM_fr w4 q5 q7, ⟨q2, q3, k3⟩, k4⟩
  · rw [fg_3 g1 g2 g3, if_neg g4, k1]
    exact ⟨rfl, _, em_perm0.symm, S', _, _, x, sh, fd2, rfl, q1.out, rfl, insM_fr (fd2 := fd2) w3 q4 q6 q8, lsM_fr w4 q5 q7, ⟨q2, q3, k3⟩, k4⟩
theorem st_no (h : ∀ F P, gI Fs x = some F → askP F y = some P → ¬ (0 ≤ z.toInt ∧ z.toInt ≤ 2)) : stA Fs Dr En ev x y z = (-100, ev) := by
  rw [stA]
  rcases hg : (gI Fs x).bind fun F => askP F y with _ | P
  · rfl
  · obtain ⟨F, h1, h2⟩ := Option.bind_eq_some_iff.mp hg
    show (if ¬ (0 ≤ z.toInt ∧ z.toInt ≤ 2) then _ else _) = _
    rw [if_pos (h F P h1 h2)]
theorem st_yes {F : yF} {P : yPt} (h : gI Fs x = some F) (h2 : askP F y = some P) (h3 : 0 ≤ z.toInt ∧ z.toInt ≤ 2) : stA Fs Dr En ev x y z = if 10000 ≤ ev.toInt then (-101, ev) else (stV z (stR En P.1 y x.toInt.toNat z Dr 0 0 0 ev), (stR En P.1 y x.toInt.toNat z Dr 0 0 0 ev).2.2.2) := by
  rw [stA, h, Option.bind_some, h2]
  show (if ¬ (0 ≤ z.toInt ∧ z.toInt ≤ 2) then _ else _) = _
  rw [if_neg (fun h => h h3)]
theorem oC_stats (hF : pFs Fs) (hD : pDr Fs En Dr) (hE : cLe En B3) (h : cDr Fs Dr N B4) (hM : cFs Fs N B5) (hW : cWk ev fd B) (hT : cTo to B2) (s3 : B3 ⊆ Rm) (s4 : B4 ⊆ Rm) (s5 : B5 ⊆ Rm) (sN : N ⊆ Rm) : yK X 50 1000 172 [.ref 78, .int x, .int y, .int z] (B ++ (B2 ++ Rm)) 0 0 (fun w D => w = some (.long (stA Fs Dr En ev x y z).1) ∧ ∃ B' B2', D.Perm (B' ++ (B2' ++ Rm)) ∧ cWk (stA Fs Dr En ev x y z).2 fd B' ∧ cTo to B2') := by
  have hW0 := hW
  obtain ⟨R, rfl, rfl, h3⟩ := h.R
  obtain ⟨S, w, u, v, sh, sh2, fd2, rfl, w1, rfl, w3, w4⟩ := hW
  obtain rfl : B2 = _ := hT
  refine yK.perm ec_perm0 ?_
  refine (cK_stats (dr_C hF hD hE h3 s4 s3 sN) (hM.use s5 sN) hF.l20 w1).mono (Nat.le_refl _) (Nat.le_refl _) ?_
  rintro a D (⟨g1, rfl, rfl⟩ | ⟨F, P, g1, g2, g3, g4, rfl, rfl⟩ | ⟨F, P, S', w', u', v', g1, g2, g3, g4, rfl, rfl, q1, q2, q3⟩)
  · rw [st_no g1]
    exact ⟨rfl, _, _, ec_perm0.symm, hW0, rfl⟩
  · rw [st_yes g1 g2 g3, if_pos g4]
    exact ⟨rfl, _, _, ec_perm0.symm, hW0, rfl⟩
  · rw [st_yes g1 g2 g3, if_neg g4]
    obtain ⟨i1, i2⟩ := ins_fr q2 w3 w4
    exact ⟨rfl, _, _, ec_perm0.symm, ⟨S', _, _, _, sh, sh2, fd2, rfl, q1, q3, i1, i2⟩, rfl⟩
theorem oM_stats (hF : pFs Fs) (hD : pDr Fs En Dr) (hE : mLe En B3) (h : mDr Fs Dr N B4) (hM : mFs Fs N B5) (hW : mWk ev fd to va B) (s3 : B3 ⊆ Rm) (s4 : B4 ⊆ Rm) (s5 : B5 ⊆ Rm) (sN : N ⊆ Rm) : yK X 50 1000 328 [.ref 209, .int x, .int y, .int z] (B ++ Rm) 0 0 (fun w D => w = some (.long (stA Fs Dr En ev x y z).1) ∧ ∃ B', D.Perm (B' ++ Rm) ∧ mWk (stA Fs Dr En ev x y z).2 fd to va B') := by
  have hW0 := hW
  obtain ⟨S, w, u, d0, sh, fd2, rfl, w1, rfl, w3, w4, w5, rfl⟩ := hW
  refine yK.perm em_perm0 ?_
  refine (mK_stats (dr_M hF h hD hE hM s4 s3 s5 sN) (h.use hD s4 sN) (hM.use s5 sN) hF.l20 w1).mono (Nat.le_refl _) (Nat.le_refl _) ?_
  rintro a D (⟨g1, rfl, rfl⟩ | ⟨F, P, g1, g2, g3, g4, rfl, rfl⟩ | ⟨F, P, S', w', u', e0, g1, g2, g3, g4, rfl, rfl, q1, ⟨⟨f1, f2, f3, f4, f5, f6⟩, f7, f8, f9⟩, q3⟩)
  · rw [st_no g1]
    exact ⟨rfl, _, em_perm0.symm, hW0⟩
  · rw [st_yes g1 g2 g3, if_pos g4]
    exact ⟨rfl, _, em_perm0.symm, hW0⟩
  · rw [st_yes g1 g2 g3, if_neg g4]
    exact ⟨rfl, _, em_perm0.symm, S', w', u', e0, sh, fd2, rfl, q1, q3, insM_fr (fd2 := fd2) w3 f5 f7 f9, lsM_fr w4 f6 f8, ⟨f1.trans w5.1, f2.trans w5.2.1, f3.trans w5.2.2⟩, f4⟩
end SHW
