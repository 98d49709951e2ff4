/-! CALLS OVER BLOCKS: keep -/
def keV (Dr : List yD) (gv : Nat) (se : ySe) : Int32 := if se.2.2.1 then (if Dr.length = 30 ∨ 400 < gv + se.2.2.2.1.length then -3 else Int32.ofNat Dr.length) else -2
def keX (Fs : List yF) (Dr : List yD) (gv : Nat) (se : ySe) : Option yD := if se.2.2.1 then (if Dr.length = 30 ∨ 400 < gv + se.2.2.2.1.length then none else (gI Fs se.1).map fun F => (se.1.toInt.toNat, layR F (plF F F.1.length 0) se.2.2.2.1 se.2.2.2.2.1, chR F (plF F F.1.length 0) se.2.2.2.1 se.2.2.2.2.1, -9, 0)) else none
def keD (Dr : List yD) (o : Option yD) : List yD := match o with
  | none => Dr
  | some d => Dr ++ [d]
def keG (gv : Nat) (o : Option yD) : Nat := match o with
  | none => gv
  | some d => gv + d.2.2.1.length
section KEEPB
variable {X : List Int32} {N B B2 B3 B4 B5 B6 D Rm : List xE} {Fs : List yF} {Dr : List yD} {En : List (Int64 × Int32)} {ev : Int32} {fd : List yFd} {to : Int32 × Int32 × Int32} {va : Int64} {gv : Nat} {se : ySe}
theorem ke_0 (h : se.2.2.1 = false) : keV Dr gv se = -2 ∧ keX Fs Dr gv se = none := by
  rw [keV, keX, h]
  exact ⟨rfl, rfl⟩
theorem ke_3 (h : se.2.2.1 = true) (h2 : Dr.length = 30 ∨ 400 < gv + se.2.2.2.1.length) : keV Dr gv se = -3 ∧ keX Fs Dr gv se = none := by
  rw [keV, keX, h]
  exact ⟨if_pos h2, if_pos h2⟩
theorem ke_ok {F : yF} (h : se.2.2.1 = true) (h2 : Dr.length < 30) (h3 : gv + se.2.2.2.1.length ≤ 400) (hF : gI Fs se.1 = some F) : keV Dr gv se = Int32.ofNat Dr.length ∧ keX Fs Dr gv se = some (se.1.toInt.toNat, layR F (plF F F.1.length 0) se.2.2.2.1 se.2.2.2.2.1, chR F (plF F F.1.length 0) se.2.2.2.1 se.2.2.2.2.1, -9, 0) := by
  have hn : ¬ (Dr.length = 30 ∨ 400 < gv + se.2.2.2.1.length) := by omega
  rw [keV, keX, h, hF]
  exact ⟨(if_pos rfl).trans (if_neg hn), (if_pos rfl).trans (if_neg hn)⟩
theorem chR_ok {F : yF} {pl : List Nat} (hok : yFok F) (h20 : F.1.length ≤ 20) (hpk : plOk F pl) : ∀ (ss cs : List Nat), (∀ s ∈ ss, s < pl.length) → vlC (mnF F pl) ss cs → ∀ c ∈ chR F pl ss cs, c.1 < 20 ∧ ∀ y, c.2 = some y → yOk En y
  | [], [], _, _, c, h => by cases h
  | [], _ :: _, _, hv, _, _ => hv.elim
  | _ :: _, [], _, hv, _, _ => hv.elim
  | s :: ss, k :: cs, hs, hv, c, h => by
    rcases List.mem_cons.mp h with rfl | h
    · obtain ⟨q, hq⟩ : ∃ q, pl[s]? = some q := ⟨_, List.getElem?_eq_getElem (hs s List.mem_cons_self)⟩
      obtain ⟨P, hP, hPk⟩ := hpk q (List.mem_of_getElem? hq)
      have hql := (List.getElem?_eq_some_iff.mp hP).1
      refine ⟨by show (pl[s]?).getD 0 < 20; rw [hq]; show q < 20; omega, fun y hy => ?_⟩
      have hy2 : anR (layR F pl ss cs) (Int32.ofNat ((pl[s]?).getD 0)) = some y := hy
      rw [anR] at hy2
      rcases hg : gI (layR F pl ss cs) (Int32.ofNat ((pl[s]?).getD 0)) with _ | z
      · rw [hg] at hy2
        cases hy2
      · rw [hg] at hy2
        have hy3 : z = some y := hy2
        rw [hy3] at hg
        exact layR_ok (sr := []) (cr := []) hok hpk ss cs (fun s h2 => hs s (List.mem_cons_of_mem _ h2)) hv.2 _ y (gI_some hg).2.2.1
    · exact chR_ok hok h20 hpk ss cs (fun s h2 => hs s (List.mem_cons_of_mem _ h2)) hv.2 c h
theorem cSe.pu (hF : pFs Fs) (h : cSe Fs se N B) (hf : (se.2.2.1 || se.2.1) = true) : ∃ F, gI Fs se.1 = some F ∧ se.2.2.2.1.length = se.2.2.2.2.1.length ∧ pD1 Fs En (se.1.toInt.toNat, layR F (plF F F.1.length 0) se.2.2.2.1 se.2.2.2.2.1, chR F (plF F F.1.length 0) se.2.2.2.1 se.2.2.2.2.1, -9, 0) := by
  obtain ⟨S, refs, sl, fv, rfl, h2, h3, h4, h5, h6, h7, h8⟩ := h
  obtain ⟨F, fa, q1, q2, q3, ⟨-, -, -, -, -, -, -, q4, q5⟩⟩ := h7 hf
  obtain ⟨x1, x2, x3, -, -⟩ := gI_some q1
  refine ⟨F, q1, q5.2.len, ⟨F, x3⟩, layR_len _ _, fun y hy => ?_, chR_ok (hF _ _ x3) (hF.l20 _ _ x3) q4 _ _ q5.1.lt q5.2⟩
  obtain ⟨k, hk⟩ := List.getElem?_of_mem hy
  exact layR_ok (sr := []) (cr := []) (hF _ _ x3) q4 _ _ q5.1.lt q5.2 k y hk
theorem oC_keep (hF : pFs Fs) (hD : pDr Fs En Dr) (hg4 : gv ≤ 400) (hs : cSe Fs se N B3) (h : cDr Fs Dr N B) (h2 : cGv gv B2) (s3 : B3 ⊆ Rm) (sN : N ⊆ Rm) : yK X 40 1000 193 [.ref 78] (B ++ (B2 ++ Rm)) 34 275 (fun w D => w = some (.int (keV Dr gv se)) ∧ ∃ B' B2' G, D.Perm (B' ++ (B2' ++ (G ++ Rm))) ∧ cDr Fs (keD Dr (keX Fs Dr gv se)) (G ++ N) B' ∧ cGv (keG gv (keX Fs Dr gv se)) B2') := by
  have h0 := h
  obtain ⟨R, rfl, rfl, h3⟩ := h.R
  obtain rfl : B2 = _ := h2
  have hs0 := hs
  obtain ⟨S, refs, sl, fv, rfl, t2, t3, t4, t5, t6, t7, t8⟩ := hs
  have l30 := hD.l30
  have pm : ((109, .inr (6, R.map (fun r => Value.ref r.1) ++ List.replicate (30 - R.length) Value.null)) :: (78, .inl (11, 8, .int (Int32.ofNat R.length))) :: (78, .inl (11, 10, .int (Int32.ofNat gv))) :: (R.flatMap dfR ++ Rm) : List xE).Perm (cRE R ++ ([(78, .inl (11, 10, .int (Int32.ofNat gv)))] ++ Rm)) := pq fun φ => by
    simp only [cn_c, cn_a, cn_n, cRE]
    omega
  refine yK.perm pm.symm ?_
  have u1 : Rm ⊆ R.flatMap dfR ++ Rm := List.subset_append_right _ _
  have hS : ∀ e ∈ zE zaS S 0 zTS, e ∈ R.flatMap dfR ++ Rm := fun e he => u1 (s3 (List.mem_append_left _ he))
  cases hfd : se.2.2.1 with
  | false =>
    rw [hfd] at t5
    obtain ⟨e1, e2⟩ := ke_0 (Fs := Fs) (Dr := R.map fun r => r.2.2.2.2.2) (gv := gv) hfd
    rw [e1, e2]
    refine (cK_keep (F := ([], [], [], (0, 0, 0), [], [])) (pl := []) (sr := []) (cr := []) (fa := 0) (fn := 0) (fd := false) (n := R.length) (gv := gv) l30 (by rw [List.length_append, List.length_map, List.length_replicate]; omega) hg4 hS t5 (fun h => by cases h)).mono (Nat.le_refl _) (Nat.le_refl _) ?_
    rintro a D (⟨-, rfl, rfl⟩ | ⟨h, -⟩ | ⟨da, aa, refs', lt', N', h, -⟩)
    · exact ⟨rfl, _, _, [], pm, h0, rfl⟩
    · cases h
    · cases h
  | true =>
    rw [hfd] at t5 t7
    obtain ⟨F, fa, q1, rfl, q3, q4⟩ := t7 rfl
    obtain ⟨x1, x2, x3, -, -⟩ := gI_some q1
    refine (cK_keep (F := F) (pl := plF F F.1.length 0) (sr := se.2.2.2.1) (cr := se.2.2.2.2.1) (fa := fa) (fn := se.1) (fd := true) (n := R.length) (gv := gv) l30 (by rw [List.length_append, List.length_map, List.length_replicate]; omega) hg4 hS t5 (fun _ => ⟨t3, u1 (s3 (List.mem_append_right _ (List.mem_cons_of_mem _ (List.mem_append_right _ List.mem_cons_self)))), q3.mono (fun e he => u1 (sN he)), hF _ _ x3, q4⟩)).mono (Nat.le_refl _) (Nat.le_refl _) ?_
    rintro a D (⟨h, -⟩ | ⟨-, g1, rfl, rfl⟩ | ⟨da, aa, refs', lt', N', -, g1, g2, rfl, rfl, g3, g4⟩)
    · cases h
    · obtain ⟨e1, e2⟩ := ke_3 (Fs := Fs) (Dr := R.map fun r => r.2.2.2.2.2) (gv := gv) hfd (g1.imp (fun h => by rw [List.length_map]; exact h) id)
      rw [e1, e2]
      exact ⟨rfl, _, _, [], pm, h0, rfl⟩
    · obtain ⟨e1, e2⟩ := ke_ok (Dr := R.map fun r => r.2.2.2.2.2) hfd (by rw [List.length_map]; exact g1) g2 q1
      rw [e1, e2]
      have sG : N ⊆ N' ++ N := List.subset_append_right _ _
      have hcl : (chR F (plF F F.1.length 0) se.2.2.2.1 se.2.2.2.2.1).length = se.2.2.2.1.length := chR_len _ _ (by
        obtain ⟨-, -, -, -, -, -, -, -, q5⟩ := q4
        exact q5.2.len)
      refine ⟨by rw [List.length_map], cRE (R ++ [(da, aa, fa, refs', lt', (se.1.toInt.toNat, layR F (plF F F.1.length 0) se.2.2.2.1 se.2.2.2.2.1, chR F (plF F F.1.length 0) se.2.2.2.1 se.2.2.2.2.1, -9, 0))]), [(78, .inl (11, 10, .int (Int32.ofNat (gv + se.2.2.2.1.length))))], N', pq fun φ => ?_, ⟨R ++ [(da, aa, fa, refs', lt', (se.1.toInt.toNat, layR F (plF F F.1.length 0) se.2.2.2.1 se.2.2.2.2.1, chR F (plF F F.1.length 0) se.2.2.2.1 se.2.2.2.2.1, -9, 0))], by rw [List.map_append]; rfl, rfl, fun r2 hr2 => ?_⟩, by rw [← hcl]; rfl⟩
      · have ey : Int32.ofNat se.1.toInt.toNat = se.1 := yi_id x1
        have en : cn φ (dfR (da, aa, fa, refs', lt', (se.1.toInt.toNat, layR F (plF F F.1.length 0) se.2.2.2.1 se.2.2.2.2.1, chR F (plF F F.1.length 0) se.2.2.2.1 se.2.2.2.2.1, -9, 0))) = φ (da, .inl (1, 0, .int se.1)) + (φ (da, .inl (1, 1, .ref fa)) + (φ (da, .inl (1, 2, .ref aa)) + (φ (da, .inl (1, 3, lt')) + (φ (da, .inl (1, 4, .int (Int32.ofNat se.2.2.2.1.length))) + (φ (da, .inl (1, 5, .int (-9))) + (φ (da, .inl (1, 6, .int 0)) + (φ (aa, .inr (7, refs'))))))))) := by
          show φ (da, .inl (1, 0, .int (Int32.ofNat se.1.toInt.toNat))) + (_ + (_ + (_ + (φ (da, .inl (1, 4, .int (Int32.ofNat (chR F (plF F F.1.length 0) se.2.2.2.1 se.2.2.2.2.1).length))) + _)))) = _
          rw [ey, hcl]
          rfl
        have ec : cn φ (cRE (R ++ [(da, aa, fa, refs', lt', (se.1.toInt.toNat, layR F (plF F F.1.length 0) se.2.2.2.1 se.2.2.2.2.1, chR F (plF F F.1.length 0) se.2.2.2.1 se.2.2.2.2.1, -9, 0))])) = φ (78, .inl (11, 8, .int (Int32.ofNat (R.length + 1)))) + φ (109, .inr (6, (R.map (fun r => Value.ref r.1) ++ List.replicate (30 - R.length) Value.null).set R.length (.ref da))) + cn φ (R.flatMap dfR) + cn φ (dfR (da, aa, fa, refs', lt', (se.1.toInt.toNat, layR F (plF F F.1.length 0) se.2.2.2.1 se.2.2.2.2.1, chR F (plF F F.1.length 0) se.2.2.2.1 se.2.2.2.2.1, -9, 0))) := cRE_app g1
        simp only [cn_c, cn_a, cn_n, ec, en]
        omega
      · rcases List.mem_append.mp hr2 with hr2 | hr2
        · exact (h3.mono sG) r2 hr2
        · obtain rfl := List.mem_singleton.mp hr2
          exact ⟨⟨F, x3, q3.mono sG⟩, g3.mono (List.subset_append_left _ _), g4.mono (List.subset_append_left _ _)⟩
end KEEPB
