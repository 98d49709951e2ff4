/-! CALLS OVER BLOCKS: migrate -/
abbrev yMg : Type := List (Option yO) × List Int32 × Int32
def mgV (Fs : List yF) (Dr : List yD) (ev x y : Int32) : Int32 := match gI Dr x, gI Fs y with
  | some _, some _ => if 10000 ≤ ev.toInt ∨ Dr.length = 30 then -3 else Int32.ofNat Dr.length
  | _, _ => -1
noncomputable def mgX (Fs : List yF) (Dr : List yD) (En : List (Int64 × Int32)) (Mv : List yMv) (ev x y : Int32) : Option yMg := match gI Dr x, gI Fs y with
  | some d, some F => if 10000 ≤ ev.toInt ∨ Dr.length = 30 then none else some (mgR En d.2.1 F (Int32.ofNat d.1) y Mv (List.replicate 20 none) [] ev)
  | _, _ => none
def mgD (y : Int32) (Dr : List yD) (o : Option yMg) : List yD := match o with
  | none => Dr
  | some r => Dr ++ [(y.toInt.toNat, r.1, [], -9, 0)]
def mgC (cm : List Int32) (o : Option yMg) : List Int32 := match o with
  | none => cm
  | some r => r.2.1
def mgE (ev : Int32) (o : Option yMg) : Int32 := match o with
  | none => ev
  | some r => r.2.2
section MIGB
variable {X : List Int32} {N B B2 B3 B4 B5 B6 D Rm : List xE} {Fs : List yF} {Dr : List yD} {En : List (Int64 × Int32)} {Mv : List yMv} {cm : List Int32} {ev x y : Int32} {fd : List yFd} {to : Int32 × Int32 × Int32} {va : Int64} {gv : Nat}
theorem mg_1 (h : gI Dr x = none ∨ gI Fs y = none) : mgV Fs Dr ev x y = -1 ∧ mgX Fs Dr En Mv ev x y = none := by
  rw [mgV, mgX]
  rcases h with h | h
  · rw [h]
    exact ⟨rfl, rfl⟩
  · rw [h]
    cases gI Dr x with
    | none => exact ⟨rfl, rfl⟩
    | some d => exact ⟨rfl, rfl⟩
theorem mg_3 {d : yD} {F : yF} (h : gI Dr x = some d) (h2 : gI Fs y = some F) (h3 : 10000 ≤ ev.toInt ∨ Dr.length = 30) : mgV Fs Dr ev x y = -3 ∧ mgX Fs Dr En Mv ev x y = none := by
  rw [mgV, mgX, h, h2]
  exact ⟨if_pos h3, if_pos h3⟩
theorem mg_ok {d : yD} {F : yF} (h : gI Dr x = some d) (h2 : gI Fs y = some F) (h3 : ¬ 10000 ≤ ev.toInt) (h4 : Dr.length < 30) : mgV Fs Dr ev x y = Int32.ofNat Dr.length ∧ mgX Fs Dr En Mv ev x y = some (mgR En d.2.1 F (Int32.ofNat d.1) y Mv (List.replicate 20 none) [] ev) := by
  rw [mgV, mgX, h, h2]
  exact ⟨if_neg (by omega), if_neg (by omega)⟩
theorem dr_C2 {R : List yDR} (hF : pFs Fs) (hD : pDr Fs En (R.map (fun r => r.2.2.2.2.2))) (hE : cLe En B2) (h : cRs Fs R N) (s : R.flatMap dfR ⊆ D) (s2 : B2 ⊆ D) (sN : N ⊆ D) : ∀ r ∈ R, (∀ e ∈ dfR r, e ∈ D) ∧ ∃ F, Fs[r.2.2.2.2.2.1]? = some F ∧ HC D r.2.2.1 r.2.1 F r.2.2.2.2.2.2.1 En := by
  obtain ⟨ja, jb, e1, e2, rfl⟩ := hE
  intro r hr
  refine ⟨fun e he => s (List.mem_flatMap.mpr ⟨r, hr, he⟩), ?_⟩
  obtain ⟨⟨F, q1, q2⟩, q3, q4⟩ := h r hr
  obtain ⟨-, -, k3, -⟩ := hD.2 _ (List.mem_map.mpr ⟨r, hr, rfl⟩)
  refine ⟨F, q1, q2.mono sN, hF _ _ q1, ⟨r.2.2.2.1, ?_, q3.mono sN⟩, fun p y hp => k3 y (List.mem_of_getElem? hp), by omega, s2 (by simp), ja, s2 (by simp)⟩
  refine s (List.mem_flatMap.mpr ⟨r, hr, ?_⟩)
  simp [dfR, dfE]
theorem vs_set {R : List yDR} {r : yDR} (h : R.length < 30) : (R.map (fun r => Value.ref r.1) ++ List.replicate (30 - R.length) Value.null).set R.length (.ref r.1) = (R ++ [r]).map (fun r => Value.ref r.1) ++ List.replicate (30 - (R ++ [r]).length) Value.null := by
  rw [List.set_append_right _ _ (by rw [List.length_map]; omega), List.length_map, Nat.sub_self, List.map_append, List.length_append, List.length_singleton, show 30 - R.length = (30 - (R.length + 1)) + 1 by omega, List.replicate_succ, List.append_assoc]
  rfl
theorem cRE_app {φ : xE → Nat} {R : List yDR} {r : yDR} (h : R.length < 30) : cn φ (cRE (R ++ [r])) = φ (78, .inl (11, 8, .int (Int32.ofNat (R.length + 1)))) + φ (109, .inr (6, (R.map (fun r => Value.ref r.1) ++ List.replicate (30 - R.length) Value.null).set R.length (.ref r.1))) + cn φ (R.flatMap dfR) + cn φ (dfR r) := by
  rw [vs_set h, cRE, cn_c, cn_c, List.flatMap_append, cn_a, List.length_append]
  have : cn φ (List.flatMap dfR [r]) = cn φ (dfR r) := by
    rw [List.flatMap_cons, List.flatMap_nil, List.append_nil]
  rw [this]
  show φ (78, .inl (11, 8, .int (Int32.ofNat (R.length + 1)))) + _ = _
  omega
theorem oC_migrate (hF : pFs Fs) (hD : pDr Fs En Dr) (hmv : mvOk Fs Mv) (hf : cFs Fs N B5) (hE : cLe En B6) (hW : cWk ev fd B) (hT : cTo to B2) (hm : cMv Mv cm B3) (h : cDr Fs Dr N B4) (s5 : B5 ⊆ Rm) (s6 : B6 ⊆ Rm) (sN : N ⊆ Rm) : yK X 40 1000 175 [.ref 78, .int x, .int y] (B ++ (B2 ++ (B3 ++ (B4 ++ Rm)))) 122 1147 (fun w D => w = some (.int (mgV Fs Dr ev x y)) ∧ ∃ B' B2' B3' B4' G, D.Perm (B' ++ (B2' ++ (B3' ++ (B4' ++ (G ++ Rm))))) ∧ cWk (mgE ev (mgX Fs Dr En Mv ev x y)) fd B' ∧ cTo to B2' ∧ cMv Mv (mgC cm (mgX Fs Dr En Mv ev x y)) B3' ∧ cDr Fs (mgD y Dr (mgX Fs Dr En Mv ev x y)) (G ++ N) B4') := by
  have hW0 := hW
  have hm0 := hm
  have h0 := h
  obtain ⟨R, rfl, rfl, h3⟩ := h.R
  have hE100 : En.length ≤ 100 := by
    obtain ⟨ja, jb, e1, e2, -⟩ := id hE
    omega
  have hF2 : mvOk Fs Mv := hmv
  obtain ⟨S, w, u, v, sh, sh2, fd2, rfl, w1, rfl, w3, w4⟩ := hW
  obtain rfl : B2 = _ := hT
  obtain ⟨jk, m1, m2, rfl⟩ := hm
  have l30 := hD.l30
  have pm : (EC S u v [to.1, to.1, to.2.1, to.2.2] ((167, .inr (0, (cm ++ List.replicate (40 - Mv.length) (-9)).map Value.int)) :: (109, .inr (6, R.map (fun r => Value.ref r.1) ++ List.replicate (30 - R.length) Value.null)) :: (78, .inl (11, 8, .int (Int32.ofNat R.length))) :: ((78, .inl (11, 16, .int (Int32.ofNat Mv.length))) :: (mvE 0 (Mv ++ jk) ++ (R.flatMap dfR ++ Rm))))).Perm ((zE zaE S 0 zTE ++ ([(110, .inl (10, 2, u)), (110, .inl (10, 3, v))] : List xE)) ++ ([(125, .inr (0, ([to.1, to.1, to.2.1, to.2.2] : List Int32).map Value.int))] ++ (((78, .inl (11, 16, .int (Int32.ofNat Mv.length))) :: (167, .inr (0, (cm ++ List.replicate (40 - Mv.length) (-9)).map Value.int)) :: mvE 0 (Mv ++ jk)) ++ (cRE R ++ Rm)))) := pq fun φ => by
    simp only [cn_c, cn_a, cn_n, cn_z, cRE]
    omega
  refine yK.perm pm.symm ?_
  refine yK.nd fun nd => ?_
  have u1 : Rm ⊆ (78, .inl (11, 16, .int (Int32.ofNat Mv.length))) :: (mvE 0 (Mv ++ jk) ++ (R.flatMap dfR ++ Rm)) := fun e he => List.mem_cons_of_mem _ (List.mem_append_right _ (List.mem_append_right _ he))
  have u2 : R.flatMap dfR ⊆ (78, .inl (11, 16, .int (Int32.ofNat Mv.length))) :: (mvE 0 (Mv ++ jk) ++ (R.flatMap dfR ++ Rm)) := fun e he => List.mem_cons_of_mem _ (List.mem_append_right _ (List.mem_append_left _ he))
  have nd2 : (((78, .inl (11, 16, .int (Int32.ofNat Mv.length))) :: (mvE 0 (Mv ++ jk) ++ (R.flatMap dfR ++ Rm))).map xkey).Nodup := by
    refine nd.sublist (List.Sublist.map _ ?_)
    refine List.Sublist.trans ?_ (List.sublist_append_right _ _)
    exact ((((((List.sublist_cons_self _ _).trans (List.sublist_cons_self _ _)).trans (List.sublist_cons_self _ _)).trans (List.sublist_cons_self _ _)).trans (List.sublist_cons_self _ _)).trans (List.sublist_cons_self _ _))
  have c0 : ((106, .inl (5, 2, .int (Int32.ofNat En.length))) : xE) ∈ Rm := by
    obtain ⟨ja, jb, e1, e2, rfl⟩ := id hE
    exact s6 (by simp)
  obtain ⟨jb, c1⟩ : ∃ jb : List Int32, ((108, .inr (0, (En.map Prod.snd ++ jb).map Value.int)) : xE) ∈ Rm := by
    obtain ⟨ja, jb, e1, e2, rfl⟩ := id hE
    exact ⟨jb, s6 (by simp)⟩
  have c40 : (cm ++ List.replicate (40 - Mv.length) (-9)).length = 40 := by
    rw [List.length_append, List.length_replicate]
    omega
  refine (cK_migrate (M := N) (n := R.length) (jb := jb) (fun e he => u1 (sN he)) (fun r hr => ⟨r.2.2.2.1, u2 (List.mem_flatMap.mpr ⟨r, hr, by simp [dfR, dfE]⟩), (h3 r hr).2.1⟩) l30 (by rw [List.length_append, List.length_map, List.length_replicate]; omega) c40 ⟨l30, inEC (List.mem_cons_of_mem _ (List.mem_cons_of_mem _ List.mem_cons_self)), inEC (List.mem_cons_of_mem _ List.mem_cons_self)⟩ (dr_C2 hF hD hE h3 u2 (fun e he => u1 (s6 he)) (fun e he => u1 (sN he))) (hf.use (fun e he => u1 (s5 he)) (fun e he => u1 (sN he))) hF.l20 hE100 (u1 c0) (u1 c1) (by simp) (fun i m hi => ?_) hmv w1).mono (Nat.le_refl _) (Nat.le_refl _) ?_
  · have hil := (List.getElem?_eq_some_iff.mp hi).1
    have := mvE_at (i := 0) (show (Mv ++ jk)[i]? = some m by rw [List.getElem?_append_left hil]; exact hi)
    rw [Nat.zero_add] at this
    exact List.mem_cons_of_mem _ (List.mem_append_left _ (List.mem_of_getElem? this))
  have same : mgX Fs (R.map fun r => r.2.2.2.2.2) En Mv w.1 x y = none → ∃ B' B2' B3' B4' G, (EC S u v [to.1, to.1, to.2.1, to.2.2] ((167, .inr (0, (cm ++ List.replicate (40 - Mv.length) (-9)).map Value.int)) :: (109, .inr (6, R.map (fun r => Value.ref r.1) ++ List.replicate (30 - R.length) Value.null)) :: (78, .inl (11, 8, .int (Int32.ofNat R.length))) :: ((78, .inl (11, 16, .int (Int32.ofNat Mv.length))) :: (mvE 0 (Mv ++ jk) ++ (R.flatMap dfR ++ Rm))))).Perm (B' ++ (B2' ++ (B3' ++ (B4' ++ (G ++ Rm))))) ∧ cWk (mgE w.1 (mgX Fs (R.map fun r => r.2.2.2.2.2) En Mv w.1 x y)) fd B' ∧ cTo to B2' ∧ cMv Mv (mgC cm (mgX Fs (R.map fun r => r.2.2.2.2.2) En Mv w.1 x y)) B3' ∧ cDr Fs (mgD y (R.map fun r => r.2.2.2.2.2) (mgX Fs (R.map fun r => r.2.2.2.2.2) En Mv w.1 x y)) (G ++ N) B4' := by
    intro hX
    rw [hX]
    exact ⟨_, _, _, _, [], pm, hW0, rfl, hm0, h0⟩
  rintro a D (⟨g1, rfl, rfl⟩ | ⟨r, F, g1, g2, g3, rfl, rfl⟩ | ⟨r, F, fa, da, aa, S', w', refs', N', g1, g2, g3, g4, ⟨g5, -⟩, rfl, rfl, q1, q2, q3, q4⟩)
  · obtain ⟨e1, e2⟩ := mg_1 (Fs := Fs) (Dr := R.map fun r => r.2.2.2.2.2) (En := En) (Mv := Mv) (ev := w.1) (x := x) (y := y) (g1.imp gI_R0 id)
    rw [e1]
    exact ⟨rfl, same e2⟩
  · obtain ⟨e1, e2⟩ := mg_3 (En := En) (Mv := Mv) (gI_R g1) g2 (g3.imp id (fun h => by rw [List.length_map]; exact h))
    rw [e1]
    exact ⟨rfl, same e2⟩
  · obtain ⟨e1, e2⟩ := mg_ok (En := En) (Mv := Mv) (gI_R g1) g2 g3 (by rw [List.length_map]; exact g4)
    rw [e1, e2]
    obtain ⟨y1, y2, y3, -, -⟩ := gI_some g2
    obtain ⟨x1, x2, x3, -, -⟩ := gI_some g1
    have hA := (hD.2 _ (List.mem_map.mpr ⟨r, List.mem_of_getElem? x3, rfl⟩)).2.2.1
    obtain ⟨o1, o2, o3⟩ := mgR_ok (F := F) (f := Int32.ofNat r.2.2.2.2.2.1) (tf := y) hE100 hA Mv (List.replicate 20 none) [] w.1 (fun y hy => by
      have := (List.mem_replicate.mp hy).2
      cases this)
    obtain ⟨i1, i2⟩ := ins_fr q2 w3 w4
    have sG : N ⊆ N' ++ N := List.subset_append_right _ _
    refine ⟨by rw [List.length_map], (zE zaE S' 0 zTE ++ ([(110, .inl (10, 2, u)), (110, .inl (10, 3, v))] : List xE)), [(125, .inr (0, ([to.1, to.1, to.2.1, to.2.2] : List Int32).map Value.int))], (78, .inl (11, 16, .int (Int32.ofNat Mv.length))) :: (167, .inr (0, ((mgR En r.2.2.2.2.2.2.1 F (Int32.ofNat r.2.2.2.2.2.1) y Mv (List.replicate 20 none) [] w.1).2.1 ++ List.replicate (40 - Mv.length) (-9)).map Value.int)) :: mvE 0 (Mv ++ jk), cRE (R ++ [(da, aa, fa, refs', .null, (y.toInt.toNat, (mgR En r.2.2.2.2.2.2.1 F (Int32.ofNat r.2.2.2.2.2.1) y Mv (List.replicate 20 none) [] w.1).1, [], -9, 0))]), N', pq fun φ => ?_, ⟨S', w', u, v, sh, sh2, fd2, rfl, q1, q3, i1, i2⟩, rfl, ⟨jk, m1, o2.trans (Nat.zero_add _), rfl⟩, ⟨R ++ [(da, aa, fa, refs', .null, (y.toInt.toNat, (mgR En r.2.2.2.2.2.2.1 F (Int32.ofNat r.2.2.2.2.2.1) y Mv (List.replicate 20 none) [] w.1).1, [], -9, 0))], by rw [List.map_append]; rfl, rfl, fun r2 hr2 => ?_⟩⟩
    · have ey : Int32.ofNat y.toInt.toNat = y := yi_id y1
      have en : cn φ (dfR (da, aa, fa, refs', .null, (y.toInt.toNat, (mgR En r.2.2.2.2.2.2.1 F (Int32.ofNat r.2.2.2.2.2.1) y Mv (List.replicate 20 none) [] w.1).1, [], -9, 0))) = φ (da, .inl (1, 0, .int y)) + (φ (da, .inl (1, 1, .ref fa)) + (φ (da, .inl (1, 2, .ref aa)) + (φ (da, .inl (1, 3, .null)) + (φ (da, .inl (1, 4, .int 0)) + (φ (da, .inl (1, 5, .int (-9))) + (φ (da, .inl (1, 6, .int 0)) + (φ (aa, .inr (7, refs'))))))))) := by
        show φ (da, .inl (1, 0, .int (Int32.ofNat y.toInt.toNat))) + _ = _
        rw [ey]
        rfl
      have ec := cRE_app (φ := φ) (r := (da, aa, fa, refs', .null, (y.toInt.toNat, (mgR En r.2.2.2.2.2.2.1 F (Int32.ofNat r.2.2.2.2.2.1) y Mv (List.replicate 20 none) [] w.1).1, [], -9, 0))) g4
      have ec' : cn φ (cRE (R ++ [(da, aa, fa, refs', .null, (y.toInt.toNat, (mgR En r.2.2.2.2.2.2.1 F (Int32.ofNat r.2.2.2.2.2.1) y Mv (List.replicate 20 none) [] w.1).1, [], -9, 0))])) = φ (78, .inl (11, 8, .int (Int32.ofNat (R.length + 1)))) + φ (109, .inr (6, (R.map (fun r => Value.ref r.1) ++ List.replicate (30 - R.length) Value.null).set R.length (.ref da))) + cn φ (R.flatMap dfR) + cn φ (dfR (da, aa, fa, refs', .null, (y.toInt.toNat, (mgR En r.2.2.2.2.2.2.1 F (Int32.ofNat r.2.2.2.2.2.1) y Mv (List.replicate 20 none) [] w.1).1, [], -9, 0))) := ec
      simp only [cn_c, cn_a, cn_n, cn_z, ec', en]
      omega
    · rcases List.mem_append.mp hr2 with hr2 | hr2
      · exact (h3.mono sG) r2 hr2
      · obtain rfl := List.mem_singleton.mp hr2
        exact ⟨⟨F, y3, (hf.fa (fun e he => u1 (s5 he)) nd2 g2 g5).mono sG⟩, q4, rfl⟩
end MIGB
