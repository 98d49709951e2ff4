/-! CALLS OVER BLOCKS: migrate, the reference -/
section MIGBM
variable {X : List Int32} {N B B2 B3 B4 B5 B6 D Rm : List xE} {Fs : List yF} {Dr : List yD} {En : List (Int64 × Int32)} {Mv : List yMv} {cm : List Int32} {ev x y : Int32} {fd : List yFd} {to : Int32 × Int32 × Int32} {va : Int64} {gv : Nat}
/-- a new row in the reference's tables -/
theorem mDr.new {G : List xE} {of fi rc sg : List Int32} {mr mr2 : List Value} {sp : List (Option yTg)} {f : Int32} {A : List (Option yO)} {ch : List (Nat × Option yO)} (h30 : Dr.length < 30) (hD : pDr Fs En Dr) (f0 : 0 ≤ f.toInt) (hA20 : A.length = 20) (l1 : of.length = 31) (l2 : fi.length = 31) (l3 : rc.length = 31) (l4 : sg.length = 31) (p1 : sp.length = 20) (p2 : ∀ x, some x ∈ sp → tgL x) (h4 : ∀ (i : Nat) (d : yD), Dr[i]? = some d → of[i]? = some (Int32.ofNat d.1) ∧ fi[i]? = some (if d.2.2.2.1 = -9 then 0 else 1) ∧ rc[i]? = some d.2.2.2.1 ∧ sg[i]? = some d.2.2.2.2 ∧ ∀ (p : Nat) z, d.2.1[p]? = some z → ∃ v, mr[20 * i + p]? = some v ∧ yVM N v z) (h5 : ∀ (q : Nat) v, 20 * (Dr.length + 1) ≤ q → q < 600 → mr2[q]? = some v → v = .null) (k1 : mr2.length = 620) (k2 : ∀ q, ¬ (20 * Dr.length ≤ q ∧ q < 20 * Dr.length + 20) → mr2[q]? = mr[q]?) (k3 : ∀ (p : Nat) z, A[p]? = some z → ∃ v, mr2[20 * Dr.length + p]? = some v ∧ yVM (G ++ N) v z) : mDr Fs (Dr ++ [(f.toInt.toNat, A, ch, -9, 0)]) (G ++ N) ((209, .inl (14, 26, .int (Int32.ofNat (Dr.length + 1)))) :: (238, .inr (0, (of.set Dr.length f).map Value.int)) :: (240, .inr (3, (fi.set Dr.length 0).map Value.int)) :: (241, .inr (0, (rc.set Dr.length (-9)).map Value.int)) :: (242, .inr (0, (sg.set Dr.length 0).map Value.int)) :: (239, .inr (10, mr2)) :: (237, .inr (10, svl sp)) :: sD sp) := by
  refine ⟨of.set Dr.length f, fi.set Dr.length 0, rc.set Dr.length (-9), sg.set Dr.length 0, mr2, sp, ⟨by rw [List.length_set]; exact l1, by rw [List.length_set]; exact l2, by rw [List.length_set]; exact l3, by rw [List.length_set]; exact l4, k1⟩, ⟨p1, p2⟩, by rw [List.length_append]; rfl, fun i d hd => ?_, fun q v hq1 hq2 hv => .inl (h5 q v (by rw [List.length_append, List.length_singleton] at hq1; omega) hq2 hv)⟩
  by_cases ei : Dr.length = i
  · subst ei
    rw [List.getElem?_append_right (Nat.le_refl _), Nat.sub_self] at hd
    injection hd with hd
    subst hd
    refine ⟨?_, ?_, ?_, ?_, fun p z hz => k3 p z hz⟩
    · rw [List.getElem?_set_self (by omega)]
      exact congrArg some (yi_id f0).symm
    · rw [List.getElem?_set_self (by omega)]
      rfl
    · rw [List.getElem?_set_self (by omega)]
    · rw [List.getElem?_set_self (by omega)]
  · have hil : i < Dr.length := by
      have := (List.getElem?_eq_some_iff.mp hd).1
      rw [List.length_append, List.length_singleton] at this
      omega
    rw [List.getElem?_append_left hil] at hd
    obtain ⟨q1, q2, q3, q4, q5⟩ := h4 i d hd
    refine ⟨?_, ?_, ?_, ?_, fun p z hz => ?_⟩
    · rw [List.getElem?_set_ne ei]; exact q1
    · rw [List.getElem?_set_ne ei]; exact q2
    · rw [List.getElem?_set_ne ei]; exact q3
    · rw [List.getElem?_set_ne ei]; exact q4
    · obtain ⟨v, w1, w2⟩ := q5 p z hz
      have := (hD.2 d (List.mem_of_getElem? hd)).2.1
      have := (List.getElem?_eq_some_iff.mp hz).1
      exact ⟨v, by rw [k2 _ (by omega)]; exact w1, w2.mono (List.subset_append_right _ _)⟩
theorem oM_migrate (hF : pFs Fs) (hD : pDr Fs En Dr) (hmv : mvOk Fs Mv) (hf : mFs Fs N B4) (hE : mLe En B5) (hW : mWk ev fd to va B) (hm : mMv Mv cm B2) (h : mDr Fs Dr N B3) (s4 : B4 ⊆ Rm) (s5 : B5 ⊆ Rm) (sN : N ⊆ Rm) : yK X 40 1000 332 [.ref 209, .int x, .int y] (B ++ (B2 ++ (B3 ++ Rm))) 160 2360 (fun w D => w = some (.int (mgV Fs Dr ev x y)) ∧ ∃ B' B2' B3' G, D.Perm (B' ++ (B2' ++ (B3' ++ (G ++ Rm)))) ∧ mWk (mgE ev (mgX Fs Dr En Mv ev x y)) fd to va B' ∧ mMv Mv (mgC cm (mgX Fs Dr En Mv ev x y)) B2' ∧ mDr Fs (mgD y Dr (mgX Fs Dr En Mv ev x y)) (G ++ N) B3') := by
  have hW0 := hW
  have hm0 := hm
  have h0 := h
  obtain ⟨S, w, u, d0, sh, fd2, rfl, w1, rfl, w3, w4, w5, rfl⟩ := hW
  obtain ⟨m0, m1, m2, m3, jk, ⟨a0, a1, a2, a3⟩, b1, b2, b3, rfl⟩ := hm
  obtain ⟨of, fi, rc, sg, mr, sp, ⟨l1, l2, l3, l4, l5⟩, ⟨p1, p2⟩, rfl, h4, h5⟩ := h
  obtain ⟨lb, ja, js, e0, e1, e2, rfl⟩ := hE
  have h30 := hD.1
  have hE100 : En.length ≤ 100 := by omega
  have pm : ∀ {S : zS} {u : Value} {of fi rc sg : List Int32} {mr : List Value} {n : Nat} {c : List Int32} {L : List xE}, (EM S u ((238, .inr (0, of.map Value.int)) :: (240, .inr (3, fi.map Value.int)) :: (241, .inr (0, rc.map Value.int)) :: (242, .inr (0, sg.map Value.int)) :: (239, .inr (10, mr)) :: (209, .inl (14, 26, .int (Int32.ofNat n))) :: (260, .inr (0, c.map Value.int)) :: (L ++ ((237, .inr (10, svl sp)) :: (209, .inl (14, 66, .int (Int32.ofNat Mv.length))) :: (256, .inr (0, m0.map Value.int)) :: (257, .inr (0, m1.map Value.int)) :: (258, .inr (0, m2.map Value.int)) :: (259, .inr (0, m3.map Value.int)) :: (sD sp ++ Rm))))).Perm ((zE zaF S 0 zTF ++ ([(209, .inl (14, 46, u))] : List xE)) ++ ([(209, .inl (14, 66, .int (Int32.ofNat Mv.length))), (256, .inr (0, m0.map Value.int)), (257, .inr (0, m1.map Value.int)), (258, .inr (0, m2.map Value.int)), (259, .inr (0, m3.map Value.int)), (260, .inr (0, c.map Value.int))] ++ (((209, .inl (14, 26, .int (Int32.ofNat n))) :: (238, .inr (0, of.map Value.int)) :: (240, .inr (3, fi.map Value.int)) :: (241, .inr (0, rc.map Value.int)) :: (242, .inr (0, sg.map Value.int)) :: (239, .inr (10, mr)) :: (237, .inr (10, svl sp)) :: sD sp) ++ (L ++ Rm)))) := pq fun φ => by
    simp only [cn_c, cn_a, cn_n, cn_z]
    omega
  have u1 : Rm ⊆ (237, .inr (10, svl sp)) :: (209, .inl (14, 66, .int (Int32.ofNat Mv.length))) :: (256, .inr (0, m0.map Value.int)) :: (257, .inr (0, m1.map Value.int)) :: (258, .inr (0, m2.map Value.int)) :: (259, .inr (0, m3.map Value.int)) :: (sD sp ++ Rm) := fun e he => by simp [he]
  refine yK.perm (pm (L := [])).symm ?_
  refine (mK_migrate (M := N) (n := Dr.length) (js := js) (m0 := m0) (m1 := m1) (m2 := m2) (m3 := m3) (fun e he => u1 (sN he)) rfl h30 l1 l2 l3 l4 l5 (fun i d hd => ?_) (hf.use (fun e he => u1 (s4 he)) (fun e he => u1 (sN he))) hF.l20 hE100 (u1 (s5 (by simp))) (u1 (s5 (by simp))) (by simp) (by simp) (by simp) (by simp) (by simp) b3 hmv (by rw [List.length_append]; exact b2) w1).mono (Nat.le_refl _) (Nat.le_refl _) ?_
  · obtain ⟨q1, q2, q3, q4, q5⟩ := h4 i d hd
    obtain ⟨k1, k2, k3, -⟩ := hD.2 d (List.mem_of_getElem? hd)
    refine ⟨q1, k1, k2, fun p ob hp => k3 ob (List.mem_of_getElem? hp), fun p z hz => ?_⟩
    obtain ⟨v, w1, w2⟩ := q5 p z hz
    exact ⟨v, w1, w2.mono (fun e he => u1 (sN he))⟩
  rintro a D (⟨g1, rfl, rfl⟩ | ⟨dd, F, g1, g2, g3, rfl, rfl⟩ | ⟨dd, F, S', w', mr', N', g1, g2, g3, g4, rfl, rfl, q1, q2, q3, q4, q5, q6⟩)
  · obtain ⟨e1, e2⟩ := mg_1 (Fs := Fs) (Dr := Dr) (En := En) (Mv := Mv) (ev := w.1) (x := x) (y := y) g1
    rw [e1, e2]
    exact ⟨rfl, _, _, _, [], pm (L := []), hW0, hm0, h0⟩
  · obtain ⟨e1, e2⟩ := mg_3 (En := En) (Mv := Mv) g1 g2 g3
    rw [e1, e2]
    exact ⟨rfl, _, _, _, [], pm (L := []), hW0, hm0, h0⟩
  · obtain ⟨e1, e2⟩ := mg_ok (En := En) (Mv := Mv) g1 g2 g3 g4
    rw [e1, e2]
    obtain ⟨y1, y2, y3, -, -⟩ := gI_some g2
    obtain ⟨x1, x2, x3, -, -⟩ := gI_some g1
    have hA := (hD.2 _ (List.mem_of_getElem? x3)).2.2.1
    obtain ⟨o1, o2, o3⟩ := mgR_ok (F := F) (f := Int32.ofNat dd.1) (tf := y) hE100 hA Mv (List.replicate 20 none) [] w.1 (fun y hy => by
      have := (List.mem_replicate.mp hy).2
      cases this)
    obtain ⟨⟨f1, f2, f3, f4, f5, f6⟩, f7, f8, f9⟩ := q2
    have ed : (cm ++ jk).drop Mv.length = jk := by rw [← b1, List.drop_left]
    rw [ed]
    refine ⟨rfl, _, _, _, N', pm (L := N'), ⟨S', w', u, d0, sh, fd2, rfl, q1, q3, insM_fr (fd2 := fd2) w3 f5 f7 f9, lsM_fr w4 f6 f8, ⟨f1.trans w5.1, f2.trans w5.2.1, f3.trans w5.2.2⟩, f4⟩, ⟨m0, m1, m2, m3, jk, ⟨a0, a1, a2, a3⟩, o2.trans (Nat.zero_add _), ?_, b3, rfl⟩, mDr.new g4 hD y1 (o1.trans List.length_replicate) l1 l2 l3 l4 p1 p2 h4 (fun q v hq1 hq2 hv => ?_) q4 q5 q6⟩
    · show (mgR En dd.2.1 F (Int32.ofNat dd.1) y Mv (List.replicate 20 none) [] w.1).2.1.length + jk.length = 40
      rw [o2]
      show 0 + _ + _ = _
      omega
    · rw [q5 q (by omega)] at hv
      exact (h5 q v (by omega) hq2 hv).resolve_right (fun h => by omega)
end MIGBM
