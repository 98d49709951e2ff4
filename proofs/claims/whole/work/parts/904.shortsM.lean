/-! CALLS OVER BLOCKS: shortest, the reference -/
section SHOBM
variable {X : List Int32} {N B B2 B3 B4 B5 B6 D Rm : List xE} {Fs : List yF} {Dr : List yD} {En : List (Int64 × Int32)} {K : Nat} {ev x y : Int32} {fd : List yFd} {to : Int32 × Int32 × Int32} {va : Int64} {gv : Nat} {se : ySe}
theorem oM_short (hKe : K = 300) (hF : pFs Fs) (hD : pDr Fs En Dr) (hf : mFs Fs N B5) (hE : mLe En B6) (hW : mWk ev fd to va B) (hs : mSe Fs se B2) (h : mDr Fs Dr N B3) (hp : mPl B4) (s5 : B5 ⊆ Rm) (s6 : B6 ⊆ Rm) (sN : N ⊆ Rm) : yK X 1200 34000 335 [.ref 209, .int x, .int y] (B ++ (B2 ++ (B3 ++ (B4 ++ Rm)))) 36 531 (fun w D => w = some (.int (shV En K ev x y se (shG Fs ev x y))) ∧ ∃ B' B2' B3' B4', D.Perm (B' ++ (B2' ++ (B3' ++ (B4' ++ Rm)))) ∧ mWk (shE En K ev x y se (shG Fs ev x y).2) fd to va B' ∧ mSe Fs (shS En K ev x y se (shG Fs ev x y).2) B2' ∧ mDr Fs Dr N B3' ∧ mPl B4') := by
  have hW0 := hW
  have hs0 := hs
  have h0 := h
  have hp0 := hp
  obtain ⟨S, w, u, d0, sh, fd2, rfl, w1, rfl, w3, w4, w5, rfl⟩ := hW
  obtain ⟨St, rfl, hsr, hgf⟩ := hs
  obtain ⟨of, fi, rc, sg, mr, sp, ⟨l1, l2, l3, l4, l5⟩, ⟨p1, p2⟩, rfl, h4, h5⟩ := h
  obtain ⟨ps, rfl, c1, c2⟩ := hp
  obtain ⟨lb, ja, js, e0, e1, e2, rfl⟩ := hE
  have h30 := hD.1
  have pm : ∀ {S St : zS} {u : Value} {of fi rc sg : List Int32} {mr : List Value} {ps : List yTg}, (TMx S u St of fi rc sg mr ps ((209, .inl (14, 26, .int (Int32.ofNat Dr.length))) :: (237, .inr (10, svl sp)) :: (sD sp ++ Rm))).Perm ((zE zaF S 0 zTF ++ ([(209, .inl (14, 46, u))] : List xE)) ++ (zE zaT St 0 zTT ++ (((209, .inl (14, 26, .int (Int32.ofNat Dr.length))) :: (238, .inr (0, of.map Value.int)) :: (240, .inr (3, fi.map Value.int)) :: (241, .inr (0, rc.map Value.int)) :: (242, .inr (0, sg.map Value.int)) :: (239, .inr (10, mr)) :: (237, .inr (10, svl sp)) :: sD sp) ++ (((266, .inr (10, pvl ps)) :: pD ps) ++ Rm)))) := pq fun φ => by
    simp only [cn_c, cn_a, cn_n, cn_z]
    omega
  refine yK.perm pm.symm ?_
  have u1 : Rm ⊆ (209, .inl (14, 26, .int (Int32.ofNat Dr.length))) :: (237, .inr (10, svl sp)) :: (sD sp ++ Rm) := fun e he => List.mem_cons_of_mem _ (List.mem_cons_of_mem _ (List.mem_append_right _ he))
  have hle : 4 * (9 - ps.length) ≤ 36 ∧ 59 * (9 - ps.length) ≤ 531 := by omega
  refine (mK_shortest (x := x) (y := y) (En := En) (ja := ja) (js := js) (St := St) (tr := se.2.2.2.2.2) (of := of) (fi := fi) (rc := rc) (sg := sg) (mr := mr) (ps := ps) hKe (hf.use (fun e he => u1 (s5 he)) (fun e he => u1 (sN he))) hF (by omega) (u1 (s6 (by simp))) (u1 (s6 (by simp))) (u1 (s6 (by simp))) w1 w3 hsr hgf ⟨l1, l2, l3, l4⟩ l5 (fun q v hq hv => ?_) c1 c2).mono hle.1 hle.2 ?_
  · by_cases hq2 : q < 20 * Dr.length
    · obtain ⟨d, hd⟩ : ∃ d, Dr[q / 20]? = some d := ⟨_, List.getElem?_eq_getElem (by omega)⟩
      have hA20 := (hD.2 d (List.mem_of_getElem? hd)).2.1
      obtain ⟨z, hz⟩ : ∃ z, d.2.1[q % 20]? = some z := ⟨_, List.getElem?_eq_getElem (by omega)⟩
      obtain ⟨v2, k1, k2⟩ := (h4 _ d hd).2.2.2.2 _ _ hz
      rw [show 20 * (q / 20) + q % 20 = q by omega, hv] at k1
      injection k1 with k1
      rw [k1]
      cases z with
      | none =>
        have k2 : v2 = .null := k2
        rw [k2]
        exact ⟨none, rfl⟩
      | some o =>
        obtain ⟨a, rfl, k3⟩ := k2
        obtain ⟨zz, k4, -⟩ := k3.han6
        exact ⟨some zz, a, rfl, k4.mono (fun e he => u1 (sN he))⟩
    · rcases h5 q v (by omega) hq hv with rfl | ⟨-, j, t, k1, rfl⟩
      · exact ⟨none, rfl⟩
      · exact ⟨some _, t.1, rfl, tg_han.mono (fun e he => List.mem_cons_of_mem _ (List.mem_cons_of_mem _ (List.mem_append_left _ (sD_mem (List.mem_of_getElem? k1) he))))⟩
  rintro a D (⟨g1, rfl, St', rfl, k1⟩ | ⟨F, g1, g2, g3, g4, rfl, St', rfl, k1⟩ | ⟨F, g1, g2, g3, g4, St', S', w', u', d0', of', fi', rc', sg', mr', ps', sh', fd', rfl, rfl, k1, k2, k3, k4, k5, k6, k7, k8, k9, k10, ⟨r1, r2, r3, r4⟩, k11, k12, k13, k14⟩)
  · rw [sh_1 g1]
    exact ⟨rfl, _, _, _, _, pm, hW0, ⟨St', rfl, k1, hgf⟩, h0, hp0⟩
  · rw [sh_2 g1 g2 g3, if_pos g4]
    exact ⟨rfl, _, _, _, _, pm, hW0, ⟨St', rfl, k1, hgf⟩, h0, hp0⟩
  · rw [sh_2 g1 g2 g3, if_neg g4]
    obtain ⟨x1, x2, x3, -, -⟩ := gI_some g1
    have x9 : x ≠ -9 := fun h => by
      rw [h] at x1
      exact absurd x1 (by decide)
    obtain ⟨i1, i2, i3, i4, i5, i6, i7, i8, i9, i10⟩ := id k3
    refine ⟨rfl, _, _, _, _, pm, ⟨S', w', u', d0', sh', fd', rfl, k1, k2, ⟨i1, i2, i3, i4, rfl, rfl, rfl, rfl, rfl, rfl⟩, lsM_fr w4 i9 i10, ⟨i5.trans w5.1, i6.trans w5.2.1, i7.trans w5.2.2⟩, i8⟩, ⟨St', rfl, ⟨k8, k4, k5, k6, .inr ⟨x9, F, g1, k7, k9, k10⟩⟩, shT_go⟩, ⟨of', fi', rc', sg', mr', sp, ⟨r1.1, r2.1, r3.1, r4.1, k11⟩, ⟨p1, p2⟩, rfl, fun i d hd => ?_, fun q v hq1 hq2 hv => h5 q v hq1 hq2 (by rw [← k12 q hq2]; exact hv)⟩, ps', rfl, k13, k14⟩
    have hil := (List.getElem?_eq_some_iff.mp hd).1
    obtain ⟨q1, q2, q3, q4, q5⟩ := h4 i d hd
    refine ⟨by rw [r1.2 i (by omega)]; exact q1, by rw [r2.2 i (by omega)]; exact q2, by rw [r3.2 i (by omega)]; exact q3, by rw [r4.2 i (by omega)]; exact q4, fun p z hz => ?_⟩
    obtain ⟨v, t1, t2⟩ := q5 p z hz
    have := (hD.2 d (List.mem_of_getElem? hd)).2.1
    have := (List.getElem?_eq_some_iff.mp hz).1
    exact ⟨v, by rw [k12 _ (by omega)]; exact t1, t2⟩
end SHOBM
