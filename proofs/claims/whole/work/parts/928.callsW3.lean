/-! CALLS OVER THE TWO HALVES: check, submit, shown, figure, stats, migrate, take, keep, short, form -/
section CALLSW3
variable {t dk cm : List Int32} {Fs : List yF} {En : List (Int64 × Int32)} {z : Option yO} {Dr : List yD} {gv : Nat} {n0 : Int32} {Mv : List yMv} {ev : Int32} {fd : List yFd} {to : Int32 × Int32 × Int32} {va : Int64} {se : ySe} {X : List Int32} {K : Nat} {x y p q i j n e : Int32}
variable {D N B : List xE}
theorem IC.byt (h : IC t dk cm Fs En z Dr gv n0 Mv ev fd to va se N B) : byR dk := by
  refine h.elim ?_
  intro c_tp c_ps c_fs c_le c_dk c_dr c_gv c_rc c_mv c_wk c_to c_va c_se c_kd eB Ctp Cps Cfs Cle Cdk Cdr Cgv Crc Cmv Cwk Cto Cva Cse Ckd
  obtain ⟨S, jk, bs, k1, k2, k3, k4, k5, k6⟩ := Ckd
  exact fun b hb => k5 b (List.mem_append_left _ hb)
theorem IC.ke (hF : pFs Fs) (h : IC t dk cm Fs En z Dr gv n0 Mv ev fd to va se N B) : ∀ d, keX Fs Dr gv se = some d → pD1 Fs En d ∧ gv + d.2.2.1.length ≤ 400 ∧ Dr.length ≠ 30 ∧ d.2.2.2.1 = -9 := by
  refine h.elim ?_
  intro c_tp c_ps c_fs c_le c_dk c_dr c_gv c_rc c_mv c_wk c_to c_va c_se c_kd eB Ctp Cps Cfs Cle Cdk Cdr Cgv Crc Cmv Cwk Cto Cva Cse Ckd
  exact keX_inv hF Cse
theorem kC_check (hKe : K = 300) (q0 : pAll t Fs En z Dr gv n0 Mv se) : kX X 129 [.ref 78, .int x] (.int (ckA Fs Dr En K ev x).1) (IC t dk cm Fs En z Dr gv n0 Mv ev fd to va se) (IC t dk cm Fs En z Dr gv n0 Mv (wkE ev (ckA Fs Dr En K ev x).2) (wkF fd (ckA Fs Dr En K ev x).2) (wkT to (ckA Fs Dr En K ev x).2) va se) := by
  obtain ⟨q1, q2, q3, q4, q5, q6, q7, q8, q9⟩ := q0
  intro N B Rm h sN
  refine h.elim ?_
  intro c_tp c_ps c_fs c_le c_dk c_dr c_gv c_rc c_mv c_wk c_to c_va c_se c_kd eB Ctp Cps Cfs Cle Cdk Cdr Cgv Crc Cmv Cwk Cto Cva Cse Ckd
  subst eB
  have s_le : c_le ⊆ c_tp ++ (c_ps ++ (c_fs ++ (c_le ++ (c_dk ++ (c_dr ++ (c_gv ++ (c_rc ++ (c_mv ++ (c_va ++ (c_se ++ (c_kd ++ Rm))))))))))) := fun e he => List.mem_append_right _ (List.mem_append_right _ (List.mem_append_right _ (List.mem_append_left _ he)))
  have s_dr : c_dr ⊆ c_tp ++ (c_ps ++ (c_fs ++ (c_le ++ (c_dk ++ (c_dr ++ (c_gv ++ (c_rc ++ (c_mv ++ (c_va ++ (c_se ++ (c_kd ++ Rm))))))))))) := fun e he => List.mem_append_right _ (List.mem_append_right _ (List.mem_append_right _ (List.mem_append_right _ (List.mem_append_right _ (List.mem_append_left _ he)))))
  have s_N : N ⊆ c_tp ++ (c_ps ++ (c_fs ++ (c_le ++ (c_dk ++ (c_dr ++ (c_gv ++ (c_rc ++ (c_mv ++ (c_va ++ (c_se ++ (c_kd ++ Rm))))))))))) := fun e he => List.mem_append_right _ (List.mem_append_right _ (List.mem_append_right _ (List.mem_append_right _ (List.mem_append_right _ (List.mem_append_right _ (List.mem_append_right _ (List.mem_append_right _ (List.mem_append_right _ (List.mem_append_right _ (List.mem_append_right _ (List.mem_append_right _ (sN he))))))))))))
  refine yK.perm (D2 := c_wk ++ (c_to ++ (c_tp ++ (c_ps ++ (c_fs ++ (c_le ++ (c_dk ++ (c_dr ++ (c_gv ++ (c_rc ++ (c_mv ++ (c_va ++ (c_se ++ (c_kd ++ Rm)))))))))))))) (pq fun φ => by simp only [cn_a]; omega) (((oC_check hKe q2 q5 Cle Cdr Cwk Cto s_le s_dr s_N).up (yle rfl) (yle rfl)).mono (yle rfl) (yle rfl) ?_)
  rintro w D ⟨rfl, B0, B1, hp, H0, H1⟩
  exact ⟨rfl, c_tp ++ (c_ps ++ (c_fs ++ (c_le ++ (c_dk ++ (c_dr ++ (c_gv ++ (c_rc ++ (c_mv ++ (B0 ++ (B1 ++ (c_va ++ (c_se ++ c_kd)))))))))))), [], hp.trans (pq fun φ => by simp only [cn_a, cn_n]; omega), IC.mk Ctp Cps Cfs Cle Cdk Cdr Cgv Crc Cmv H0 H1 Cva Cse Ckd⟩
theorem kM_check (hKe : K = 300) (q0 : pAll t Fs En z Dr gv n0 Mv se) : kX X 293 [.ref 209, .int x] (.int (ckA Fs Dr En K ev x).1) (IM t dk cm Fs En z Dr gv n0 Mv ev fd to va se) (IM t dk cm Fs En z Dr gv n0 Mv (wkE ev (ckA Fs Dr En K ev x).2) (wkF fd (ckA Fs Dr En K ev x).2) (wkT to (ckA Fs Dr En K ev x).2) va se) := by
  obtain ⟨q1, q2, q3, q4, q5, q6, q7, q8, q9⟩ := q0
  intro N B Rm h sN
  refine h.elim ?_
  intro e_tp e_ps e_fs e_le e_dk e_dr e_lg e_rc e_mv e_wk e_pl e_se e_kd eB Etp Eps Efs Ele Edk Edr Elg Erc Emv Ewk Epl Ese Ekd
  subst eB
  have s_le : e_le ⊆ e_tp ++ (e_ps ++ (e_fs ++ (e_le ++ (e_dk ++ (e_dr ++ (e_lg ++ (e_rc ++ (e_mv ++ (e_pl ++ (e_se ++ (e_kd ++ Rm))))))))))) := fun e he => List.mem_append_right _ (List.mem_append_right _ (List.mem_append_right _ (List.mem_append_left _ he)))
  have s_dr : e_dr ⊆ e_tp ++ (e_ps ++ (e_fs ++ (e_le ++ (e_dk ++ (e_dr ++ (e_lg ++ (e_rc ++ (e_mv ++ (e_pl ++ (e_se ++ (e_kd ++ Rm))))))))))) := fun e he => List.mem_append_right _ (List.mem_append_right _ (List.mem_append_right _ (List.mem_append_right _ (List.mem_append_right _ (List.mem_append_left _ he)))))
  have s_fs : e_fs ⊆ e_tp ++ (e_ps ++ (e_fs ++ (e_le ++ (e_dk ++ (e_dr ++ (e_lg ++ (e_rc ++ (e_mv ++ (e_pl ++ (e_se ++ (e_kd ++ Rm))))))))))) := fun e he => List.mem_append_right _ (List.mem_append_right _ (List.mem_append_left _ he))
  have s_N : N ⊆ e_tp ++ (e_ps ++ (e_fs ++ (e_le ++ (e_dk ++ (e_dr ++ (e_lg ++ (e_rc ++ (e_mv ++ (e_pl ++ (e_se ++ (e_kd ++ Rm))))))))))) := fun e he => List.mem_append_right _ (List.mem_append_right _ (List.mem_append_right _ (List.mem_append_right _ (List.mem_append_right _ (List.mem_append_right _ (List.mem_append_right _ (List.mem_append_right _ (List.mem_append_right _ (List.mem_append_right _ (List.mem_append_right _ (List.mem_append_right _ (sN he))))))))))))
  refine yK.perm (D2 := e_wk ++ (e_tp ++ (e_ps ++ (e_fs ++ (e_le ++ (e_dk ++ (e_dr ++ (e_lg ++ (e_rc ++ (e_mv ++ (e_pl ++ (e_se ++ (e_kd ++ Rm))))))))))))) (pq fun φ => by simp only [cn_a]; omega) (((oM_check hKe q2 q5 Ele Edr Efs Ewk s_le s_dr s_fs s_N).up (yle rfl) (yle rfl)).mono (yle rfl) (yle rfl) ?_)
  rintro w D ⟨rfl, B0, hp, H0⟩
  exact ⟨rfl, e_tp ++ (e_ps ++ (e_fs ++ (e_le ++ (e_dk ++ (e_dr ++ (e_lg ++ (e_rc ++ (e_mv ++ (B0 ++ (e_pl ++ (e_se ++ e_kd))))))))))), [], hp.trans (pq fun φ => by simp only [cn_a, cn_n]; omega), IM.mk Etp Eps Efs Ele Edk Edr Elg Erc Emv H0 Epl Ese Ekd⟩
theorem op_check (hKe : K = 300) (h : Inv D) : yP2 Value.int X 129 293 [.int x] D := by
  obtain ⟨t, dk, cm, Fs, En, z, Dr, gv, n0, Mv, ev, fd, to, va, se, N, Bc, Bm, pm0, q0, h1, h2⟩ := h
  refine yp_both (f := Value.int) (r := (ckA Fs Dr En K ev x).1) (I := IC t dk cm Fs En z Dr gv n0 Mv ev fd to va se) (J := IM t dk cm Fs En z Dr gv n0 Mv ev fd to va se) (I2 := IC t dk cm Fs En z Dr gv n0 Mv (wkE ev (ckA Fs Dr En K ev x).2) (wkF fd (ckA Fs Dr En K ev x).2) (wkT to (ckA Fs Dr En K ev x).2) va se) (J2 := IM t dk cm Fs En z Dr gv n0 Mv (wkE ev (ckA Fs Dr En K ev x).2) (wkF fd (ckA Fs Dr En K ev x).2) (wkT to (ckA Fs Dr En K ev x).2) va se) (kC_check hKe q0) (kM_check hKe q0) pm0 h1 h2 IC.mono IM.mono ?_
  intro D2 N2 Bc2 Bm2 p2 g1 g2
  obtain ⟨q1, q2, q3, q4, q5, q6, q7, q8, q9⟩ := q0
  exact ⟨t, dk, cm, Fs, En, z, Dr, gv, n0, Mv, wkE ev (ckA Fs Dr En K ev x).2, wkF fd (ckA Fs Dr En K ev x).2, wkT to (ckA Fs Dr En K ev x).2, va, se, N2, Bc2, Bm2, p2, ⟨q1, q2, q3, q4, q5, q6, q7, q8, q9⟩, g1, g2⟩
theorem kC_submit (hKe : K = 300) (q0 : pAll t Fs En z Dr gv n0 Mv se) : kX X 168 [.ref 78, .int x, .int y] (.int (sbA Fs Dr En K ev n0 x y).1) (IC t dk cm Fs En z Dr gv n0 Mv ev fd to va se) (IC t dk cm Fs En z (if (sbA Fs Dr En K ev n0 x y).2.2 then updD Dr x (sbD n0) else Dr) gv (if (sbA Fs Dr En K ev n0 x y).2.2 then n0 + 1 else n0) Mv (wkE ev (sbA Fs Dr En K ev n0 x y).2.1) (wkF fd (sbA Fs Dr En K ev n0 x y).2.1) (wkT to (sbA Fs Dr En K ev n0 x y).2.1) va se) := by
  obtain ⟨q1, q2, q3, q4, q5, q6, q7, q8, q9⟩ := q0
  intro N B Rm h sN
  refine h.elim ?_
  intro c_tp c_ps c_fs c_le c_dk c_dr c_gv c_rc c_mv c_wk c_to c_va c_se c_kd eB Ctp Cps Cfs Cle Cdk Cdr Cgv Crc Cmv Cwk Cto Cva Cse Ckd
  subst eB
  have s_le : c_le ⊆ c_tp ++ (c_ps ++ (c_fs ++ (c_le ++ (c_dk ++ (c_gv ++ (c_mv ++ (c_va ++ (c_se ++ (c_kd ++ Rm))))))))) := fun e he => List.mem_append_right _ (List.mem_append_right _ (List.mem_append_right _ (List.mem_append_left _ he)))
  have s_N : N ⊆ c_tp ++ (c_ps ++ (c_fs ++ (c_le ++ (c_dk ++ (c_gv ++ (c_mv ++ (c_va ++ (c_se ++ (c_kd ++ Rm))))))))) := fun e he => List.mem_append_right _ (List.mem_append_right _ (List.mem_append_right _ (List.mem_append_right _ (List.mem_append_right _ (List.mem_append_right _ (List.mem_append_right _ (List.mem_append_right _ (List.mem_append_right _ (List.mem_append_right _ (sN he))))))))))
  refine yK.perm (D2 := c_wk ++ (c_to ++ (c_dr ++ (c_rc ++ (c_tp ++ (c_ps ++ (c_fs ++ (c_le ++ (c_dk ++ (c_gv ++ (c_mv ++ (c_va ++ (c_se ++ (c_kd ++ Rm)))))))))))))) (pq fun φ => by simp only [cn_a]; omega) (((oC_submit hKe q2 q5 Cle Cdr Cwk Cto Crc s_le s_N).up (yle rfl) (yle rfl)).mono (yle rfl) (yle rfl) ?_)
  rintro w D ⟨rfl, B0, B1, B2, B3, hp, H0, H1, H2, H3⟩
  exact ⟨rfl, c_tp ++ (c_ps ++ (c_fs ++ (c_le ++ (c_dk ++ (B2 ++ (c_gv ++ (B3 ++ (c_mv ++ (B0 ++ (B1 ++ (c_va ++ (c_se ++ c_kd)))))))))))), [], hp.trans (pq fun φ => by simp only [cn_a, cn_n]; omega), IC.mk Ctp Cps Cfs Cle Cdk H2 Cgv H3 Cmv H0 H1 Cva Cse Ckd⟩
theorem kM_submit (hKe : K = 300) (q0 : pAll t Fs En z Dr gv n0 Mv se) : kX X 324 [.ref 209, .int x, .int y] (.int (sbA Fs Dr En K ev n0 x y).1) (IM t dk cm Fs En z Dr gv n0 Mv ev fd to va se) (IM t dk cm Fs En z (if (sbA Fs Dr En K ev n0 x y).2.2 then updD Dr x (sbD n0) else Dr) gv (if (sbA Fs Dr En K ev n0 x y).2.2 then n0 + 1 else n0) Mv (wkE ev (sbA Fs Dr En K ev n0 x y).2.1) (wkF fd (sbA Fs Dr En K ev n0 x y).2.1) (wkT to (sbA Fs Dr En K ev n0 x y).2.1) va se) := by
  obtain ⟨q1, q2, q3, q4, q5, q6, q7, q8, q9⟩ := q0
  intro N B Rm h sN
  refine h.elim ?_
  intro e_tp e_ps e_fs e_le e_dk e_dr e_lg e_rc e_mv e_wk e_pl e_se e_kd eB Etp Eps Efs Ele Edk Edr Elg Erc Emv Ewk Epl Ese Ekd
  subst eB
  have s_le : e_le ⊆ e_tp ++ (e_ps ++ (e_fs ++ (e_le ++ (e_dk ++ (e_lg ++ (e_mv ++ (e_pl ++ (e_se ++ (e_kd ++ Rm))))))))) := fun e he => List.mem_append_right _ (List.mem_append_right _ (List.mem_append_right _ (List.mem_append_left _ he)))
  have s_fs : e_fs ⊆ e_tp ++ (e_ps ++ (e_fs ++ (e_le ++ (e_dk ++ (e_lg ++ (e_mv ++ (e_pl ++ (e_se ++ (e_kd ++ Rm))))))))) := fun e he => List.mem_append_right _ (List.mem_append_right _ (List.mem_append_left _ he))
  have s_N : N ⊆ e_tp ++ (e_ps ++ (e_fs ++ (e_le ++ (e_dk ++ (e_lg ++ (e_mv ++ (e_pl ++ (e_se ++ (e_kd ++ Rm))))))))) := fun e he => List.mem_append_right _ (List.mem_append_right _ (List.mem_append_right _ (List.mem_append_right _ (List.mem_append_right _ (List.mem_append_right _ (List.mem_append_right _ (List.mem_append_right _ (List.mem_append_right _ (List.mem_append_right _ (sN he))))))))))
  refine yK.perm (D2 := e_wk ++ (e_dr ++ (e_rc ++ (e_tp ++ (e_ps ++ (e_fs ++ (e_le ++ (e_dk ++ (e_lg ++ (e_mv ++ (e_pl ++ (e_se ++ (e_kd ++ Rm))))))))))))) (pq fun φ => by simp only [cn_a]; omega) (((oM_submit hKe (q7.lt q5.1) q2 q5 Ele Efs Edr Ewk Erc s_le s_fs s_N).up (yle rfl) (yle rfl)).mono (yle rfl) (yle rfl) ?_)
  rintro w D ⟨rfl, B0, B1, B2, hp, H0, H1, H2⟩
  exact ⟨rfl, e_tp ++ (e_ps ++ (e_fs ++ (e_le ++ (e_dk ++ (B1 ++ (e_lg ++ (B2 ++ (e_mv ++ (B0 ++ (e_pl ++ (e_se ++ e_kd))))))))))), [], hp.trans (pq fun φ => by simp only [cn_a, cn_n]; omega), IM.mk Etp Eps Efs Ele Edk H1 (Elg.submit) H2 Emv H0 Epl Ese Ekd⟩
theorem op_submit (hKe : K = 300) (h : Inv D) : yP2 Value.int X 168 324 [.int x, .int y] D := by
  obtain ⟨t, dk, cm, Fs, En, z, Dr, gv, n0, Mv, ev, fd, to, va, se, N, Bc, Bm, pm0, q0, h1, h2⟩ := h
  refine yp_both (f := Value.int) (r := (sbA Fs Dr En K ev n0 x y).1) (I := IC t dk cm Fs En z Dr gv n0 Mv ev fd to va se) (J := IM t dk cm Fs En z Dr gv n0 Mv ev fd to va se) (I2 := IC t dk cm Fs En z (if (sbA Fs Dr En K ev n0 x y).2.2 then updD Dr x (sbD n0) else Dr) gv (if (sbA Fs Dr En K ev n0 x y).2.2 then n0 + 1 else n0) Mv (wkE ev (sbA Fs Dr En K ev n0 x y).2.1) (wkF fd (sbA Fs Dr En K ev n0 x y).2.1) (wkT to (sbA Fs Dr En K ev n0 x y).2.1) va se) (J2 := IM t dk cm Fs En z (if (sbA Fs Dr En K ev n0 x y).2.2 then updD Dr x (sbD n0) else Dr) gv (if (sbA Fs Dr En K ev n0 x y).2.2 then n0 + 1 else n0) Mv (wkE ev (sbA Fs Dr En K ev n0 x y).2.1) (wkF fd (sbA Fs Dr En K ev n0 x y).2.1) (wkT to (sbA Fs Dr En K ev n0 x y).2.1) va se) (kC_submit hKe q0) (kM_submit hKe q0) pm0 h1 h2 IC.mono IM.mono ?_
  intro D2 N2 Bc2 Bm2 p2 g1 g2
  obtain ⟨q1, q2, q3, q4, q5, q6, q7, q8, q9⟩ := q0
  exact ⟨t, dk, cm, Fs, En, z, if (sbA Fs Dr En K ev n0 x y).2.2 then updD Dr x (sbD n0) else Dr, gv, if (sbA Fs Dr En K ev n0 x y).2.2 then n0 + 1 else n0, Mv, wkE ev (sbA Fs Dr En K ev n0 x y).2.1, wkF fd (sbA Fs Dr En K ev n0 x y).2.1, wkT to (sbA Fs Dr En K ev n0 x y).2.1, va, se, N2, Bc2, Bm2, p2, ⟨q1, q2, q3, q4, (pu_submit q5 q7).1, q6, (pu_submit q5 q7).2, q8, q9⟩, g1, g2⟩
theorem kC_shown (hKe : K = 300) (q0 : pAll t Fs En z Dr gv n0 Mv se) : kX X 162 [.ref 78, .int x, .int y] (.int (swA Fs Dr En K ev x y).1) (IC t dk cm Fs En z Dr gv n0 Mv ev fd to va se) (IC t dk cm Fs En z Dr gv n0 Mv (swE ev (swA Fs Dr En K ev x y).2) fd (swT to (swA Fs Dr En K ev x y).2) va se) := by
  obtain ⟨q1, q2, q3, q4, q5, q6, q7, q8, q9⟩ := q0
  intro N B Rm h sN
  refine h.elim ?_
  intro c_tp c_ps c_fs c_le c_dk c_dr c_gv c_rc c_mv c_wk c_to c_va c_se c_kd eB Ctp Cps Cfs Cle Cdk Cdr Cgv Crc Cmv Cwk Cto Cva Cse Ckd
  subst eB
  have s_le : c_le ⊆ c_tp ++ (c_ps ++ (c_fs ++ (c_le ++ (c_dk ++ (c_dr ++ (c_gv ++ (c_rc ++ (c_mv ++ (c_va ++ (c_se ++ (c_kd ++ Rm))))))))))) := fun e he => List.mem_append_right _ (List.mem_append_right _ (List.mem_append_right _ (List.mem_append_left _ he)))
  have s_dr : c_dr ⊆ c_tp ++ (c_ps ++ (c_fs ++ (c_le ++ (c_dk ++ (c_dr ++ (c_gv ++ (c_rc ++ (c_mv ++ (c_va ++ (c_se ++ (c_kd ++ Rm))))))))))) := fun e he => List.mem_append_right _ (List.mem_append_right _ (List.mem_append_right _ (List.mem_append_right _ (List.mem_append_right _ (List.mem_append_left _ he)))))
  have s_N : N ⊆ c_tp ++ (c_ps ++ (c_fs ++ (c_le ++ (c_dk ++ (c_dr ++ (c_gv ++ (c_rc ++ (c_mv ++ (c_va ++ (c_se ++ (c_kd ++ Rm))))))))))) := fun e he => List.mem_append_right _ (List.mem_append_right _ (List.mem_append_right _ (List.mem_append_right _ (List.mem_append_right _ (List.mem_append_right _ (List.mem_append_right _ (List.mem_append_right _ (List.mem_append_right _ (List.mem_append_right _ (List.mem_append_right _ (List.mem_append_right _ (sN he))))))))))))
  refine yK.perm (D2 := c_wk ++ (c_to ++ (c_tp ++ (c_ps ++ (c_fs ++ (c_le ++ (c_dk ++ (c_dr ++ (c_gv ++ (c_rc ++ (c_mv ++ (c_va ++ (c_se ++ (c_kd ++ Rm)))))))))))))) (pq fun φ => by simp only [cn_a]; omega) (((oC_shown hKe q2 q5 Cle Cdr Cwk Cto s_le s_dr s_N).up (yle rfl) (yle rfl)).mono (yle rfl) (yle rfl) ?_)
  rintro w D ⟨rfl, B0, B1, hp, H0, H1⟩
  exact ⟨rfl, c_tp ++ (c_ps ++ (c_fs ++ (c_le ++ (c_dk ++ (c_dr ++ (c_gv ++ (c_rc ++ (c_mv ++ (B0 ++ (B1 ++ (c_va ++ (c_se ++ c_kd)))))))))))), [], hp.trans (pq fun φ => by simp only [cn_a, cn_n]; omega), IC.mk Ctp Cps Cfs Cle Cdk Cdr Cgv Crc Cmv H0 H1 Cva Cse Ckd⟩
theorem kM_shown (hKe : K = 300) (q0 : pAll t Fs En z Dr gv n0 Mv se) : kX X 319 [.ref 209, .int x, .int y] (.int (swA Fs Dr En K ev x y).1) (IM t dk cm Fs En z Dr gv n0 Mv ev fd to va se) (IM t dk cm Fs En z Dr gv n0 Mv (swE ev (swA Fs Dr En K ev x y).2) fd (swT to (swA Fs Dr En K ev x y).2) va se) := by
  obtain ⟨q1, q2, q3, q4, q5, q6, q7, q8, q9⟩ := q0
  intro N B Rm h sN
  refine h.elim ?_
  intro e_tp e_ps e_fs e_le e_dk e_dr e_lg e_rc e_mv e_wk e_pl e_se e_kd eB Etp Eps Efs Ele Edk Edr Elg Erc Emv Ewk Epl Ese Ekd
  subst eB
  have s_le : e_le ⊆ e_tp ++ (e_ps ++ (e_fs ++ (e_le ++ (e_dk ++ (e_dr ++ (e_lg ++ (e_rc ++ (e_mv ++ (e_pl ++ (e_se ++ (e_kd ++ Rm))))))))))) := fun e he => List.mem_append_right _ (List.mem_append_right _ (List.mem_append_right _ (List.mem_append_left _ he)))
  have s_dr : e_dr ⊆ e_tp ++ (e_ps ++ (e_fs ++ (e_le ++ (e_dk ++ (e_dr ++ (e_lg ++ (e_rc ++ (e_mv ++ (e_pl ++ (e_se ++ (e_kd ++ Rm))))))))))) := fun e he => List.mem_append_right _ (List.mem_append_right _ (List.mem_append_right _ (List.mem_append_right _ (List.mem_append_right _ (List.mem_append_left _ he)))))
  have s_fs : e_fs ⊆ e_tp ++ (e_ps ++ (e_fs ++ (e_le ++ (e_dk ++ (e_dr ++ (e_lg ++ (e_rc ++ (e_mv ++ (e_pl ++ (e_se ++ (e_kd ++ Rm))))))))))) := fun e he => List.mem_append_right _ (List.mem_append_right _ (List.mem_append_left _ he))
  have s_N : N ⊆ e_tp ++ (e_ps ++ (e_fs ++ (e_le ++ (e_dk ++ (e_dr ++ (e_lg ++ (e_rc ++ (e_mv ++ (e_pl ++ (e_se ++ (e_kd ++ Rm))))))))))) := fun e he => List.mem_append_right _ (List.mem_append_right _ (List.mem_append_right _ (List.mem_append_right _ (List.mem_append_right _ (List.mem_append_right _ (List.mem_append_right _ (List.mem_append_right _ (List.mem_append_right _ (List.mem_append_right _ (List.mem_append_right _ (List.mem_append_right _ (sN he))))))))))))
  refine yK.perm (D2 := e_wk ++ (e_tp ++ (e_ps ++ (e_fs ++ (e_le ++ (e_dk ++ (e_dr ++ (e_lg ++ (e_rc ++ (e_mv ++ (e_pl ++ (e_se ++ (e_kd ++ Rm))))))))))))) (pq fun φ => by simp only [cn_a]; omega) (((oM_shown hKe q2 q5 Ele Edr Efs Ewk s_le s_dr s_fs s_N).up (yle rfl) (yle rfl)).mono (yle rfl) (yle rfl) ?_)
  rintro w D ⟨rfl, B0, hp, H0⟩
  exact ⟨rfl, e_tp ++ (e_ps ++ (e_fs ++ (e_le ++ (e_dk ++ (e_dr ++ (e_lg ++ (e_rc ++ (e_mv ++ (B0 ++ (e_pl ++ (e_se ++ e_kd))))))))))), [], hp.trans (pq fun φ => by simp only [cn_a, cn_n]; omega), IM.mk Etp Eps Efs Ele Edk Edr Elg Erc Emv H0 Epl Ese Ekd⟩
theorem op_shown (hKe : K = 300) (h : Inv D) : yP2 Value.int X 162 319 [.int x, .int y] D := by
  obtain ⟨t, dk, cm, Fs, En, z, Dr, gv, n0, Mv, ev, fd, to, va, se, N, Bc, Bm, pm0, q0, h1, h2⟩ := h
  refine yp_both (f := Value.int) (r := (swA Fs Dr En K ev x y).1) (I := IC t dk cm Fs En z Dr gv n0 Mv ev fd to va se) (J := IM t dk cm Fs En z Dr gv n0 Mv ev fd to va se) (I2 := IC t dk cm Fs En z Dr gv n0 Mv (swE ev (swA Fs Dr En K ev x y).2) fd (swT to (swA Fs Dr En K ev x y).2) va se) (J2 := IM t dk cm Fs En z Dr gv n0 Mv (swE ev (swA Fs Dr En K ev x y).2) fd (swT to (swA Fs Dr En K ev x y).2) va se) (kC_shown hKe q0) (kM_shown hKe q0) pm0 h1 h2 IC.mono IM.mono ?_
  intro D2 N2 Bc2 Bm2 p2 g1 g2
  obtain ⟨q1, q2, q3, q4, q5, q6, q7, q8, q9⟩ := q0
  exact ⟨t, dk, cm, Fs, En, z, Dr, gv, n0, Mv, swE ev (swA Fs Dr En K ev x y).2, fd, swT to (swA Fs Dr En K ev x y).2, va, se, N2, Bc2, Bm2, p2, ⟨q1, q2, q3, q4, q5, q6, q7, q8, q9⟩, g1, g2⟩
theorem kC_figure (hKe : K = 300) (q0 : pAll t Fs En z Dr gv n0 Mv se) : kX X 165 [.ref 78, .int x, .int y] (.int (fgA Fs Dr En K ev x y).1) (IC t dk cm Fs En z Dr gv n0 Mv ev fd to va se) (IC t dk cm Fs En z Dr gv n0 Mv (fgE ev (fgA Fs Dr En K ev x y).2) fd (fgT to (fgA Fs Dr En K ev x y).2) (fgZ va (fgA Fs Dr En K ev x y).2) se) := by
  obtain ⟨q1, q2, q3, q4, q5, q6, q7, q8, q9⟩ := q0
  intro N B Rm h sN
  refine h.elim ?_
  intro c_tp c_ps c_fs c_le c_dk c_dr c_gv c_rc c_mv c_wk c_to c_va c_se c_kd eB Ctp Cps Cfs Cle Cdk Cdr Cgv Crc Cmv Cwk Cto Cva Cse Ckd
  subst eB
  have s_le : c_le ⊆ c_tp ++ (c_ps ++ (c_fs ++ (c_le ++ (c_dk ++ (c_dr ++ (c_gv ++ (c_rc ++ (c_mv ++ (c_se ++ (c_kd ++ Rm)))))))))) := fun e he => List.mem_append_right _ (List.mem_append_right _ (List.mem_append_right _ (List.mem_append_left _ he)))
  have s_dr : c_dr ⊆ c_tp ++ (c_ps ++ (c_fs ++ (c_le ++ (c_dk ++ (c_dr ++ (c_gv ++ (c_rc ++ (c_mv ++ (c_se ++ (c_kd ++ Rm)))))))))) := fun e he => List.mem_append_right _ (List.mem_append_right _ (List.mem_append_right _ (List.mem_append_right _ (List.mem_append_right _ (List.mem_append_left _ he)))))
  have s_N : N ⊆ c_tp ++ (c_ps ++ (c_fs ++ (c_le ++ (c_dk ++ (c_dr ++ (c_gv ++ (c_rc ++ (c_mv ++ (c_se ++ (c_kd ++ Rm)))))))))) := fun e he => List.mem_append_right _ (List.mem_append_right _ (List.mem_append_right _ (List.mem_append_right _ (List.mem_append_right _ (List.mem_append_right _ (List.mem_append_right _ (List.mem_append_right _ (List.mem_append_right _ (List.mem_append_right _ (List.mem_append_right _ (sN he)))))))))))
  refine yK.perm (D2 := c_wk ++ (c_to ++ (c_va ++ (c_tp ++ (c_ps ++ (c_fs ++ (c_le ++ (c_dk ++ (c_dr ++ (c_gv ++ (c_rc ++ (c_mv ++ (c_se ++ (c_kd ++ Rm)))))))))))))) (pq fun φ => by simp only [cn_a]; omega) (((oC_figure hKe q2 q5 Cle Cdr Cwk Cto Cva s_le s_dr s_N).up (yle rfl) (yle rfl)).mono (yle rfl) (yle rfl) ?_)
  rintro w D ⟨rfl, B0, B1, B2, hp, H0, H1, H2⟩
  exact ⟨rfl, c_tp ++ (c_ps ++ (c_fs ++ (c_le ++ (c_dk ++ (c_dr ++ (c_gv ++ (c_rc ++ (c_mv ++ (B0 ++ (B1 ++ (B2 ++ (c_se ++ c_kd)))))))))))), [], hp.trans (pq fun φ => by simp only [cn_a, cn_n]; omega), IC.mk Ctp Cps Cfs Cle Cdk Cdr Cgv Crc Cmv H0 H1 H2 Cse Ckd⟩
theorem kM_figure (hKe : K = 300) (q0 : pAll t Fs En z Dr gv n0 Mv se) : kX X 321 [.ref 209, .int x, .int y] (.int (fgA Fs Dr En K ev x y).1) (IM t dk cm Fs En z Dr gv n0 Mv ev fd to va se) (IM t dk cm Fs En z Dr gv n0 Mv (fgE ev (fgA Fs Dr En K ev x y).2) fd (fgT to (fgA Fs Dr En K ev x y).2) (fgZ va (fgA Fs Dr En K ev x y).2) se) := by
  obtain ⟨q1, q2, q3, q4, q5, q6, q7, q8, q9⟩ := q0
  intro N B Rm h sN
  refine h.elim ?_
  intro e_tp e_ps e_fs e_le e_dk e_dr e_lg e_rc e_mv e_wk e_pl e_se e_kd eB Etp Eps Efs Ele Edk Edr Elg Erc Emv Ewk Epl Ese Ekd
  subst eB
  have s_le : e_le ⊆ e_tp ++ (e_ps ++ (e_fs ++ (e_le ++ (e_dk ++ (e_dr ++ (e_lg ++ (e_rc ++ (e_mv ++ (e_pl ++ (e_se ++ (e_kd ++ Rm))))))))))) := fun e he => List.mem_append_right _ (List.mem_append_right _ (List.mem_append_right _ (List.mem_append_left _ he)))
  have s_dr : e_dr ⊆ e_tp ++ (e_ps ++ (e_fs ++ (e_le ++ (e_dk ++ (e_dr ++ (e_lg ++ (e_rc ++ (e_mv ++ (e_pl ++ (e_se ++ (e_kd ++ Rm))))))))))) := fun e he => List.mem_append_right _ (List.mem_append_right _ (List.mem_append_right _ (List.mem_append_right _ (List.mem_append_right _ (List.mem_append_left _ he)))))
  have s_fs : e_fs ⊆ e_tp ++ (e_ps ++ (e_fs ++ (e_le ++ (e_dk ++ (e_dr ++ (e_lg ++ (e_rc ++ (e_mv ++ (e_pl ++ (e_se ++ (e_kd ++ Rm))))))))))) := fun e he => List.mem_append_right _ (List.mem_append_right _ (List.mem_append_left _ he))
  have s_N : N ⊆ e_tp ++ (e_ps ++ (e_fs ++ (e_le ++ (e_dk ++ (e_dr ++ (e_lg ++ (e_rc ++ (e_mv ++ (e_pl ++ (e_se ++ (e_kd ++ Rm))))))))))) := fun e he => List.mem_append_right _ (List.mem_append_right _ (List.mem_append_right _ (List.mem_append_right _ (List.mem_append_right _ (List.mem_append_right _ (List.mem_append_right _ (List.mem_append_right _ (List.mem_append_right _ (List.mem_append_right _ (List.mem_append_right _ (List.mem_append_right _ (sN he))))))))))))
  refine yK.perm (D2 := e_wk ++ (e_tp ++ (e_ps ++ (e_fs ++ (e_le ++ (e_dk ++ (e_dr ++ (e_lg ++ (e_rc ++ (e_mv ++ (e_pl ++ (e_se ++ (e_kd ++ Rm))))))))))))) (pq fun φ => by simp only [cn_a]; omega) (((oM_figure hKe q2 q5 Ele Edr Efs Ewk s_le s_dr s_fs s_N).up (yle rfl) (yle rfl)).mono (yle rfl) (yle rfl) ?_)
  rintro w D ⟨rfl, B0, hp, H0⟩
  exact ⟨rfl, e_tp ++ (e_ps ++ (e_fs ++ (e_le ++ (e_dk ++ (e_dr ++ (e_lg ++ (e_rc ++ (e_mv ++ (B0 ++ (e_pl ++ (e_se ++ e_kd))))))))))), [], hp.trans (pq fun φ => by simp only [cn_a, cn_n]; omega), IM.mk Etp Eps Efs Ele Edk Edr Elg Erc Emv H0 Epl Ese Ekd⟩
theorem op_figure (hKe : K = 300) (h : Inv D) : yP2 Value.int X 165 321 [.int x, .int y] D := by
  obtain ⟨t, dk, cm, Fs, En, z, Dr, gv, n0, Mv, ev, fd, to, va, se, N, Bc, Bm, pm0, q0, h1, h2⟩ := h
  refine yp_both (f := Value.int) (r := (fgA Fs Dr En K ev x y).1) (I := IC t dk cm Fs En z Dr gv n0 Mv ev fd to va se) (J := IM t dk cm Fs En z Dr gv n0 Mv ev fd to va se) (I2 := IC t dk cm Fs En z Dr gv n0 Mv (fgE ev (fgA Fs Dr En K ev x y).2) fd (fgT to (fgA Fs Dr En K ev x y).2) (fgZ va (fgA Fs Dr En K ev x y).2) se) (J2 := IM t dk cm Fs En z Dr gv n0 Mv (fgE ev (fgA Fs Dr En K ev x y).2) fd (fgT to (fgA Fs Dr En K ev x y).2) (fgZ va (fgA Fs Dr En K ev x y).2) se) (kC_figure hKe q0) (kM_figure hKe q0) pm0 h1 h2 IC.mono IM.mono ?_
  intro D2 N2 Bc2 Bm2 p2 g1 g2
  obtain ⟨q1, q2, q3, q4, q5, q6, q7, q8, q9⟩ := q0
  exact ⟨t, dk, cm, Fs, En, z, Dr, gv, n0, Mv, fgE ev (fgA Fs Dr En K ev x y).2, fd, fgT to (fgA Fs Dr En K ev x y).2, fgZ va (fgA Fs Dr En K ev x y).2, se, N2, Bc2, Bm2, p2, ⟨q1, q2, q3, q4, q5, q6, q7, q8, q9⟩, g1, g2⟩
theorem kC_stats (q0 : pAll t Fs En z Dr gv n0 Mv se) : kX X 172 [.ref 78, .int x, .int y, .int i] (.long (stA Fs Dr En ev x y i).1) (IC t dk cm Fs En z Dr gv n0 Mv ev fd to va se) (IC t dk cm Fs En z Dr gv n0 Mv ((stA Fs Dr En ev x y i).2) fd to va se) := by
  obtain ⟨q1, q2, q3, q4, q5, q6, q7, q8, q9⟩ := q0
  intro N B Rm h sN
  refine h.elim ?_
  intro c_tp c_ps c_fs c_le c_dk c_dr c_gv c_rc c_mv c_wk c_to c_va c_se c_kd eB Ctp Cps Cfs Cle Cdk Cdr Cgv Crc Cmv Cwk Cto Cva Cse Ckd
  subst eB
  have s_le : c_le ⊆ c_tp ++ (c_ps ++ (c_fs ++ (c_le ++ (c_dk ++ (c_dr ++ (c_gv ++ (c_rc ++ (c_mv ++ (c_va ++ (c_se ++ (c_kd ++ Rm))))))))))) := fun e he => List.mem_append_right _ (List.mem_append_right _ (List.mem_append_right _ (List.mem_append_left _ he)))
  have s_dr : c_dr ⊆ c_tp ++ (c_ps ++ (c_fs ++ (c_le ++ (c_dk ++ (c_dr ++ (c_gv ++ (c_rc ++ (c_mv ++ (c_va ++ (c_se ++ (c_kd ++ Rm))))))))))) := fun e he => List.mem_append_right _ (List.mem_append_right _ (List.mem_append_right _ (List.mem_append_right _ (List.mem_append_right _ (List.mem_append_left _ he)))))
  have s_fs : c_fs ⊆ c_tp ++ (c_ps ++ (c_fs ++ (c_le ++ (c_dk ++ (c_dr ++ (c_gv ++ (c_rc ++ (c_mv ++ (c_va ++ (c_se ++ (c_kd ++ Rm))))))))))) := fun e he => List.mem_append_right _ (List.mem_append_right _ (List.mem_append_left _ he))
  have s_N : N ⊆ c_tp ++ (c_ps ++ (c_fs ++ (c_le ++ (c_dk ++ (c_dr ++ (c_gv ++ (c_rc ++ (c_mv ++ (c_va ++ (c_se ++ (c_kd ++ Rm))))))))))) := fun e he => List.mem_append_right _ (List.mem_append_right _ (List.mem_append_right _ (List.mem_append_right _ (List.mem_append_right _ (List.mem_append_right _ (List.mem_append_right _ (List.mem_append_right _ (List.mem_append_right _ (List.mem_append_right _ (List.mem_append_right _ (List.mem_append_right _ (sN he))))))))))))
  refine yK.perm (D2 := c_wk ++ (c_to ++ (c_tp ++ (c_ps ++ (c_fs ++ (c_le ++ (c_dk ++ (c_dr ++ (c_gv ++ (c_rc ++ (c_mv ++ (c_va ++ (c_se ++ (c_kd ++ Rm)))))))))))))) (pq fun φ => by simp only [cn_a]; omega) (((oC_stats q2 q5 Cle Cdr Cfs Cwk Cto s_le s_dr s_fs s_N).up (yle rfl) (yle rfl)).mono (yle rfl) (yle rfl) ?_)
  rintro w D ⟨rfl, B0, B1, hp, H0, H1⟩
  exact ⟨rfl, c_tp ++ (c_ps ++ (c_fs ++ (c_le ++ (c_dk ++ (c_dr ++ (c_gv ++ (c_rc ++ (c_mv ++ (B0 ++ (B1 ++ (c_va ++ (c_se ++ c_kd)))))))))))), [], hp.trans (pq fun φ => by simp only [cn_a, cn_n]; omega), IC.mk Ctp Cps Cfs Cle Cdk Cdr Cgv Crc Cmv H0 H1 Cva Cse Ckd⟩
theorem kM_stats (q0 : pAll t Fs En z Dr gv n0 Mv se) : kX X 328 [.ref 209, .int x, .int y, .int i] (.long (stA Fs Dr En ev x y i).1) (IM t dk cm Fs En z Dr gv n0 Mv ev fd to va se) (IM t dk cm Fs En z Dr gv n0 Mv ((stA Fs Dr En ev x y i).2) fd to va se) := by
  obtain ⟨q1, q2, q3, q4, q5, q6, q7, q8, q9⟩ := q0
  intro N B Rm h sN
  refine h.elim ?_
  intro e_tp e_ps e_fs e_le e_dk e_dr e_lg e_rc e_mv e_wk e_pl e_se e_kd eB Etp Eps Efs Ele Edk Edr Elg Erc Emv Ewk Epl Ese Ekd
  subst eB
  have s_le : e_le ⊆ e_tp ++ (e_ps ++ (e_fs ++ (e_le ++ (e_dk ++ (e_dr ++ (e_lg ++ (e_rc ++ (e_mv ++ (e_pl ++ (e_se ++ (e_kd ++ Rm))))))))))) := fun e he => List.mem_append_right _ (List.mem_append_right _ (List.mem_append_right _ (List.mem_append_left _ he)))
  have s_dr : e_dr ⊆ e_tp ++ (e_ps ++ (e_fs ++ (e_le ++ (e_dk ++ (e_dr ++ (e_lg ++ (e_rc ++ (e_mv ++ (e_pl ++ (e_se ++ (e_kd ++ Rm))))))))))) := fun e he => List.mem_append_right _ (List.mem_append_right _ (List.mem_append_right _ (List.mem_append_right _ (List.mem_append_right _ (List.mem_append_left _ he)))))
  have s_fs : e_fs ⊆ e_tp ++ (e_ps ++ (e_fs ++ (e_le ++ (e_dk ++ (e_dr ++ (e_lg ++ (e_rc ++ (e_mv ++ (e_pl ++ (e_se ++ (e_kd ++ Rm))))))))))) := fun e he => List.mem_append_right _ (List.mem_append_right _ (List.mem_append_left _ he))
  have s_N : N ⊆ e_tp ++ (e_ps ++ (e_fs ++ (e_le ++ (e_dk ++ (e_dr ++ (e_lg ++ (e_rc ++ (e_mv ++ (e_pl ++ (e_se ++ (e_kd ++ Rm))))))))))) := fun e he => List.mem_append_right _ (List.mem_append_right _ (List.mem_append_right _ (List.mem_append_right _ (List.mem_append_right _ (List.mem_append_right _ (List.mem_append_right _ (List.mem_append_right _ (List.mem_append_right _ (List.mem_append_right _ (List.mem_append_right _ (List.mem_append_right _ (sN he))))))))))))
  refine yK.perm (D2 := e_wk ++ (e_tp ++ (e_ps ++ (e_fs ++ (e_le ++ (e_dk ++ (e_dr ++ (e_lg ++ (e_rc ++ (e_mv ++ (e_pl ++ (e_se ++ (e_kd ++ Rm))))))))))))) (pq fun φ => by simp only [cn_a]; omega) (((oM_stats q2 q5 Ele Edr Efs Ewk s_le s_dr s_fs s_N).up (yle rfl) (yle rfl)).mono (yle rfl) (yle rfl) ?_)
  rintro w D ⟨rfl, B0, hp, H0⟩
  exact ⟨rfl, e_tp ++ (e_ps ++ (e_fs ++ (e_le ++ (e_dk ++ (e_dr ++ (e_lg ++ (e_rc ++ (e_mv ++ (B0 ++ (e_pl ++ (e_se ++ e_kd))))))))))), [], hp.trans (pq fun φ => by simp only [cn_a, cn_n]; omega), IM.mk Etp Eps Efs Ele Edk Edr Elg Erc Emv H0 Epl Ese Ekd⟩
theorem op_stats (h : Inv D) : yP2 Value.long X 172 328 [.int x, .int y, .int i] D := by
  obtain ⟨t, dk, cm, Fs, En, z, Dr, gv, n0, Mv, ev, fd, to, va, se, N, Bc, Bm, pm0, q0, h1, h2⟩ := h
  refine yp_both (f := Value.long) (r := (stA Fs Dr En ev x y i).1) (I := IC t dk cm Fs En z Dr gv n0 Mv ev fd to va se) (J := IM t dk cm Fs En z Dr gv n0 Mv ev fd to va se) (I2 := IC t dk cm Fs En z Dr gv n0 Mv ((stA Fs Dr En ev x y i).2) fd to va se) (J2 := IM t dk cm Fs En z Dr gv n0 Mv ((stA Fs Dr En ev x y i).2) fd to va se) (kC_stats q0) (kM_stats q0) pm0 h1 h2 IC.mono IM.mono ?_
  intro D2 N2 Bc2 Bm2 p2 g1 g2
  obtain ⟨q1, q2, q3, q4, q5, q6, q7, q8, q9⟩ := q0
  exact ⟨t, dk, cm, Fs, En, z, Dr, gv, n0, Mv, (stA Fs Dr En ev x y i).2, fd, to, va, se, N2, Bc2, Bm2, p2, ⟨q1, q2, q3, q4, q5, q6, q7, q8, q9⟩, g1, g2⟩
theorem kC_migrate (q0 : pAll t Fs En z Dr gv n0 Mv se) : kX X 175 [.ref 78, .int x, .int y] (.int (mgV Fs Dr ev x y)) (IC t dk cm Fs En z Dr gv n0 Mv ev fd to va se) (IC t dk (mgC cm (mgX Fs Dr En Mv ev x y)) Fs En z (mgD y Dr (mgX Fs Dr En Mv ev x y)) gv n0 Mv (mgE ev (mgX Fs Dr En Mv ev x y)) fd to va se) := by
  obtain ⟨q1, q2, q3, q4, q5, q6, q7, q8, q9⟩ := q0
  intro N B Rm h sN
  refine h.elim ?_
  intro c_tp c_ps c_fs c_le c_dk c_dr c_gv c_rc c_mv c_wk c_to c_va c_se c_kd eB Ctp Cps Cfs Cle Cdk Cdr Cgv Crc Cmv Cwk Cto Cva Cse Ckd
  subst eB
  have s_fs : c_fs ⊆ c_tp ++ (c_ps ++ (c_fs ++ (c_le ++ (c_dk ++ (c_gv ++ (c_rc ++ (c_va ++ (c_se ++ (c_kd ++ Rm))))))))) := fun e he => List.mem_append_right _ (List.mem_append_right _ (List.mem_append_left _ he))
  have s_le : c_le ⊆ c_tp ++ (c_ps ++ (c_fs ++ (c_le ++ (c_dk ++ (c_gv ++ (c_rc ++ (c_va ++ (c_se ++ (c_kd ++ Rm))))))))) := fun e he => List.mem_append_right _ (List.mem_append_right _ (List.mem_append_right _ (List.mem_append_left _ he)))
  have s_N : N ⊆ c_tp ++ (c_ps ++ (c_fs ++ (c_le ++ (c_dk ++ (c_gv ++ (c_rc ++ (c_va ++ (c_se ++ (c_kd ++ Rm))))))))) := fun e he => List.mem_append_right _ (List.mem_append_right _ (List.mem_append_right _ (List.mem_append_right _ (List.mem_append_right _ (List.mem_append_right _ (List.mem_append_right _ (List.mem_append_right _ (List.mem_append_right _ (List.mem_append_right _ (sN he))))))))))
  refine yK.perm (D2 := c_wk ++ (c_to ++ (c_mv ++ (c_dr ++ (c_tp ++ (c_ps ++ (c_fs ++ (c_le ++ (c_dk ++ (c_gv ++ (c_rc ++ (c_va ++ (c_se ++ (c_kd ++ Rm)))))))))))))) (pq fun φ => by simp only [cn_a]; omega) (((oC_migrate q2 q5 q8 Cfs Cle Cwk Cto Cmv Cdr s_fs s_le s_N).up (yle rfl) (yle rfl)).mono (yle rfl) (yle rfl) ?_)
  rintro w D ⟨rfl, B0, B1, B2, B3, G, hp, H0, H1, H2, H3⟩
  exact ⟨rfl, c_tp ++ (c_ps ++ (c_fs ++ (c_le ++ (c_dk ++ (B3 ++ (c_gv ++ (c_rc ++ (B2 ++ (B0 ++ (B1 ++ (c_va ++ (c_se ++ c_kd)))))))))))), G, hp.trans (pq fun φ => by simp only [cn_a, cn_n]; omega), IC.mk Ctp (cPs.mono (List.subset_append_right _ _) Cps) (cFs.mono (List.subset_append_right _ _) Cfs) Cle (cDk.mono (List.subset_append_right _ _) Cdk) H3 Cgv Crc H2 H0 H1 Cva (cSe.mono (List.subset_append_right _ _) Cse) Ckd⟩
theorem kM_migrate (q0 : pAll t Fs En z Dr gv n0 Mv se) : kX X 332 [.ref 209, .int x, .int y] (.int (mgV Fs Dr ev x y)) (IM t dk cm Fs En z Dr gv n0 Mv ev fd to va se) (IM t dk (mgC cm (mgX Fs Dr En Mv ev x y)) Fs En z (mgD y Dr (mgX Fs Dr En Mv ev x y)) gv n0 Mv (mgE ev (mgX Fs Dr En Mv ev x y)) fd to va se) := by
  obtain ⟨q1, q2, q3, q4, q5, q6, q7, q8, q9⟩ := q0
  intro N B Rm h sN
  refine h.elim ?_
  intro e_tp e_ps e_fs e_le e_dk e_dr e_lg e_rc e_mv e_wk e_pl e_se e_kd eB Etp Eps Efs Ele Edk Edr Elg Erc Emv Ewk Epl Ese Ekd
  subst eB
  have s_fs : e_fs ⊆ e_tp ++ (e_ps ++ (e_fs ++ (e_le ++ (e_dk ++ (e_lg ++ (e_rc ++ (e_pl ++ (e_se ++ (e_kd ++ Rm))))))))) := fun e he => List.mem_append_right _ (List.mem_append_right _ (List.mem_append_left _ he))
  have s_le : e_le ⊆ e_tp ++ (e_ps ++ (e_fs ++ (e_le ++ (e_dk ++ (e_lg ++ (e_rc ++ (e_pl ++ (e_se ++ (e_kd ++ Rm))))))))) := fun e he => List.mem_append_right _ (List.mem_append_right _ (List.mem_append_right _ (List.mem_append_left _ he)))
  have s_N : N ⊆ e_tp ++ (e_ps ++ (e_fs ++ (e_le ++ (e_dk ++ (e_lg ++ (e_rc ++ (e_pl ++ (e_se ++ (e_kd ++ Rm))))))))) := fun e he => List.mem_append_right _ (List.mem_append_right _ (List.mem_append_right _ (List.mem_append_right _ (List.mem_append_right _ (List.mem_append_right _ (List.mem_append_right _ (List.mem_append_right _ (List.mem_append_right _ (List.mem_append_right _ (sN he))))))))))
  refine yK.perm (D2 := e_wk ++ (e_mv ++ (e_dr ++ (e_tp ++ (e_ps ++ (e_fs ++ (e_le ++ (e_dk ++ (e_lg ++ (e_rc ++ (e_pl ++ (e_se ++ (e_kd ++ Rm))))))))))))) (pq fun φ => by simp only [cn_a]; omega) (((oM_migrate q2 q5 q8 Efs Ele Ewk Emv Edr s_fs s_le s_N).up (yle rfl) (yle rfl)).mono (yle rfl) (yle rfl) ?_)
  rintro w D ⟨rfl, B0, B1, B2, G, hp, H0, H1, H2⟩
  exact ⟨rfl, e_tp ++ (e_ps ++ (e_fs ++ (e_le ++ (e_dk ++ (B2 ++ (e_lg ++ (e_rc ++ (B1 ++ (B0 ++ (e_pl ++ (e_se ++ e_kd))))))))))), G, hp.trans (pq fun φ => by simp only [cn_a, cn_n]; omega), IM.mk Etp (mPs.mono (List.subset_append_right _ _) Eps) (mFs.mono (List.subset_append_right _ _) Efs) Ele (mDk.mono (List.subset_append_right _ _) Edk) H2 (mLg.mono (List.subset_append_right _ _) (Elg.migrate)) Erc H1 H0 Epl Ese Ekd⟩
theorem op_migrate (h : Inv D) : yP2 Value.int X 175 332 [.int x, .int y] D := by
  obtain ⟨t, dk, cm, Fs, En, z, Dr, gv, n0, Mv, ev, fd, to, va, se, N, Bc, Bm, pm0, q0, h1, h2⟩ := h
  refine yp_both (f := Value.int) (r := (mgV Fs Dr ev x y)) (I := IC t dk cm Fs En z Dr gv n0 Mv ev fd to va se) (J := IM t dk cm Fs En z Dr gv n0 Mv ev fd to va se) (I2 := IC t dk (mgC cm (mgX Fs Dr En Mv ev x y)) Fs En z (mgD y Dr (mgX Fs Dr En Mv ev x y)) gv n0 Mv (mgE ev (mgX Fs Dr En Mv ev x y)) fd to va se) (J2 := IM t dk (mgC cm (mgX Fs Dr En Mv ev x y)) Fs En z (mgD y Dr (mgX Fs Dr En Mv ev x y)) gv n0 Mv (mgE ev (mgX Fs Dr En Mv ev x y)) fd to va se) (kC_migrate q0) (kM_migrate q0) pm0 h1 h2 IC.mono IM.mono ?_
  intro D2 N2 Bc2 Bm2 p2 g1 g2
  obtain ⟨q1, q2, q3, q4, q5, q6, q7, q8, q9⟩ := q0
  exact ⟨t, dk, mgC cm (mgX Fs Dr En Mv ev x y), Fs, En, z, mgD y Dr (mgX Fs Dr En Mv ev x y), gv, n0, Mv, mgE ev (mgX Fs Dr En Mv ev x y), fd, to, va, se, N2, Bc2, Bm2, p2, ⟨q1, q2, q3, q4, (pu_migrate q3 q5 q7).1, q6, (pu_migrate q3 q5 q7).2, q8, q9⟩, g1, g2⟩
theorem kC_take (q0 : pAll t Fs En z Dr gv n0 Mv se) : kX X 200 [.ref 78, .int x] (.int (tkAn Fs Dr En dk x)) (IC t dk cm Fs En z Dr gv n0 Mv ev fd to va se) (IC t dk cm Fs En z (tkDr Fs Dr En dk x) gv n0 Mv ev fd to va se) := by
  obtain ⟨q1, q2, q3, q4, q5, q6, q7, q8, q9⟩ := q0
  intro N B Rm h sN
  refine h.elim ?_
  intro c_tp c_ps c_fs c_le c_dk c_dr c_gv c_rc c_mv c_wk c_to c_va c_se c_kd eB Ctp Cps Cfs Cle Cdk Cdr Cgv Crc Cmv Cwk Cto Cva Cse Ckd
  subst eB
  have s_fs : c_fs ⊆ c_tp ++ (c_ps ++ (c_fs ++ (c_le ++ (c_dk ++ (c_gv ++ (c_rc ++ (c_mv ++ (c_wk ++ (c_to ++ (c_va ++ (c_se ++ Rm))))))))))) := fun e he => List.mem_append_right _ (List.mem_append_right _ (List.mem_append_left _ he))
  have s_le : c_le ⊆ c_tp ++ (c_ps ++ (c_fs ++ (c_le ++ (c_dk ++ (c_gv ++ (c_rc ++ (c_mv ++ (c_wk ++ (c_to ++ (c_va ++ (c_se ++ Rm))))))))))) := fun e he => List.mem_append_right _ (List.mem_append_right _ (List.mem_append_right _ (List.mem_append_left _ he)))
  have s_N : N ⊆ c_tp ++ (c_ps ++ (c_fs ++ (c_le ++ (c_dk ++ (c_gv ++ (c_rc ++ (c_mv ++ (c_wk ++ (c_to ++ (c_va ++ (c_se ++ Rm))))))))))) := fun e he => List.mem_append_right _ (List.mem_append_right _ (List.mem_append_right _ (List.mem_append_right _ (List.mem_append_right _ (List.mem_append_right _ (List.mem_append_right _ (List.mem_append_right _ (List.mem_append_right _ (List.mem_append_right _ (List.mem_append_right _ (List.mem_append_right _ (sN he))))))))))))
  refine yK.perm (D2 := c_dr ++ (c_kd ++ (c_tp ++ (c_ps ++ (c_fs ++ (c_le ++ (c_dk ++ (c_gv ++ (c_rc ++ (c_mv ++ (c_wk ++ (c_to ++ (c_va ++ (c_se ++ Rm)))))))))))))) (pq fun φ => by simp only [cn_a]; omega) (((oC_take q2 q5 Cfs Cle Cdr Ckd s_fs s_le s_N).up (yle rfl) (yle rfl)).mono (yle rfl) (yle rfl) ?_)
  rintro w D ⟨rfl, B0, B1, G, hp, H0, H1⟩
  exact ⟨rfl, c_tp ++ (c_ps ++ (c_fs ++ (c_le ++ (c_dk ++ (B0 ++ (c_gv ++ (c_rc ++ (c_mv ++ (c_wk ++ (c_to ++ (c_va ++ (c_se ++ B1)))))))))))), G, hp.trans (pq fun φ => by simp only [cn_a, cn_n]; omega), IC.mk Ctp (cPs.mono (List.subset_append_right _ _) Cps) (cFs.mono (List.subset_append_right _ _) Cfs) Cle (cDk.mono (List.subset_append_right _ _) Cdk) H0 Cgv Crc Cmv Cwk Cto Cva (cSe.mono (List.subset_append_right _ _) Cse) H1⟩
theorem kM_take (q0 : pAll t Fs En z Dr gv n0 Mv se) : kX X 287 [.ref 209, .int x] (.int (tkAn Fs Dr En dk x)) (IM t dk cm Fs En z Dr gv n0 Mv ev fd to va se) (IM t dk cm Fs En z (tkDr Fs Dr En dk x) gv n0 Mv ev fd to va se) := by
  obtain ⟨q1, q2, q3, q4, q5, q6, q7, q8, q9⟩ := q0
  intro N B Rm h sN
  refine h.elim ?_
  intro e_tp e_ps e_fs e_le e_dk e_dr e_lg e_rc e_mv e_wk e_pl e_se e_kd eB Etp Eps Efs Ele Edk Edr Elg Erc Emv Ewk Epl Ese Ekd
  subst eB
  have s_fs : e_fs ⊆ e_tp ++ (e_ps ++ (e_fs ++ (e_le ++ (e_dk ++ (e_lg ++ (e_rc ++ (e_mv ++ (e_pl ++ (e_se ++ Rm))))))))) := fun e he => List.mem_append_right _ (List.mem_append_right _ (List.mem_append_left _ he))
  have s_le : e_le ⊆ e_tp ++ (e_ps ++ (e_fs ++ (e_le ++ (e_dk ++ (e_lg ++ (e_rc ++ (e_mv ++ (e_pl ++ (e_se ++ Rm))))))))) := fun e he => List.mem_append_right _ (List.mem_append_right _ (List.mem_append_right _ (List.mem_append_left _ he)))
  have s_N : N ⊆ e_tp ++ (e_ps ++ (e_fs ++ (e_le ++ (e_dk ++ (e_lg ++ (e_rc ++ (e_mv ++ (e_pl ++ (e_se ++ Rm))))))))) := fun e he => List.mem_append_right _ (List.mem_append_right _ (List.mem_append_right _ (List.mem_append_right _ (List.mem_append_right _ (List.mem_append_right _ (List.mem_append_right _ (List.mem_append_right _ (List.mem_append_right _ (List.mem_append_right _ (sN he))))))))))
  refine yK.perm (D2 := e_dr ++ (e_kd ++ (e_wk ++ (e_tp ++ (e_ps ++ (e_fs ++ (e_le ++ (e_dk ++ (e_lg ++ (e_rc ++ (e_mv ++ (e_pl ++ (e_se ++ Rm))))))))))))) (pq fun φ => by simp only [cn_a]; omega) (((oM_take q2 q5 Efs Ele Edr Ekd Ewk s_fs s_le s_N).up (yle rfl) (yle rfl)).mono (yle rfl) (yle rfl) ?_)
  rintro w D ⟨rfl, B0, B1, B2, G, hp, H0, H1, H2⟩
  exact ⟨rfl, e_tp ++ (e_ps ++ (e_fs ++ (e_le ++ (e_dk ++ (B0 ++ (e_lg ++ (e_rc ++ (e_mv ++ (B2 ++ (e_pl ++ (e_se ++ B1))))))))))), G, hp.trans (pq fun φ => by simp only [cn_a, cn_n]; omega), IM.mk Etp (mPs.mono (List.subset_append_right _ _) Eps) (mFs.mono (List.subset_append_right _ _) Efs) Ele (mDk.mono (List.subset_append_right _ _) Edk) H0 (mLg.mono (List.subset_append_right _ _) (Elg.take q5.1)) Erc Emv H2 Epl Ese H1⟩
theorem op_take (h : Inv D) : yP2 Value.int X 200 287 [.int x] D := by
  obtain ⟨t, dk, cm, Fs, En, z, Dr, gv, n0, Mv, ev, fd, to, va, se, N, Bc, Bm, pm0, q0, h1, h2⟩ := h
  have hb := h1.byt
  refine yp_both (f := Value.int) (r := (tkAn Fs Dr En dk x)) (I := IC t dk cm Fs En z Dr gv n0 Mv ev fd to va se) (J := IM t dk cm Fs En z Dr gv n0 Mv ev fd to va se) (I2 := IC t dk cm Fs En z (tkDr Fs Dr En dk x) gv n0 Mv ev fd to va se) (J2 := IM t dk cm Fs En z (tkDr Fs Dr En dk x) gv n0 Mv ev fd to va se) (kC_take q0) (kM_take q0) pm0 h1 h2 IC.mono IM.mono ?_
  intro D2 N2 Bc2 Bm2 p2 g1 g2
  obtain ⟨q1, q2, q3, q4, q5, q6, q7, q8, q9⟩ := q0
  exact ⟨t, dk, cm, Fs, En, z, tkDr Fs Dr En dk x, gv, n0, Mv, ev, fd, to, va, se, N2, Bc2, Bm2, p2, ⟨q1, q2, q3, q4, (pu_take q2 q3 hb q5 q7).1, q6, (pu_take q2 q3 hb q5 q7).2, q8, q9⟩, g1, g2⟩
theorem kC_keep (q0 : pAll t Fs En z Dr gv n0 Mv se) (hX : ∀ d, keX Fs Dr gv se = some d → pD1 Fs En d ∧ gv + d.2.2.1.length ≤ 400 ∧ Dr.length ≠ 30 ∧ d.2.2.2.1 = -9) : kX X 193 [.ref 78] (.int (keV Dr gv se)) (IC t dk cm Fs En z Dr gv n0 Mv ev fd to va se) (IC t dk cm Fs En z (keD Dr (keX Fs Dr gv se)) (keG gv (keX Fs Dr gv se)) n0 Mv ev fd to va se) := by
  obtain ⟨q1, q2, q3, q4, q5, q6, q7, q8, q9⟩ := q0
  intro N B Rm h sN
  refine h.elim ?_
  intro c_tp c_ps c_fs c_le c_dk c_dr c_gv c_rc c_mv c_wk c_to c_va c_se c_kd eB Ctp Cps Cfs Cle Cdk Cdr Cgv Crc Cmv Cwk Cto Cva Cse Ckd
  subst eB
  have s_se : c_se ⊆ c_tp ++ (c_ps ++ (c_fs ++ (c_le ++ (c_dk ++ (c_rc ++ (c_mv ++ (c_wk ++ (c_to ++ (c_va ++ (c_se ++ (c_kd ++ Rm))))))))))) := fun e he => List.mem_append_right _ (List.mem_append_right _ (List.mem_append_right _ (List.mem_append_right _ (List.mem_append_right _ (List.mem_append_right _ (List.mem_append_right _ (List.mem_append_right _ (List.mem_append_right _ (List.mem_append_right _ (List.mem_append_left _ he))))))))))
  have s_N : N ⊆ c_tp ++ (c_ps ++ (c_fs ++ (c_le ++ (c_dk ++ (c_rc ++ (c_mv ++ (c_wk ++ (c_to ++ (c_va ++ (c_se ++ (c_kd ++ Rm))))))))))) := fun e he => List.mem_append_right _ (List.mem_append_right _ (List.mem_append_right _ (List.mem_append_right _ (List.mem_append_right _ (List.mem_append_right _ (List.mem_append_right _ (List.mem_append_right _ (List.mem_append_right _ (List.mem_append_right _ (List.mem_append_right _ (List.mem_append_right _ (sN he))))))))))))
  refine yK.perm (D2 := c_dr ++ (c_gv ++ (c_tp ++ (c_ps ++ (c_fs ++ (c_le ++ (c_dk ++ (c_rc ++ (c_mv ++ (c_wk ++ (c_to ++ (c_va ++ (c_se ++ (c_kd ++ Rm)))))))))))))) (pq fun φ => by simp only [cn_a]; omega) (((oC_keep q2 q5 q6 Cse Cdr Cgv s_se s_N).up (yle rfl) (yle rfl)).mono (yle rfl) (yle rfl) ?_)
  rintro w D ⟨rfl, B0, B1, G, hp, H0, H1⟩
  exact ⟨rfl, c_tp ++ (c_ps ++ (c_fs ++ (c_le ++ (c_dk ++ (B0 ++ (B1 ++ (c_rc ++ (c_mv ++ (c_wk ++ (c_to ++ (c_va ++ (c_se ++ c_kd)))))))))))), G, hp.trans (pq fun φ => by simp only [cn_a, cn_n]; omega), IC.mk Ctp (cPs.mono (List.subset_append_right _ _) Cps) (cFs.mono (List.subset_append_right _ _) Cfs) Cle (cDk.mono (List.subset_append_right _ _) Cdk) H0 H1 Crc Cmv Cwk Cto Cva (cSe.mono (List.subset_append_right _ _) Cse) Ckd⟩
theorem kM_keep (q0 : pAll t Fs En z Dr gv n0 Mv se) (hX : ∀ d, keX Fs Dr gv se = some d → pD1 Fs En d ∧ gv + d.2.2.1.length ≤ 400 ∧ Dr.length ≠ 30 ∧ d.2.2.2.1 = -9) : kX X 343 [.ref 209] (.int (keV Dr gv se)) (IM t dk cm Fs En z Dr gv n0 Mv ev fd to va se) (IM t dk cm Fs En z (keD Dr (keX Fs Dr gv se)) (keG gv (keX Fs Dr gv se)) n0 Mv ev fd to va se) := by
  obtain ⟨q1, q2, q3, q4, q5, q6, q7, q8, q9⟩ := q0
  intro N B Rm h sN
  refine h.elim ?_
  intro e_tp e_ps e_fs e_le e_dk e_dr e_lg e_rc e_mv e_wk e_pl e_se e_kd eB Etp Eps Efs Ele Edk Edr Elg Erc Emv Ewk Epl Ese Ekd
  subst eB
  have s_se : e_se ⊆ e_tp ++ (e_ps ++ (e_fs ++ (e_le ++ (e_dk ++ (e_rc ++ (e_mv ++ (e_pl ++ (e_se ++ (e_kd ++ Rm))))))))) := fun e he => List.mem_append_right _ (List.mem_append_right _ (List.mem_append_right _ (List.mem_append_right _ (List.mem_append_right _ (List.mem_append_right _ (List.mem_append_right _ (List.mem_append_right _ (List.mem_append_left _ he))))))))
  have s_fs : e_fs ⊆ e_tp ++ (e_ps ++ (e_fs ++ (e_le ++ (e_dk ++ (e_rc ++ (e_mv ++ (e_pl ++ (e_se ++ (e_kd ++ Rm))))))))) := fun e he => List.mem_append_right _ (List.mem_append_right _ (List.mem_append_left _ he))
  have s_le : e_le ⊆ e_tp ++ (e_ps ++ (e_fs ++ (e_le ++ (e_dk ++ (e_rc ++ (e_mv ++ (e_pl ++ (e_se ++ (e_kd ++ Rm))))))))) := fun e he => List.mem_append_right _ (List.mem_append_right _ (List.mem_append_right _ (List.mem_append_left _ he)))
  have s_N : N ⊆ e_tp ++ (e_ps ++ (e_fs ++ (e_le ++ (e_dk ++ (e_rc ++ (e_mv ++ (e_pl ++ (e_se ++ (e_kd ++ Rm))))))))) := fun e he => List.mem_append_right _ (List.mem_append_right _ (List.mem_append_right _ (List.mem_append_right _ (List.mem_append_right _ (List.mem_append_right _ (List.mem_append_right _ (List.mem_append_right _ (List.mem_append_right _ (List.mem_append_right _ (sN he))))))))))
  refine yK.perm (D2 := e_dr ++ (e_lg ++ (e_wk ++ (e_tp ++ (e_ps ++ (e_fs ++ (e_le ++ (e_dk ++ (e_rc ++ (e_mv ++ (e_pl ++ (e_se ++ (e_kd ++ Rm))))))))))))) (pq fun φ => by simp only [cn_a]; omega) (((oM_keep q2 q5 q6 (fun d hd c hc => ((hX d hd).1.2.2.2 c hc).1) Ese Efs Ele Edr Elg Ewk s_se s_fs s_le s_N).up (yle rfl) (yle rfl)).mono (yle rfl) (yle rfl) ?_)
  rintro w D ⟨rfl, B0, B1, B2, G, hp, H0, H1, H2⟩
  exact ⟨rfl, e_tp ++ (e_ps ++ (e_fs ++ (e_le ++ (e_dk ++ (B0 ++ (B1 ++ (e_rc ++ (e_mv ++ (B2 ++ (e_pl ++ (e_se ++ e_kd))))))))))), G, hp.trans (pq fun φ => by simp only [cn_a, cn_n]; omega), IM.mk Etp (mPs.mono (List.subset_append_right _ _) Eps) (mFs.mono (List.subset_append_right _ _) Efs) Ele (mDk.mono (List.subset_append_right _ _) Edk) H0 H1 Erc Emv H2 Epl Ese Ekd⟩
theorem op_keep (h : Inv D) : yP2 Value.int X 193 343 [] D := by
  obtain ⟨t, dk, cm, Fs, En, z, Dr, gv, n0, Mv, ev, fd, to, va, se, N, Bc, Bm, pm0, q0, h1, h2⟩ := h
  have hX := h1.ke (Dr := Dr) (gv := gv) q0.2.1
  refine yp_both (f := Value.int) (r := (keV Dr gv se)) (I := IC t dk cm Fs En z Dr gv n0 Mv ev fd to va se) (J := IM t dk cm Fs En z Dr gv n0 Mv ev fd to va se) (I2 := IC t dk cm Fs En z (keD Dr (keX Fs Dr gv se)) (keG gv (keX Fs Dr gv se)) n0 Mv ev fd to va se) (J2 := IM t dk cm Fs En z (keD Dr (keX Fs Dr gv se)) (keG gv (keX Fs Dr gv se)) n0 Mv ev fd to va se) (kC_keep q0 hX) (kM_keep q0 hX) pm0 h1 h2 IC.mono IM.mono ?_
  intro D2 N2 Bc2 Bm2 p2 g1 g2
  obtain ⟨q1, q2, q3, q4, q5, q6, q7, q8, q9⟩ := q0
  exact ⟨t, dk, cm, Fs, En, z, keD Dr (keX Fs Dr gv se), keG gv (keX Fs Dr gv se), n0, Mv, ev, fd, to, va, se, N2, Bc2, Bm2, p2, ⟨q1, q2, q3, q4, (pu_keep hX q5 q7 q6).1, (pu_keep hX q5 q7 q6).2.2, (pu_keep hX q5 q7 q6).2.1, q8, q9⟩, g1, g2⟩
theorem kC_short (hKe : K = 300) (q0 : pAll t Fs En z Dr gv n0 Mv se) : kX X 180 [.ref 78, .int x, .int y] (.int (shV En K ev x y se (shG Fs ev x y))) (IC t dk cm Fs En z Dr gv n0 Mv ev fd to va se) (IC t dk cm Fs En z Dr gv n0 Mv (shE En K ev x y se (shG Fs ev x y).2) fd to va (shS En K ev x y se (shG Fs ev x y).2)) := by
  obtain ⟨q1, q2, q3, q4, q5, q6, q7, q8, q9⟩ := q0
  intro N B Rm h sN
  refine h.elim ?_
  intro c_tp c_ps c_fs c_le c_dk c_dr c_gv c_rc c_mv c_wk c_to c_va c_se c_kd eB Ctp Cps Cfs Cle Cdk Cdr Cgv Crc Cmv Cwk Cto Cva Cse Ckd
  subst eB
  have s_fs : c_fs ⊆ c_tp ++ (c_ps ++ (c_fs ++ (c_le ++ (c_dk ++ (c_dr ++ (c_gv ++ (c_rc ++ (c_mv ++ (c_va ++ (c_kd ++ Rm)))))))))) := fun e he => List.mem_append_right _ (List.mem_append_right _ (List.mem_append_left _ he))
  have s_le : c_le ⊆ c_tp ++ (c_ps ++ (c_fs ++ (c_le ++ (c_dk ++ (c_dr ++ (c_gv ++ (c_rc ++ (c_mv ++ (c_va ++ (c_kd ++ Rm)))))))))) := fun e he => List.mem_append_right _ (List.mem_append_right _ (List.mem_append_right _ (List.mem_append_left _ he)))
  have s_N : N ⊆ c_tp ++ (c_ps ++ (c_fs ++ (c_le ++ (c_dk ++ (c_dr ++ (c_gv ++ (c_rc ++ (c_mv ++ (c_va ++ (c_kd ++ Rm)))))))))) := fun e he => List.mem_append_right _ (List.mem_append_right _ (List.mem_append_right _ (List.mem_append_right _ (List.mem_append_right _ (List.mem_append_right _ (List.mem_append_right _ (List.mem_append_right _ (List.mem_append_right _ (List.mem_append_right _ (List.mem_append_right _ (sN he)))))))))))
  refine yK.perm (D2 := c_wk ++ (c_to ++ (c_se ++ (c_tp ++ (c_ps ++ (c_fs ++ (c_le ++ (c_dk ++ (c_dr ++ (c_gv ++ (c_rc ++ (c_mv ++ (c_va ++ (c_kd ++ Rm)))))))))))))) (pq fun φ => by simp only [cn_a]; omega) (((oC_short hKe q2 q9 Cfs Cle Cwk Cto Cse s_fs s_le s_N).up (yle rfl) (yle rfl)).mono (yle rfl) (yle rfl) ?_)
  rintro w D ⟨rfl, B0, B1, B2, hp, H0, H1, H2⟩
  exact ⟨rfl, c_tp ++ (c_ps ++ (c_fs ++ (c_le ++ (c_dk ++ (c_dr ++ (c_gv ++ (c_rc ++ (c_mv ++ (B0 ++ (B1 ++ (c_va ++ (B2 ++ c_kd)))))))))))), [], hp.trans (pq fun φ => by simp only [cn_a, cn_n]; omega), IC.mk Ctp Cps Cfs Cle Cdk Cdr Cgv Crc Cmv H0 H1 Cva H2 Ckd⟩
theorem kM_short (hKe : K = 300) (q0 : pAll t Fs En z Dr gv n0 Mv se) : kX X 335 [.ref 209, .int x, .int y] (.int (shV En K ev x y se (shG Fs ev x y))) (IM t dk cm Fs En z Dr gv n0 Mv ev fd to va se) (IM t dk cm Fs En z Dr gv n0 Mv (shE En K ev x y se (shG Fs ev x y).2) fd to va (shS En K ev x y se (shG Fs ev x y).2)) := by
  obtain ⟨q1, q2, q3, q4, q5, q6, q7, q8, q9⟩ := q0
  intro N B Rm h sN
  refine h.elim ?_
  intro e_tp e_ps e_fs e_le e_dk e_dr e_lg e_rc e_mv e_wk e_pl e_se e_kd eB Etp Eps Efs Ele Edk Edr Elg Erc Emv Ewk Epl Ese Ekd
  subst eB
  have s_fs : e_fs ⊆ e_tp ++ (e_ps ++ (e_fs ++ (e_le ++ (e_dk ++ (e_lg ++ (e_rc ++ (e_mv ++ (e_kd ++ Rm)))))))) := fun e he => List.mem_append_right _ (List.mem_append_right _ (List.mem_append_left _ he))
  have s_le : e_le ⊆ e_tp ++ (e_ps ++ (e_fs ++ (e_le ++ (e_dk ++ (e_lg ++ (e_rc ++ (e_mv ++ (e_kd ++ Rm)))))))) := fun e he => List.mem_append_right _ (List.mem_append_right _ (List.mem_append_right _ (List.mem_append_left _ he)))
  have s_N : N ⊆ e_tp ++ (e_ps ++ (e_fs ++ (e_le ++ (e_dk ++ (e_lg ++ (e_rc ++ (e_mv ++ (e_kd ++ Rm)))))))) := fun e he => List.mem_append_right _ (List.mem_append_right _ (List.mem_append_right _ (List.mem_append_right _ (List.mem_append_right _ (List.mem_append_right _ (List.mem_append_right _ (List.mem_append_right _ (List.mem_append_right _ (sN he)))))))))
  refine yK.perm (D2 := e_wk ++ (e_se ++ (e_dr ++ (e_pl ++ (e_tp ++ (e_ps ++ (e_fs ++ (e_le ++ (e_dk ++ (e_lg ++ (e_rc ++ (e_mv ++ (e_kd ++ Rm))))))))))))) (pq fun φ => by simp only [cn_a]; omega) (((oM_short hKe q2 q5 Efs Ele Ewk Ese Edr Epl s_fs s_le s_N).up (yle rfl) (yle rfl)).mono (yle rfl) (yle rfl) ?_)
  rintro w D ⟨rfl, B0, B1, B2, B3, hp, H0, H1, H2, H3⟩
  exact ⟨rfl, e_tp ++ (e_ps ++ (e_fs ++ (e_le ++ (e_dk ++ (B2 ++ (e_lg ++ (e_rc ++ (e_mv ++ (B0 ++ (B3 ++ (B1 ++ e_kd))))))))))), [], hp.trans (pq fun φ => by simp only [cn_a, cn_n]; omega), IM.mk Etp Eps Efs Ele Edk H2 Elg Erc Emv H0 H3 H1 Ekd⟩
theorem op_short (hKe : K = 300) (h : Inv D) : yP2 Value.int X 180 335 [.int x, .int y] D := by
  obtain ⟨t, dk, cm, Fs, En, z, Dr, gv, n0, Mv, ev, fd, to, va, se, N, Bc, Bm, pm0, q0, h1, h2⟩ := h
  refine yp_both (f := Value.int) (r := (shV En K ev x y se (shG Fs ev x y))) (I := IC t dk cm Fs En z Dr gv n0 Mv ev fd to va se) (J := IM t dk cm Fs En z Dr gv n0 Mv ev fd to va se) (I2 := IC t dk cm Fs En z Dr gv n0 Mv (shE En K ev x y se (shG Fs ev x y).2) fd to va (shS En K ev x y se (shG Fs ev x y).2)) (J2 := IM t dk cm Fs En z Dr gv n0 Mv (shE En K ev x y se (shG Fs ev x y).2) fd to va (shS En K ev x y se (shG Fs ev x y).2)) (kC_short hKe q0) (kM_short hKe q0) pm0 h1 h2 IC.mono IM.mono ?_
  intro D2 N2 Bc2 Bm2 p2 g1 g2
  obtain ⟨q1, q2, q3, q4, q5, q6, q7, q8, q9⟩ := q0
  exact ⟨t, dk, cm, Fs, En, z, Dr, gv, n0, Mv, shE En K ev x y se (shG Fs ev x y).2, fd, to, va, shS En K ev x y se (shG Fs ev x y).2, N2, Bc2, Bm2, p2, ⟨q1, q2, q3, q4, q5, q6, q7, q8, (pu_short q9)⟩, g1, g2⟩
theorem kC_form (q0 : pAll t Fs En z Dr gv n0 Mv se) : kX X 25 [.ref 78] (.int (foV Fs t)) (IC t dk cm Fs En z Dr gv n0 Mv ev fd to va se) (IC ([]) dk cm (foT Fs t) En z Dr gv n0 Mv ev fd to va se) := by
  obtain ⟨q1, q2, q3, q4, q5, q6, q7, q8, q9⟩ := q0
  obtain ⟨Fs2, e2, e3⟩ := foT_app (Fs := Fs) (t := t)
  intro N B Rm h sN
  refine h.elim ?_
  intro c_tp c_ps c_fs c_le c_dk c_dr c_gv c_rc c_mv c_wk c_to c_va c_se c_kd eB Ctp Cps Cfs Cle Cdk Cdr Cgv Crc Cmv Cwk Cto Cva Cse Ckd
  subst eB
  have s_N : N ⊆ c_le ++ (c_dk ++ (c_dr ++ (c_gv ++ (c_rc ++ (c_mv ++ (c_wk ++ (c_to ++ (c_va ++ (c_se ++ (c_kd ++ Rm)))))))))) := fun e he => List.mem_append_right _ (List.mem_append_right _ (List.mem_append_right _ (List.mem_append_right _ (List.mem_append_right _ (List.mem_append_right _ (List.mem_append_right _ (List.mem_append_right _ (List.mem_append_right _ (List.mem_append_right _ (List.mem_append_right _ (sN he)))))))))))
  refine yK.perm (D2 := c_tp ++ (c_ps ++ (c_fs ++ (c_le ++ (c_dk ++ (c_dr ++ (c_gv ++ (c_rc ++ (c_mv ++ (c_wk ++ (c_to ++ (c_va ++ (c_se ++ (c_kd ++ Rm)))))))))))))) (pq fun φ => by simp only [cn_a]; omega) (((oC_form q1 Ctp Cps Cfs s_N).up (yle rfl) (yle rfl)).mono (yle rfl) (yle rfl) ?_)
  rintro w D ⟨rfl, B0, B1, B2, G, hp, H0, H1, H2⟩
  exact ⟨rfl, B0 ++ (B1 ++ (B2 ++ (c_le ++ (c_dk ++ (c_dr ++ (c_gv ++ (c_rc ++ (c_mv ++ (c_wk ++ (c_to ++ (c_va ++ (c_se ++ c_kd)))))))))))), G, hp.trans (pq fun φ => by simp only [cn_a, cn_n]; omega), IC.mk H0 H1 H2 Cle (cDk.mono (List.subset_append_right _ _) Cdk) (cDr.mono (List.subset_append_right _ _) (by rw [e2]; exact Cdr.form)) Cgv Crc Cmv Cwk Cto Cva (cSe.mono (List.subset_append_right _ _) (by rw [e2]; exact Cse.form)) Ckd⟩
theorem kM_form (q0 : pAll t Fs En z Dr gv n0 Mv se) : kX X 210 [.ref 209] (.int (foV Fs t)) (IM t dk cm Fs En z Dr gv n0 Mv ev fd to va se) (IM ([]) dk cm (foT Fs t) En z Dr gv n0 Mv ev fd to va se) := by
  obtain ⟨q1, q2, q3, q4, q5, q6, q7, q8, q9⟩ := q0
  obtain ⟨Fs2, e2, e3⟩ := foT_app (Fs := Fs) (t := t)
  intro N B Rm h sN
  refine h.elim ?_
  intro e_tp e_ps e_fs e_le e_dk e_dr e_lg e_rc e_mv e_wk e_pl e_se e_kd eB Etp Eps Efs Ele Edk Edr Elg Erc Emv Ewk Epl Ese Ekd
  subst eB
  have s_N : N ⊆ e_le ++ (e_dk ++ (e_dr ++ (e_lg ++ (e_rc ++ (e_mv ++ (e_wk ++ (e_pl ++ (e_se ++ (e_kd ++ Rm))))))))) := fun e he => List.mem_append_right _ (List.mem_append_right _ (List.mem_append_right _ (List.mem_append_right _ (List.mem_append_right _ (List.mem_append_right _ (List.mem_append_right _ (List.mem_append_right _ (List.mem_append_right _ (List.mem_append_right _ (sN he))))))))))
  refine yK.perm (D2 := e_tp ++ (e_ps ++ (e_fs ++ (e_le ++ (e_dk ++ (e_dr ++ (e_lg ++ (e_rc ++ (e_mv ++ (e_wk ++ (e_pl ++ (e_se ++ (e_kd ++ Rm))))))))))))) (pq fun φ => by simp only [cn_a]; omega) (((oM_form q1 Etp Eps Efs s_N).up (yle rfl) (yle rfl)).mono (yle rfl) (yle rfl) ?_)
  rintro w D ⟨rfl, B0, B1, B2, G, hp, H0, H1, H2⟩
  exact ⟨rfl, B0 ++ (B1 ++ (B2 ++ (e_le ++ (e_dk ++ (e_dr ++ (e_lg ++ (e_rc ++ (e_mv ++ (e_wk ++ (e_pl ++ (e_se ++ e_kd))))))))))), G, hp.trans (pq fun φ => by simp only [cn_a, cn_n]; omega), IM.mk H0 H1 H2 Ele (mDk.mono (List.subset_append_right _ _) Edk) (mDr.mono (List.subset_append_right _ _) (by rw [e2]; exact Edr.form)) (mLg.mono (List.subset_append_right _ _) Elg) Erc Emv Ewk Epl (by rw [e2]; exact Ese.form) Ekd⟩
theorem op_form (h : Inv D) : yP2 Value.int X 25 210 [] D := by
  obtain ⟨t, dk, cm, Fs, En, z, Dr, gv, n0, Mv, ev, fd, to, va, se, N, Bc, Bm, pm0, q0, h1, h2⟩ := h
  refine yp_both (f := Value.int) (r := (foV Fs t)) (I := IC t dk cm Fs En z Dr gv n0 Mv ev fd to va se) (J := IM t dk cm Fs En z Dr gv n0 Mv ev fd to va se) (I2 := IC ([]) dk cm (foT Fs t) En z Dr gv n0 Mv ev fd to va se) (J2 := IM ([]) dk cm (foT Fs t) En z Dr gv n0 Mv ev fd to va se) (kC_form q0) (kM_form q0) pm0 h1 h2 IC.mono IM.mono ?_
  intro D2 N2 Bc2 Bm2 p2 g1 g2
  obtain ⟨q1, q2, q3, q4, q5, q6, q7, q8, q9⟩ := q0
  obtain ⟨Fs2, e2, e3⟩ := foT_app (Fs := Fs) (t := t)
  exact ⟨[], dk, cm, foT Fs t, En, z, Dr, gv, n0, Mv, ev, fd, to, va, se, N2, Bc2, Bm2, p2, ⟨(fun b hb => by cases hb), (by rw [e2]; exact q2.app e3), q3, q4, (by rw [e2]; exact q5.form), q6, q7, (by rw [e2]; exact q8.form), q9⟩, g1, g2⟩
end CALLSW3
