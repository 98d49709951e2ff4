/-! CALLS OVER THE TWO HALVES: draft, sign, give, back, move, alter, cut, digest, export -/
section CALLSW2
variable {t dk cm : List Int32} {Fs : List yF} {En : List (Int64 × Int32)} {z : Option yO} {Dr : List yD} {gv : Nat} {n0 : Int32} {Mv : List yMv} {ev : Int32} {fd : List yFd} {to : Int32 × Int32 × Int32} {va : Int64} {se : ySe} {X : List Int32} {K : Nat} {x y p q i j n e : Int32}
variable {D N B : List xE}
theorem kC_draft (q0 : pAll t Fs En z Dr gv n0 Mv se) : kX X 107 [.ref 78, .int x] (.int (drfV Fs Dr x)) (IC t dk cm Fs En z Dr gv n0 Mv ev fd to va se) (IC t dk cm Fs En z (drfT Fs Dr x) gv n0 Mv ev fd to va se) := by
  obtain ⟨q1, q2, q3, q4, q5, q6, q7, q8, q9⟩ := q0
  intro N B Rm h sN
  refine h.elim ?_
  intro c_tp c_ps c_fs c_le c_dk c_dr c_gv c_rc c_mv c_wk c_to c_va c_se c_kd eB Ctp Cps Cfs Cle Cdk Cdr Cgv Crc Cmv Cwk Cto Cva Cse Ckd
  subst eB
  have s_fs : c_fs ⊆ c_tp ++ (c_ps ++ (c_fs ++ (c_le ++ (c_dk ++ (c_gv ++ (c_rc ++ (c_mv ++ (c_wk ++ (c_to ++ (c_va ++ (c_se ++ (c_kd ++ Rm)))))))))))) := fun e he => List.mem_append_right _ (List.mem_append_right _ (List.mem_append_left _ he))
  have s_N : N ⊆ c_tp ++ (c_ps ++ (c_fs ++ (c_le ++ (c_dk ++ (c_gv ++ (c_rc ++ (c_mv ++ (c_wk ++ (c_to ++ (c_va ++ (c_se ++ (c_kd ++ Rm)))))))))))) := fun e he => List.mem_append_right _ (List.mem_append_right _ (List.mem_append_right _ (List.mem_append_right _ (List.mem_append_right _ (List.mem_append_right _ (List.mem_append_right _ (List.mem_append_right _ (List.mem_append_right _ (List.mem_append_right _ (List.mem_append_right _ (List.mem_append_right _ (List.mem_append_right _ (sN he)))))))))))))
  refine yK.perm (D2 := c_dr ++ (c_tp ++ (c_ps ++ (c_fs ++ (c_le ++ (c_dk ++ (c_gv ++ (c_rc ++ (c_mv ++ (c_wk ++ (c_to ++ (c_va ++ (c_se ++ (c_kd ++ Rm)))))))))))))) (pq fun φ => by simp only [cn_a]; omega) (((oC_draft q5.1 Cfs Cdr s_fs s_N).up (yle rfl) (yle rfl)).mono (yle rfl) (yle rfl) ?_)
  rintro w D ⟨rfl, B0, hp, H0⟩
  exact ⟨rfl, c_tp ++ (c_ps ++ (c_fs ++ (c_le ++ (c_dk ++ (B0 ++ (c_gv ++ (c_rc ++ (c_mv ++ (c_wk ++ (c_to ++ (c_va ++ (c_se ++ c_kd)))))))))))), [], hp.trans (pq fun φ => by simp only [cn_a, cn_n]; omega), IC.mk Ctp Cps Cfs Cle Cdk H0 Cgv Crc Cmv Cwk Cto Cva Cse Ckd⟩
theorem kM_draft (q0 : pAll t Fs En z Dr gv n0 Mv se) : kX X 267 [.ref 209, .int x] (.int (drfV Fs Dr x)) (IM t dk cm Fs En z Dr gv n0 Mv ev fd to va se) (IM t dk cm Fs En z (drfT Fs Dr x) gv n0 Mv ev fd to va se) := by
  obtain ⟨q1, q2, q3, q4, q5, q6, q7, q8, q9⟩ := q0
  intro N B Rm h sN
  refine h.elim ?_
  intro e_tp e_ps e_fs e_le e_dk e_dr e_lg e_rc e_mv e_wk e_pl e_se e_kd eB Etp Eps Efs Ele Edk Edr Elg Erc Emv Ewk Epl Ese Ekd
  subst eB
  have s_fs : e_fs ⊆ e_tp ++ (e_ps ++ (e_fs ++ (e_le ++ (e_dk ++ (e_lg ++ (e_rc ++ (e_mv ++ (e_wk ++ (e_pl ++ (e_se ++ (e_kd ++ Rm))))))))))) := fun e he => List.mem_append_right _ (List.mem_append_right _ (List.mem_append_left _ he))
  refine yK.perm (D2 := e_dr ++ (e_tp ++ (e_ps ++ (e_fs ++ (e_le ++ (e_dk ++ (e_lg ++ (e_rc ++ (e_mv ++ (e_wk ++ (e_pl ++ (e_se ++ (e_kd ++ Rm))))))))))))) (pq fun φ => by simp only [cn_a]; omega) (((oM_draft q5 Efs Edr s_fs).up (yle rfl) (yle rfl)).mono (yle rfl) (yle rfl) ?_)
  rintro w D ⟨rfl, B0, hp, H0⟩
  exact ⟨rfl, e_tp ++ (e_ps ++ (e_fs ++ (e_le ++ (e_dk ++ (B0 ++ (e_lg ++ (e_rc ++ (e_mv ++ (e_wk ++ (e_pl ++ (e_se ++ e_kd))))))))))), [], hp.trans (pq fun φ => by simp only [cn_a, cn_n]; omega), IM.mk Etp Eps Efs Ele Edk H0 (Elg.draft) Erc Emv Ewk Epl Ese Ekd⟩
theorem op_draft (h : Inv D) : yP2 Value.int X 107 267 [.int x] D := by
  obtain ⟨t, dk, cm, Fs, En, z, Dr, gv, n0, Mv, ev, fd, to, va, se, N, Bc, Bm, pm0, q0, h1, h2⟩ := h
  refine yp_both (f := Value.int) (r := (drfV Fs Dr x)) (I := IC t dk cm Fs En z Dr gv n0 Mv ev fd to va se) (J := IM t dk cm Fs En z Dr gv n0 Mv ev fd to va se) (I2 := IC t dk cm Fs En z (drfT Fs Dr x) gv n0 Mv ev fd to va se) (J2 := IM t dk cm Fs En z (drfT Fs Dr x) gv n0 Mv ev fd to va se) (kC_draft q0) (kM_draft q0) pm0 h1 h2 IC.mono IM.mono ?_
  intro D2 N2 Bc2 Bm2 p2 g1 g2
  obtain ⟨q1, q2, q3, q4, q5, q6, q7, q8, q9⟩ := q0
  exact ⟨t, dk, cm, Fs, En, z, drfT Fs Dr x, gv, n0, Mv, ev, fd, to, va, se, N2, Bc2, Bm2, p2, ⟨q1, q2, q3, q4, (pu_draft q5 q7).1, q6, (pu_draft q5 q7).2, q8, q9⟩, g1, g2⟩
theorem kC_sign (q0 : pAll t Fs En z Dr gv n0 Mv se) : kX X 171 [.ref 78, .int x, .int y] (.int (sgV Fs Dr x y)) (IC t dk cm Fs En z Dr gv n0 Mv ev fd to va se) (IC t dk cm Fs En z (sgT Fs Dr x y) gv n0 Mv ev fd to va se) := by
  obtain ⟨q1, q2, q3, q4, q5, q6, q7, q8, q9⟩ := q0
  intro N B Rm h sN
  refine h.elim ?_
  intro c_tp c_ps c_fs c_le c_dk c_dr c_gv c_rc c_mv c_wk c_to c_va c_se c_kd eB Ctp Cps Cfs Cle Cdk Cdr Cgv Crc Cmv Cwk Cto Cva Cse Ckd
  subst eB
  have s_N : N ⊆ c_tp ++ (c_ps ++ (c_fs ++ (c_le ++ (c_dk ++ (c_gv ++ (c_rc ++ (c_mv ++ (c_wk ++ (c_to ++ (c_va ++ (c_se ++ (c_kd ++ Rm)))))))))))) := fun e he => List.mem_append_right _ (List.mem_append_right _ (List.mem_append_right _ (List.mem_append_right _ (List.mem_append_right _ (List.mem_append_right _ (List.mem_append_right _ (List.mem_append_right _ (List.mem_append_right _ (List.mem_append_right _ (List.mem_append_right _ (List.mem_append_right _ (List.mem_append_right _ (sN he)))))))))))))
  refine yK.perm (D2 := c_dr ++ (c_tp ++ (c_ps ++ (c_fs ++ (c_le ++ (c_dk ++ (c_gv ++ (c_rc ++ (c_mv ++ (c_wk ++ (c_to ++ (c_va ++ (c_se ++ (c_kd ++ Rm)))))))))))))) (pq fun φ => by simp only [cn_a]; omega) (((oC_sign q5 Cdr s_N).up (yle rfl) (yle rfl)).mono (yle rfl) (yle rfl) ?_)
  rintro w D ⟨rfl, B0, hp, H0⟩
  exact ⟨rfl, c_tp ++ (c_ps ++ (c_fs ++ (c_le ++ (c_dk ++ (B0 ++ (c_gv ++ (c_rc ++ (c_mv ++ (c_wk ++ (c_to ++ (c_va ++ (c_se ++ c_kd)))))))))))), [], hp.trans (pq fun φ => by simp only [cn_a, cn_n]; omega), IC.mk Ctp Cps Cfs Cle Cdk H0 Cgv Crc Cmv Cwk Cto Cva Cse Ckd⟩
theorem kM_sign (q0 : pAll t Fs En z Dr gv n0 Mv se) : kX X 327 [.ref 209, .int x, .int y] (.int (sgV Fs Dr x y)) (IM t dk cm Fs En z Dr gv n0 Mv ev fd to va se) (IM t dk cm Fs En z (sgT Fs Dr x y) gv n0 Mv ev fd to va se) := by
  obtain ⟨q1, q2, q3, q4, q5, q6, q7, q8, q9⟩ := q0
  intro N B Rm h sN
  refine h.elim ?_
  intro e_tp e_ps e_fs e_le e_dk e_dr e_lg e_rc e_mv e_wk e_pl e_se e_kd eB Etp Eps Efs Ele Edk Edr Elg Erc Emv Ewk Epl Ese Ekd
  subst eB
  have s_fs : e_fs ⊆ e_tp ++ (e_ps ++ (e_fs ++ (e_le ++ (e_dk ++ (e_lg ++ (e_rc ++ (e_mv ++ (e_wk ++ (e_pl ++ (e_se ++ (e_kd ++ Rm))))))))))) := fun e he => List.mem_append_right _ (List.mem_append_right _ (List.mem_append_left _ he))
  have s_N : N ⊆ e_tp ++ (e_ps ++ (e_fs ++ (e_le ++ (e_dk ++ (e_lg ++ (e_rc ++ (e_mv ++ (e_wk ++ (e_pl ++ (e_se ++ (e_kd ++ Rm))))))))))) := fun e he => List.mem_append_right _ (List.mem_append_right _ (List.mem_append_right _ (List.mem_append_right _ (List.mem_append_right _ (List.mem_append_right _ (List.mem_append_right _ (List.mem_append_right _ (List.mem_append_right _ (List.mem_append_right _ (List.mem_append_right _ (List.mem_append_right _ (sN he))))))))))))
  refine yK.perm (D2 := e_dr ++ (e_tp ++ (e_ps ++ (e_fs ++ (e_le ++ (e_dk ++ (e_lg ++ (e_rc ++ (e_mv ++ (e_wk ++ (e_pl ++ (e_se ++ (e_kd ++ Rm))))))))))))) (pq fun φ => by simp only [cn_a]; omega) (((oM_sign q2 q5 Efs Edr s_fs s_N).up (yle rfl) (yle rfl)).mono (yle rfl) (yle rfl) ?_)
  rintro w D ⟨rfl, B0, hp, H0⟩
  exact ⟨rfl, e_tp ++ (e_ps ++ (e_fs ++ (e_le ++ (e_dk ++ (B0 ++ (e_lg ++ (e_rc ++ (e_mv ++ (e_wk ++ (e_pl ++ (e_se ++ e_kd))))))))))), [], hp.trans (pq fun φ => by simp only [cn_a, cn_n]; omega), IM.mk Etp Eps Efs Ele Edk H0 (Elg.sign) Erc Emv Ewk Epl Ese Ekd⟩
theorem op_sign (h : Inv D) : yP2 Value.int X 171 327 [.int x, .int y] D := by
  obtain ⟨t, dk, cm, Fs, En, z, Dr, gv, n0, Mv, ev, fd, to, va, se, N, Bc, Bm, pm0, q0, h1, h2⟩ := h
  refine yp_both (f := Value.int) (r := (sgV Fs Dr x y)) (I := IC t dk cm Fs En z Dr gv n0 Mv ev fd to va se) (J := IM t dk cm Fs En z Dr gv n0 Mv ev fd to va se) (I2 := IC t dk cm Fs En z (sgT Fs Dr x y) gv n0 Mv ev fd to va se) (J2 := IM t dk cm Fs En z (sgT Fs Dr x y) gv n0 Mv ev fd to va se) (kC_sign q0) (kM_sign q0) pm0 h1 h2 IC.mono IM.mono ?_
  intro D2 N2 Bc2 Bm2 p2 g1 g2
  obtain ⟨q1, q2, q3, q4, q5, q6, q7, q8, q9⟩ := q0
  exact ⟨t, dk, cm, Fs, En, z, sgT Fs Dr x y, gv, n0, Mv, ev, fd, to, va, se, N2, Bc2, Bm2, p2, ⟨q1, q2, q3, q4, (pu_sign q5 q7).1, q6, (pu_sign q5 q7).2, q8, q9⟩, g1, g2⟩
theorem kC_give (q0 : pAll t Fs En z Dr gv n0 Mv se) : kX X 110 [.ref 78, .int x, .int y] (.int (gvV Fs Dr gv x y)) (IC t dk cm Fs En z Dr gv n0 Mv ev fd to va se) (IC t dk cm Fs En (if gvG Fs Dr gv x y then none else z) (if gvG Fs Dr gv x y then updD Dr x (gvD y z) else Dr) (if gvG Fs Dr gv x y then gv + 1 else gv) n0 Mv ev fd to va se) := by
  obtain ⟨q1, q2, q3, q4, q5, q6, q7, q8, q9⟩ := q0
  intro N B Rm h sN
  refine h.elim ?_
  intro c_tp c_ps c_fs c_le c_dk c_dr c_gv c_rc c_mv c_wk c_to c_va c_se c_kd eB Ctp Cps Cfs Cle Cdk Cdr Cgv Crc Cmv Cwk Cto Cva Cse Ckd
  subst eB
  have s_N : N ⊆ c_tp ++ (c_ps ++ (c_fs ++ (c_le ++ (c_rc ++ (c_mv ++ (c_wk ++ (c_to ++ (c_va ++ (c_se ++ (c_kd ++ Rm)))))))))) := fun e he => List.mem_append_right _ (List.mem_append_right _ (List.mem_append_right _ (List.mem_append_right _ (List.mem_append_right _ (List.mem_append_right _ (List.mem_append_right _ (List.mem_append_right _ (List.mem_append_right _ (List.mem_append_right _ (List.mem_append_right _ (sN he)))))))))))
  refine yK.perm (D2 := c_dk ++ (c_dr ++ (c_gv ++ (c_tp ++ (c_ps ++ (c_fs ++ (c_le ++ (c_rc ++ (c_mv ++ (c_wk ++ (c_to ++ (c_va ++ (c_se ++ (c_kd ++ Rm)))))))))))))) (pq fun φ => by simp only [cn_a]; omega) (((oC_give q2 q5 q4 q6 Cdk Cdr Cgv s_N).up (yle rfl) (yle rfl)).mono (yle rfl) (yle rfl) ?_)
  rintro w D ⟨rfl, B0, B1, B2, G, hp, H0, H1, H2⟩
  exact ⟨rfl, c_tp ++ (c_ps ++ (c_fs ++ (c_le ++ (B0 ++ (B1 ++ (B2 ++ (c_rc ++ (c_mv ++ (c_wk ++ (c_to ++ (c_va ++ (c_se ++ c_kd)))))))))))), G, hp.trans (pq fun φ => by simp only [cn_a, cn_n]; omega), IC.mk Ctp (cPs.mono (List.subset_append_right _ _) Cps) (cFs.mono (List.subset_append_right _ _) Cfs) Cle H0 H1 H2 Crc Cmv Cwk Cto Cva (cSe.mono (List.subset_append_right _ _) Cse) Ckd⟩
theorem kM_give (q0 : pAll t Fs En z Dr gv n0 Mv se) : kX X 269 [.ref 209, .int x, .int y] (.int (gvV Fs Dr gv x y)) (IM t dk cm Fs En z Dr gv n0 Mv ev fd to va se) (IM t dk cm Fs En (if gvG Fs Dr gv x y then none else z) (if gvG Fs Dr gv x y then updD Dr x (gvD y z) else Dr) (if gvG Fs Dr gv x y then gv + 1 else gv) n0 Mv ev fd to va se) := by
  obtain ⟨q1, q2, q3, q4, q5, q6, q7, q8, q9⟩ := q0
  intro N B Rm h sN
  refine h.elim ?_
  intro e_tp e_ps e_fs e_le e_dk e_dr e_lg e_rc e_mv e_wk e_pl e_se e_kd eB Etp Eps Efs Ele Edk Edr Elg Erc Emv Ewk Epl Ese Ekd
  subst eB
  have s_fs : e_fs ⊆ e_tp ++ (e_ps ++ (e_fs ++ (e_le ++ (e_rc ++ (e_mv ++ (e_wk ++ (e_pl ++ (e_se ++ (e_kd ++ Rm))))))))) := fun e he => List.mem_append_right _ (List.mem_append_right _ (List.mem_append_left _ he))
  have s_N : N ⊆ e_tp ++ (e_ps ++ (e_fs ++ (e_le ++ (e_rc ++ (e_mv ++ (e_wk ++ (e_pl ++ (e_se ++ (e_kd ++ Rm))))))))) := fun e he => List.mem_append_right _ (List.mem_append_right _ (List.mem_append_right _ (List.mem_append_right _ (List.mem_append_right _ (List.mem_append_right _ (List.mem_append_right _ (List.mem_append_right _ (List.mem_append_right _ (List.mem_append_right _ (sN he))))))))))
  refine yK.perm (D2 := e_dk ++ (e_dr ++ (e_lg ++ (e_tp ++ (e_ps ++ (e_fs ++ (e_le ++ (e_rc ++ (e_mv ++ (e_wk ++ (e_pl ++ (e_se ++ (e_kd ++ Rm))))))))))))) (pq fun φ => by simp only [cn_a]; omega) (((oM_give q2 q5 q6 Efs Edk Edr Elg s_fs s_N).up (yle rfl) (yle rfl)).mono (yle rfl) (yle rfl) ?_)
  rintro w D ⟨rfl, B0, B1, B2, G, hp, H0, H1, H2⟩
  exact ⟨rfl, e_tp ++ (e_ps ++ (e_fs ++ (e_le ++ (B0 ++ (B1 ++ (B2 ++ (e_rc ++ (e_mv ++ (e_wk ++ (e_pl ++ (e_se ++ e_kd))))))))))), G, hp.trans (pq fun φ => by simp only [cn_a, cn_n]; omega), IM.mk Etp (mPs.mono (List.subset_append_right _ _) Eps) (mFs.mono (List.subset_append_right _ _) Efs) Ele H0 H1 H2 Erc Emv Ewk Epl Ese Ekd⟩
theorem op_give (h : Inv D) : yP2 Value.int X 110 269 [.int x, .int y] D := by
  obtain ⟨t, dk, cm, Fs, En, z, Dr, gv, n0, Mv, ev, fd, to, va, se, N, Bc, Bm, pm0, q0, h1, h2⟩ := h
  refine yp_both (f := Value.int) (r := (gvV Fs Dr gv x y)) (I := IC t dk cm Fs En z Dr gv n0 Mv ev fd to va se) (J := IM t dk cm Fs En z Dr gv n0 Mv ev fd to va se) (I2 := IC t dk cm Fs En (if gvG Fs Dr gv x y then none else z) (if gvG Fs Dr gv x y then updD Dr x (gvD y z) else Dr) (if gvG Fs Dr gv x y then gv + 1 else gv) n0 Mv ev fd to va se) (J2 := IM t dk cm Fs En (if gvG Fs Dr gv x y then none else z) (if gvG Fs Dr gv x y then updD Dr x (gvD y z) else Dr) (if gvG Fs Dr gv x y then gv + 1 else gv) n0 Mv ev fd to va se) (kC_give q0) (kM_give q0) pm0 h1 h2 IC.mono IM.mono ?_
  intro D2 N2 Bc2 Bm2 p2 g1 g2
  obtain ⟨q1, q2, q3, q4, q5, q6, q7, q8, q9⟩ := q0
  obtain ⟨r1, r2, r3, r4⟩ := pu_give (x := x) (y := y) q2 q4 q5 q7 q6
  exact ⟨t, dk, cm, Fs, En, if gvG Fs Dr gv x y then none else z, if gvG Fs Dr gv x y then updD Dr x (gvD y z) else Dr, if gvG Fs Dr gv x y then gv + 1 else gv, n0, Mv, ev, fd, to, va, se, N2, Bc2, Bm2, p2, ⟨q1, q2, q3, r1, r2, r4, r3, q8, q9⟩, g1, g2⟩
theorem kC_back (q0 : pAll t Fs En z Dr gv n0 Mv se) : kX X 114 [.ref 78, .int x] (.int (bkV Dr x)) (IC t dk cm Fs En z Dr gv n0 Mv ev fd to va se) (IC t dk cm Fs En z (updD Dr x bkD) gv n0 Mv ev fd to va se) := by
  obtain ⟨q1, q2, q3, q4, q5, q6, q7, q8, q9⟩ := q0
  intro N B Rm h sN
  refine h.elim ?_
  intro c_tp c_ps c_fs c_le c_dk c_dr c_gv c_rc c_mv c_wk c_to c_va c_se c_kd eB Ctp Cps Cfs Cle Cdk Cdr Cgv Crc Cmv Cwk Cto Cva Cse Ckd
  subst eB
  have s_N : N ⊆ c_tp ++ (c_ps ++ (c_fs ++ (c_le ++ (c_dk ++ (c_gv ++ (c_rc ++ (c_mv ++ (c_wk ++ (c_to ++ (c_va ++ (c_se ++ (c_kd ++ Rm)))))))))))) := fun e he => List.mem_append_right _ (List.mem_append_right _ (List.mem_append_right _ (List.mem_append_right _ (List.mem_append_right _ (List.mem_append_right _ (List.mem_append_right _ (List.mem_append_right _ (List.mem_append_right _ (List.mem_append_right _ (List.mem_append_right _ (List.mem_append_right _ (List.mem_append_right _ (sN he)))))))))))))
  refine yK.perm (D2 := c_dr ++ (c_tp ++ (c_ps ++ (c_fs ++ (c_le ++ (c_dk ++ (c_gv ++ (c_rc ++ (c_mv ++ (c_wk ++ (c_to ++ (c_va ++ (c_se ++ (c_kd ++ Rm)))))))))))))) (pq fun φ => by simp only [cn_a]; omega) (((oC_back q5 Cdr s_N).up (yle rfl) (yle rfl)).mono (yle rfl) (yle rfl) ?_)
  rintro w D ⟨rfl, B0, hp, H0⟩
  exact ⟨rfl, c_tp ++ (c_ps ++ (c_fs ++ (c_le ++ (c_dk ++ (B0 ++ (c_gv ++ (c_rc ++ (c_mv ++ (c_wk ++ (c_to ++ (c_va ++ (c_se ++ c_kd)))))))))))), [], hp.trans (pq fun φ => by simp only [cn_a, cn_n]; omega), IC.mk Ctp Cps Cfs Cle Cdk H0 Cgv Crc Cmv Cwk Cto Cva Cse Ckd⟩
theorem kM_back (q0 : pAll t Fs En z Dr gv n0 Mv se) : kX X 274 [.ref 209, .int x] (.int (bkV Dr x)) (IM t dk cm Fs En z Dr gv n0 Mv ev fd to va se) (IM t dk cm Fs En z (updD Dr x bkD) gv n0 Mv ev fd to va se) := by
  obtain ⟨q1, q2, q3, q4, q5, q6, q7, q8, q9⟩ := q0
  intro N B Rm h sN
  refine h.elim ?_
  intro e_tp e_ps e_fs e_le e_dk e_dr e_lg e_rc e_mv e_wk e_pl e_se e_kd eB Etp Eps Efs Ele Edk Edr Elg Erc Emv Ewk Epl Ese Ekd
  subst eB
  have s_N : N ⊆ e_tp ++ (e_ps ++ (e_fs ++ (e_le ++ (e_dk ++ (e_rc ++ (e_mv ++ (e_wk ++ (e_pl ++ (e_se ++ (e_kd ++ Rm)))))))))) := fun e he => List.mem_append_right _ (List.mem_append_right _ (List.mem_append_right _ (List.mem_append_right _ (List.mem_append_right _ (List.mem_append_right _ (List.mem_append_right _ (List.mem_append_right _ (List.mem_append_right _ (List.mem_append_right _ (List.mem_append_right _ (sN he)))))))))))
  refine yK.perm (D2 := e_dr ++ (e_lg ++ (e_tp ++ (e_ps ++ (e_fs ++ (e_le ++ (e_dk ++ (e_rc ++ (e_mv ++ (e_wk ++ (e_pl ++ (e_se ++ (e_kd ++ Rm))))))))))))) (pq fun φ => by simp only [cn_a]; omega) (((oM_back q5 q6 Edr Elg s_N).up (yle rfl) (yle rfl)).mono (yle rfl) (yle rfl) ?_)
  rintro w D ⟨rfl, B0, B1, hp, H0, H1⟩
  exact ⟨rfl, e_tp ++ (e_ps ++ (e_fs ++ (e_le ++ (e_dk ++ (B0 ++ (B1 ++ (e_rc ++ (e_mv ++ (e_wk ++ (e_pl ++ (e_se ++ e_kd))))))))))), [], hp.trans (pq fun φ => by simp only [cn_a, cn_n]; omega), IM.mk Etp Eps Efs Ele Edk H0 H1 Erc Emv Ewk Epl Ese Ekd⟩
theorem op_back (h : Inv D) : yP2 Value.int X 114 274 [.int x] D := by
  obtain ⟨t, dk, cm, Fs, En, z, Dr, gv, n0, Mv, ev, fd, to, va, se, N, Bc, Bm, pm0, q0, h1, h2⟩ := h
  refine yp_both (f := Value.int) (r := (bkV Dr x)) (I := IC t dk cm Fs En z Dr gv n0 Mv ev fd to va se) (J := IM t dk cm Fs En z Dr gv n0 Mv ev fd to va se) (I2 := IC t dk cm Fs En z (updD Dr x bkD) gv n0 Mv ev fd to va se) (J2 := IM t dk cm Fs En z (updD Dr x bkD) gv n0 Mv ev fd to va se) (kC_back q0) (kM_back q0) pm0 h1 h2 IC.mono IM.mono ?_
  intro D2 N2 Bc2 Bm2 p2 g1 g2
  obtain ⟨q1, q2, q3, q4, q5, q6, q7, q8, q9⟩ := q0
  exact ⟨t, dk, cm, Fs, En, z, updD Dr x bkD, gv, n0, Mv, ev, fd, to, va, se, N2, Bc2, Bm2, p2, ⟨q1, q2, q3, q4, (q5.upd (fun d _ hd => hd.back)), q6, (q7.upd bk_rc), q8, q9⟩, g1, g2⟩
theorem kC_move (q0 : pAll t Fs En z Dr gv n0 Mv se) : kX X 174 [.ref 78, .int x, .int p, .int y, .int q] (.int (mvV Fs Mv.length x p y q)) (IC t dk cm Fs En z Dr gv n0 Mv ev fd to va se) (IC t dk (cmT Fs Mv cm x p y q) Fs En z Dr gv n0 (mvT Fs Mv x p y q) ev fd to va se) := by
  obtain ⟨q1, q2, q3, q4, q5, q6, q7, q8, q9⟩ := q0
  intro N B Rm h sN
  refine h.elim ?_
  intro c_tp c_ps c_fs c_le c_dk c_dr c_gv c_rc c_mv c_wk c_to c_va c_se c_kd eB Ctp Cps Cfs Cle Cdk Cdr Cgv Crc Cmv Cwk Cto Cva Cse Ckd
  subst eB
  have s_fs : c_fs ⊆ c_tp ++ (c_ps ++ (c_fs ++ (c_le ++ (c_dk ++ (c_dr ++ (c_gv ++ (c_rc ++ (c_wk ++ (c_to ++ (c_va ++ (c_se ++ (c_kd ++ Rm)))))))))))) := fun e he => List.mem_append_right _ (List.mem_append_right _ (List.mem_append_left _ he))
  have s_N : N ⊆ c_tp ++ (c_ps ++ (c_fs ++ (c_le ++ (c_dk ++ (c_dr ++ (c_gv ++ (c_rc ++ (c_wk ++ (c_to ++ (c_va ++ (c_se ++ (c_kd ++ Rm)))))))))))) := fun e he => List.mem_append_right _ (List.mem_append_right _ (List.mem_append_right _ (List.mem_append_right _ (List.mem_append_right _ (List.mem_append_right _ (List.mem_append_right _ (List.mem_append_right _ (List.mem_append_right _ (List.mem_append_right _ (List.mem_append_right _ (List.mem_append_right _ (List.mem_append_right _ (sN he)))))))))))))
  refine yK.perm (D2 := c_mv ++ (c_tp ++ (c_ps ++ (c_fs ++ (c_le ++ (c_dk ++ (c_dr ++ (c_gv ++ (c_rc ++ (c_wk ++ (c_to ++ (c_va ++ (c_se ++ (c_kd ++ Rm)))))))))))))) (pq fun φ => by simp only [cn_a]; omega) (((oC_move q2 q8.1 Cfs Cmv s_fs s_N).up (yle rfl) (yle rfl)).mono (yle rfl) (yle rfl) ?_)
  rintro w D ⟨rfl, B0, hp, H0⟩
  exact ⟨rfl, c_tp ++ (c_ps ++ (c_fs ++ (c_le ++ (c_dk ++ (c_dr ++ (c_gv ++ (c_rc ++ (B0 ++ (c_wk ++ (c_to ++ (c_va ++ (c_se ++ c_kd)))))))))))), [], hp.trans (pq fun φ => by simp only [cn_a, cn_n]; omega), IC.mk Ctp Cps Cfs Cle Cdk Cdr Cgv Crc H0 Cwk Cto Cva Cse Ckd⟩
theorem kM_move (q0 : pAll t Fs En z Dr gv n0 Mv se) : kX X 330 [.ref 209, .int x, .int p, .int y, .int q] (.int (mvV Fs Mv.length x p y q)) (IM t dk cm Fs En z Dr gv n0 Mv ev fd to va se) (IM t dk (cmT Fs Mv cm x p y q) Fs En z Dr gv n0 (mvT Fs Mv x p y q) ev fd to va se) := by
  obtain ⟨q1, q2, q3, q4, q5, q6, q7, q8, q9⟩ := q0
  intro N B Rm h sN
  refine h.elim ?_
  intro e_tp e_ps e_fs e_le e_dk e_dr e_lg e_rc e_mv e_wk e_pl e_se e_kd eB Etp Eps Efs Ele Edk Edr Elg Erc Emv Ewk Epl Ese Ekd
  subst eB
  have s_fs : e_fs ⊆ e_tp ++ (e_ps ++ (e_fs ++ (e_le ++ (e_dk ++ (e_dr ++ (e_lg ++ (e_rc ++ (e_wk ++ (e_pl ++ (e_se ++ (e_kd ++ Rm))))))))))) := fun e he => List.mem_append_right _ (List.mem_append_right _ (List.mem_append_left _ he))
  have s_N : N ⊆ e_tp ++ (e_ps ++ (e_fs ++ (e_le ++ (e_dk ++ (e_dr ++ (e_lg ++ (e_rc ++ (e_wk ++ (e_pl ++ (e_se ++ (e_kd ++ Rm))))))))))) := fun e he => List.mem_append_right _ (List.mem_append_right _ (List.mem_append_right _ (List.mem_append_right _ (List.mem_append_right _ (List.mem_append_right _ (List.mem_append_right _ (List.mem_append_right _ (List.mem_append_right _ (List.mem_append_right _ (List.mem_append_right _ (List.mem_append_right _ (sN he))))))))))))
  refine yK.perm (D2 := e_mv ++ (e_tp ++ (e_ps ++ (e_fs ++ (e_le ++ (e_dk ++ (e_dr ++ (e_lg ++ (e_rc ++ (e_wk ++ (e_pl ++ (e_se ++ (e_kd ++ Rm))))))))))))) (pq fun φ => by simp only [cn_a]; omega) (((oM_move q2 q8.1 Efs Emv s_fs s_N).up (yle rfl) (yle rfl)).mono (yle rfl) (yle rfl) ?_)
  rintro w D ⟨rfl, B0, hp, H0⟩
  exact ⟨rfl, e_tp ++ (e_ps ++ (e_fs ++ (e_le ++ (e_dk ++ (e_dr ++ (e_lg ++ (e_rc ++ (B0 ++ (e_wk ++ (e_pl ++ (e_se ++ e_kd))))))))))), [], hp.trans (pq fun φ => by simp only [cn_a, cn_n]; omega), IM.mk Etp Eps Efs Ele Edk Edr Elg Erc H0 Ewk Epl Ese Ekd⟩
theorem op_move (h : Inv D) : yP2 Value.int X 174 330 [.int x, .int p, .int y, .int q] D := by
  obtain ⟨t, dk, cm, Fs, En, z, Dr, gv, n0, Mv, ev, fd, to, va, se, N, Bc, Bm, pm0, q0, h1, h2⟩ := h
  refine yp_both (f := Value.int) (r := (mvV Fs Mv.length x p y q)) (I := IC t dk cm Fs En z Dr gv n0 Mv ev fd to va se) (J := IM t dk cm Fs En z Dr gv n0 Mv ev fd to va se) (I2 := IC t dk (cmT Fs Mv cm x p y q) Fs En z Dr gv n0 (mvT Fs Mv x p y q) ev fd to va se) (J2 := IM t dk (cmT Fs Mv cm x p y q) Fs En z Dr gv n0 (mvT Fs Mv x p y q) ev fd to va se) (kC_move q0) (kM_move q0) pm0 h1 h2 IC.mono IM.mono ?_
  intro D2 N2 Bc2 Bm2 p2 g1 g2
  obtain ⟨q1, q2, q3, q4, q5, q6, q7, q8, q9⟩ := q0
  exact ⟨t, dk, cmT Fs Mv cm x p y q, Fs, En, z, Dr, gv, n0, mvT Fs Mv x p y q, ev, fd, to, va, se, N2, Bc2, Bm2, p2, ⟨q1, q2, q3, q4, q5, q6, q7, mv_ok q8, q9⟩, g1, g2⟩
theorem kC_alter (q0 : pAll t Fs En z Dr gv n0 Mv se) : kX X 198 [.ref 78, .int x, .int y] (.int (altV dk x y)) (IC t dk cm Fs En z Dr gv n0 Mv ev fd to va se) (IC t (altT dk x y) cm Fs En z Dr gv n0 Mv ev fd to va se) := by
  obtain ⟨q1, q2, q3, q4, q5, q6, q7, q8, q9⟩ := q0
  intro N B Rm h sN
  refine h.elim ?_
  intro c_tp c_ps c_fs c_le c_dk c_dr c_gv c_rc c_mv c_wk c_to c_va c_se c_kd eB Ctp Cps Cfs Cle Cdk Cdr Cgv Crc Cmv Cwk Cto Cva Cse Ckd
  subst eB
  refine yK.perm (D2 := c_kd ++ (c_tp ++ (c_ps ++ (c_fs ++ (c_le ++ (c_dk ++ (c_dr ++ (c_gv ++ (c_rc ++ (c_mv ++ (c_wk ++ (c_to ++ (c_va ++ (c_se ++ Rm)))))))))))))) (pq fun φ => by simp only [cn_a]; omega) (((oC_alter Ckd).up (yle rfl) (yle rfl)).mono (yle rfl) (yle rfl) ?_)
  rintro w D ⟨rfl, B0, hp, H0⟩
  exact ⟨rfl, c_tp ++ (c_ps ++ (c_fs ++ (c_le ++ (c_dk ++ (c_dr ++ (c_gv ++ (c_rc ++ (c_mv ++ (c_wk ++ (c_to ++ (c_va ++ (c_se ++ B0)))))))))))), [], hp.trans (pq fun φ => by simp only [cn_a, cn_n]; omega), IC.mk Ctp Cps Cfs Cle Cdk Cdr Cgv Crc Cmv Cwk Cto Cva Cse H0⟩
theorem kM_alter (q0 : pAll t Fs En z Dr gv n0 Mv se) : kX X 285 [.ref 209, .int x, .int y] (.int (altV dk x y)) (IM t dk cm Fs En z Dr gv n0 Mv ev fd to va se) (IM t (altT dk x y) cm Fs En z Dr gv n0 Mv ev fd to va se) := by
  obtain ⟨q1, q2, q3, q4, q5, q6, q7, q8, q9⟩ := q0
  intro N B Rm h sN
  refine h.elim ?_
  intro e_tp e_ps e_fs e_le e_dk e_dr e_lg e_rc e_mv e_wk e_pl e_se e_kd eB Etp Eps Efs Ele Edk Edr Elg Erc Emv Ewk Epl Ese Ekd
  subst eB
  refine yK.perm (D2 := e_kd ++ (e_tp ++ (e_ps ++ (e_fs ++ (e_le ++ (e_dk ++ (e_dr ++ (e_lg ++ (e_rc ++ (e_mv ++ (e_wk ++ (e_pl ++ (e_se ++ Rm))))))))))))) (pq fun φ => by simp only [cn_a]; omega) (((oM_alter Ekd).up (yle rfl) (yle rfl)).mono (yle rfl) (yle rfl) ?_)
  rintro w D ⟨rfl, B0, hp, H0⟩
  exact ⟨rfl, e_tp ++ (e_ps ++ (e_fs ++ (e_le ++ (e_dk ++ (e_dr ++ (e_lg ++ (e_rc ++ (e_mv ++ (e_wk ++ (e_pl ++ (e_se ++ B0))))))))))), [], hp.trans (pq fun φ => by simp only [cn_a, cn_n]; omega), IM.mk Etp Eps Efs Ele Edk Edr Elg Erc Emv Ewk Epl Ese H0⟩
theorem op_alter (h : Inv D) : yP2 Value.int X 198 285 [.int x, .int y] D := by
  obtain ⟨t, dk, cm, Fs, En, z, Dr, gv, n0, Mv, ev, fd, to, va, se, N, Bc, Bm, pm0, q0, h1, h2⟩ := h
  refine yp_both (f := Value.int) (r := (altV dk x y)) (I := IC t dk cm Fs En z Dr gv n0 Mv ev fd to va se) (J := IM t dk cm Fs En z Dr gv n0 Mv ev fd to va se) (I2 := IC t (altT dk x y) cm Fs En z Dr gv n0 Mv ev fd to va se) (J2 := IM t (altT dk x y) cm Fs En z Dr gv n0 Mv ev fd to va se) (kC_alter q0) (kM_alter q0) pm0 h1 h2 IC.mono IM.mono ?_
  intro D2 N2 Bc2 Bm2 p2 g1 g2
  obtain ⟨q1, q2, q3, q4, q5, q6, q7, q8, q9⟩ := q0
  exact ⟨t, altT dk x y, cm, Fs, En, z, Dr, gv, n0, Mv, ev, fd, to, va, se, N2, Bc2, Bm2, p2, ⟨q1, q2, q3, q4, q5, q6, q7, q8, q9⟩, g1, g2⟩
theorem kC_cut (q0 : pAll t Fs En z Dr gv n0 Mv se) : kX X 199 [.ref 78, .int x] (.int (cutV dk x)) (IC t dk cm Fs En z Dr gv n0 Mv ev fd to va se) (IC t (cutT dk x) cm Fs En z Dr gv n0 Mv ev fd to va se) := by
  obtain ⟨q1, q2, q3, q4, q5, q6, q7, q8, q9⟩ := q0
  intro N B Rm h sN
  refine h.elim ?_
  intro c_tp c_ps c_fs c_le c_dk c_dr c_gv c_rc c_mv c_wk c_to c_va c_se c_kd eB Ctp Cps Cfs Cle Cdk Cdr Cgv Crc Cmv Cwk Cto Cva Cse Ckd
  subst eB
  refine yK.perm (D2 := c_kd ++ (c_tp ++ (c_ps ++ (c_fs ++ (c_le ++ (c_dk ++ (c_dr ++ (c_gv ++ (c_rc ++ (c_mv ++ (c_wk ++ (c_to ++ (c_va ++ (c_se ++ Rm)))))))))))))) (pq fun φ => by simp only [cn_a]; omega) (((oC_cut Ckd).up (yle rfl) (yle rfl)).mono (yle rfl) (yle rfl) ?_)
  rintro w D ⟨rfl, B0, hp, H0⟩
  exact ⟨rfl, c_tp ++ (c_ps ++ (c_fs ++ (c_le ++ (c_dk ++ (c_dr ++ (c_gv ++ (c_rc ++ (c_mv ++ (c_wk ++ (c_to ++ (c_va ++ (c_se ++ B0)))))))))))), [], hp.trans (pq fun φ => by simp only [cn_a, cn_n]; omega), IC.mk Ctp Cps Cfs Cle Cdk Cdr Cgv Crc Cmv Cwk Cto Cva Cse H0⟩
theorem kM_cut (q0 : pAll t Fs En z Dr gv n0 Mv se) : kX X 286 [.ref 209, .int x] (.int (cutV dk x)) (IM t dk cm Fs En z Dr gv n0 Mv ev fd to va se) (IM t (cutT dk x) cm Fs En z Dr gv n0 Mv ev fd to va se) := by
  obtain ⟨q1, q2, q3, q4, q5, q6, q7, q8, q9⟩ := q0
  intro N B Rm h sN
  refine h.elim ?_
  intro e_tp e_ps e_fs e_le e_dk e_dr e_lg e_rc e_mv e_wk e_pl e_se e_kd eB Etp Eps Efs Ele Edk Edr Elg Erc Emv Ewk Epl Ese Ekd
  subst eB
  refine yK.perm (D2 := e_kd ++ (e_tp ++ (e_ps ++ (e_fs ++ (e_le ++ (e_dk ++ (e_dr ++ (e_lg ++ (e_rc ++ (e_mv ++ (e_wk ++ (e_pl ++ (e_se ++ Rm))))))))))))) (pq fun φ => by simp only [cn_a]; omega) (((oM_cut Ekd).up (yle rfl) (yle rfl)).mono (yle rfl) (yle rfl) ?_)
  rintro w D ⟨rfl, B0, hp, H0⟩
  exact ⟨rfl, e_tp ++ (e_ps ++ (e_fs ++ (e_le ++ (e_dk ++ (e_dr ++ (e_lg ++ (e_rc ++ (e_mv ++ (e_wk ++ (e_pl ++ (e_se ++ B0))))))))))), [], hp.trans (pq fun φ => by simp only [cn_a, cn_n]; omega), IM.mk Etp Eps Efs Ele Edk Edr Elg Erc Emv Ewk Epl Ese H0⟩
theorem op_cut (h : Inv D) : yP2 Value.int X 199 286 [.int x] D := by
  obtain ⟨t, dk, cm, Fs, En, z, Dr, gv, n0, Mv, ev, fd, to, va, se, N, Bc, Bm, pm0, q0, h1, h2⟩ := h
  refine yp_both (f := Value.int) (r := (cutV dk x)) (I := IC t dk cm Fs En z Dr gv n0 Mv ev fd to va se) (J := IM t dk cm Fs En z Dr gv n0 Mv ev fd to va se) (I2 := IC t (cutT dk x) cm Fs En z Dr gv n0 Mv ev fd to va se) (J2 := IM t (cutT dk x) cm Fs En z Dr gv n0 Mv ev fd to va se) (kC_cut q0) (kM_cut q0) pm0 h1 h2 IC.mono IM.mono ?_
  intro D2 N2 Bc2 Bm2 p2 g1 g2
  obtain ⟨q1, q2, q3, q4, q5, q6, q7, q8, q9⟩ := q0
  exact ⟨t, cutT dk x, cm, Fs, En, z, Dr, gv, n0, Mv, ev, fd, to, va, se, N2, Bc2, Bm2, p2, ⟨q1, q2, q3, q4, q5, q6, q7, q8, q9⟩, g1, g2⟩
theorem kC_digest (q0 : pAll t Fs En z Dr gv n0 Mv se) : kX X 120 [.ref 78, .int x] (.int (digV Fs Dr x)) (IC t dk cm Fs En z Dr gv n0 Mv ev fd to va se) (IC t dk cm Fs En z Dr gv n0 Mv ev fd to va se) := by
  obtain ⟨q1, q2, q3, q4, q5, q6, q7, q8, q9⟩ := q0
  intro N B Rm h sN
  refine h.elim ?_
  intro c_tp c_ps c_fs c_le c_dk c_dr c_gv c_rc c_mv c_wk c_to c_va c_se c_kd eB Ctp Cps Cfs Cle Cdk Cdr Cgv Crc Cmv Cwk Cto Cva Cse Ckd
  subst eB
  have s_le : c_le ⊆ c_tp ++ (c_ps ++ (c_fs ++ (c_le ++ (c_dk ++ (c_dr ++ (c_gv ++ (c_rc ++ (c_mv ++ (c_wk ++ (c_to ++ (c_va ++ (c_se ++ Rm)))))))))))) := fun e he => List.mem_append_right _ (List.mem_append_right _ (List.mem_append_right _ (List.mem_append_left _ he)))
  have s_dr : c_dr ⊆ c_tp ++ (c_ps ++ (c_fs ++ (c_le ++ (c_dk ++ (c_dr ++ (c_gv ++ (c_rc ++ (c_mv ++ (c_wk ++ (c_to ++ (c_va ++ (c_se ++ Rm)))))))))))) := fun e he => List.mem_append_right _ (List.mem_append_right _ (List.mem_append_right _ (List.mem_append_right _ (List.mem_append_right _ (List.mem_append_left _ he)))))
  have s_N : N ⊆ c_tp ++ (c_ps ++ (c_fs ++ (c_le ++ (c_dk ++ (c_dr ++ (c_gv ++ (c_rc ++ (c_mv ++ (c_wk ++ (c_to ++ (c_va ++ (c_se ++ Rm)))))))))))) := fun e he => List.mem_append_right _ (List.mem_append_right _ (List.mem_append_right _ (List.mem_append_right _ (List.mem_append_right _ (List.mem_append_right _ (List.mem_append_right _ (List.mem_append_right _ (List.mem_append_right _ (List.mem_append_right _ (List.mem_append_right _ (List.mem_append_right _ (List.mem_append_right _ (sN he)))))))))))))
  refine yK.perm (D2 := c_kd ++ (c_tp ++ (c_ps ++ (c_fs ++ (c_le ++ (c_dk ++ (c_dr ++ (c_gv ++ (c_rc ++ (c_mv ++ (c_wk ++ (c_to ++ (c_va ++ (c_se ++ Rm)))))))))))))) (pq fun φ => by simp only [cn_a]; omega) (((oC_digest q2 q5 Cle Cdr Ckd s_le s_dr s_N).up (yle rfl) (yle rfl)).mono (yle rfl) (yle rfl) ?_)
  rintro w D ⟨rfl, B0, hp, H0⟩
  exact ⟨rfl, c_tp ++ (c_ps ++ (c_fs ++ (c_le ++ (c_dk ++ (c_dr ++ (c_gv ++ (c_rc ++ (c_mv ++ (c_wk ++ (c_to ++ (c_va ++ (c_se ++ B0)))))))))))), [], hp.trans (pq fun φ => by simp only [cn_a, cn_n]; omega), IC.mk Ctp Cps Cfs Cle Cdk Cdr Cgv Crc Cmv Cwk Cto Cva Cse H0⟩
theorem kM_digest (q0 : pAll t Fs En z Dr gv n0 Mv se) : kX X 278 [.ref 209, .int x] (.int (digV Fs Dr x)) (IM t dk cm Fs En z Dr gv n0 Mv ev fd to va se) (IM t dk cm Fs En z Dr gv n0 Mv ev fd to va se) := by
  obtain ⟨q1, q2, q3, q4, q5, q6, q7, q8, q9⟩ := q0
  intro N B Rm h sN
  refine h.elim ?_
  intro e_tp e_ps e_fs e_le e_dk e_dr e_lg e_rc e_mv e_wk e_pl e_se e_kd eB Etp Eps Efs Ele Edk Edr Elg Erc Emv Ewk Epl Ese Ekd
  subst eB
  have s_le : e_le ⊆ e_tp ++ (e_ps ++ (e_fs ++ (e_le ++ (e_dk ++ (e_dr ++ (e_lg ++ (e_rc ++ (e_mv ++ (e_wk ++ (e_pl ++ (e_se ++ Rm))))))))))) := fun e he => List.mem_append_right _ (List.mem_append_right _ (List.mem_append_right _ (List.mem_append_left _ he)))
  have s_dr : e_dr ⊆ e_tp ++ (e_ps ++ (e_fs ++ (e_le ++ (e_dk ++ (e_dr ++ (e_lg ++ (e_rc ++ (e_mv ++ (e_wk ++ (e_pl ++ (e_se ++ Rm))))))))))) := fun e he => List.mem_append_right _ (List.mem_append_right _ (List.mem_append_right _ (List.mem_append_right _ (List.mem_append_right _ (List.mem_append_left _ he)))))
  have s_fs : e_fs ⊆ e_tp ++ (e_ps ++ (e_fs ++ (e_le ++ (e_dk ++ (e_dr ++ (e_lg ++ (e_rc ++ (e_mv ++ (e_wk ++ (e_pl ++ (e_se ++ Rm))))))))))) := fun e he => List.mem_append_right _ (List.mem_append_right _ (List.mem_append_left _ he))
  have s_N : N ⊆ e_tp ++ (e_ps ++ (e_fs ++ (e_le ++ (e_dk ++ (e_dr ++ (e_lg ++ (e_rc ++ (e_mv ++ (e_wk ++ (e_pl ++ (e_se ++ Rm))))))))))) := fun e he => List.mem_append_right _ (List.mem_append_right _ (List.mem_append_right _ (List.mem_append_right _ (List.mem_append_right _ (List.mem_append_right _ (List.mem_append_right _ (List.mem_append_right _ (List.mem_append_right _ (List.mem_append_right _ (List.mem_append_right _ (List.mem_append_right _ (sN he))))))))))))
  refine yK.perm (D2 := e_kd ++ (e_tp ++ (e_ps ++ (e_fs ++ (e_le ++ (e_dk ++ (e_dr ++ (e_lg ++ (e_rc ++ (e_mv ++ (e_wk ++ (e_pl ++ (e_se ++ Rm))))))))))))) (pq fun φ => by simp only [cn_a]; omega) (((oM_digest q2 q5 Ele Edr Efs Ekd s_le s_dr s_fs s_N).up (yle rfl) (yle rfl)).mono (yle rfl) (yle rfl) ?_)
  rintro w D ⟨rfl, B0, hp, H0⟩
  exact ⟨rfl, e_tp ++ (e_ps ++ (e_fs ++ (e_le ++ (e_dk ++ (e_dr ++ (e_lg ++ (e_rc ++ (e_mv ++ (e_wk ++ (e_pl ++ (e_se ++ B0))))))))))), [], hp.trans (pq fun φ => by simp only [cn_a, cn_n]; omega), IM.mk Etp Eps Efs Ele Edk Edr Elg Erc Emv Ewk Epl Ese H0⟩
theorem op_digest (h : Inv D) : yP2 Value.int X 120 278 [.int x] D := by
  obtain ⟨t, dk, cm, Fs, En, z, Dr, gv, n0, Mv, ev, fd, to, va, se, N, Bc, Bm, pm0, q0, h1, h2⟩ := h
  refine yp_both (f := Value.int) (r := (digV Fs Dr x)) (I := IC t dk cm Fs En z Dr gv n0 Mv ev fd to va se) (J := IM t dk cm Fs En z Dr gv n0 Mv ev fd to va se) (I2 := IC t dk cm Fs En z Dr gv n0 Mv ev fd to va se) (J2 := IM t dk cm Fs En z Dr gv n0 Mv ev fd to va se) (kC_digest q0) (kM_digest q0) pm0 h1 h2 IC.mono IM.mono ?_
  intro D2 N2 Bc2 Bm2 p2 g1 g2
  obtain ⟨q1, q2, q3, q4, q5, q6, q7, q8, q9⟩ := q0
  exact ⟨t, dk, cm, Fs, En, z, Dr, gv, n0, Mv, ev, fd, to, va, se, N2, Bc2, Bm2, p2, ⟨q1, q2, q3, q4, q5, q6, q7, q8, q9⟩, g1, g2⟩
theorem kC_export (q0 : pAll t Fs En z Dr gv n0 Mv se) : kX X 195 [.ref 78, .int x] (.int (expV Fs Dr x)) (IC t dk cm Fs En z Dr gv n0 Mv ev fd to va se) (IC t (expT Fs Dr dk x) cm Fs En z Dr gv n0 Mv ev fd to va se) := by
  obtain ⟨q1, q2, q3, q4, q5, q6, q7, q8, q9⟩ := q0
  intro N B Rm h sN
  refine h.elim ?_
  intro c_tp c_ps c_fs c_le c_dk c_dr c_gv c_rc c_mv c_wk c_to c_va c_se c_kd eB Ctp Cps Cfs Cle Cdk Cdr Cgv Crc Cmv Cwk Cto Cva Cse Ckd
  subst eB
  have s_le : c_le ⊆ c_tp ++ (c_ps ++ (c_fs ++ (c_le ++ (c_dk ++ (c_dr ++ (c_gv ++ (c_rc ++ (c_mv ++ (c_wk ++ (c_to ++ (c_va ++ (c_se ++ Rm)))))))))))) := fun e he => List.mem_append_right _ (List.mem_append_right _ (List.mem_append_right _ (List.mem_append_left _ he)))
  have s_dr : c_dr ⊆ c_tp ++ (c_ps ++ (c_fs ++ (c_le ++ (c_dk ++ (c_dr ++ (c_gv ++ (c_rc ++ (c_mv ++ (c_wk ++ (c_to ++ (c_va ++ (c_se ++ Rm)))))))))))) := fun e he => List.mem_append_right _ (List.mem_append_right _ (List.mem_append_right _ (List.mem_append_right _ (List.mem_append_right _ (List.mem_append_left _ he)))))
  have s_N : N ⊆ c_tp ++ (c_ps ++ (c_fs ++ (c_le ++ (c_dk ++ (c_dr ++ (c_gv ++ (c_rc ++ (c_mv ++ (c_wk ++ (c_to ++ (c_va ++ (c_se ++ Rm)))))))))))) := fun e he => List.mem_append_right _ (List.mem_append_right _ (List.mem_append_right _ (List.mem_append_right _ (List.mem_append_right _ (List.mem_append_right _ (List.mem_append_right _ (List.mem_append_right _ (List.mem_append_right _ (List.mem_append_right _ (List.mem_append_right _ (List.mem_append_right _ (List.mem_append_right _ (sN he)))))))))))))
  refine yK.perm (D2 := c_kd ++ (c_tp ++ (c_ps ++ (c_fs ++ (c_le ++ (c_dk ++ (c_dr ++ (c_gv ++ (c_rc ++ (c_mv ++ (c_wk ++ (c_to ++ (c_va ++ (c_se ++ Rm)))))))))))))) (pq fun φ => by simp only [cn_a]; omega) (((oC_export q2 q5 Cle Cdr Ckd s_le s_dr s_N).up (yle rfl) (yle rfl)).mono (yle rfl) (yle rfl) ?_)
  rintro w D ⟨rfl, B0, hp, H0⟩
  exact ⟨rfl, c_tp ++ (c_ps ++ (c_fs ++ (c_le ++ (c_dk ++ (c_dr ++ (c_gv ++ (c_rc ++ (c_mv ++ (c_wk ++ (c_to ++ (c_va ++ (c_se ++ B0)))))))))))), [], hp.trans (pq fun φ => by simp only [cn_a, cn_n]; omega), IC.mk Ctp Cps Cfs Cle Cdk Cdr Cgv Crc Cmv Cwk Cto Cva Cse H0⟩
theorem kM_export (q0 : pAll t Fs En z Dr gv n0 Mv se) : kX X 283 [.ref 209, .int x] (.int (expV Fs Dr x)) (IM t dk cm Fs En z Dr gv n0 Mv ev fd to va se) (IM t (expT Fs Dr dk x) cm Fs En z Dr gv n0 Mv ev fd to va se) := by
  obtain ⟨q1, q2, q3, q4, q5, q6, q7, q8, q9⟩ := q0
  intro N B Rm h sN
  refine h.elim ?_
  intro e_tp e_ps e_fs e_le e_dk e_dr e_lg e_rc e_mv e_wk e_pl e_se e_kd eB Etp Eps Efs Ele Edk Edr Elg Erc Emv Ewk Epl Ese Ekd
  subst eB
  have s_le : e_le ⊆ e_tp ++ (e_ps ++ (e_fs ++ (e_le ++ (e_dk ++ (e_dr ++ (e_lg ++ (e_rc ++ (e_mv ++ (e_wk ++ (e_pl ++ (e_se ++ Rm))))))))))) := fun e he => List.mem_append_right _ (List.mem_append_right _ (List.mem_append_right _ (List.mem_append_left _ he)))
  have s_dr : e_dr ⊆ e_tp ++ (e_ps ++ (e_fs ++ (e_le ++ (e_dk ++ (e_dr ++ (e_lg ++ (e_rc ++ (e_mv ++ (e_wk ++ (e_pl ++ (e_se ++ Rm))))))))))) := fun e he => List.mem_append_right _ (List.mem_append_right _ (List.mem_append_right _ (List.mem_append_right _ (List.mem_append_right _ (List.mem_append_left _ he)))))
  have s_fs : e_fs ⊆ e_tp ++ (e_ps ++ (e_fs ++ (e_le ++ (e_dk ++ (e_dr ++ (e_lg ++ (e_rc ++ (e_mv ++ (e_wk ++ (e_pl ++ (e_se ++ Rm))))))))))) := fun e he => List.mem_append_right _ (List.mem_append_right _ (List.mem_append_left _ he))
  have s_N : N ⊆ e_tp ++ (e_ps ++ (e_fs ++ (e_le ++ (e_dk ++ (e_dr ++ (e_lg ++ (e_rc ++ (e_mv ++ (e_wk ++ (e_pl ++ (e_se ++ Rm))))))))))) := fun e he => List.mem_append_right _ (List.mem_append_right _ (List.mem_append_right _ (List.mem_append_right _ (List.mem_append_right _ (List.mem_append_right _ (List.mem_append_right _ (List.mem_append_right _ (List.mem_append_right _ (List.mem_append_right _ (List.mem_append_right _ (List.mem_append_right _ (sN he))))))))))))
  refine yK.perm (D2 := e_kd ++ (e_tp ++ (e_ps ++ (e_fs ++ (e_le ++ (e_dk ++ (e_dr ++ (e_lg ++ (e_rc ++ (e_mv ++ (e_wk ++ (e_pl ++ (e_se ++ Rm))))))))))))) (pq fun φ => by simp only [cn_a]; omega) (((oM_export q2 q5 Ele Edr Efs Ekd s_le s_dr s_fs s_N).up (yle rfl) (yle rfl)).mono (yle rfl) (yle rfl) ?_)
  rintro w D ⟨rfl, B0, hp, H0⟩
  exact ⟨rfl, e_tp ++ (e_ps ++ (e_fs ++ (e_le ++ (e_dk ++ (e_dr ++ (e_lg ++ (e_rc ++ (e_mv ++ (e_wk ++ (e_pl ++ (e_se ++ B0))))))))))), [], hp.trans (pq fun φ => by simp only [cn_a, cn_n]; omega), IM.mk Etp Eps Efs Ele Edk Edr Elg Erc Emv Ewk Epl Ese H0⟩
theorem op_export (h : Inv D) : yP2 Value.int X 195 283 [.int x] D := by
  obtain ⟨t, dk, cm, Fs, En, z, Dr, gv, n0, Mv, ev, fd, to, va, se, N, Bc, Bm, pm0, q0, h1, h2⟩ := h
  refine yp_both (f := Value.int) (r := (expV Fs Dr x)) (I := IC t dk cm Fs En z Dr gv n0 Mv ev fd to va se) (J := IM t dk cm Fs En z Dr gv n0 Mv ev fd to va se) (I2 := IC t (expT Fs Dr dk x) cm Fs En z Dr gv n0 Mv ev fd to va se) (J2 := IM t (expT Fs Dr dk x) cm Fs En z Dr gv n0 Mv ev fd to va se) (kC_export q0) (kM_export q0) pm0 h1 h2 IC.mono IM.mono ?_
  intro D2 N2 Bc2 Bm2 p2 g1 g2
  obtain ⟨q1, q2, q3, q4, q5, q6, q7, q8, q9⟩ := q0
  exact ⟨t, expT Fs Dr dk x, cm, Fs, En, z, Dr, gv, n0, Mv, ev, fd, to, va, se, N2, Bc2, Bm2, p2, ⟨q1, q2, q3, q4, q5, q6, q7, q8, q9⟩, g1, g2⟩
end CALLSW2
