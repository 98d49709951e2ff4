/-! CALLS OVER THE TWO HALVES: about, part, sort, kindOf, item, cellOf, finding, value, told, receipt, earlier, cameOver, proof, disk, count -/
section CALLSR
variable {t dk cm : List Int32} {Fs : List yF} {En : List (Int64 × Int32)} {z : Option yO} {Dr : List yD} {gv : Nat} {n0 : Int32} {Mv : List yMv} {ev : Int32} {fd : List yFd} {to : Int32 × Int32 × Int32} {va : Int64} {se : ySe} {X : List Int32} {K : Nat} {x y p q i j n e : Int32}
variable {D N B : List xE}
theorem kC_about (q0 : pAll t Fs En z Dr gv n0 Mv se) : kX X 86 [.ref 78, .int x, .int y] (.int (aboutV Fs x y)) (IC t dk cm Fs En z Dr gv n0 Mv ev fd to va se) (IC t dk cm Fs En z Dr gv n0 Mv ev fd to va se) := by
  obtain ⟨q1, q2, q3, q4, q5, q6, q7, q8, q9⟩ := q0
  intro N B Rm h sN
  refine h.elim ?_
  intro c_tp c_ps c_fs c_le c_dk c_dr c_gv c_rc c_mv c_wk c_to c_va c_se c_kd eB Ctp Cps Cfs Cle Cdk Cdr Cgv Crc Cmv Cwk Cto Cva Cse Ckd
  subst eB
  have s_fs : c_fs ⊆ c_tp ++ (c_ps ++ (c_fs ++ (c_le ++ (c_dk ++ (c_dr ++ (c_gv ++ (c_rc ++ (c_mv ++ (c_wk ++ (c_to ++ (c_va ++ (c_se ++ (c_kd ++ Rm))))))))))))) := fun e he => List.mem_append_right _ (List.mem_append_right _ (List.mem_append_left _ he))
  have s_N : N ⊆ c_tp ++ (c_ps ++ (c_fs ++ (c_le ++ (c_dk ++ (c_dr ++ (c_gv ++ (c_rc ++ (c_mv ++ (c_wk ++ (c_to ++ (c_va ++ (c_se ++ (c_kd ++ Rm))))))))))))) := fun e he => List.mem_append_right _ (List.mem_append_right _ (List.mem_append_right _ (List.mem_append_right _ (List.mem_append_right _ (List.mem_append_right _ (List.mem_append_right _ (List.mem_append_right _ (List.mem_append_right _ (List.mem_append_right _ (List.mem_append_right _ (List.mem_append_right _ (List.mem_append_right _ (List.mem_append_right _ (sN he))))))))))))))
  refine yK.perm (D2 := c_tp ++ (c_ps ++ (c_fs ++ (c_le ++ (c_dk ++ (c_dr ++ (c_gv ++ (c_rc ++ (c_mv ++ (c_wk ++ (c_to ++ (c_va ++ (c_se ++ (c_kd ++ Rm)))))))))))))) (pq fun φ => by simp only [cn_a]; omega) (((oC_about Cfs s_fs s_N).up (yle rfl) (yle rfl)).mono (yle rfl) (yle rfl) ?_)
  rintro w D ⟨rfl, rfl⟩
  exact ⟨rfl, c_tp ++ (c_ps ++ (c_fs ++ (c_le ++ (c_dk ++ (c_dr ++ (c_gv ++ (c_rc ++ (c_mv ++ (c_wk ++ (c_to ++ (c_va ++ (c_se ++ c_kd)))))))))))), [], (pq fun φ => by simp only [cn_a, cn_n]; omega), IC.mk Ctp Cps Cfs Cle Cdk Cdr Cgv Crc Cmv Cwk Cto Cva Cse Ckd⟩
theorem kM_about (q0 : pAll t Fs En z Dr gv n0 Mv se) : kX X 249 [.ref 209, .int x, .int y] (.int (aboutV Fs x y)) (IM t dk cm Fs En z Dr gv n0 Mv ev fd to va se) (IM t dk cm Fs En z Dr gv n0 Mv ev fd to va se) := by
  obtain ⟨q1, q2, q3, q4, q5, q6, q7, q8, q9⟩ := q0
  intro N B Rm h sN
  refine h.elim ?_
  intro e_tp e_ps e_fs e_le e_dk e_dr e_lg e_rc e_mv e_wk e_pl e_se e_kd eB Etp Eps Efs Ele Edk Edr Elg Erc Emv Ewk Epl Ese Ekd
  subst eB
  have s_fs : e_fs ⊆ e_tp ++ (e_ps ++ (e_fs ++ (e_le ++ (e_dk ++ (e_dr ++ (e_lg ++ (e_rc ++ (e_mv ++ (e_wk ++ (e_pl ++ (e_se ++ (e_kd ++ Rm)))))))))))) := fun e he => List.mem_append_right _ (List.mem_append_right _ (List.mem_append_left _ he))
  have s_N : N ⊆ e_tp ++ (e_ps ++ (e_fs ++ (e_le ++ (e_dk ++ (e_dr ++ (e_lg ++ (e_rc ++ (e_mv ++ (e_wk ++ (e_pl ++ (e_se ++ (e_kd ++ Rm)))))))))))) := fun e he => List.mem_append_right _ (List.mem_append_right _ (List.mem_append_right _ (List.mem_append_right _ (List.mem_append_right _ (List.mem_append_right _ (List.mem_append_right _ (List.mem_append_right _ (List.mem_append_right _ (List.mem_append_right _ (List.mem_append_right _ (List.mem_append_right _ (List.mem_append_right _ (sN he)))))))))))))
  refine yK.perm (D2 := e_tp ++ (e_ps ++ (e_fs ++ (e_le ++ (e_dk ++ (e_dr ++ (e_lg ++ (e_rc ++ (e_mv ++ (e_wk ++ (e_pl ++ (e_se ++ (e_kd ++ Rm))))))))))))) (pq fun φ => by simp only [cn_a]; omega) (((oM_about Efs s_fs s_N).up (yle rfl) (yle rfl)).mono (yle rfl) (yle rfl) ?_)
  rintro w D ⟨rfl, rfl⟩
  exact ⟨rfl, e_tp ++ (e_ps ++ (e_fs ++ (e_le ++ (e_dk ++ (e_dr ++ (e_lg ++ (e_rc ++ (e_mv ++ (e_wk ++ (e_pl ++ (e_se ++ e_kd))))))))))), [], (pq fun φ => by simp only [cn_a, cn_n]; omega), IM.mk Etp Eps Efs Ele Edk Edr Elg Erc Emv Ewk Epl Ese Ekd⟩
theorem op_about (h : Inv D) : yP2 Value.int X 86 249 [.int x, .int y] D := by
  obtain ⟨t, dk, cm, Fs, En, z, Dr, gv, n0, Mv, ev, fd, to, va, se, N, Bc, Bm, pm0, q0, h1, h2⟩ := h
  refine yp_both (f := Value.int) (r := (aboutV Fs x y)) (I := IC t dk cm Fs En z Dr gv n0 Mv ev fd to va se) (J := IM t dk cm Fs En z Dr gv n0 Mv ev fd to va se) (I2 := IC t dk cm Fs En z Dr gv n0 Mv ev fd to va se) (J2 := IM t dk cm Fs En z Dr gv n0 Mv ev fd to va se) (kC_about q0) (kM_about q0) pm0 h1 h2 IC.mono IM.mono ?_
  intro D2 N2 Bc2 Bm2 p2 g1 g2
  obtain ⟨q1, q2, q3, q4, q5, q6, q7, q8, q9⟩ := q0
  exact ⟨t, dk, cm, Fs, En, z, Dr, gv, n0, Mv, ev, fd, to, va, se, N2, Bc2, Bm2, p2, ⟨q1, q2, q3, q4, q5, q6, q7, q8, q9⟩, g1, g2⟩
theorem kC_part (q0 : pAll t Fs En z Dr gv n0 Mv se) : kX X 88 [.ref 78, .int x, .int y, .int i] (.int (partV Fs x y i)) (IC t dk cm Fs En z Dr gv n0 Mv ev fd to va se) (IC t dk cm Fs En z Dr gv n0 Mv ev fd to va se) := by
  obtain ⟨q1, q2, q3, q4, q5, q6, q7, q8, q9⟩ := q0
  intro N B Rm h sN
  refine h.elim ?_
  intro c_tp c_ps c_fs c_le c_dk c_dr c_gv c_rc c_mv c_wk c_to c_va c_se c_kd eB Ctp Cps Cfs Cle Cdk Cdr Cgv Crc Cmv Cwk Cto Cva Cse Ckd
  subst eB
  have s_fs : c_fs ⊆ c_tp ++ (c_ps ++ (c_fs ++ (c_le ++ (c_dk ++ (c_dr ++ (c_gv ++ (c_rc ++ (c_mv ++ (c_wk ++ (c_to ++ (c_va ++ (c_se ++ (c_kd ++ Rm))))))))))))) := fun e he => List.mem_append_right _ (List.mem_append_right _ (List.mem_append_left _ he))
  have s_N : N ⊆ c_tp ++ (c_ps ++ (c_fs ++ (c_le ++ (c_dk ++ (c_dr ++ (c_gv ++ (c_rc ++ (c_mv ++ (c_wk ++ (c_to ++ (c_va ++ (c_se ++ (c_kd ++ Rm))))))))))))) := fun e he => List.mem_append_right _ (List.mem_append_right _ (List.mem_append_right _ (List.mem_append_right _ (List.mem_append_right _ (List.mem_append_right _ (List.mem_append_right _ (List.mem_append_right _ (List.mem_append_right _ (List.mem_append_right _ (List.mem_append_right _ (List.mem_append_right _ (List.mem_append_right _ (List.mem_append_right _ (sN he))))))))))))))
  refine yK.perm (D2 := c_tp ++ (c_ps ++ (c_fs ++ (c_le ++ (c_dk ++ (c_dr ++ (c_gv ++ (c_rc ++ (c_mv ++ (c_wk ++ (c_to ++ (c_va ++ (c_se ++ (c_kd ++ Rm)))))))))))))) (pq fun φ => by simp only [cn_a]; omega) (((oC_part q2 Cfs s_fs s_N).up (yle rfl) (yle rfl)).mono (yle rfl) (yle rfl) ?_)
  rintro w D ⟨rfl, rfl⟩
  exact ⟨rfl, c_tp ++ (c_ps ++ (c_fs ++ (c_le ++ (c_dk ++ (c_dr ++ (c_gv ++ (c_rc ++ (c_mv ++ (c_wk ++ (c_to ++ (c_va ++ (c_se ++ c_kd)))))))))))), [], (pq fun φ => by simp only [cn_a, cn_n]; omega), IC.mk Ctp Cps Cfs Cle Cdk Cdr Cgv Crc Cmv Cwk Cto Cva Cse Ckd⟩
theorem kM_part (q0 : pAll t Fs En z Dr gv n0 Mv se) : kX X 252 [.ref 209, .int x, .int y, .int i] (.int (partV Fs x y i)) (IM t dk cm Fs En z Dr gv n0 Mv ev fd to va se) (IM t dk cm Fs En z Dr gv n0 Mv ev fd to va se) := by
  obtain ⟨q1, q2, q3, q4, q5, q6, q7, q8, q9⟩ := q0
  intro N B Rm h sN
  refine h.elim ?_
  intro e_tp e_ps e_fs e_le e_dk e_dr e_lg e_rc e_mv e_wk e_pl e_se e_kd eB Etp Eps Efs Ele Edk Edr Elg Erc Emv Ewk Epl Ese Ekd
  subst eB
  have s_fs : e_fs ⊆ e_tp ++ (e_ps ++ (e_fs ++ (e_le ++ (e_dk ++ (e_dr ++ (e_lg ++ (e_rc ++ (e_mv ++ (e_wk ++ (e_pl ++ (e_se ++ (e_kd ++ Rm)))))))))))) := fun e he => List.mem_append_right _ (List.mem_append_right _ (List.mem_append_left _ he))
  have s_N : N ⊆ e_tp ++ (e_ps ++ (e_fs ++ (e_le ++ (e_dk ++ (e_dr ++ (e_lg ++ (e_rc ++ (e_mv ++ (e_wk ++ (e_pl ++ (e_se ++ (e_kd ++ Rm)))))))))))) := fun e he => List.mem_append_right _ (List.mem_append_right _ (List.mem_append_right _ (List.mem_append_right _ (List.mem_append_right _ (List.mem_append_right _ (List.mem_append_right _ (List.mem_append_right _ (List.mem_append_right _ (List.mem_append_right _ (List.mem_append_right _ (List.mem_append_right _ (List.mem_append_right _ (sN he)))))))))))))
  refine yK.perm (D2 := e_tp ++ (e_ps ++ (e_fs ++ (e_le ++ (e_dk ++ (e_dr ++ (e_lg ++ (e_rc ++ (e_mv ++ (e_wk ++ (e_pl ++ (e_se ++ (e_kd ++ Rm))))))))))))) (pq fun φ => by simp only [cn_a]; omega) (((oM_part q2 Efs s_fs s_N).up (yle rfl) (yle rfl)).mono (yle rfl) (yle rfl) ?_)
  rintro w D ⟨rfl, rfl⟩
  exact ⟨rfl, e_tp ++ (e_ps ++ (e_fs ++ (e_le ++ (e_dk ++ (e_dr ++ (e_lg ++ (e_rc ++ (e_mv ++ (e_wk ++ (e_pl ++ (e_se ++ e_kd))))))))))), [], (pq fun φ => by simp only [cn_a, cn_n]; omega), IM.mk Etp Eps Efs Ele Edk Edr Elg Erc Emv Ewk Epl Ese Ekd⟩
theorem op_part (h : Inv D) : yP2 Value.int X 88 252 [.int x, .int y, .int i] D := by
  obtain ⟨t, dk, cm, Fs, En, z, Dr, gv, n0, Mv, ev, fd, to, va, se, N, Bc, Bm, pm0, q0, h1, h2⟩ := h
  refine yp_both (f := Value.int) (r := (partV Fs x y i)) (I := IC t dk cm Fs En z Dr gv n0 Mv ev fd to va se) (J := IM t dk cm Fs En z Dr gv n0 Mv ev fd to va se) (I2 := IC t dk cm Fs En z Dr gv n0 Mv ev fd to va se) (J2 := IM t dk cm Fs En z Dr gv n0 Mv ev fd to va se) (kC_part q0) (kM_part q0) pm0 h1 h2 IC.mono IM.mono ?_
  intro D2 N2 Bc2 Bm2 p2 g1 g2
  obtain ⟨q1, q2, q3, q4, q5, q6, q7, q8, q9⟩ := q0
  exact ⟨t, dk, cm, Fs, En, z, Dr, gv, n0, Mv, ev, fd, to, va, se, N2, Bc2, Bm2, p2, ⟨q1, q2, q3, q4, q5, q6, q7, q8, q9⟩, g1, g2⟩
theorem kC_sort (q0 : pAll t Fs En z Dr gv n0 Mv se) : kX X 106 [.ref 78] (.int (sortV z)) (IC t dk cm Fs En z Dr gv n0 Mv ev fd to va se) (IC t dk cm Fs En z Dr gv n0 Mv ev fd to va se) := by
  obtain ⟨q1, q2, q3, q4, q5, q6, q7, q8, q9⟩ := q0
  intro N B Rm h sN
  refine h.elim ?_
  intro c_tp c_ps c_fs c_le c_dk c_dr c_gv c_rc c_mv c_wk c_to c_va c_se c_kd eB Ctp Cps Cfs Cle Cdk Cdr Cgv Crc Cmv Cwk Cto Cva Cse Ckd
  subst eB
  have s_dk : c_dk ⊆ c_tp ++ (c_ps ++ (c_fs ++ (c_le ++ (c_dk ++ (c_dr ++ (c_gv ++ (c_rc ++ (c_mv ++ (c_wk ++ (c_to ++ (c_va ++ (c_se ++ (c_kd ++ Rm))))))))))))) := fun e he => List.mem_append_right _ (List.mem_append_right _ (List.mem_append_right _ (List.mem_append_right _ (List.mem_append_left _ he))))
  have s_N : N ⊆ c_tp ++ (c_ps ++ (c_fs ++ (c_le ++ (c_dk ++ (c_dr ++ (c_gv ++ (c_rc ++ (c_mv ++ (c_wk ++ (c_to ++ (c_va ++ (c_se ++ (c_kd ++ Rm))))))))))))) := fun e he => List.mem_append_right _ (List.mem_append_right _ (List.mem_append_right _ (List.mem_append_right _ (List.mem_append_right _ (List.mem_append_right _ (List.mem_append_right _ (List.mem_append_right _ (List.mem_append_right _ (List.mem_append_right _ (List.mem_append_right _ (List.mem_append_right _ (List.mem_append_right _ (List.mem_append_right _ (sN he))))))))))))))
  refine yK.perm (D2 := c_tp ++ (c_ps ++ (c_fs ++ (c_le ++ (c_dk ++ (c_dr ++ (c_gv ++ (c_rc ++ (c_mv ++ (c_wk ++ (c_to ++ (c_va ++ (c_se ++ (c_kd ++ Rm)))))))))))))) (pq fun φ => by simp only [cn_a]; omega) (((oC_sort q4 Cdk s_dk s_N).up (yle rfl) (yle rfl)).mono (yle rfl) (yle rfl) ?_)
  rintro w D ⟨rfl, rfl⟩
  exact ⟨rfl, c_tp ++ (c_ps ++ (c_fs ++ (c_le ++ (c_dk ++ (c_dr ++ (c_gv ++ (c_rc ++ (c_mv ++ (c_wk ++ (c_to ++ (c_va ++ (c_se ++ c_kd)))))))))))), [], (pq fun φ => by simp only [cn_a, cn_n]; omega), IC.mk Ctp Cps Cfs Cle Cdk Cdr Cgv Crc Cmv Cwk Cto Cva Cse Ckd⟩
theorem kM_sort (q0 : pAll t Fs En z Dr gv n0 Mv se) : kX X 266 [.ref 209] (.int (sortV z)) (IM t dk cm Fs En z Dr gv n0 Mv ev fd to va se) (IM t dk cm Fs En z Dr gv n0 Mv ev fd to va se) := by
  obtain ⟨q1, q2, q3, q4, q5, q6, q7, q8, q9⟩ := q0
  intro N B Rm h sN
  refine h.elim ?_
  intro e_tp e_ps e_fs e_le e_dk e_dr e_lg e_rc e_mv e_wk e_pl e_se e_kd eB Etp Eps Efs Ele Edk Edr Elg Erc Emv Ewk Epl Ese Ekd
  subst eB
  have s_dk : e_dk ⊆ e_tp ++ (e_ps ++ (e_fs ++ (e_le ++ (e_dk ++ (e_dr ++ (e_lg ++ (e_rc ++ (e_mv ++ (e_wk ++ (e_pl ++ (e_se ++ (e_kd ++ Rm)))))))))))) := fun e he => List.mem_append_right _ (List.mem_append_right _ (List.mem_append_right _ (List.mem_append_right _ (List.mem_append_left _ he))))
  have s_N : N ⊆ e_tp ++ (e_ps ++ (e_fs ++ (e_le ++ (e_dk ++ (e_dr ++ (e_lg ++ (e_rc ++ (e_mv ++ (e_wk ++ (e_pl ++ (e_se ++ (e_kd ++ Rm)))))))))))) := fun e he => List.mem_append_right _ (List.mem_append_right _ (List.mem_append_right _ (List.mem_append_right _ (List.mem_append_right _ (List.mem_append_right _ (List.mem_append_right _ (List.mem_append_right _ (List.mem_append_right _ (List.mem_append_right _ (List.mem_append_right _ (List.mem_append_right _ (List.mem_append_right _ (sN he)))))))))))))
  refine yK.perm (D2 := e_tp ++ (e_ps ++ (e_fs ++ (e_le ++ (e_dk ++ (e_dr ++ (e_lg ++ (e_rc ++ (e_mv ++ (e_wk ++ (e_pl ++ (e_se ++ (e_kd ++ Rm))))))))))))) (pq fun φ => by simp only [cn_a]; omega) (((oM_sort q4 Edk s_dk s_N).up (yle rfl) (yle rfl)).mono (yle rfl) (yle rfl) ?_)
  rintro w D ⟨rfl, rfl⟩
  exact ⟨rfl, e_tp ++ (e_ps ++ (e_fs ++ (e_le ++ (e_dk ++ (e_dr ++ (e_lg ++ (e_rc ++ (e_mv ++ (e_wk ++ (e_pl ++ (e_se ++ e_kd))))))))))), [], (pq fun φ => by simp only [cn_a, cn_n]; omega), IM.mk Etp Eps Efs Ele Edk Edr Elg Erc Emv Ewk Epl Ese Ekd⟩
theorem op_sort (h : Inv D) : yP2 Value.int X 106 266 [] D := by
  obtain ⟨t, dk, cm, Fs, En, z, Dr, gv, n0, Mv, ev, fd, to, va, se, N, Bc, Bm, pm0, q0, h1, h2⟩ := h
  refine yp_both (f := Value.int) (r := (sortV z)) (I := IC t dk cm Fs En z Dr gv n0 Mv ev fd to va se) (J := IM t dk cm Fs En z Dr gv n0 Mv ev fd to va se) (I2 := IC t dk cm Fs En z Dr gv n0 Mv ev fd to va se) (J2 := IM t dk cm Fs En z Dr gv n0 Mv ev fd to va se) (kC_sort q0) (kM_sort q0) pm0 h1 h2 IC.mono IM.mono ?_
  intro D2 N2 Bc2 Bm2 p2 g1 g2
  obtain ⟨q1, q2, q3, q4, q5, q6, q7, q8, q9⟩ := q0
  exact ⟨t, dk, cm, Fs, En, z, Dr, gv, n0, Mv, ev, fd, to, va, se, N2, Bc2, Bm2, p2, ⟨q1, q2, q3, q4, q5, q6, q7, q8, q9⟩, g1, g2⟩
theorem kC_kindOf (q0 : pAll t Fs En z Dr gv n0 Mv se) : kX X 116 [.ref 78, .int x, .int y] (.int (kindV Fs Dr x y)) (IC t dk cm Fs En z Dr gv n0 Mv ev fd to va se) (IC t dk cm Fs En z Dr gv n0 Mv ev fd to va se) := by
  obtain ⟨q1, q2, q3, q4, q5, q6, q7, q8, q9⟩ := q0
  intro N B Rm h sN
  refine h.elim ?_
  intro c_tp c_ps c_fs c_le c_dk c_dr c_gv c_rc c_mv c_wk c_to c_va c_se c_kd eB Ctp Cps Cfs Cle Cdk Cdr Cgv Crc Cmv Cwk Cto Cva Cse Ckd
  subst eB
  have s_dr : c_dr ⊆ c_tp ++ (c_ps ++ (c_fs ++ (c_le ++ (c_dk ++ (c_dr ++ (c_gv ++ (c_rc ++ (c_mv ++ (c_wk ++ (c_to ++ (c_va ++ (c_se ++ (c_kd ++ Rm))))))))))))) := fun e he => List.mem_append_right _ (List.mem_append_right _ (List.mem_append_right _ (List.mem_append_right _ (List.mem_append_right _ (List.mem_append_left _ he)))))
  have s_N : N ⊆ c_tp ++ (c_ps ++ (c_fs ++ (c_le ++ (c_dk ++ (c_dr ++ (c_gv ++ (c_rc ++ (c_mv ++ (c_wk ++ (c_to ++ (c_va ++ (c_se ++ (c_kd ++ Rm))))))))))))) := fun e he => List.mem_append_right _ (List.mem_append_right _ (List.mem_append_right _ (List.mem_append_right _ (List.mem_append_right _ (List.mem_append_right _ (List.mem_append_right _ (List.mem_append_right _ (List.mem_append_right _ (List.mem_append_right _ (List.mem_append_right _ (List.mem_append_right _ (List.mem_append_right _ (List.mem_append_right _ (sN he))))))))))))))
  refine yK.perm (D2 := c_tp ++ (c_ps ++ (c_fs ++ (c_le ++ (c_dk ++ (c_dr ++ (c_gv ++ (c_rc ++ (c_mv ++ (c_wk ++ (c_to ++ (c_va ++ (c_se ++ (c_kd ++ Rm)))))))))))))) (pq fun φ => by simp only [cn_a]; omega) (((oC_kindOf q2 q5 Cdr s_dr s_N).up (yle rfl) (yle rfl)).mono (yle rfl) (yle rfl) ?_)
  rintro w D ⟨rfl, rfl⟩
  exact ⟨rfl, c_tp ++ (c_ps ++ (c_fs ++ (c_le ++ (c_dk ++ (c_dr ++ (c_gv ++ (c_rc ++ (c_mv ++ (c_wk ++ (c_to ++ (c_va ++ (c_se ++ c_kd)))))))))))), [], (pq fun φ => by simp only [cn_a, cn_n]; omega), IC.mk Ctp Cps Cfs Cle Cdk Cdr Cgv Crc Cmv Cwk Cto Cva Cse Ckd⟩
theorem kM_kindOf (q0 : pAll t Fs En z Dr gv n0 Mv se) : kX X 275 [.ref 209, .int x, .int y] (.int (kindV Fs Dr x y)) (IM t dk cm Fs En z Dr gv n0 Mv ev fd to va se) (IM t dk cm Fs En z Dr gv n0 Mv ev fd to va se) := by
  obtain ⟨q1, q2, q3, q4, q5, q6, q7, q8, q9⟩ := q0
  intro N B Rm h sN
  refine h.elim ?_
  intro e_tp e_ps e_fs e_le e_dk e_dr e_lg e_rc e_mv e_wk e_pl e_se e_kd eB Etp Eps Efs Ele Edk Edr Elg Erc Emv Ewk Epl Ese Ekd
  subst eB
  have s_dr : e_dr ⊆ e_tp ++ (e_ps ++ (e_fs ++ (e_le ++ (e_dk ++ (e_dr ++ (e_lg ++ (e_rc ++ (e_mv ++ (e_wk ++ (e_pl ++ (e_se ++ (e_kd ++ Rm)))))))))))) := fun e he => List.mem_append_right _ (List.mem_append_right _ (List.mem_append_right _ (List.mem_append_right _ (List.mem_append_right _ (List.mem_append_left _ he)))))
  have s_fs : e_fs ⊆ e_tp ++ (e_ps ++ (e_fs ++ (e_le ++ (e_dk ++ (e_dr ++ (e_lg ++ (e_rc ++ (e_mv ++ (e_wk ++ (e_pl ++ (e_se ++ (e_kd ++ Rm)))))))))))) := fun e he => List.mem_append_right _ (List.mem_append_right _ (List.mem_append_left _ he))
  have s_N : N ⊆ e_tp ++ (e_ps ++ (e_fs ++ (e_le ++ (e_dk ++ (e_dr ++ (e_lg ++ (e_rc ++ (e_mv ++ (e_wk ++ (e_pl ++ (e_se ++ (e_kd ++ Rm)))))))))))) := fun e he => List.mem_append_right _ (List.mem_append_right _ (List.mem_append_right _ (List.mem_append_right _ (List.mem_append_right _ (List.mem_append_right _ (List.mem_append_right _ (List.mem_append_right _ (List.mem_append_right _ (List.mem_append_right _ (List.mem_append_right _ (List.mem_append_right _ (List.mem_append_right _ (sN he)))))))))))))
  refine yK.perm (D2 := e_tp ++ (e_ps ++ (e_fs ++ (e_le ++ (e_dk ++ (e_dr ++ (e_lg ++ (e_rc ++ (e_mv ++ (e_wk ++ (e_pl ++ (e_se ++ (e_kd ++ Rm))))))))))))) (pq fun φ => by simp only [cn_a]; omega) (((oM_kindOf q2 q5 Edr Efs s_dr s_fs s_N).up (yle rfl) (yle rfl)).mono (yle rfl) (yle rfl) ?_)
  rintro w D ⟨rfl, rfl⟩
  exact ⟨rfl, e_tp ++ (e_ps ++ (e_fs ++ (e_le ++ (e_dk ++ (e_dr ++ (e_lg ++ (e_rc ++ (e_mv ++ (e_wk ++ (e_pl ++ (e_se ++ e_kd))))))))))), [], (pq fun φ => by simp only [cn_a, cn_n]; omega), IM.mk Etp Eps Efs Ele Edk Edr Elg Erc Emv Ewk Epl Ese Ekd⟩
theorem op_kindOf (h : Inv D) : yP2 Value.int X 116 275 [.int x, .int y] D := by
  obtain ⟨t, dk, cm, Fs, En, z, Dr, gv, n0, Mv, ev, fd, to, va, se, N, Bc, Bm, pm0, q0, h1, h2⟩ := h
  refine yp_both (f := Value.int) (r := (kindV Fs Dr x y)) (I := IC t dk cm Fs En z Dr gv n0 Mv ev fd to va se) (J := IM t dk cm Fs En z Dr gv n0 Mv ev fd to va se) (I2 := IC t dk cm Fs En z Dr gv n0 Mv ev fd to va se) (J2 := IM t dk cm Fs En z Dr gv n0 Mv ev fd to va se) (kC_kindOf q0) (kM_kindOf q0) pm0 h1 h2 IC.mono IM.mono ?_
  intro D2 N2 Bc2 Bm2 p2 g1 g2
  obtain ⟨q1, q2, q3, q4, q5, q6, q7, q8, q9⟩ := q0
  exact ⟨t, dk, cm, Fs, En, z, Dr, gv, n0, Mv, ev, fd, to, va, se, N2, Bc2, Bm2, p2, ⟨q1, q2, q3, q4, q5, q6, q7, q8, q9⟩, g1, g2⟩
theorem kC_item (q0 : pAll t Fs En z Dr gv n0 Mv se) : kX X 117 [.ref 78, .int x, .int y, .int i] (.long (itemV Fs Dr x y i)) (IC t dk cm Fs En z Dr gv n0 Mv ev fd to va se) (IC t dk cm Fs En z Dr gv n0 Mv ev fd to va se) := by
  obtain ⟨q1, q2, q3, q4, q5, q6, q7, q8, q9⟩ := q0
  intro N B Rm h sN
  refine h.elim ?_
  intro c_tp c_ps c_fs c_le c_dk c_dr c_gv c_rc c_mv c_wk c_to c_va c_se c_kd eB Ctp Cps Cfs Cle Cdk Cdr Cgv Crc Cmv Cwk Cto Cva Cse Ckd
  subst eB
  have s_dr : c_dr ⊆ c_tp ++ (c_ps ++ (c_fs ++ (c_le ++ (c_dk ++ (c_dr ++ (c_gv ++ (c_rc ++ (c_mv ++ (c_wk ++ (c_to ++ (c_va ++ (c_se ++ (c_kd ++ Rm))))))))))))) := fun e he => List.mem_append_right _ (List.mem_append_right _ (List.mem_append_right _ (List.mem_append_right _ (List.mem_append_right _ (List.mem_append_left _ he)))))
  have s_N : N ⊆ c_tp ++ (c_ps ++ (c_fs ++ (c_le ++ (c_dk ++ (c_dr ++ (c_gv ++ (c_rc ++ (c_mv ++ (c_wk ++ (c_to ++ (c_va ++ (c_se ++ (c_kd ++ Rm))))))))))))) := fun e he => List.mem_append_right _ (List.mem_append_right _ (List.mem_append_right _ (List.mem_append_right _ (List.mem_append_right _ (List.mem_append_right _ (List.mem_append_right _ (List.mem_append_right _ (List.mem_append_right _ (List.mem_append_right _ (List.mem_append_right _ (List.mem_append_right _ (List.mem_append_right _ (List.mem_append_right _ (sN he))))))))))))))
  refine yK.perm (D2 := c_tp ++ (c_ps ++ (c_fs ++ (c_le ++ (c_dk ++ (c_dr ++ (c_gv ++ (c_rc ++ (c_mv ++ (c_wk ++ (c_to ++ (c_va ++ (c_se ++ (c_kd ++ Rm)))))))))))))) (pq fun φ => by simp only [cn_a]; omega) (((oC_item q2 q5 Cdr s_dr s_N).up (yle rfl) (yle rfl)).mono (yle rfl) (yle rfl) ?_)
  rintro w D ⟨rfl, rfl⟩
  exact ⟨rfl, c_tp ++ (c_ps ++ (c_fs ++ (c_le ++ (c_dk ++ (c_dr ++ (c_gv ++ (c_rc ++ (c_mv ++ (c_wk ++ (c_to ++ (c_va ++ (c_se ++ c_kd)))))))))))), [], (pq fun φ => by simp only [cn_a, cn_n]; omega), IC.mk Ctp Cps Cfs Cle Cdk Cdr Cgv Crc Cmv Cwk Cto Cva Cse Ckd⟩
theorem kM_item (q0 : pAll t Fs En z Dr gv n0 Mv se) : kX X 276 [.ref 209, .int x, .int y, .int i] (.long (itemV Fs Dr x y i)) (IM t dk cm Fs En z Dr gv n0 Mv ev fd to va se) (IM t dk cm Fs En z Dr gv n0 Mv ev fd to va se) := by
  obtain ⟨q1, q2, q3, q4, q5, q6, q7, q8, q9⟩ := q0
  intro N B Rm h sN
  refine h.elim ?_
  intro e_tp e_ps e_fs e_le e_dk e_dr e_lg e_rc e_mv e_wk e_pl e_se e_kd eB Etp Eps Efs Ele Edk Edr Elg Erc Emv Ewk Epl Ese Ekd
  subst eB
  have s_dr : e_dr ⊆ e_tp ++ (e_ps ++ (e_fs ++ (e_le ++ (e_dk ++ (e_dr ++ (e_lg ++ (e_rc ++ (e_mv ++ (e_wk ++ (e_pl ++ (e_se ++ (e_kd ++ Rm)))))))))))) := fun e he => List.mem_append_right _ (List.mem_append_right _ (List.mem_append_right _ (List.mem_append_right _ (List.mem_append_right _ (List.mem_append_left _ he)))))
  have s_fs : e_fs ⊆ e_tp ++ (e_ps ++ (e_fs ++ (e_le ++ (e_dk ++ (e_dr ++ (e_lg ++ (e_rc ++ (e_mv ++ (e_wk ++ (e_pl ++ (e_se ++ (e_kd ++ Rm)))))))))))) := fun e he => List.mem_append_right _ (List.mem_append_right _ (List.mem_append_left _ he))
  have s_N : N ⊆ e_tp ++ (e_ps ++ (e_fs ++ (e_le ++ (e_dk ++ (e_dr ++ (e_lg ++ (e_rc ++ (e_mv ++ (e_wk ++ (e_pl ++ (e_se ++ (e_kd ++ Rm)))))))))))) := fun e he => List.mem_append_right _ (List.mem_append_right _ (List.mem_append_right _ (List.mem_append_right _ (List.mem_append_right _ (List.mem_append_right _ (List.mem_append_right _ (List.mem_append_right _ (List.mem_append_right _ (List.mem_append_right _ (List.mem_append_right _ (List.mem_append_right _ (List.mem_append_right _ (sN he)))))))))))))
  refine yK.perm (D2 := e_tp ++ (e_ps ++ (e_fs ++ (e_le ++ (e_dk ++ (e_dr ++ (e_lg ++ (e_rc ++ (e_mv ++ (e_wk ++ (e_pl ++ (e_se ++ (e_kd ++ Rm))))))))))))) (pq fun φ => by simp only [cn_a]; omega) (((oM_item q3 q2 q5 Edr Efs s_dr s_fs s_N).up (yle rfl) (yle rfl)).mono (yle rfl) (yle rfl) ?_)
  rintro w D ⟨rfl, rfl⟩
  exact ⟨rfl, e_tp ++ (e_ps ++ (e_fs ++ (e_le ++ (e_dk ++ (e_dr ++ (e_lg ++ (e_rc ++ (e_mv ++ (e_wk ++ (e_pl ++ (e_se ++ e_kd))))))))))), [], (pq fun φ => by simp only [cn_a, cn_n]; omega), IM.mk Etp Eps Efs Ele Edk Edr Elg Erc Emv Ewk Epl Ese Ekd⟩
theorem op_item (h : Inv D) : yP2 Value.long X 117 276 [.int x, .int y, .int i] D := by
  obtain ⟨t, dk, cm, Fs, En, z, Dr, gv, n0, Mv, ev, fd, to, va, se, N, Bc, Bm, pm0, q0, h1, h2⟩ := h
  refine yp_both (f := Value.long) (r := (itemV Fs Dr x y i)) (I := IC t dk cm Fs En z Dr gv n0 Mv ev fd to va se) (J := IM t dk cm Fs En z Dr gv n0 Mv ev fd to va se) (I2 := IC t dk cm Fs En z Dr gv n0 Mv ev fd to va se) (J2 := IM t dk cm Fs En z Dr gv n0 Mv ev fd to va se) (kC_item q0) (kM_item q0) pm0 h1 h2 IC.mono IM.mono ?_
  intro D2 N2 Bc2 Bm2 p2 g1 g2
  obtain ⟨q1, q2, q3, q4, q5, q6, q7, q8, q9⟩ := q0
  exact ⟨t, dk, cm, Fs, En, z, Dr, gv, n0, Mv, ev, fd, to, va, se, N2, Bc2, Bm2, p2, ⟨q1, q2, q3, q4, q5, q6, q7, q8, q9⟩, g1, g2⟩
theorem kC_cellOf (q0 : pAll t Fs En z Dr gv n0 Mv se) : kX X 119 [.ref 78, .int x, .int y, .int i, .int j] (.int (cellV Fs Dr x y i j)) (IC t dk cm Fs En z Dr gv n0 Mv ev fd to va se) (IC t dk cm Fs En z Dr gv n0 Mv ev fd to va se) := by
  obtain ⟨q1, q2, q3, q4, q5, q6, q7, q8, q9⟩ := q0
  intro N B Rm h sN
  refine h.elim ?_
  intro c_tp c_ps c_fs c_le c_dk c_dr c_gv c_rc c_mv c_wk c_to c_va c_se c_kd eB Ctp Cps Cfs Cle Cdk Cdr Cgv Crc Cmv Cwk Cto Cva Cse Ckd
  subst eB
  have s_dr : c_dr ⊆ c_tp ++ (c_ps ++ (c_fs ++ (c_le ++ (c_dk ++ (c_dr ++ (c_gv ++ (c_rc ++ (c_mv ++ (c_wk ++ (c_to ++ (c_va ++ (c_se ++ (c_kd ++ Rm))))))))))))) := fun e he => List.mem_append_right _ (List.mem_append_right _ (List.mem_append_right _ (List.mem_append_right _ (List.mem_append_right _ (List.mem_append_left _ he)))))
  have s_N : N ⊆ c_tp ++ (c_ps ++ (c_fs ++ (c_le ++ (c_dk ++ (c_dr ++ (c_gv ++ (c_rc ++ (c_mv ++ (c_wk ++ (c_to ++ (c_va ++ (c_se ++ (c_kd ++ Rm))))))))))))) := fun e he => List.mem_append_right _ (List.mem_append_right _ (List.mem_append_right _ (List.mem_append_right _ (List.mem_append_right _ (List.mem_append_right _ (List.mem_append_right _ (List.mem_append_right _ (List.mem_append_right _ (List.mem_append_right _ (List.mem_append_right _ (List.mem_append_right _ (List.mem_append_right _ (List.mem_append_right _ (sN he))))))))))))))
  refine yK.perm (D2 := c_tp ++ (c_ps ++ (c_fs ++ (c_le ++ (c_dk ++ (c_dr ++ (c_gv ++ (c_rc ++ (c_mv ++ (c_wk ++ (c_to ++ (c_va ++ (c_se ++ (c_kd ++ Rm)))))))))))))) (pq fun φ => by simp only [cn_a]; omega) (((oC_cellOf q2 q5 Cdr s_dr s_N).up (yle rfl) (yle rfl)).mono (yle rfl) (yle rfl) ?_)
  rintro w D ⟨rfl, rfl⟩
  exact ⟨rfl, c_tp ++ (c_ps ++ (c_fs ++ (c_le ++ (c_dk ++ (c_dr ++ (c_gv ++ (c_rc ++ (c_mv ++ (c_wk ++ (c_to ++ (c_va ++ (c_se ++ c_kd)))))))))))), [], (pq fun φ => by simp only [cn_a, cn_n]; omega), IC.mk Ctp Cps Cfs Cle Cdk Cdr Cgv Crc Cmv Cwk Cto Cva Cse Ckd⟩
theorem kM_cellOf (q0 : pAll t Fs En z Dr gv n0 Mv se) : kX X 277 [.ref 209, .int x, .int y, .int i, .int j] (.int (cellV Fs Dr x y i j)) (IM t dk cm Fs En z Dr gv n0 Mv ev fd to va se) (IM t dk cm Fs En z Dr gv n0 Mv ev fd to va se) := by
  obtain ⟨q1, q2, q3, q4, q5, q6, q7, q8, q9⟩ := q0
  intro N B Rm h sN
  refine h.elim ?_
  intro e_tp e_ps e_fs e_le e_dk e_dr e_lg e_rc e_mv e_wk e_pl e_se e_kd eB Etp Eps Efs Ele Edk Edr Elg Erc Emv Ewk Epl Ese Ekd
  subst eB
  have s_dr : e_dr ⊆ e_tp ++ (e_ps ++ (e_fs ++ (e_le ++ (e_dk ++ (e_dr ++ (e_lg ++ (e_rc ++ (e_mv ++ (e_wk ++ (e_pl ++ (e_se ++ (e_kd ++ Rm)))))))))))) := fun e he => List.mem_append_right _ (List.mem_append_right _ (List.mem_append_right _ (List.mem_append_right _ (List.mem_append_right _ (List.mem_append_left _ he)))))
  have s_fs : e_fs ⊆ e_tp ++ (e_ps ++ (e_fs ++ (e_le ++ (e_dk ++ (e_dr ++ (e_lg ++ (e_rc ++ (e_mv ++ (e_wk ++ (e_pl ++ (e_se ++ (e_kd ++ Rm)))))))))))) := fun e he => List.mem_append_right _ (List.mem_append_right _ (List.mem_append_left _ he))
  have s_N : N ⊆ e_tp ++ (e_ps ++ (e_fs ++ (e_le ++ (e_dk ++ (e_dr ++ (e_lg ++ (e_rc ++ (e_mv ++ (e_wk ++ (e_pl ++ (e_se ++ (e_kd ++ Rm)))))))))))) := fun e he => List.mem_append_right _ (List.mem_append_right _ (List.mem_append_right _ (List.mem_append_right _ (List.mem_append_right _ (List.mem_append_right _ (List.mem_append_right _ (List.mem_append_right _ (List.mem_append_right _ (List.mem_append_right _ (List.mem_append_right _ (List.mem_append_right _ (List.mem_append_right _ (sN he)))))))))))))
  refine yK.perm (D2 := e_tp ++ (e_ps ++ (e_fs ++ (e_le ++ (e_dk ++ (e_dr ++ (e_lg ++ (e_rc ++ (e_mv ++ (e_wk ++ (e_pl ++ (e_se ++ (e_kd ++ Rm))))))))))))) (pq fun φ => by simp only [cn_a]; omega) (((oM_cellOf q2 q5 Edr Efs s_dr s_fs s_N).up (yle rfl) (yle rfl)).mono (yle rfl) (yle rfl) ?_)
  rintro w D ⟨rfl, rfl⟩
  exact ⟨rfl, e_tp ++ (e_ps ++ (e_fs ++ (e_le ++ (e_dk ++ (e_dr ++ (e_lg ++ (e_rc ++ (e_mv ++ (e_wk ++ (e_pl ++ (e_se ++ e_kd))))))))))), [], (pq fun φ => by simp only [cn_a, cn_n]; omega), IM.mk Etp Eps Efs Ele Edk Edr Elg Erc Emv Ewk Epl Ese Ekd⟩
theorem op_cellOf (h : Inv D) : yP2 Value.int X 119 277 [.int x, .int y, .int i, .int j] D := by
  obtain ⟨t, dk, cm, Fs, En, z, Dr, gv, n0, Mv, ev, fd, to, va, se, N, Bc, Bm, pm0, q0, h1, h2⟩ := h
  refine yp_both (f := Value.int) (r := (cellV Fs Dr x y i j)) (I := IC t dk cm Fs En z Dr gv n0 Mv ev fd to va se) (J := IM t dk cm Fs En z Dr gv n0 Mv ev fd to va se) (I2 := IC t dk cm Fs En z Dr gv n0 Mv ev fd to va se) (J2 := IM t dk cm Fs En z Dr gv n0 Mv ev fd to va se) (kC_cellOf q0) (kM_cellOf q0) pm0 h1 h2 IC.mono IM.mono ?_
  intro D2 N2 Bc2 Bm2 p2 g1 g2
  obtain ⟨q1, q2, q3, q4, q5, q6, q7, q8, q9⟩ := q0
  exact ⟨t, dk, cm, Fs, En, z, Dr, gv, n0, Mv, ev, fd, to, va, se, N2, Bc2, Bm2, p2, ⟨q1, q2, q3, q4, q5, q6, q7, q8, q9⟩, g1, g2⟩
theorem kC_finding (q0 : pAll t Fs En z Dr gv n0 Mv se) : kX X 161 [.ref 78, .int x, .int y] (.int (findV fd x y)) (IC t dk cm Fs En z Dr gv n0 Mv ev fd to va se) (IC t dk cm Fs En z Dr gv n0 Mv ev fd to va se) := by
  obtain ⟨q1, q2, q3, q4, q5, q6, q7, q8, q9⟩ := q0
  intro N B Rm h sN
  refine h.elim ?_
  intro c_tp c_ps c_fs c_le c_dk c_dr c_gv c_rc c_mv c_wk c_to c_va c_se c_kd eB Ctp Cps Cfs Cle Cdk Cdr Cgv Crc Cmv Cwk Cto Cva Cse Ckd
  subst eB
  have s_wk : c_wk ⊆ c_tp ++ (c_ps ++ (c_fs ++ (c_le ++ (c_dk ++ (c_dr ++ (c_gv ++ (c_rc ++ (c_mv ++ (c_wk ++ (c_to ++ (c_va ++ (c_se ++ (c_kd ++ Rm))))))))))))) := fun e he => List.mem_append_right _ (List.mem_append_right _ (List.mem_append_right _ (List.mem_append_right _ (List.mem_append_right _ (List.mem_append_right _ (List.mem_append_right _ (List.mem_append_right _ (List.mem_append_right _ (List.mem_append_left _ he)))))))))
  refine yK.perm (D2 := c_tp ++ (c_ps ++ (c_fs ++ (c_le ++ (c_dk ++ (c_dr ++ (c_gv ++ (c_rc ++ (c_mv ++ (c_wk ++ (c_to ++ (c_va ++ (c_se ++ (c_kd ++ Rm)))))))))))))) (pq fun φ => by simp only [cn_a]; omega) (((oC_finding Cwk s_wk).up (yle rfl) (yle rfl)).mono (yle rfl) (yle rfl) ?_)
  rintro w D ⟨rfl, rfl⟩
  exact ⟨rfl, c_tp ++ (c_ps ++ (c_fs ++ (c_le ++ (c_dk ++ (c_dr ++ (c_gv ++ (c_rc ++ (c_mv ++ (c_wk ++ (c_to ++ (c_va ++ (c_se ++ c_kd)))))))))))), [], (pq fun φ => by simp only [cn_a, cn_n]; omega), IC.mk Ctp Cps Cfs Cle Cdk Cdr Cgv Crc Cmv Cwk Cto Cva Cse Ckd⟩
theorem kM_finding (q0 : pAll t Fs En z Dr gv n0 Mv se) : kX X 318 [.ref 209, .int x, .int y] (.int (findV fd x y)) (IM t dk cm Fs En z Dr gv n0 Mv ev fd to va se) (IM t dk cm Fs En z Dr gv n0 Mv ev fd to va se) := by
  obtain ⟨q1, q2, q3, q4, q5, q6, q7, q8, q9⟩ := q0
  intro N B Rm h sN
  refine h.elim ?_
  intro e_tp e_ps e_fs e_le e_dk e_dr e_lg e_rc e_mv e_wk e_pl e_se e_kd eB Etp Eps Efs Ele Edk Edr Elg Erc Emv Ewk Epl Ese Ekd
  subst eB
  have s_wk : e_wk ⊆ e_tp ++ (e_ps ++ (e_fs ++ (e_le ++ (e_dk ++ (e_dr ++ (e_lg ++ (e_rc ++ (e_mv ++ (e_wk ++ (e_pl ++ (e_se ++ (e_kd ++ Rm)))))))))))) := fun e he => List.mem_append_right _ (List.mem_append_right _ (List.mem_append_right _ (List.mem_append_right _ (List.mem_append_right _ (List.mem_append_right _ (List.mem_append_right _ (List.mem_append_right _ (List.mem_append_right _ (List.mem_append_left _ he)))))))))
  refine yK.perm (D2 := e_tp ++ (e_ps ++ (e_fs ++ (e_le ++ (e_dk ++ (e_dr ++ (e_lg ++ (e_rc ++ (e_mv ++ (e_wk ++ (e_pl ++ (e_se ++ (e_kd ++ Rm))))))))))))) (pq fun φ => by simp only [cn_a]; omega) (((oM_finding Ewk s_wk).up (yle rfl) (yle rfl)).mono (yle rfl) (yle rfl) ?_)
  rintro w D ⟨rfl, rfl⟩
  exact ⟨rfl, e_tp ++ (e_ps ++ (e_fs ++ (e_le ++ (e_dk ++ (e_dr ++ (e_lg ++ (e_rc ++ (e_mv ++ (e_wk ++ (e_pl ++ (e_se ++ e_kd))))))))))), [], (pq fun φ => by simp only [cn_a, cn_n]; omega), IM.mk Etp Eps Efs Ele Edk Edr Elg Erc Emv Ewk Epl Ese Ekd⟩
theorem op_finding (h : Inv D) : yP2 Value.int X 161 318 [.int x, .int y] D := by
  obtain ⟨t, dk, cm, Fs, En, z, Dr, gv, n0, Mv, ev, fd, to, va, se, N, Bc, Bm, pm0, q0, h1, h2⟩ := h
  refine yp_both (f := Value.int) (r := (findV fd x y)) (I := IC t dk cm Fs En z Dr gv n0 Mv ev fd to va se) (J := IM t dk cm Fs En z Dr gv n0 Mv ev fd to va se) (I2 := IC t dk cm Fs En z Dr gv n0 Mv ev fd to va se) (J2 := IM t dk cm Fs En z Dr gv n0 Mv ev fd to va se) (kC_finding q0) (kM_finding q0) pm0 h1 h2 IC.mono IM.mono ?_
  intro D2 N2 Bc2 Bm2 p2 g1 g2
  obtain ⟨q1, q2, q3, q4, q5, q6, q7, q8, q9⟩ := q0
  exact ⟨t, dk, cm, Fs, En, z, Dr, gv, n0, Mv, ev, fd, to, va, se, N2, Bc2, Bm2, p2, ⟨q1, q2, q3, q4, q5, q6, q7, q8, q9⟩, g1, g2⟩
theorem kC_value (q0 : pAll t Fs En z Dr gv n0 Mv se) : kX X 166 [.ref 78] (.long va) (IC t dk cm Fs En z Dr gv n0 Mv ev fd to va se) (IC t dk cm Fs En z Dr gv n0 Mv ev fd to va se) := by
  obtain ⟨q1, q2, q3, q4, q5, q6, q7, q8, q9⟩ := q0
  intro N B Rm h sN
  refine h.elim ?_
  intro c_tp c_ps c_fs c_le c_dk c_dr c_gv c_rc c_mv c_wk c_to c_va c_se c_kd eB Ctp Cps Cfs Cle Cdk Cdr Cgv Crc Cmv Cwk Cto Cva Cse Ckd
  subst eB
  have s_va : c_va ⊆ c_tp ++ (c_ps ++ (c_fs ++ (c_le ++ (c_dk ++ (c_dr ++ (c_gv ++ (c_rc ++ (c_mv ++ (c_wk ++ (c_to ++ (c_va ++ (c_se ++ (c_kd ++ Rm))))))))))))) := fun e he => List.mem_append_right _ (List.mem_append_right _ (List.mem_append_right _ (List.mem_append_right _ (List.mem_append_right _ (List.mem_append_right _ (List.mem_append_right _ (List.mem_append_right _ (List.mem_append_right _ (List.mem_append_right _ (List.mem_append_right _ (List.mem_append_left _ he)))))))))))
  refine yK.perm (D2 := c_tp ++ (c_ps ++ (c_fs ++ (c_le ++ (c_dk ++ (c_dr ++ (c_gv ++ (c_rc ++ (c_mv ++ (c_wk ++ (c_to ++ (c_va ++ (c_se ++ (c_kd ++ Rm)))))))))))))) (pq fun φ => by simp only [cn_a]; omega) (((oC_value Cva s_va).up (yle rfl) (yle rfl)).mono (yle rfl) (yle rfl) ?_)
  rintro w D ⟨rfl, rfl⟩
  exact ⟨rfl, c_tp ++ (c_ps ++ (c_fs ++ (c_le ++ (c_dk ++ (c_dr ++ (c_gv ++ (c_rc ++ (c_mv ++ (c_wk ++ (c_to ++ (c_va ++ (c_se ++ c_kd)))))))))))), [], (pq fun φ => by simp only [cn_a, cn_n]; omega), IC.mk Ctp Cps Cfs Cle Cdk Cdr Cgv Crc Cmv Cwk Cto Cva Cse Ckd⟩
theorem kM_value (q0 : pAll t Fs En z Dr gv n0 Mv se) : kX X 322 [.ref 209] (.long va) (IM t dk cm Fs En z Dr gv n0 Mv ev fd to va se) (IM t dk cm Fs En z Dr gv n0 Mv ev fd to va se) := by
  obtain ⟨q1, q2, q3, q4, q5, q6, q7, q8, q9⟩ := q0
  intro N B Rm h sN
  refine h.elim ?_
  intro e_tp e_ps e_fs e_le e_dk e_dr e_lg e_rc e_mv e_wk e_pl e_se e_kd eB Etp Eps Efs Ele Edk Edr Elg Erc Emv Ewk Epl Ese Ekd
  subst eB
  have s_wk : e_wk ⊆ e_tp ++ (e_ps ++ (e_fs ++ (e_le ++ (e_dk ++ (e_dr ++ (e_lg ++ (e_rc ++ (e_mv ++ (e_wk ++ (e_pl ++ (e_se ++ (e_kd ++ Rm)))))))))))) := fun e he => List.mem_append_right _ (List.mem_append_right _ (List.mem_append_right _ (List.mem_append_right _ (List.mem_append_right _ (List.mem_append_right _ (List.mem_append_right _ (List.mem_append_right _ (List.mem_append_right _ (List.mem_append_left _ he)))))))))
  refine yK.perm (D2 := e_tp ++ (e_ps ++ (e_fs ++ (e_le ++ (e_dk ++ (e_dr ++ (e_lg ++ (e_rc ++ (e_mv ++ (e_wk ++ (e_pl ++ (e_se ++ (e_kd ++ Rm))))))))))))) (pq fun φ => by simp only [cn_a]; omega) (((oM_value Ewk s_wk).up (yle rfl) (yle rfl)).mono (yle rfl) (yle rfl) ?_)
  rintro w D ⟨rfl, rfl⟩
  exact ⟨rfl, e_tp ++ (e_ps ++ (e_fs ++ (e_le ++ (e_dk ++ (e_dr ++ (e_lg ++ (e_rc ++ (e_mv ++ (e_wk ++ (e_pl ++ (e_se ++ e_kd))))))))))), [], (pq fun φ => by simp only [cn_a, cn_n]; omega), IM.mk Etp Eps Efs Ele Edk Edr Elg Erc Emv Ewk Epl Ese Ekd⟩
theorem op_value (h : Inv D) : yP2 Value.long X 166 322 [] D := by
  obtain ⟨t, dk, cm, Fs, En, z, Dr, gv, n0, Mv, ev, fd, to, va, se, N, Bc, Bm, pm0, q0, h1, h2⟩ := h
  refine yp_both (f := Value.long) (r := va) (I := IC t dk cm Fs En z Dr gv n0 Mv ev fd to va se) (J := IM t dk cm Fs En z Dr gv n0 Mv ev fd to va se) (I2 := IC t dk cm Fs En z Dr gv n0 Mv ev fd to va se) (J2 := IM t dk cm Fs En z Dr gv n0 Mv ev fd to va se) (kC_value q0) (kM_value q0) pm0 h1 h2 IC.mono IM.mono ?_
  intro D2 N2 Bc2 Bm2 p2 g1 g2
  obtain ⟨q1, q2, q3, q4, q5, q6, q7, q8, q9⟩ := q0
  exact ⟨t, dk, cm, Fs, En, z, Dr, gv, n0, Mv, ev, fd, to, va, se, N2, Bc2, Bm2, p2, ⟨q1, q2, q3, q4, q5, q6, q7, q8, q9⟩, g1, g2⟩
theorem kC_told (q0 : pAll t Fs En z Dr gv n0 Mv se) : kX X 167 [.ref 78, .int x] (.int (toldV to.1 to.2.1 to.2.2 x)) (IC t dk cm Fs En z Dr gv n0 Mv ev fd to va se) (IC t dk cm Fs En z Dr gv n0 Mv ev fd to va se) := by
  obtain ⟨q1, q2, q3, q4, q5, q6, q7, q8, q9⟩ := q0
  intro N B Rm h sN
  refine h.elim ?_
  intro c_tp c_ps c_fs c_le c_dk c_dr c_gv c_rc c_mv c_wk c_to c_va c_se c_kd eB Ctp Cps Cfs Cle Cdk Cdr Cgv Crc Cmv Cwk Cto Cva Cse Ckd
  subst eB
  have s_to : c_to ⊆ c_tp ++ (c_ps ++ (c_fs ++ (c_le ++ (c_dk ++ (c_dr ++ (c_gv ++ (c_rc ++ (c_mv ++ (c_wk ++ (c_to ++ (c_va ++ (c_se ++ (c_kd ++ Rm))))))))))))) := fun e he => List.mem_append_right _ (List.mem_append_right _ (List.mem_append_right _ (List.mem_append_right _ (List.mem_append_right _ (List.mem_append_right _ (List.mem_append_right _ (List.mem_append_right _ (List.mem_append_right _ (List.mem_append_right _ (List.mem_append_left _ he))))))))))
  refine yK.perm (D2 := c_tp ++ (c_ps ++ (c_fs ++ (c_le ++ (c_dk ++ (c_dr ++ (c_gv ++ (c_rc ++ (c_mv ++ (c_wk ++ (c_to ++ (c_va ++ (c_se ++ (c_kd ++ Rm)))))))))))))) (pq fun φ => by simp only [cn_a]; omega) (((oC_told Cto s_to).up (yle rfl) (yle rfl)).mono (yle rfl) (yle rfl) ?_)
  rintro w D ⟨rfl, rfl⟩
  exact ⟨rfl, c_tp ++ (c_ps ++ (c_fs ++ (c_le ++ (c_dk ++ (c_dr ++ (c_gv ++ (c_rc ++ (c_mv ++ (c_wk ++ (c_to ++ (c_va ++ (c_se ++ c_kd)))))))))))), [], (pq fun φ => by simp only [cn_a, cn_n]; omega), IC.mk Ctp Cps Cfs Cle Cdk Cdr Cgv Crc Cmv Cwk Cto Cva Cse Ckd⟩
theorem kM_told (q0 : pAll t Fs En z Dr gv n0 Mv se) : kX X 323 [.ref 209, .int x] (.int (toldV to.1 to.2.1 to.2.2 x)) (IM t dk cm Fs En z Dr gv n0 Mv ev fd to va se) (IM t dk cm Fs En z Dr gv n0 Mv ev fd to va se) := by
  obtain ⟨q1, q2, q3, q4, q5, q6, q7, q8, q9⟩ := q0
  intro N B Rm h sN
  refine h.elim ?_
  intro e_tp e_ps e_fs e_le e_dk e_dr e_lg e_rc e_mv e_wk e_pl e_se e_kd eB Etp Eps Efs Ele Edk Edr Elg Erc Emv Ewk Epl Ese Ekd
  subst eB
  have s_wk : e_wk ⊆ e_tp ++ (e_ps ++ (e_fs ++ (e_le ++ (e_dk ++ (e_dr ++ (e_lg ++ (e_rc ++ (e_mv ++ (e_wk ++ (e_pl ++ (e_se ++ (e_kd ++ Rm)))))))))))) := fun e he => List.mem_append_right _ (List.mem_append_right _ (List.mem_append_right _ (List.mem_append_right _ (List.mem_append_right _ (List.mem_append_right _ (List.mem_append_right _ (List.mem_append_right _ (List.mem_append_right _ (List.mem_append_left _ he)))))))))
  refine yK.perm (D2 := e_tp ++ (e_ps ++ (e_fs ++ (e_le ++ (e_dk ++ (e_dr ++ (e_lg ++ (e_rc ++ (e_mv ++ (e_wk ++ (e_pl ++ (e_se ++ (e_kd ++ Rm))))))))))))) (pq fun φ => by simp only [cn_a]; omega) (((oM_told Ewk s_wk).up (yle rfl) (yle rfl)).mono (yle rfl) (yle rfl) ?_)
  rintro w D ⟨rfl, rfl⟩
  exact ⟨rfl, e_tp ++ (e_ps ++ (e_fs ++ (e_le ++ (e_dk ++ (e_dr ++ (e_lg ++ (e_rc ++ (e_mv ++ (e_wk ++ (e_pl ++ (e_se ++ e_kd))))))))))), [], (pq fun φ => by simp only [cn_a, cn_n]; omega), IM.mk Etp Eps Efs Ele Edk Edr Elg Erc Emv Ewk Epl Ese Ekd⟩
theorem op_told (h : Inv D) : yP2 Value.int X 167 323 [.int x] D := by
  obtain ⟨t, dk, cm, Fs, En, z, Dr, gv, n0, Mv, ev, fd, to, va, se, N, Bc, Bm, pm0, q0, h1, h2⟩ := h
  refine yp_both (f := Value.int) (r := (toldV to.1 to.2.1 to.2.2 x)) (I := IC t dk cm Fs En z Dr gv n0 Mv ev fd to va se) (J := IM t dk cm Fs En z Dr gv n0 Mv ev fd to va se) (I2 := IC t dk cm Fs En z Dr gv n0 Mv ev fd to va se) (J2 := IM t dk cm Fs En z Dr gv n0 Mv ev fd to va se) (kC_told q0) (kM_told q0) pm0 h1 h2 IC.mono IM.mono ?_
  intro D2 N2 Bc2 Bm2 p2 g1 g2
  obtain ⟨q1, q2, q3, q4, q5, q6, q7, q8, q9⟩ := q0
  exact ⟨t, dk, cm, Fs, En, z, Dr, gv, n0, Mv, ev, fd, to, va, se, N2, Bc2, Bm2, p2, ⟨q1, q2, q3, q4, q5, q6, q7, q8, q9⟩, g1, g2⟩
theorem kC_receipt (q0 : pAll t Fs En z Dr gv n0 Mv se) : kX X 169 [.ref 78, .int x] (.int (rcV Dr x)) (IC t dk cm Fs En z Dr gv n0 Mv ev fd to va se) (IC t dk cm Fs En z Dr gv n0 Mv ev fd to va se) := by
  obtain ⟨q1, q2, q3, q4, q5, q6, q7, q8, q9⟩ := q0
  intro N B Rm h sN
  refine h.elim ?_
  intro c_tp c_ps c_fs c_le c_dk c_dr c_gv c_rc c_mv c_wk c_to c_va c_se c_kd eB Ctp Cps Cfs Cle Cdk Cdr Cgv Crc Cmv Cwk Cto Cva Cse Ckd
  subst eB
  have s_dr : c_dr ⊆ c_tp ++ (c_ps ++ (c_fs ++ (c_le ++ (c_dk ++ (c_dr ++ (c_gv ++ (c_rc ++ (c_mv ++ (c_wk ++ (c_to ++ (c_va ++ (c_se ++ (c_kd ++ Rm))))))))))))) := fun e he => List.mem_append_right _ (List.mem_append_right _ (List.mem_append_right _ (List.mem_append_right _ (List.mem_append_right _ (List.mem_append_left _ he)))))
  have s_N : N ⊆ c_tp ++ (c_ps ++ (c_fs ++ (c_le ++ (c_dk ++ (c_dr ++ (c_gv ++ (c_rc ++ (c_mv ++ (c_wk ++ (c_to ++ (c_va ++ (c_se ++ (c_kd ++ Rm))))))))))))) := fun e he => List.mem_append_right _ (List.mem_append_right _ (List.mem_append_right _ (List.mem_append_right _ (List.mem_append_right _ (List.mem_append_right _ (List.mem_append_right _ (List.mem_append_right _ (List.mem_append_right _ (List.mem_append_right _ (List.mem_append_right _ (List.mem_append_right _ (List.mem_append_right _ (List.mem_append_right _ (sN he))))))))))))))
  refine yK.perm (D2 := c_tp ++ (c_ps ++ (c_fs ++ (c_le ++ (c_dk ++ (c_dr ++ (c_gv ++ (c_rc ++ (c_mv ++ (c_wk ++ (c_to ++ (c_va ++ (c_se ++ (c_kd ++ Rm)))))))))))))) (pq fun φ => by simp only [cn_a]; omega) (((oC_receipt q2 q5 Cdr s_dr s_N).up (yle rfl) (yle rfl)).mono (yle rfl) (yle rfl) ?_)
  rintro w D ⟨rfl, rfl⟩
  exact ⟨rfl, c_tp ++ (c_ps ++ (c_fs ++ (c_le ++ (c_dk ++ (c_dr ++ (c_gv ++ (c_rc ++ (c_mv ++ (c_wk ++ (c_to ++ (c_va ++ (c_se ++ c_kd)))))))))))), [], (pq fun φ => by simp only [cn_a, cn_n]; omega), IC.mk Ctp Cps Cfs Cle Cdk Cdr Cgv Crc Cmv Cwk Cto Cva Cse Ckd⟩
theorem kM_receipt (q0 : pAll t Fs En z Dr gv n0 Mv se) : kX X 325 [.ref 209, .int x] (.int (rcV Dr x)) (IM t dk cm Fs En z Dr gv n0 Mv ev fd to va se) (IM t dk cm Fs En z Dr gv n0 Mv ev fd to va se) := by
  obtain ⟨q1, q2, q3, q4, q5, q6, q7, q8, q9⟩ := q0
  intro N B Rm h sN
  refine h.elim ?_
  intro e_tp e_ps e_fs e_le e_dk e_dr e_lg e_rc e_mv e_wk e_pl e_se e_kd eB Etp Eps Efs Ele Edk Edr Elg Erc Emv Ewk Epl Ese Ekd
  subst eB
  have s_dr : e_dr ⊆ e_tp ++ (e_ps ++ (e_fs ++ (e_le ++ (e_dk ++ (e_dr ++ (e_lg ++ (e_rc ++ (e_mv ++ (e_wk ++ (e_pl ++ (e_se ++ (e_kd ++ Rm)))))))))))) := fun e he => List.mem_append_right _ (List.mem_append_right _ (List.mem_append_right _ (List.mem_append_right _ (List.mem_append_right _ (List.mem_append_left _ he)))))
  have s_fs : e_fs ⊆ e_tp ++ (e_ps ++ (e_fs ++ (e_le ++ (e_dk ++ (e_dr ++ (e_lg ++ (e_rc ++ (e_mv ++ (e_wk ++ (e_pl ++ (e_se ++ (e_kd ++ Rm)))))))))))) := fun e he => List.mem_append_right _ (List.mem_append_right _ (List.mem_append_left _ he))
  have s_N : N ⊆ e_tp ++ (e_ps ++ (e_fs ++ (e_le ++ (e_dk ++ (e_dr ++ (e_lg ++ (e_rc ++ (e_mv ++ (e_wk ++ (e_pl ++ (e_se ++ (e_kd ++ Rm)))))))))))) := fun e he => List.mem_append_right _ (List.mem_append_right _ (List.mem_append_right _ (List.mem_append_right _ (List.mem_append_right _ (List.mem_append_right _ (List.mem_append_right _ (List.mem_append_right _ (List.mem_append_right _ (List.mem_append_right _ (List.mem_append_right _ (List.mem_append_right _ (List.mem_append_right _ (sN he)))))))))))))
  refine yK.perm (D2 := e_tp ++ (e_ps ++ (e_fs ++ (e_le ++ (e_dk ++ (e_dr ++ (e_lg ++ (e_rc ++ (e_mv ++ (e_wk ++ (e_pl ++ (e_se ++ (e_kd ++ Rm))))))))))))) (pq fun φ => by simp only [cn_a]; omega) (((oM_receipt q2 q5 Edr Efs s_dr s_fs s_N).up (yle rfl) (yle rfl)).mono (yle rfl) (yle rfl) ?_)
  rintro w D ⟨rfl, rfl⟩
  exact ⟨rfl, e_tp ++ (e_ps ++ (e_fs ++ (e_le ++ (e_dk ++ (e_dr ++ (e_lg ++ (e_rc ++ (e_mv ++ (e_wk ++ (e_pl ++ (e_se ++ e_kd))))))))))), [], (pq fun φ => by simp only [cn_a, cn_n]; omega), IM.mk Etp Eps Efs Ele Edk Edr Elg Erc Emv Ewk Epl Ese Ekd⟩
theorem op_receipt (h : Inv D) : yP2 Value.int X 169 325 [.int x] D := by
  obtain ⟨t, dk, cm, Fs, En, z, Dr, gv, n0, Mv, ev, fd, to, va, se, N, Bc, Bm, pm0, q0, h1, h2⟩ := h
  refine yp_both (f := Value.int) (r := (rcV Dr x)) (I := IC t dk cm Fs En z Dr gv n0 Mv ev fd to va se) (J := IM t dk cm Fs En z Dr gv n0 Mv ev fd to va se) (I2 := IC t dk cm Fs En z Dr gv n0 Mv ev fd to va se) (J2 := IM t dk cm Fs En z Dr gv n0 Mv ev fd to va se) (kC_receipt q0) (kM_receipt q0) pm0 h1 h2 IC.mono IM.mono ?_
  intro D2 N2 Bc2 Bm2 p2 g1 g2
  obtain ⟨q1, q2, q3, q4, q5, q6, q7, q8, q9⟩ := q0
  exact ⟨t, dk, cm, Fs, En, z, Dr, gv, n0, Mv, ev, fd, to, va, se, N2, Bc2, Bm2, p2, ⟨q1, q2, q3, q4, q5, q6, q7, q8, q9⟩, g1, g2⟩
theorem kC_earlier (q0 : pAll t Fs En z Dr gv n0 Mv se) : kX X 170 [.ref 78, .int x, .int y] (.int (earV Dr x y)) (IC t dk cm Fs En z Dr gv n0 Mv ev fd to va se) (IC t dk cm Fs En z Dr gv n0 Mv ev fd to va se) := by
  obtain ⟨q1, q2, q3, q4, q5, q6, q7, q8, q9⟩ := q0
  intro N B Rm h sN
  refine h.elim ?_
  intro c_tp c_ps c_fs c_le c_dk c_dr c_gv c_rc c_mv c_wk c_to c_va c_se c_kd eB Ctp Cps Cfs Cle Cdk Cdr Cgv Crc Cmv Cwk Cto Cva Cse Ckd
  subst eB
  have s_dr : c_dr ⊆ c_tp ++ (c_ps ++ (c_fs ++ (c_le ++ (c_dk ++ (c_dr ++ (c_gv ++ (c_rc ++ (c_mv ++ (c_wk ++ (c_to ++ (c_va ++ (c_se ++ (c_kd ++ Rm))))))))))))) := fun e he => List.mem_append_right _ (List.mem_append_right _ (List.mem_append_right _ (List.mem_append_right _ (List.mem_append_right _ (List.mem_append_left _ he)))))
  have s_N : N ⊆ c_tp ++ (c_ps ++ (c_fs ++ (c_le ++ (c_dk ++ (c_dr ++ (c_gv ++ (c_rc ++ (c_mv ++ (c_wk ++ (c_to ++ (c_va ++ (c_se ++ (c_kd ++ Rm))))))))))))) := fun e he => List.mem_append_right _ (List.mem_append_right _ (List.mem_append_right _ (List.mem_append_right _ (List.mem_append_right _ (List.mem_append_right _ (List.mem_append_right _ (List.mem_append_right _ (List.mem_append_right _ (List.mem_append_right _ (List.mem_append_right _ (List.mem_append_right _ (List.mem_append_right _ (List.mem_append_right _ (sN he))))))))))))))
  refine yK.perm (D2 := c_tp ++ (c_ps ++ (c_fs ++ (c_le ++ (c_dk ++ (c_dr ++ (c_gv ++ (c_rc ++ (c_mv ++ (c_wk ++ (c_to ++ (c_va ++ (c_se ++ (c_kd ++ Rm)))))))))))))) (pq fun φ => by simp only [cn_a]; omega) (((oC_earlier q2 q5 Cdr s_dr s_N).up (yle rfl) (yle rfl)).mono (yle rfl) (yle rfl) ?_)
  rintro w D ⟨rfl, rfl⟩
  exact ⟨rfl, c_tp ++ (c_ps ++ (c_fs ++ (c_le ++ (c_dk ++ (c_dr ++ (c_gv ++ (c_rc ++ (c_mv ++ (c_wk ++ (c_to ++ (c_va ++ (c_se ++ c_kd)))))))))))), [], (pq fun φ => by simp only [cn_a, cn_n]; omega), IC.mk Ctp Cps Cfs Cle Cdk Cdr Cgv Crc Cmv Cwk Cto Cva Cse Ckd⟩
theorem kM_earlier (q0 : pAll t Fs En z Dr gv n0 Mv se) : kX X 326 [.ref 209, .int x, .int y] (.int (earV Dr x y)) (IM t dk cm Fs En z Dr gv n0 Mv ev fd to va se) (IM t dk cm Fs En z Dr gv n0 Mv ev fd to va se) := by
  obtain ⟨q1, q2, q3, q4, q5, q6, q7, q8, q9⟩ := q0
  intro N B Rm h sN
  refine h.elim ?_
  intro e_tp e_ps e_fs e_le e_dk e_dr e_lg e_rc e_mv e_wk e_pl e_se e_kd eB Etp Eps Efs Ele Edk Edr Elg Erc Emv Ewk Epl Ese Ekd
  subst eB
  have s_dr : e_dr ⊆ e_tp ++ (e_ps ++ (e_fs ++ (e_le ++ (e_dk ++ (e_dr ++ (e_lg ++ (e_rc ++ (e_mv ++ (e_wk ++ (e_pl ++ (e_se ++ (e_kd ++ Rm)))))))))))) := fun e he => List.mem_append_right _ (List.mem_append_right _ (List.mem_append_right _ (List.mem_append_right _ (List.mem_append_right _ (List.mem_append_left _ he)))))
  have s_fs : e_fs ⊆ e_tp ++ (e_ps ++ (e_fs ++ (e_le ++ (e_dk ++ (e_dr ++ (e_lg ++ (e_rc ++ (e_mv ++ (e_wk ++ (e_pl ++ (e_se ++ (e_kd ++ Rm)))))))))))) := fun e he => List.mem_append_right _ (List.mem_append_right _ (List.mem_append_left _ he))
  have s_N : N ⊆ e_tp ++ (e_ps ++ (e_fs ++ (e_le ++ (e_dk ++ (e_dr ++ (e_lg ++ (e_rc ++ (e_mv ++ (e_wk ++ (e_pl ++ (e_se ++ (e_kd ++ Rm)))))))))))) := fun e he => List.mem_append_right _ (List.mem_append_right _ (List.mem_append_right _ (List.mem_append_right _ (List.mem_append_right _ (List.mem_append_right _ (List.mem_append_right _ (List.mem_append_right _ (List.mem_append_right _ (List.mem_append_right _ (List.mem_append_right _ (List.mem_append_right _ (List.mem_append_right _ (sN he)))))))))))))
  refine yK.perm (D2 := e_tp ++ (e_ps ++ (e_fs ++ (e_le ++ (e_dk ++ (e_dr ++ (e_lg ++ (e_rc ++ (e_mv ++ (e_wk ++ (e_pl ++ (e_se ++ (e_kd ++ Rm))))))))))))) (pq fun φ => by simp only [cn_a]; omega) (((oM_earlier q2 q5 Edr Efs s_dr s_fs s_N).up (yle rfl) (yle rfl)).mono (yle rfl) (yle rfl) ?_)
  rintro w D ⟨rfl, rfl⟩
  exact ⟨rfl, e_tp ++ (e_ps ++ (e_fs ++ (e_le ++ (e_dk ++ (e_dr ++ (e_lg ++ (e_rc ++ (e_mv ++ (e_wk ++ (e_pl ++ (e_se ++ e_kd))))))))))), [], (pq fun φ => by simp only [cn_a, cn_n]; omega), IM.mk Etp Eps Efs Ele Edk Edr Elg Erc Emv Ewk Epl Ese Ekd⟩
theorem op_earlier (h : Inv D) : yP2 Value.int X 170 326 [.int x, .int y] D := by
  obtain ⟨t, dk, cm, Fs, En, z, Dr, gv, n0, Mv, ev, fd, to, va, se, N, Bc, Bm, pm0, q0, h1, h2⟩ := h
  refine yp_both (f := Value.int) (r := (earV Dr x y)) (I := IC t dk cm Fs En z Dr gv n0 Mv ev fd to va se) (J := IM t dk cm Fs En z Dr gv n0 Mv ev fd to va se) (I2 := IC t dk cm Fs En z Dr gv n0 Mv ev fd to va se) (J2 := IM t dk cm Fs En z Dr gv n0 Mv ev fd to va se) (kC_earlier q0) (kM_earlier q0) pm0 h1 h2 IC.mono IM.mono ?_
  intro D2 N2 Bc2 Bm2 p2 g1 g2
  obtain ⟨q1, q2, q3, q4, q5, q6, q7, q8, q9⟩ := q0
  exact ⟨t, dk, cm, Fs, En, z, Dr, gv, n0, Mv, ev, fd, to, va, se, N2, Bc2, Bm2, p2, ⟨q1, q2, q3, q4, q5, q6, q7, q8, q9⟩, g1, g2⟩
theorem kC_cameOver (q0 : pAll t Fs En z Dr gv n0 Mv se) : kX X 179 [.ref 78, .int x] (.int (itV cm x (-1))) (IC t dk cm Fs En z Dr gv n0 Mv ev fd to va se) (IC t dk cm Fs En z Dr gv n0 Mv ev fd to va se) := by
  obtain ⟨q1, q2, q3, q4, q5, q6, q7, q8, q9⟩ := q0
  intro N B Rm h sN
  refine h.elim ?_
  intro c_tp c_ps c_fs c_le c_dk c_dr c_gv c_rc c_mv c_wk c_to c_va c_se c_kd eB Ctp Cps Cfs Cle Cdk Cdr Cgv Crc Cmv Cwk Cto Cva Cse Ckd
  subst eB
  have s_mv : c_mv ⊆ c_tp ++ (c_ps ++ (c_fs ++ (c_le ++ (c_dk ++ (c_dr ++ (c_gv ++ (c_rc ++ (c_mv ++ (c_wk ++ (c_to ++ (c_va ++ (c_se ++ (c_kd ++ Rm))))))))))))) := fun e he => List.mem_append_right _ (List.mem_append_right _ (List.mem_append_right _ (List.mem_append_right _ (List.mem_append_right _ (List.mem_append_right _ (List.mem_append_right _ (List.mem_append_right _ (List.mem_append_left _ he))))))))
  refine yK.perm (D2 := c_tp ++ (c_ps ++ (c_fs ++ (c_le ++ (c_dk ++ (c_dr ++ (c_gv ++ (c_rc ++ (c_mv ++ (c_wk ++ (c_to ++ (c_va ++ (c_se ++ (c_kd ++ Rm)))))))))))))) (pq fun φ => by simp only [cn_a]; omega) (((oC_came Cmv s_mv).up (yle rfl) (yle rfl)).mono (yle rfl) (yle rfl) ?_)
  rintro w D ⟨rfl, rfl⟩
  exact ⟨rfl, c_tp ++ (c_ps ++ (c_fs ++ (c_le ++ (c_dk ++ (c_dr ++ (c_gv ++ (c_rc ++ (c_mv ++ (c_wk ++ (c_to ++ (c_va ++ (c_se ++ c_kd)))))))))))), [], (pq fun φ => by simp only [cn_a, cn_n]; omega), IC.mk Ctp Cps Cfs Cle Cdk Cdr Cgv Crc Cmv Cwk Cto Cva Cse Ckd⟩
theorem kM_cameOver (q0 : pAll t Fs En z Dr gv n0 Mv se) : kX X 334 [.ref 209, .int x] (.int (itV cm x (-1))) (IM t dk cm Fs En z Dr gv n0 Mv ev fd to va se) (IM t dk cm Fs En z Dr gv n0 Mv ev fd to va se) := by
  obtain ⟨q1, q2, q3, q4, q5, q6, q7, q8, q9⟩ := q0
  intro N B Rm h sN
  refine h.elim ?_
  intro e_tp e_ps e_fs e_le e_dk e_dr e_lg e_rc e_mv e_wk e_pl e_se e_kd eB Etp Eps Efs Ele Edk Edr Elg Erc Emv Ewk Epl Ese Ekd
  subst eB
  have s_mv : e_mv ⊆ e_tp ++ (e_ps ++ (e_fs ++ (e_le ++ (e_dk ++ (e_dr ++ (e_lg ++ (e_rc ++ (e_mv ++ (e_wk ++ (e_pl ++ (e_se ++ (e_kd ++ Rm)))))))))))) := fun e he => List.mem_append_right _ (List.mem_append_right _ (List.mem_append_right _ (List.mem_append_right _ (List.mem_append_right _ (List.mem_append_right _ (List.mem_append_right _ (List.mem_append_right _ (List.mem_append_left _ he))))))))
  refine yK.perm (D2 := e_tp ++ (e_ps ++ (e_fs ++ (e_le ++ (e_dk ++ (e_dr ++ (e_lg ++ (e_rc ++ (e_mv ++ (e_wk ++ (e_pl ++ (e_se ++ (e_kd ++ Rm))))))))))))) (pq fun φ => by simp only [cn_a]; omega) (((oM_came Emv s_mv).up (yle rfl) (yle rfl)).mono (yle rfl) (yle rfl) ?_)
  rintro w D ⟨rfl, rfl⟩
  exact ⟨rfl, e_tp ++ (e_ps ++ (e_fs ++ (e_le ++ (e_dk ++ (e_dr ++ (e_lg ++ (e_rc ++ (e_mv ++ (e_wk ++ (e_pl ++ (e_se ++ e_kd))))))))))), [], (pq fun φ => by simp only [cn_a, cn_n]; omega), IM.mk Etp Eps Efs Ele Edk Edr Elg Erc Emv Ewk Epl Ese Ekd⟩
theorem op_cameOver (h : Inv D) : yP2 Value.int X 179 334 [.int x] D := by
  obtain ⟨t, dk, cm, Fs, En, z, Dr, gv, n0, Mv, ev, fd, to, va, se, N, Bc, Bm, pm0, q0, h1, h2⟩ := h
  refine yp_both (f := Value.int) (r := (itV cm x (-1))) (I := IC t dk cm Fs En z Dr gv n0 Mv ev fd to va se) (J := IM t dk cm Fs En z Dr gv n0 Mv ev fd to va se) (I2 := IC t dk cm Fs En z Dr gv n0 Mv ev fd to va se) (J2 := IM t dk cm Fs En z Dr gv n0 Mv ev fd to va se) (kC_cameOver q0) (kM_cameOver q0) pm0 h1 h2 IC.mono IM.mono ?_
  intro D2 N2 Bc2 Bm2 p2 g1 g2
  obtain ⟨q1, q2, q3, q4, q5, q6, q7, q8, q9⟩ := q0
  exact ⟨t, dk, cm, Fs, En, z, Dr, gv, n0, Mv, ev, fd, to, va, se, N2, Bc2, Bm2, p2, ⟨q1, q2, q3, q4, q5, q6, q7, q8, q9⟩, g1, g2⟩
theorem kC_proof (q0 : pAll t Fs En z Dr gv n0 Mv se) : kX X 192 [.ref 78, .int x] (.int (itV se.2.2.2.2.2 x (-1))) (IC t dk cm Fs En z Dr gv n0 Mv ev fd to va se) (IC t dk cm Fs En z Dr gv n0 Mv ev fd to va se) := by
  obtain ⟨q1, q2, q3, q4, q5, q6, q7, q8, q9⟩ := q0
  intro N B Rm h sN
  refine h.elim ?_
  intro c_tp c_ps c_fs c_le c_dk c_dr c_gv c_rc c_mv c_wk c_to c_va c_se c_kd eB Ctp Cps Cfs Cle Cdk Cdr Cgv Crc Cmv Cwk Cto Cva Cse Ckd
  subst eB
  have s_se : c_se ⊆ c_tp ++ (c_ps ++ (c_fs ++ (c_le ++ (c_dk ++ (c_dr ++ (c_gv ++ (c_rc ++ (c_mv ++ (c_wk ++ (c_to ++ (c_va ++ (c_se ++ (c_kd ++ Rm))))))))))))) := fun e he => List.mem_append_right _ (List.mem_append_right _ (List.mem_append_right _ (List.mem_append_right _ (List.mem_append_right _ (List.mem_append_right _ (List.mem_append_right _ (List.mem_append_right _ (List.mem_append_right _ (List.mem_append_right _ (List.mem_append_right _ (List.mem_append_right _ (List.mem_append_left _ he))))))))))))
  refine yK.perm (D2 := c_tp ++ (c_ps ++ (c_fs ++ (c_le ++ (c_dk ++ (c_dr ++ (c_gv ++ (c_rc ++ (c_mv ++ (c_wk ++ (c_to ++ (c_va ++ (c_se ++ (c_kd ++ Rm)))))))))))))) (pq fun φ => by simp only [cn_a]; omega) (((oC_proof Cse s_se).up (yle rfl) (yle rfl)).mono (yle rfl) (yle rfl) ?_)
  rintro w D ⟨rfl, rfl⟩
  exact ⟨rfl, c_tp ++ (c_ps ++ (c_fs ++ (c_le ++ (c_dk ++ (c_dr ++ (c_gv ++ (c_rc ++ (c_mv ++ (c_wk ++ (c_to ++ (c_va ++ (c_se ++ c_kd)))))))))))), [], (pq fun φ => by simp only [cn_a, cn_n]; omega), IC.mk Ctp Cps Cfs Cle Cdk Cdr Cgv Crc Cmv Cwk Cto Cva Cse Ckd⟩
theorem kM_proof (q0 : pAll t Fs En z Dr gv n0 Mv se) : kX X 342 [.ref 209, .int x] (.int (itV se.2.2.2.2.2 x (-1))) (IM t dk cm Fs En z Dr gv n0 Mv ev fd to va se) (IM t dk cm Fs En z Dr gv n0 Mv ev fd to va se) := by
  obtain ⟨q1, q2, q3, q4, q5, q6, q7, q8, q9⟩ := q0
  intro N B Rm h sN
  refine h.elim ?_
  intro e_tp e_ps e_fs e_le e_dk e_dr e_lg e_rc e_mv e_wk e_pl e_se e_kd eB Etp Eps Efs Ele Edk Edr Elg Erc Emv Ewk Epl Ese Ekd
  subst eB
  have s_se : e_se ⊆ e_tp ++ (e_ps ++ (e_fs ++ (e_le ++ (e_dk ++ (e_dr ++ (e_lg ++ (e_rc ++ (e_mv ++ (e_wk ++ (e_pl ++ (e_se ++ (e_kd ++ Rm)))))))))))) := fun e he => List.mem_append_right _ (List.mem_append_right _ (List.mem_append_right _ (List.mem_append_right _ (List.mem_append_right _ (List.mem_append_right _ (List.mem_append_right _ (List.mem_append_right _ (List.mem_append_right _ (List.mem_append_right _ (List.mem_append_right _ (List.mem_append_left _ he)))))))))))
  refine yK.perm (D2 := e_tp ++ (e_ps ++ (e_fs ++ (e_le ++ (e_dk ++ (e_dr ++ (e_lg ++ (e_rc ++ (e_mv ++ (e_wk ++ (e_pl ++ (e_se ++ (e_kd ++ Rm))))))))))))) (pq fun φ => by simp only [cn_a]; omega) (((oM_proof Ese s_se).up (yle rfl) (yle rfl)).mono (yle rfl) (yle rfl) ?_)
  rintro w D ⟨rfl, rfl⟩
  exact ⟨rfl, e_tp ++ (e_ps ++ (e_fs ++ (e_le ++ (e_dk ++ (e_dr ++ (e_lg ++ (e_rc ++ (e_mv ++ (e_wk ++ (e_pl ++ (e_se ++ e_kd))))))))))), [], (pq fun φ => by simp only [cn_a, cn_n]; omega), IM.mk Etp Eps Efs Ele Edk Edr Elg Erc Emv Ewk Epl Ese Ekd⟩
theorem op_proof (h : Inv D) : yP2 Value.int X 192 342 [.int x] D := by
  obtain ⟨t, dk, cm, Fs, En, z, Dr, gv, n0, Mv, ev, fd, to, va, se, N, Bc, Bm, pm0, q0, h1, h2⟩ := h
  refine yp_both (f := Value.int) (r := (itV se.2.2.2.2.2 x (-1))) (I := IC t dk cm Fs En z Dr gv n0 Mv ev fd to va se) (J := IM t dk cm Fs En z Dr gv n0 Mv ev fd to va se) (I2 := IC t dk cm Fs En z Dr gv n0 Mv ev fd to va se) (J2 := IM t dk cm Fs En z Dr gv n0 Mv ev fd to va se) (kC_proof q0) (kM_proof q0) pm0 h1 h2 IC.mono IM.mono ?_
  intro D2 N2 Bc2 Bm2 p2 g1 g2
  obtain ⟨q1, q2, q3, q4, q5, q6, q7, q8, q9⟩ := q0
  exact ⟨t, dk, cm, Fs, En, z, Dr, gv, n0, Mv, ev, fd, to, va, se, N2, Bc2, Bm2, p2, ⟨q1, q2, q3, q4, q5, q6, q7, q8, q9⟩, g1, g2⟩
theorem kC_disk (q0 : pAll t Fs En z Dr gv n0 Mv se) : kX X 197 [.ref 78, .int x] (.int (itV dk x (-1))) (IC t dk cm Fs En z Dr gv n0 Mv ev fd to va se) (IC t dk cm Fs En z Dr gv n0 Mv ev fd to va se) := by
  obtain ⟨q1, q2, q3, q4, q5, q6, q7, q8, q9⟩ := q0
  intro N B Rm h sN
  refine h.elim ?_
  intro c_tp c_ps c_fs c_le c_dk c_dr c_gv c_rc c_mv c_wk c_to c_va c_se c_kd eB Ctp Cps Cfs Cle Cdk Cdr Cgv Crc Cmv Cwk Cto Cva Cse Ckd
  subst eB
  have s_kd : c_kd ⊆ c_tp ++ (c_ps ++ (c_fs ++ (c_le ++ (c_dk ++ (c_dr ++ (c_gv ++ (c_rc ++ (c_mv ++ (c_wk ++ (c_to ++ (c_va ++ (c_se ++ (c_kd ++ Rm))))))))))))) := fun e he => List.mem_append_right _ (List.mem_append_right _ (List.mem_append_right _ (List.mem_append_right _ (List.mem_append_right _ (List.mem_append_right _ (List.mem_append_right _ (List.mem_append_right _ (List.mem_append_right _ (List.mem_append_right _ (List.mem_append_right _ (List.mem_append_right _ (List.mem_append_right _ (List.mem_append_left _ he)))))))))))))
  refine yK.perm (D2 := c_tp ++ (c_ps ++ (c_fs ++ (c_le ++ (c_dk ++ (c_dr ++ (c_gv ++ (c_rc ++ (c_mv ++ (c_wk ++ (c_to ++ (c_va ++ (c_se ++ (c_kd ++ Rm)))))))))))))) (pq fun φ => by simp only [cn_a]; omega) (((oC_disk Ckd s_kd).up (yle rfl) (yle rfl)).mono (yle rfl) (yle rfl) ?_)
  rintro w D ⟨rfl, rfl⟩
  exact ⟨rfl, c_tp ++ (c_ps ++ (c_fs ++ (c_le ++ (c_dk ++ (c_dr ++ (c_gv ++ (c_rc ++ (c_mv ++ (c_wk ++ (c_to ++ (c_va ++ (c_se ++ c_kd)))))))))))), [], (pq fun φ => by simp only [cn_a, cn_n]; omega), IC.mk Ctp Cps Cfs Cle Cdk Cdr Cgv Crc Cmv Cwk Cto Cva Cse Ckd⟩
theorem kM_disk (q0 : pAll t Fs En z Dr gv n0 Mv se) : kX X 284 [.ref 209, .int x] (.int (itV dk x (-1))) (IM t dk cm Fs En z Dr gv n0 Mv ev fd to va se) (IM t dk cm Fs En z Dr gv n0 Mv ev fd to va se) := by
  obtain ⟨q1, q2, q3, q4, q5, q6, q7, q8, q9⟩ := q0
  intro N B Rm h sN
  refine h.elim ?_
  intro e_tp e_ps e_fs e_le e_dk e_dr e_lg e_rc e_mv e_wk e_pl e_se e_kd eB Etp Eps Efs Ele Edk Edr Elg Erc Emv Ewk Epl Ese Ekd
  subst eB
  have s_kd : e_kd ⊆ e_tp ++ (e_ps ++ (e_fs ++ (e_le ++ (e_dk ++ (e_dr ++ (e_lg ++ (e_rc ++ (e_mv ++ (e_wk ++ (e_pl ++ (e_se ++ (e_kd ++ Rm)))))))))))) := fun e he => List.mem_append_right _ (List.mem_append_right _ (List.mem_append_right _ (List.mem_append_right _ (List.mem_append_right _ (List.mem_append_right _ (List.mem_append_right _ (List.mem_append_right _ (List.mem_append_right _ (List.mem_append_right _ (List.mem_append_right _ (List.mem_append_right _ (List.mem_append_left _ he))))))))))))
  refine yK.perm (D2 := e_tp ++ (e_ps ++ (e_fs ++ (e_le ++ (e_dk ++ (e_dr ++ (e_lg ++ (e_rc ++ (e_mv ++ (e_wk ++ (e_pl ++ (e_se ++ (e_kd ++ Rm))))))))))))) (pq fun φ => by simp only [cn_a]; omega) (((oM_disk Ekd s_kd).up (yle rfl) (yle rfl)).mono (yle rfl) (yle rfl) ?_)
  rintro w D ⟨rfl, rfl⟩
  exact ⟨rfl, e_tp ++ (e_ps ++ (e_fs ++ (e_le ++ (e_dk ++ (e_dr ++ (e_lg ++ (e_rc ++ (e_mv ++ (e_wk ++ (e_pl ++ (e_se ++ e_kd))))))))))), [], (pq fun φ => by simp only [cn_a, cn_n]; omega), IM.mk Etp Eps Efs Ele Edk Edr Elg Erc Emv Ewk Epl Ese Ekd⟩
theorem op_disk (h : Inv D) : yP2 Value.int X 197 284 [.int x] D := by
  obtain ⟨t, dk, cm, Fs, En, z, Dr, gv, n0, Mv, ev, fd, to, va, se, N, Bc, Bm, pm0, q0, h1, h2⟩ := h
  refine yp_both (f := Value.int) (r := (itV dk x (-1))) (I := IC t dk cm Fs En z Dr gv n0 Mv ev fd to va se) (J := IM t dk cm Fs En z Dr gv n0 Mv ev fd to va se) (I2 := IC t dk cm Fs En z Dr gv n0 Mv ev fd to va se) (J2 := IM t dk cm Fs En z Dr gv n0 Mv ev fd to va se) (kC_disk q0) (kM_disk q0) pm0 h1 h2 IC.mono IM.mono ?_
  intro D2 N2 Bc2 Bm2 p2 g1 g2
  obtain ⟨q1, q2, q3, q4, q5, q6, q7, q8, q9⟩ := q0
  exact ⟨t, dk, cm, Fs, En, z, Dr, gv, n0, Mv, ev, fd, to, va, se, N2, Bc2, Bm2, p2, ⟨q1, q2, q3, q4, q5, q6, q7, q8, q9⟩, g1, g2⟩
theorem kC_count (q0 : pAll t Fs En z Dr gv n0 Mv se) : kX X 206 [.ref 78, .int x] (.int (countV [Int32.ofNat Fs.length, Int32.ofNat En.length, Int32.ofNat Dr.length, n0, Int32.ofNat Mv.length, Int32.ofNat t.length, Int32.ofNat dk.length, ev, Int32.ofNat gv] x)) (IC t dk cm Fs En z Dr gv n0 Mv ev fd to va se) (IC t dk cm Fs En z Dr gv n0 Mv ev fd to va se) := by
  obtain ⟨q1, q2, q3, q4, q5, q6, q7, q8, q9⟩ := q0
  intro N B Rm h sN
  refine h.elim ?_
  intro c_tp c_ps c_fs c_le c_dk c_dr c_gv c_rc c_mv c_wk c_to c_va c_se c_kd eB Ctp Cps Cfs Cle Cdk Cdr Cgv Crc Cmv Cwk Cto Cva Cse Ckd
  subst eB
  have s_tp : c_tp ⊆ c_tp ++ (c_ps ++ (c_fs ++ (c_le ++ (c_dk ++ (c_dr ++ (c_gv ++ (c_rc ++ (c_mv ++ (c_wk ++ (c_to ++ (c_va ++ (c_se ++ (c_kd ++ Rm))))))))))))) := fun e he => List.mem_append_left _ he
  have s_fs : c_fs ⊆ c_tp ++ (c_ps ++ (c_fs ++ (c_le ++ (c_dk ++ (c_dr ++ (c_gv ++ (c_rc ++ (c_mv ++ (c_wk ++ (c_to ++ (c_va ++ (c_se ++ (c_kd ++ Rm))))))))))))) := fun e he => List.mem_append_right _ (List.mem_append_right _ (List.mem_append_left _ he))
  have s_le : c_le ⊆ c_tp ++ (c_ps ++ (c_fs ++ (c_le ++ (c_dk ++ (c_dr ++ (c_gv ++ (c_rc ++ (c_mv ++ (c_wk ++ (c_to ++ (c_va ++ (c_se ++ (c_kd ++ Rm))))))))))))) := fun e he => List.mem_append_right _ (List.mem_append_right _ (List.mem_append_right _ (List.mem_append_left _ he)))
  have s_dr : c_dr ⊆ c_tp ++ (c_ps ++ (c_fs ++ (c_le ++ (c_dk ++ (c_dr ++ (c_gv ++ (c_rc ++ (c_mv ++ (c_wk ++ (c_to ++ (c_va ++ (c_se ++ (c_kd ++ Rm))))))))))))) := fun e he => List.mem_append_right _ (List.mem_append_right _ (List.mem_append_right _ (List.mem_append_right _ (List.mem_append_right _ (List.mem_append_left _ he)))))
  have s_gv : c_gv ⊆ c_tp ++ (c_ps ++ (c_fs ++ (c_le ++ (c_dk ++ (c_dr ++ (c_gv ++ (c_rc ++ (c_mv ++ (c_wk ++ (c_to ++ (c_va ++ (c_se ++ (c_kd ++ Rm))))))))))))) := fun e he => List.mem_append_right _ (List.mem_append_right _ (List.mem_append_right _ (List.mem_append_right _ (List.mem_append_right _ (List.mem_append_right _ (List.mem_append_left _ he))))))
  have s_rc : c_rc ⊆ c_tp ++ (c_ps ++ (c_fs ++ (c_le ++ (c_dk ++ (c_dr ++ (c_gv ++ (c_rc ++ (c_mv ++ (c_wk ++ (c_to ++ (c_va ++ (c_se ++ (c_kd ++ Rm))))))))))))) := fun e he => List.mem_append_right _ (List.mem_append_right _ (List.mem_append_right _ (List.mem_append_right _ (List.mem_append_right _ (List.mem_append_right _ (List.mem_append_right _ (List.mem_append_left _ he)))))))
  have s_mv : c_mv ⊆ c_tp ++ (c_ps ++ (c_fs ++ (c_le ++ (c_dk ++ (c_dr ++ (c_gv ++ (c_rc ++ (c_mv ++ (c_wk ++ (c_to ++ (c_va ++ (c_se ++ (c_kd ++ Rm))))))))))))) := fun e he => List.mem_append_right _ (List.mem_append_right _ (List.mem_append_right _ (List.mem_append_right _ (List.mem_append_right _ (List.mem_append_right _ (List.mem_append_right _ (List.mem_append_right _ (List.mem_append_left _ he))))))))
  have s_wk : c_wk ⊆ c_tp ++ (c_ps ++ (c_fs ++ (c_le ++ (c_dk ++ (c_dr ++ (c_gv ++ (c_rc ++ (c_mv ++ (c_wk ++ (c_to ++ (c_va ++ (c_se ++ (c_kd ++ Rm))))))))))))) := fun e he => List.mem_append_right _ (List.mem_append_right _ (List.mem_append_right _ (List.mem_append_right _ (List.mem_append_right _ (List.mem_append_right _ (List.mem_append_right _ (List.mem_append_right _ (List.mem_append_right _ (List.mem_append_left _ he)))))))))
  have s_kd : c_kd ⊆ c_tp ++ (c_ps ++ (c_fs ++ (c_le ++ (c_dk ++ (c_dr ++ (c_gv ++ (c_rc ++ (c_mv ++ (c_wk ++ (c_to ++ (c_va ++ (c_se ++ (c_kd ++ Rm))))))))))))) := fun e he => List.mem_append_right _ (List.mem_append_right _ (List.mem_append_right _ (List.mem_append_right _ (List.mem_append_right _ (List.mem_append_right _ (List.mem_append_right _ (List.mem_append_right _ (List.mem_append_right _ (List.mem_append_right _ (List.mem_append_right _ (List.mem_append_right _ (List.mem_append_right _ (List.mem_append_left _ he)))))))))))))
  refine yK.perm (D2 := c_tp ++ (c_ps ++ (c_fs ++ (c_le ++ (c_dk ++ (c_dr ++ (c_gv ++ (c_rc ++ (c_mv ++ (c_wk ++ (c_to ++ (c_va ++ (c_se ++ (c_kd ++ Rm)))))))))))))) (pq fun φ => by simp only [cn_a]; omega) (((oC_count Ctp Cfs Cle Cdr Cgv Crc Cmv Cwk Ckd s_tp s_fs s_le s_dr s_gv s_rc s_mv s_wk s_kd).up (yle rfl) (yle rfl)).mono (yle rfl) (yle rfl) ?_)
  rintro w D ⟨rfl, rfl⟩
  exact ⟨rfl, c_tp ++ (c_ps ++ (c_fs ++ (c_le ++ (c_dk ++ (c_dr ++ (c_gv ++ (c_rc ++ (c_mv ++ (c_wk ++ (c_to ++ (c_va ++ (c_se ++ c_kd)))))))))))), [], (pq fun φ => by simp only [cn_a, cn_n]; omega), IC.mk Ctp Cps Cfs Cle Cdk Cdr Cgv Crc Cmv Cwk Cto Cva Cse Ckd⟩
theorem kM_count (q0 : pAll t Fs En z Dr gv n0 Mv se) : kX X 344 [.ref 209, .int x] (.int (countV [Int32.ofNat Fs.length, Int32.ofNat En.length, Int32.ofNat Dr.length, n0, Int32.ofNat Mv.length, Int32.ofNat t.length, Int32.ofNat dk.length, ev, Int32.ofNat gv] x)) (IM t dk cm Fs En z Dr gv n0 Mv ev fd to va se) (IM t dk cm Fs En z Dr gv n0 Mv ev fd to va se) := by
  obtain ⟨q1, q2, q3, q4, q5, q6, q7, q8, q9⟩ := q0
  intro N B Rm h sN
  refine h.elim ?_
  intro e_tp e_ps e_fs e_le e_dk e_dr e_lg e_rc e_mv e_wk e_pl e_se e_kd eB Etp Eps Efs Ele Edk Edr Elg Erc Emv Ewk Epl Ese Ekd
  subst eB
  have s_tp : e_tp ⊆ e_tp ++ (e_ps ++ (e_fs ++ (e_le ++ (e_dk ++ (e_dr ++ (e_lg ++ (e_rc ++ (e_mv ++ (e_wk ++ (e_pl ++ (e_se ++ (e_kd ++ Rm)))))))))))) := fun e he => List.mem_append_left _ he
  have s_fs : e_fs ⊆ e_tp ++ (e_ps ++ (e_fs ++ (e_le ++ (e_dk ++ (e_dr ++ (e_lg ++ (e_rc ++ (e_mv ++ (e_wk ++ (e_pl ++ (e_se ++ (e_kd ++ Rm)))))))))))) := fun e he => List.mem_append_right _ (List.mem_append_right _ (List.mem_append_left _ he))
  have s_le : e_le ⊆ e_tp ++ (e_ps ++ (e_fs ++ (e_le ++ (e_dk ++ (e_dr ++ (e_lg ++ (e_rc ++ (e_mv ++ (e_wk ++ (e_pl ++ (e_se ++ (e_kd ++ Rm)))))))))))) := fun e he => List.mem_append_right _ (List.mem_append_right _ (List.mem_append_right _ (List.mem_append_left _ he)))
  have s_dr : e_dr ⊆ e_tp ++ (e_ps ++ (e_fs ++ (e_le ++ (e_dk ++ (e_dr ++ (e_lg ++ (e_rc ++ (e_mv ++ (e_wk ++ (e_pl ++ (e_se ++ (e_kd ++ Rm)))))))))))) := fun e he => List.mem_append_right _ (List.mem_append_right _ (List.mem_append_right _ (List.mem_append_right _ (List.mem_append_right _ (List.mem_append_left _ he)))))
  have s_lg : e_lg ⊆ e_tp ++ (e_ps ++ (e_fs ++ (e_le ++ (e_dk ++ (e_dr ++ (e_lg ++ (e_rc ++ (e_mv ++ (e_wk ++ (e_pl ++ (e_se ++ (e_kd ++ Rm)))))))))))) := fun e he => List.mem_append_right _ (List.mem_append_right _ (List.mem_append_right _ (List.mem_append_right _ (List.mem_append_right _ (List.mem_append_right _ (List.mem_append_left _ he))))))
  have s_rc : e_rc ⊆ e_tp ++ (e_ps ++ (e_fs ++ (e_le ++ (e_dk ++ (e_dr ++ (e_lg ++ (e_rc ++ (e_mv ++ (e_wk ++ (e_pl ++ (e_se ++ (e_kd ++ Rm)))))))))))) := fun e he => List.mem_append_right _ (List.mem_append_right _ (List.mem_append_right _ (List.mem_append_right _ (List.mem_append_right _ (List.mem_append_right _ (List.mem_append_right _ (List.mem_append_left _ he)))))))
  have s_mv : e_mv ⊆ e_tp ++ (e_ps ++ (e_fs ++ (e_le ++ (e_dk ++ (e_dr ++ (e_lg ++ (e_rc ++ (e_mv ++ (e_wk ++ (e_pl ++ (e_se ++ (e_kd ++ Rm)))))))))))) := fun e he => List.mem_append_right _ (List.mem_append_right _ (List.mem_append_right _ (List.mem_append_right _ (List.mem_append_right _ (List.mem_append_right _ (List.mem_append_right _ (List.mem_append_right _ (List.mem_append_left _ he))))))))
  have s_wk : e_wk ⊆ e_tp ++ (e_ps ++ (e_fs ++ (e_le ++ (e_dk ++ (e_dr ++ (e_lg ++ (e_rc ++ (e_mv ++ (e_wk ++ (e_pl ++ (e_se ++ (e_kd ++ Rm)))))))))))) := fun e he => List.mem_append_right _ (List.mem_append_right _ (List.mem_append_right _ (List.mem_append_right _ (List.mem_append_right _ (List.mem_append_right _ (List.mem_append_right _ (List.mem_append_right _ (List.mem_append_right _ (List.mem_append_left _ he)))))))))
  have s_kd : e_kd ⊆ e_tp ++ (e_ps ++ (e_fs ++ (e_le ++ (e_dk ++ (e_dr ++ (e_lg ++ (e_rc ++ (e_mv ++ (e_wk ++ (e_pl ++ (e_se ++ (e_kd ++ Rm)))))))))))) := fun e he => List.mem_append_right _ (List.mem_append_right _ (List.mem_append_right _ (List.mem_append_right _ (List.mem_append_right _ (List.mem_append_right _ (List.mem_append_right _ (List.mem_append_right _ (List.mem_append_right _ (List.mem_append_right _ (List.mem_append_right _ (List.mem_append_right _ (List.mem_append_left _ he))))))))))))
  refine yK.perm (D2 := e_tp ++ (e_ps ++ (e_fs ++ (e_le ++ (e_dk ++ (e_dr ++ (e_lg ++ (e_rc ++ (e_mv ++ (e_wk ++ (e_pl ++ (e_se ++ (e_kd ++ Rm))))))))))))) (pq fun φ => by simp only [cn_a]; omega) (((oM_count Etp Efs Ele Edr Elg Erc Emv Ewk Ekd s_tp s_fs s_le s_dr s_lg s_rc s_mv s_wk s_kd).up (yle rfl) (yle rfl)).mono (yle rfl) (yle rfl) ?_)
  rintro w D ⟨rfl, rfl⟩
  exact ⟨rfl, e_tp ++ (e_ps ++ (e_fs ++ (e_le ++ (e_dk ++ (e_dr ++ (e_lg ++ (e_rc ++ (e_mv ++ (e_wk ++ (e_pl ++ (e_se ++ e_kd))))))))))), [], (pq fun φ => by simp only [cn_a, cn_n]; omega), IM.mk Etp Eps Efs Ele Edk Edr Elg Erc Emv Ewk Epl Ese Ekd⟩
theorem op_count (h : Inv D) : yP2 Value.int X 206 344 [.int x] D := by
  obtain ⟨t, dk, cm, Fs, En, z, Dr, gv, n0, Mv, ev, fd, to, va, se, N, Bc, Bm, pm0, q0, h1, h2⟩ := h
  refine yp_both (f := Value.int) (r := (countV [Int32.ofNat Fs.length, Int32.ofNat En.length, Int32.ofNat Dr.length, n0, Int32.ofNat Mv.length, Int32.ofNat t.length, Int32.ofNat dk.length, ev, Int32.ofNat gv] x)) (I := IC t dk cm Fs En z Dr gv n0 Mv ev fd to va se) (J := IM t dk cm Fs En z Dr gv n0 Mv ev fd to va se) (I2 := IC t dk cm Fs En z Dr gv n0 Mv ev fd to va se) (J2 := IM t dk cm Fs En z Dr gv n0 Mv ev fd to va se) (kC_count q0) (kM_count q0) pm0 h1 h2 IC.mono IM.mono ?_
  intro D2 N2 Bc2 Bm2 p2 g1 g2
  obtain ⟨q1, q2, q3, q4, q5, q6, q7, q8, q9⟩ := q0
  exact ⟨t, dk, cm, Fs, En, z, Dr, gv, n0, Mv, ev, fd, to, va, se, N2, Bc2, Bm2, p2, ⟨q1, q2, q3, q4, q5, q6, q7, q8, q9⟩, g1, g2⟩
end CALLSR
