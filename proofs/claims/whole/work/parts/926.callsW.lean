/-! CALLS OVER THE TWO HALVES: feed, entry, clear, write, seat, line, cell, desk -/
section CALLSW
variable {t dk cm : List Int32} {Fs : List yF} {En : List (Int64 × Int32)} {z : Option yO} {Dr : List yD} {gv : Nat} {n0 : Int32} {Mv : List yMv} {ev : Int32} {fd : List yFd} {to : Int32 × Int32 × Int32} {va : Int64} {se : ySe} {X : List Int32} {K : Nat} {x y p q i j n e : Int32}
variable {D N B : List xE}
theorem bk_rc (d : yD) : (bkD d).2.2.2.1 = d.2.2.2.1 := by
  rw [bkD]
  by_cases hr : d.2.2.2.1 ≠ -9
  · rw [if_pos hr]
  · rw [if_neg hr]
    rcases hc : d.2.2.1 with _ | ⟨⟨p, w⟩, r⟩
    · rfl
    · rfl
theorem kC_feed {fe : Int64} (q0 : pAll t Fs En z Dr gv n0 Mv se) : kX X 23 [.ref 78, .int n, .long fe] (.int (feedV t n)) (IC t dk cm Fs En z Dr gv n0 Mv ev fd to va se) (IC (feedT t n fe) dk cm Fs En z Dr gv n0 Mv ev fd to va se) := by
  obtain ⟨q1, q2, q3, q4, q5, q6, q7, q8, q9⟩ := q0
  intro N B Rm h sN
  refine h.elim ?_
  intro c_tp c_ps c_fs c_le c_dk c_dr c_gv c_rc c_mv c_wk c_to c_va c_se c_kd eB Ctp Cps Cfs Cle Cdk Cdr Cgv Crc Cmv Cwk Cto Cva Cse Ckd
  subst eB
  refine yK.perm (D2 := c_tp ++ (c_ps ++ (c_fs ++ (c_le ++ (c_dk ++ (c_dr ++ (c_gv ++ (c_rc ++ (c_mv ++ (c_wk ++ (c_to ++ (c_va ++ (c_se ++ (c_kd ++ Rm)))))))))))))) (pq fun φ => by simp only [cn_a]; omega) (((oC_feed (fed := fe) Ctp).up (yle rfl) (yle rfl)).mono (yle rfl) (yle rfl) ?_)
  rintro w D ⟨rfl, B0, hp, H0⟩
  exact ⟨rfl, B0 ++ (c_ps ++ (c_fs ++ (c_le ++ (c_dk ++ (c_dr ++ (c_gv ++ (c_rc ++ (c_mv ++ (c_wk ++ (c_to ++ (c_va ++ (c_se ++ c_kd)))))))))))), [], hp.trans (pq fun φ => by simp only [cn_a, cn_n]; omega), IC.mk H0 Cps Cfs Cle Cdk Cdr Cgv Crc Cmv Cwk Cto Cva Cse Ckd⟩
theorem kM_feed {fe : Int64} (q0 : pAll t Fs En z Dr gv n0 Mv se) : kX X 209 [.ref 209, .int n, .long fe] (.int (feedV t n)) (IM t dk cm Fs En z Dr gv n0 Mv ev fd to va se) (IM (feedT t n fe) dk cm Fs En z Dr gv n0 Mv ev fd to va se) := by
  obtain ⟨q1, q2, q3, q4, q5, q6, q7, q8, q9⟩ := q0
  intro N B Rm h sN
  refine h.elim ?_
  intro e_tp e_ps e_fs e_le e_dk e_dr e_lg e_rc e_mv e_wk e_pl e_se e_kd eB Etp Eps Efs Ele Edk Edr Elg Erc Emv Ewk Epl Ese Ekd
  subst eB
  refine yK.perm (D2 := e_tp ++ (e_ps ++ (e_fs ++ (e_le ++ (e_dk ++ (e_dr ++ (e_lg ++ (e_rc ++ (e_mv ++ (e_wk ++ (e_pl ++ (e_se ++ (e_kd ++ Rm))))))))))))) (pq fun φ => by simp only [cn_a]; omega) (((oM_feed (fed := fe) Etp).up (yle rfl) (yle rfl)).mono (yle rfl) (yle rfl) ?_)
  rintro w D ⟨rfl, B0, hp, H0⟩
  exact ⟨rfl, B0 ++ (e_ps ++ (e_fs ++ (e_le ++ (e_dk ++ (e_dr ++ (e_lg ++ (e_rc ++ (e_mv ++ (e_wk ++ (e_pl ++ (e_se ++ e_kd))))))))))), [], hp.trans (pq fun φ => by simp only [cn_a, cn_n]; omega), IM.mk H0 Eps Efs Ele Edk Edr Elg Erc Emv Ewk Epl Ese Ekd⟩
theorem op_feed {fe : Int64} (h : Inv D) : yP2 Value.int X 23 209 [.int n, .long fe] D := by
  obtain ⟨t, dk, cm, Fs, En, z, Dr, gv, n0, Mv, ev, fd, to, va, se, N, Bc, Bm, pm0, q0, h1, h2⟩ := h
  refine yp_both (f := Value.int) (r := (feedV t n)) (I := IC t dk cm Fs En z Dr gv n0 Mv ev fd to va se) (J := IM t dk cm Fs En z Dr gv n0 Mv ev fd to va se) (I2 := IC (feedT t n fe) dk cm Fs En z Dr gv n0 Mv ev fd to va se) (J2 := IM (feedT t n fe) dk cm Fs En z Dr gv n0 Mv ev fd to va se) (kC_feed q0) (kM_feed q0) pm0 h1 h2 IC.mono IM.mono ?_
  intro D2 N2 Bc2 Bm2 p2 g1 g2
  obtain ⟨q1, q2, q3, q4, q5, q6, q7, q8, q9⟩ := q0
  exact ⟨feedT t n fe, dk, cm, Fs, En, z, Dr, gv, n0, Mv, ev, fd, to, va, se, N2, Bc2, Bm2, p2, ⟨feed_by q1, q2, q3, q4, q5, q6, q7, q8, q9⟩, g1, g2⟩
theorem kC_entry {am : Int64} (q0 : pAll t Fs En z Dr gv n0 Mv se) : kX X 89 [.ref 78, .int x, .long am, .int y] (.int (entV En x y)) (IC t dk cm Fs En z Dr gv n0 Mv ev fd to va se) (IC t dk cm Fs (entT En x am y) z Dr gv n0 Mv ev fd to va se) := by
  obtain ⟨q1, q2, q3, q4, q5, q6, q7, q8, q9⟩ := q0
  intro N B Rm h sN
  refine h.elim ?_
  intro c_tp c_ps c_fs c_le c_dk c_dr c_gv c_rc c_mv c_wk c_to c_va c_se c_kd eB Ctp Cps Cfs Cle Cdk Cdr Cgv Crc Cmv Cwk Cto Cva Cse Ckd
  subst eB
  refine yK.perm (D2 := c_le ++ (c_tp ++ (c_ps ++ (c_fs ++ (c_dk ++ (c_dr ++ (c_gv ++ (c_rc ++ (c_mv ++ (c_wk ++ (c_to ++ (c_va ++ (c_se ++ (c_kd ++ Rm)))))))))))))) (pq fun φ => by simp only [cn_a]; omega) (((oC_entry (am := am) Cle).up (yle rfl) (yle rfl)).mono (yle rfl) (yle rfl) ?_)
  rintro w D ⟨rfl, B0, hp, H0⟩
  exact ⟨rfl, c_tp ++ (c_ps ++ (c_fs ++ (B0 ++ (c_dk ++ (c_dr ++ (c_gv ++ (c_rc ++ (c_mv ++ (c_wk ++ (c_to ++ (c_va ++ (c_se ++ c_kd)))))))))))), [], hp.trans (pq fun φ => by simp only [cn_a, cn_n]; omega), IC.mk Ctp Cps Cfs H0 Cdk Cdr Cgv Crc Cmv Cwk Cto Cva Cse Ckd⟩
theorem kM_entry {am : Int64} (q0 : pAll t Fs En z Dr gv n0 Mv se) : kX X 254 [.ref 209, .int x, .long am, .int y] (.int (entV En x y)) (IM t dk cm Fs En z Dr gv n0 Mv ev fd to va se) (IM t dk cm Fs (entT En x am y) z Dr gv n0 Mv ev fd to va se) := by
  obtain ⟨q1, q2, q3, q4, q5, q6, q7, q8, q9⟩ := q0
  intro N B Rm h sN
  refine h.elim ?_
  intro e_tp e_ps e_fs e_le e_dk e_dr e_lg e_rc e_mv e_wk e_pl e_se e_kd eB Etp Eps Efs Ele Edk Edr Elg Erc Emv Ewk Epl Ese Ekd
  subst eB
  refine yK.perm (D2 := e_le ++ (e_tp ++ (e_ps ++ (e_fs ++ (e_dk ++ (e_dr ++ (e_lg ++ (e_rc ++ (e_mv ++ (e_wk ++ (e_pl ++ (e_se ++ (e_kd ++ Rm))))))))))))) (pq fun φ => by simp only [cn_a]; omega) (((oM_entry (am := am) Ele).up (yle rfl) (yle rfl)).mono (yle rfl) (yle rfl) ?_)
  rintro w D ⟨rfl, B0, hp, H0⟩
  exact ⟨rfl, e_tp ++ (e_ps ++ (e_fs ++ (B0 ++ (e_dk ++ (e_dr ++ (e_lg ++ (e_rc ++ (e_mv ++ (e_wk ++ (e_pl ++ (e_se ++ e_kd))))))))))), [], hp.trans (pq fun φ => by simp only [cn_a, cn_n]; omega), IM.mk Etp Eps Efs H0 Edk Edr Elg Erc Emv Ewk Epl Ese Ekd⟩
theorem op_entry {am : Int64} (h : Inv D) : yP2 Value.int X 89 254 [.int x, .long am, .int y] D := by
  obtain ⟨t, dk, cm, Fs, En, z, Dr, gv, n0, Mv, ev, fd, to, va, se, N, Bc, Bm, pm0, q0, h1, h2⟩ := h
  refine yp_both (f := Value.int) (r := (entV En x y)) (I := IC t dk cm Fs En z Dr gv n0 Mv ev fd to va se) (J := IM t dk cm Fs En z Dr gv n0 Mv ev fd to va se) (I2 := IC t dk cm Fs (entT En x am y) z Dr gv n0 Mv ev fd to va se) (J2 := IM t dk cm Fs (entT En x am y) z Dr gv n0 Mv ev fd to va se) (kC_entry q0) (kM_entry q0) pm0 h1 h2 IC.mono IM.mono ?_
  intro D2 N2 Bc2 Bm2 p2 g1 g2
  obtain ⟨q1, q2, q3, q4, q5, q6, q7, q8, q9⟩ := q0
  obtain ⟨En2, e2, e3⟩ := entT_app (x := x) (am := am) (y := y) q3
  exact ⟨t, dk, cm, Fs, entT En x am y, z, Dr, gv, n0, Mv, ev, fd, to, va, se, N2, Bc2, Bm2, p2, ⟨q1, q2, (by rw [e2]; exact e3), (by rw [e2]; exact q4.more), (by rw [e2]; exact q5.more), q6, q7, q8, q9⟩, g1, g2⟩
theorem kC_clear (q0 : pAll t Fs En z Dr gv n0 Mv se) : kX X 97 [.ref 78] (.int 0) (IC t dk cm Fs En z Dr gv n0 Mv ev fd to va se) (IC t dk cm Fs En (none) Dr gv n0 Mv ev fd to va se) := by
  obtain ⟨q1, q2, q3, q4, q5, q6, q7, q8, q9⟩ := q0
  intro N B Rm h sN
  refine h.elim ?_
  intro c_tp c_ps c_fs c_le c_dk c_dr c_gv c_rc c_mv c_wk c_to c_va c_se c_kd eB Ctp Cps Cfs Cle Cdk Cdr Cgv Crc Cmv Cwk Cto Cva Cse Ckd
  subst eB
  refine yK.perm (D2 := c_dk ++ (c_tp ++ (c_ps ++ (c_fs ++ (c_le ++ (c_dr ++ (c_gv ++ (c_rc ++ (c_mv ++ (c_wk ++ (c_to ++ (c_va ++ (c_se ++ (c_kd ++ Rm)))))))))))))) (pq fun φ => by simp only [cn_a]; omega) (((oC_clear Cdk).up (yle rfl) (yle rfl)).mono (yle rfl) (yle rfl) ?_)
  rintro w D ⟨rfl, B0, G, hp, H0⟩
  exact ⟨rfl, c_tp ++ (c_ps ++ (c_fs ++ (c_le ++ (B0 ++ (c_dr ++ (c_gv ++ (c_rc ++ (c_mv ++ (c_wk ++ (c_to ++ (c_va ++ (c_se ++ c_kd)))))))))))), G, hp.trans (pq fun φ => by simp only [cn_a, cn_n]; omega), IC.mk Ctp (cPs.mono (List.subset_append_right _ _) Cps) (cFs.mono (List.subset_append_right _ _) Cfs) Cle H0 (cDr.mono (List.subset_append_right _ _) Cdr) Cgv Crc Cmv Cwk Cto Cva (cSe.mono (List.subset_append_right _ _) Cse) Ckd⟩
theorem kM_clear (q0 : pAll t Fs En z Dr gv n0 Mv se) : kX X 261 [.ref 209] (.int 0) (IM t dk cm Fs En z Dr gv n0 Mv ev fd to va se) (IM t dk cm Fs En (none) Dr gv n0 Mv ev fd to va se) := by
  obtain ⟨q1, q2, q3, q4, q5, q6, q7, q8, q9⟩ := q0
  intro N B Rm h sN
  refine h.elim ?_
  intro e_tp e_ps e_fs e_le e_dk e_dr e_lg e_rc e_mv e_wk e_pl e_se e_kd eB Etp Eps Efs Ele Edk Edr Elg Erc Emv Ewk Epl Ese Ekd
  subst eB
  refine yK.perm (D2 := e_dk ++ (e_tp ++ (e_ps ++ (e_fs ++ (e_le ++ (e_dr ++ (e_lg ++ (e_rc ++ (e_mv ++ (e_wk ++ (e_pl ++ (e_se ++ (e_kd ++ Rm))))))))))))) (pq fun φ => by simp only [cn_a]; omega) (((oM_clear Edk).up (yle rfl) (yle rfl)).mono (yle rfl) (yle rfl) ?_)
  rintro w D ⟨rfl, B0, G, hp, H0⟩
  exact ⟨rfl, e_tp ++ (e_ps ++ (e_fs ++ (e_le ++ (B0 ++ (e_dr ++ (e_lg ++ (e_rc ++ (e_mv ++ (e_wk ++ (e_pl ++ (e_se ++ e_kd))))))))))), G, hp.trans (pq fun φ => by simp only [cn_a, cn_n]; omega), IM.mk Etp (mPs.mono (List.subset_append_right _ _) Eps) (mFs.mono (List.subset_append_right _ _) Efs) Ele H0 (mDr.mono (List.subset_append_right _ _) Edr) (mLg.mono (List.subset_append_right _ _) Elg) Erc Emv Ewk Epl Ese Ekd⟩
theorem op_clear (h : Inv D) : yP2 Value.int X 97 261 [] D := by
  obtain ⟨t, dk, cm, Fs, En, z, Dr, gv, n0, Mv, ev, fd, to, va, se, N, Bc, Bm, pm0, q0, h1, h2⟩ := h
  refine yp_both (f := Value.int) (r := 0) (I := IC t dk cm Fs En z Dr gv n0 Mv ev fd to va se) (J := IM t dk cm Fs En z Dr gv n0 Mv ev fd to va se) (I2 := IC t dk cm Fs En (none) Dr gv n0 Mv ev fd to va se) (J2 := IM t dk cm Fs En (none) Dr gv n0 Mv ev fd to va se) (kC_clear q0) (kM_clear q0) pm0 h1 h2 IC.mono IM.mono ?_
  intro D2 N2 Bc2 Bm2 p2 g1 g2
  obtain ⟨q1, q2, q3, q4, q5, q6, q7, q8, q9⟩ := q0
  exact ⟨t, dk, cm, Fs, En, none, Dr, gv, n0, Mv, ev, fd, to, va, se, N2, Bc2, Bm2, p2, ⟨q1, q2, q3, (fun ob ho => by cases ho), q5, q6, q7, q8, q9⟩, g1, g2⟩
theorem kC_write {wv : Int64} (q0 : pAll t Fs En z Dr gv n0 Mv se) : kX X 98 [.ref 78, .int i, .long wv] (.int (wrV z ev i)) (IC t dk cm Fs En z Dr gv n0 Mv ev fd to va se) (IC t dk cm Fs En (z.map fun o => wrO o (wrV z ev i) i wv) Dr gv n0 Mv (flW ev (wrV z ev i)) fd to va se) := by
  obtain ⟨q1, q2, q3, q4, q5, q6, q7, q8, q9⟩ := q0
  intro N B Rm h sN
  refine h.elim ?_
  intro c_tp c_ps c_fs c_le c_dk c_dr c_gv c_rc c_mv c_wk c_to c_va c_se c_kd eB Ctp Cps Cfs Cle Cdk Cdr Cgv Crc Cmv Cwk Cto Cva Cse Ckd
  subst eB
  have s_N : N ⊆ c_tp ++ (c_ps ++ (c_fs ++ (c_le ++ (c_dr ++ (c_gv ++ (c_rc ++ (c_mv ++ (c_to ++ (c_va ++ (c_se ++ (c_kd ++ Rm))))))))))) := fun e he => List.mem_append_right _ (List.mem_append_right _ (List.mem_append_right _ (List.mem_append_right _ (List.mem_append_right _ (List.mem_append_right _ (List.mem_append_right _ (List.mem_append_right _ (List.mem_append_right _ (List.mem_append_right _ (List.mem_append_right _ (List.mem_append_right _ (sN he))))))))))))
  refine yK.perm (D2 := c_dk ++ (c_wk ++ (c_tp ++ (c_ps ++ (c_fs ++ (c_le ++ (c_dr ++ (c_gv ++ (c_rc ++ (c_mv ++ (c_to ++ (c_va ++ (c_se ++ (c_kd ++ Rm)))))))))))))) (pq fun φ => by simp only [cn_a]; omega) (((oC_write (v := wv) q4 Cdk Cwk s_N).up (yle rfl) (yle rfl)).mono (yle rfl) (yle rfl) ?_)
  rintro w D ⟨rfl, B0, B1, hp, H0, H1⟩
  exact ⟨rfl, c_tp ++ (c_ps ++ (c_fs ++ (c_le ++ (B0 ++ (c_dr ++ (c_gv ++ (c_rc ++ (c_mv ++ (B1 ++ (c_to ++ (c_va ++ (c_se ++ c_kd)))))))))))), [], hp.trans (pq fun φ => by simp only [cn_a, cn_n]; omega), IC.mk Ctp Cps Cfs Cle H0 Cdr Cgv Crc Cmv H1 Cto Cva Cse Ckd⟩
theorem kM_write {wv : Int64} (q0 : pAll t Fs En z Dr gv n0 Mv se) : kX X 262 [.ref 209, .int i, .long wv] (.int (wrV z ev i)) (IM t dk cm Fs En z Dr gv n0 Mv ev fd to va se) (IM t dk cm Fs En (z.map fun o => wrO o (wrV z ev i) i wv) Dr gv n0 Mv (flW ev (wrV z ev i)) fd to va se) := by
  obtain ⟨q1, q2, q3, q4, q5, q6, q7, q8, q9⟩ := q0
  intro N B Rm h sN
  refine h.elim ?_
  intro e_tp e_ps e_fs e_le e_dk e_dr e_lg e_rc e_mv e_wk e_pl e_se e_kd eB Etp Eps Efs Ele Edk Edr Elg Erc Emv Ewk Epl Ese Ekd
  subst eB
  have s_N : N ⊆ e_tp ++ (e_ps ++ (e_fs ++ (e_le ++ (e_dr ++ (e_lg ++ (e_rc ++ (e_mv ++ (e_pl ++ (e_se ++ (e_kd ++ Rm)))))))))) := fun e he => List.mem_append_right _ (List.mem_append_right _ (List.mem_append_right _ (List.mem_append_right _ (List.mem_append_right _ (List.mem_append_right _ (List.mem_append_right _ (List.mem_append_right _ (List.mem_append_right _ (List.mem_append_right _ (List.mem_append_right _ (sN he)))))))))))
  refine yK.perm (D2 := e_dk ++ (e_wk ++ (e_tp ++ (e_ps ++ (e_fs ++ (e_le ++ (e_dr ++ (e_lg ++ (e_rc ++ (e_mv ++ (e_pl ++ (e_se ++ (e_kd ++ Rm))))))))))))) (pq fun φ => by simp only [cn_a]; omega) (((oM_write (v := wv) q4 Edk Ewk s_N).up (yle rfl) (yle rfl)).mono (yle rfl) (yle rfl) ?_)
  rintro w D ⟨rfl, B0, B1, hp, H0, H1⟩
  exact ⟨rfl, e_tp ++ (e_ps ++ (e_fs ++ (e_le ++ (B0 ++ (e_dr ++ (e_lg ++ (e_rc ++ (e_mv ++ (B1 ++ (e_pl ++ (e_se ++ e_kd))))))))))), [], hp.trans (pq fun φ => by simp only [cn_a, cn_n]; omega), IM.mk Etp Eps Efs Ele H0 Edr Elg Erc Emv H1 Epl Ese Ekd⟩
theorem op_write {wv : Int64} (h : Inv D) : yP2 Value.int X 98 262 [.int i, .long wv] D := by
  obtain ⟨t, dk, cm, Fs, En, z, Dr, gv, n0, Mv, ev, fd, to, va, se, N, Bc, Bm, pm0, q0, h1, h2⟩ := h
  refine yp_both (f := Value.int) (r := (wrV z ev i)) (I := IC t dk cm Fs En z Dr gv n0 Mv ev fd to va se) (J := IM t dk cm Fs En z Dr gv n0 Mv ev fd to va se) (I2 := IC t dk cm Fs En (z.map fun o => wrO o (wrV z ev i) i wv) Dr gv n0 Mv (flW ev (wrV z ev i)) fd to va se) (J2 := IM t dk cm Fs En (z.map fun o => wrO o (wrV z ev i) i wv) Dr gv n0 Mv (flW ev (wrV z ev i)) fd to va se) (kC_write q0) (kM_write q0) pm0 h1 h2 IC.mono IM.mono ?_
  intro D2 N2 Bc2 Bm2 p2 g1 g2
  obtain ⟨q1, q2, q3, q4, q5, q6, q7, q8, q9⟩ := q0
  exact ⟨t, dk, cm, Fs, En, z.map fun o => wrO o (wrV z ev i) i wv, Dr, gv, n0, Mv, flW ev (wrV z ev i), fd, to, va, se, N2, Bc2, Bm2, p2, ⟨q1, q2, q3, pu_write q4, q5, q6, q7, q8, q9⟩, g1, g2⟩
theorem kC_seat (q0 : pAll t Fs En z Dr gv n0 Mv se) : kX X 104 [.ref 78, .int i, .int e] (.int (seV z En ev i e)) (IC t dk cm Fs En z Dr gv n0 Mv ev fd to va se) (IC t dk cm Fs En (z.map fun o => seO o (seV z En ev i e) i e) Dr gv n0 Mv (flW ev (seV z En ev i e)) fd to va se) := by
  obtain ⟨q1, q2, q3, q4, q5, q6, q7, q8, q9⟩ := q0
  intro N B Rm h sN
  refine h.elim ?_
  intro c_tp c_ps c_fs c_le c_dk c_dr c_gv c_rc c_mv c_wk c_to c_va c_se c_kd eB Ctp Cps Cfs Cle Cdk Cdr Cgv Crc Cmv Cwk Cto Cva Cse Ckd
  subst eB
  have s_le : c_le ⊆ c_tp ++ (c_ps ++ (c_fs ++ (c_le ++ (c_dr ++ (c_gv ++ (c_rc ++ (c_mv ++ (c_to ++ (c_va ++ (c_se ++ (c_kd ++ Rm))))))))))) := fun e he => List.mem_append_right _ (List.mem_append_right _ (List.mem_append_right _ (List.mem_append_left _ he)))
  have s_N : N ⊆ c_tp ++ (c_ps ++ (c_fs ++ (c_le ++ (c_dr ++ (c_gv ++ (c_rc ++ (c_mv ++ (c_to ++ (c_va ++ (c_se ++ (c_kd ++ Rm))))))))))) := fun e he => List.mem_append_right _ (List.mem_append_right _ (List.mem_append_right _ (List.mem_append_right _ (List.mem_append_right _ (List.mem_append_right _ (List.mem_append_right _ (List.mem_append_right _ (List.mem_append_right _ (List.mem_append_right _ (List.mem_append_right _ (List.mem_append_right _ (sN he))))))))))))
  refine yK.perm (D2 := c_dk ++ (c_wk ++ (c_tp ++ (c_ps ++ (c_fs ++ (c_le ++ (c_dr ++ (c_gv ++ (c_rc ++ (c_mv ++ (c_to ++ (c_va ++ (c_se ++ (c_kd ++ Rm)))))))))))))) (pq fun φ => by simp only [cn_a]; omega) (((oC_seat Cle q4 Cdk Cwk s_le s_N).up (yle rfl) (yle rfl)).mono (yle rfl) (yle rfl) ?_)
  rintro w D ⟨rfl, B0, B1, hp, H0, H1⟩
  exact ⟨rfl, c_tp ++ (c_ps ++ (c_fs ++ (c_le ++ (B0 ++ (c_dr ++ (c_gv ++ (c_rc ++ (c_mv ++ (B1 ++ (c_to ++ (c_va ++ (c_se ++ c_kd)))))))))))), [], hp.trans (pq fun φ => by simp only [cn_a, cn_n]; omega), IC.mk Ctp Cps Cfs Cle H0 Cdr Cgv Crc Cmv H1 Cto Cva Cse Ckd⟩
theorem kM_seat (q0 : pAll t Fs En z Dr gv n0 Mv se) : kX X 265 [.ref 209, .int i, .int e] (.int (seV z En ev i e)) (IM t dk cm Fs En z Dr gv n0 Mv ev fd to va se) (IM t dk cm Fs En (z.map fun o => seO o (seV z En ev i e) i e) Dr gv n0 Mv (flW ev (seV z En ev i e)) fd to va se) := by
  obtain ⟨q1, q2, q3, q4, q5, q6, q7, q8, q9⟩ := q0
  intro N B Rm h sN
  refine h.elim ?_
  intro e_tp e_ps e_fs e_le e_dk e_dr e_lg e_rc e_mv e_wk e_pl e_se e_kd eB Etp Eps Efs Ele Edk Edr Elg Erc Emv Ewk Epl Ese Ekd
  subst eB
  have s_le : e_le ⊆ e_tp ++ (e_ps ++ (e_fs ++ (e_le ++ (e_dr ++ (e_lg ++ (e_rc ++ (e_mv ++ (e_pl ++ (e_se ++ (e_kd ++ Rm)))))))))) := fun e he => List.mem_append_right _ (List.mem_append_right _ (List.mem_append_right _ (List.mem_append_left _ he)))
  have s_N : N ⊆ e_tp ++ (e_ps ++ (e_fs ++ (e_le ++ (e_dr ++ (e_lg ++ (e_rc ++ (e_mv ++ (e_pl ++ (e_se ++ (e_kd ++ Rm)))))))))) := fun e he => List.mem_append_right _ (List.mem_append_right _ (List.mem_append_right _ (List.mem_append_right _ (List.mem_append_right _ (List.mem_append_right _ (List.mem_append_right _ (List.mem_append_right _ (List.mem_append_right _ (List.mem_append_right _ (List.mem_append_right _ (sN he)))))))))))
  refine yK.perm (D2 := e_dk ++ (e_wk ++ (e_tp ++ (e_ps ++ (e_fs ++ (e_le ++ (e_dr ++ (e_lg ++ (e_rc ++ (e_mv ++ (e_pl ++ (e_se ++ (e_kd ++ Rm))))))))))))) (pq fun φ => by simp only [cn_a]; omega) (((oM_seat Ele q4 Edk Ewk s_le s_N).up (yle rfl) (yle rfl)).mono (yle rfl) (yle rfl) ?_)
  rintro w D ⟨rfl, B0, B1, hp, H0, H1⟩
  exact ⟨rfl, e_tp ++ (e_ps ++ (e_fs ++ (e_le ++ (B0 ++ (e_dr ++ (e_lg ++ (e_rc ++ (e_mv ++ (B1 ++ (e_pl ++ (e_se ++ e_kd))))))))))), [], hp.trans (pq fun φ => by simp only [cn_a, cn_n]; omega), IM.mk Etp Eps Efs Ele H0 Edr Elg Erc Emv H1 Epl Ese Ekd⟩
theorem op_seat (h : Inv D) : yP2 Value.int X 104 265 [.int i, .int e] D := by
  obtain ⟨t, dk, cm, Fs, En, z, Dr, gv, n0, Mv, ev, fd, to, va, se, N, Bc, Bm, pm0, q0, h1, h2⟩ := h
  refine yp_both (f := Value.int) (r := (seV z En ev i e)) (I := IC t dk cm Fs En z Dr gv n0 Mv ev fd to va se) (J := IM t dk cm Fs En z Dr gv n0 Mv ev fd to va se) (I2 := IC t dk cm Fs En (z.map fun o => seO o (seV z En ev i e) i e) Dr gv n0 Mv (flW ev (seV z En ev i e)) fd to va se) (J2 := IM t dk cm Fs En (z.map fun o => seO o (seV z En ev i e) i e) Dr gv n0 Mv (flW ev (seV z En ev i e)) fd to va se) (kC_seat q0) (kM_seat q0) pm0 h1 h2 IC.mono IM.mono ?_
  intro D2 N2 Bc2 Bm2 p2 g1 g2
  obtain ⟨q1, q2, q3, q4, q5, q6, q7, q8, q9⟩ := q0
  exact ⟨t, dk, cm, Fs, En, z.map fun o => seO o (seV z En ev i e) i e, Dr, gv, n0, Mv, flW ev (seV z En ev i e), fd, to, va, se, N2, Bc2, Bm2, p2, ⟨q1, q2, q3, pu_seat q3 q4, q5, q6, q7, q8, q9⟩, g1, g2⟩
theorem kC_line (q0 : pAll t Fs En z Dr gv n0 Mv se) : kX X 100 [.ref 78, .int i, .int n] (.int (liV z ev i n)) (IC t dk cm Fs En z Dr gv n0 Mv ev fd to va se) (IC t dk cm Fs En (z.map fun o => liO o (liV z ev i n) i n) Dr gv n0 Mv (flW ev (liV z ev i n)) fd to va se) := by
  obtain ⟨q1, q2, q3, q4, q5, q6, q7, q8, q9⟩ := q0
  intro N B Rm h sN
  refine h.elim ?_
  intro c_tp c_ps c_fs c_le c_dk c_dr c_gv c_rc c_mv c_wk c_to c_va c_se c_kd eB Ctp Cps Cfs Cle Cdk Cdr Cgv Crc Cmv Cwk Cto Cva Cse Ckd
  subst eB
  have s_N : N ⊆ c_tp ++ (c_ps ++ (c_fs ++ (c_le ++ (c_dr ++ (c_gv ++ (c_rc ++ (c_mv ++ (c_to ++ (c_va ++ (c_se ++ (c_kd ++ Rm))))))))))) := fun e he => List.mem_append_right _ (List.mem_append_right _ (List.mem_append_right _ (List.mem_append_right _ (List.mem_append_right _ (List.mem_append_right _ (List.mem_append_right _ (List.mem_append_right _ (List.mem_append_right _ (List.mem_append_right _ (List.mem_append_right _ (List.mem_append_right _ (sN he))))))))))))
  refine yK.perm (D2 := c_dk ++ (c_wk ++ (c_tp ++ (c_ps ++ (c_fs ++ (c_le ++ (c_dr ++ (c_gv ++ (c_rc ++ (c_mv ++ (c_to ++ (c_va ++ (c_se ++ (c_kd ++ Rm)))))))))))))) (pq fun φ => by simp only [cn_a]; omega) (((oC_line q4 Cdk Cwk s_N).up (yle rfl) (yle rfl)).mono (yle rfl) (yle rfl) ?_)
  rintro w D ⟨rfl, B0, B1, G, hp, H0, H1⟩
  exact ⟨rfl, c_tp ++ (c_ps ++ (c_fs ++ (c_le ++ (B0 ++ (c_dr ++ (c_gv ++ (c_rc ++ (c_mv ++ (B1 ++ (c_to ++ (c_va ++ (c_se ++ c_kd)))))))))))), G, hp.trans (pq fun φ => by simp only [cn_a, cn_n]; omega), IC.mk Ctp (cPs.mono (List.subset_append_right _ _) Cps) (cFs.mono (List.subset_append_right _ _) Cfs) Cle H0 (cDr.mono (List.subset_append_right _ _) Cdr) Cgv Crc Cmv H1 Cto Cva (cSe.mono (List.subset_append_right _ _) Cse) Ckd⟩
theorem kM_line (q0 : pAll t Fs En z Dr gv n0 Mv se) : kX X 263 [.ref 209, .int i, .int n] (.int (liV z ev i n)) (IM t dk cm Fs En z Dr gv n0 Mv ev fd to va se) (IM t dk cm Fs En (z.map fun o => liO o (liV z ev i n) i n) Dr gv n0 Mv (flW ev (liV z ev i n)) fd to va se) := by
  obtain ⟨q1, q2, q3, q4, q5, q6, q7, q8, q9⟩ := q0
  intro N B Rm h sN
  refine h.elim ?_
  intro e_tp e_ps e_fs e_le e_dk e_dr e_lg e_rc e_mv e_wk e_pl e_se e_kd eB Etp Eps Efs Ele Edk Edr Elg Erc Emv Ewk Epl Ese Ekd
  subst eB
  have s_N : N ⊆ e_tp ++ (e_ps ++ (e_fs ++ (e_le ++ (e_dr ++ (e_lg ++ (e_rc ++ (e_mv ++ (e_pl ++ (e_se ++ (e_kd ++ Rm)))))))))) := fun e he => List.mem_append_right _ (List.mem_append_right _ (List.mem_append_right _ (List.mem_append_right _ (List.mem_append_right _ (List.mem_append_right _ (List.mem_append_right _ (List.mem_append_right _ (List.mem_append_right _ (List.mem_append_right _ (List.mem_append_right _ (sN he)))))))))))
  refine yK.perm (D2 := e_dk ++ (e_wk ++ (e_tp ++ (e_ps ++ (e_fs ++ (e_le ++ (e_dr ++ (e_lg ++ (e_rc ++ (e_mv ++ (e_pl ++ (e_se ++ (e_kd ++ Rm))))))))))))) (pq fun φ => by simp only [cn_a]; omega) (((oM_line q4 Edk Ewk s_N).up (yle rfl) (yle rfl)).mono (yle rfl) (yle rfl) ?_)
  rintro w D ⟨rfl, B0, B1, hp, H0, H1⟩
  exact ⟨rfl, e_tp ++ (e_ps ++ (e_fs ++ (e_le ++ (B0 ++ (e_dr ++ (e_lg ++ (e_rc ++ (e_mv ++ (B1 ++ (e_pl ++ (e_se ++ e_kd))))))))))), [], hp.trans (pq fun φ => by simp only [cn_a, cn_n]; omega), IM.mk Etp Eps Efs Ele H0 Edr Elg Erc Emv H1 Epl Ese Ekd⟩
theorem op_line (h : Inv D) : yP2 Value.int X 100 263 [.int i, .int n] D := by
  obtain ⟨t, dk, cm, Fs, En, z, Dr, gv, n0, Mv, ev, fd, to, va, se, N, Bc, Bm, pm0, q0, h1, h2⟩ := h
  refine yp_both (f := Value.int) (r := (liV z ev i n)) (I := IC t dk cm Fs En z Dr gv n0 Mv ev fd to va se) (J := IM t dk cm Fs En z Dr gv n0 Mv ev fd to va se) (I2 := IC t dk cm Fs En (z.map fun o => liO o (liV z ev i n) i n) Dr gv n0 Mv (flW ev (liV z ev i n)) fd to va se) (J2 := IM t dk cm Fs En (z.map fun o => liO o (liV z ev i n) i n) Dr gv n0 Mv (flW ev (liV z ev i n)) fd to va se) (kC_line q0) (kM_line q0) pm0 h1 h2 IC.mono IM.mono ?_
  intro D2 N2 Bc2 Bm2 p2 g1 g2
  obtain ⟨q1, q2, q3, q4, q5, q6, q7, q8, q9⟩ := q0
  exact ⟨t, dk, cm, Fs, En, z.map fun o => liO o (liV z ev i n) i n, Dr, gv, n0, Mv, flW ev (liV z ev i n), fd, to, va, se, N2, Bc2, Bm2, p2, ⟨q1, q2, q3, pu_line q4, q5, q6, q7, q8, q9⟩, g1, g2⟩
theorem kC_cell (q0 : pAll t Fs En z Dr gv n0 Mv se) : kX X 103 [.ref 78, .int i, .int j, .int n] (.int (ceV z ev i j)) (IC t dk cm Fs En z Dr gv n0 Mv ev fd to va se) (IC t dk cm Fs En (z.map fun o => ceO o (ceV z ev i j) i j n) Dr gv n0 Mv (flW ev (ceV z ev i j)) fd to va se) := by
  obtain ⟨q1, q2, q3, q4, q5, q6, q7, q8, q9⟩ := q0
  intro N B Rm h sN
  refine h.elim ?_
  intro c_tp c_ps c_fs c_le c_dk c_dr c_gv c_rc c_mv c_wk c_to c_va c_se c_kd eB Ctp Cps Cfs Cle Cdk Cdr Cgv Crc Cmv Cwk Cto Cva Cse Ckd
  subst eB
  have s_N : N ⊆ c_tp ++ (c_ps ++ (c_fs ++ (c_le ++ (c_dr ++ (c_gv ++ (c_rc ++ (c_mv ++ (c_to ++ (c_va ++ (c_se ++ (c_kd ++ Rm))))))))))) := fun e he => List.mem_append_right _ (List.mem_append_right _ (List.mem_append_right _ (List.mem_append_right _ (List.mem_append_right _ (List.mem_append_right _ (List.mem_append_right _ (List.mem_append_right _ (List.mem_append_right _ (List.mem_append_right _ (List.mem_append_right _ (List.mem_append_right _ (sN he))))))))))))
  refine yK.perm (D2 := c_dk ++ (c_wk ++ (c_tp ++ (c_ps ++ (c_fs ++ (c_le ++ (c_dr ++ (c_gv ++ (c_rc ++ (c_mv ++ (c_to ++ (c_va ++ (c_se ++ (c_kd ++ Rm)))))))))))))) (pq fun φ => by simp only [cn_a]; omega) (((oC_cell q4 Cdk Cwk s_N).up (yle rfl) (yle rfl)).mono (yle rfl) (yle rfl) ?_)
  rintro w D ⟨rfl, B0, B1, hp, H0, H1⟩
  exact ⟨rfl, c_tp ++ (c_ps ++ (c_fs ++ (c_le ++ (B0 ++ (c_dr ++ (c_gv ++ (c_rc ++ (c_mv ++ (B1 ++ (c_to ++ (c_va ++ (c_se ++ c_kd)))))))))))), [], hp.trans (pq fun φ => by simp only [cn_a, cn_n]; omega), IC.mk Ctp Cps Cfs Cle H0 Cdr Cgv Crc Cmv H1 Cto Cva Cse Ckd⟩
theorem kM_cell (q0 : pAll t Fs En z Dr gv n0 Mv se) : kX X 264 [.ref 209, .int i, .int j, .int n] (.int (ceV z ev i j)) (IM t dk cm Fs En z Dr gv n0 Mv ev fd to va se) (IM t dk cm Fs En (z.map fun o => ceO o (ceV z ev i j) i j n) Dr gv n0 Mv (flW ev (ceV z ev i j)) fd to va se) := by
  obtain ⟨q1, q2, q3, q4, q5, q6, q7, q8, q9⟩ := q0
  intro N B Rm h sN
  refine h.elim ?_
  intro e_tp e_ps e_fs e_le e_dk e_dr e_lg e_rc e_mv e_wk e_pl e_se e_kd eB Etp Eps Efs Ele Edk Edr Elg Erc Emv Ewk Epl Ese Ekd
  subst eB
  have s_N : N ⊆ e_tp ++ (e_ps ++ (e_fs ++ (e_le ++ (e_dr ++ (e_lg ++ (e_rc ++ (e_mv ++ (e_pl ++ (e_se ++ (e_kd ++ Rm)))))))))) := fun e he => List.mem_append_right _ (List.mem_append_right _ (List.mem_append_right _ (List.mem_append_right _ (List.mem_append_right _ (List.mem_append_right _ (List.mem_append_right _ (List.mem_append_right _ (List.mem_append_right _ (List.mem_append_right _ (List.mem_append_right _ (sN he)))))))))))
  refine yK.perm (D2 := e_dk ++ (e_wk ++ (e_tp ++ (e_ps ++ (e_fs ++ (e_le ++ (e_dr ++ (e_lg ++ (e_rc ++ (e_mv ++ (e_pl ++ (e_se ++ (e_kd ++ Rm))))))))))))) (pq fun φ => by simp only [cn_a]; omega) (((oM_cell q4 Edk Ewk s_N).up (yle rfl) (yle rfl)).mono (yle rfl) (yle rfl) ?_)
  rintro w D ⟨rfl, B0, B1, hp, H0, H1⟩
  exact ⟨rfl, e_tp ++ (e_ps ++ (e_fs ++ (e_le ++ (B0 ++ (e_dr ++ (e_lg ++ (e_rc ++ (e_mv ++ (B1 ++ (e_pl ++ (e_se ++ e_kd))))))))))), [], hp.trans (pq fun φ => by simp only [cn_a, cn_n]; omega), IM.mk Etp Eps Efs Ele H0 Edr Elg Erc Emv H1 Epl Ese Ekd⟩
theorem op_cell (h : Inv D) : yP2 Value.int X 103 264 [.int i, .int j, .int n] D := by
  obtain ⟨t, dk, cm, Fs, En, z, Dr, gv, n0, Mv, ev, fd, to, va, se, N, Bc, Bm, pm0, q0, h1, h2⟩ := h
  refine yp_both (f := Value.int) (r := (ceV z ev i j)) (I := IC t dk cm Fs En z Dr gv n0 Mv ev fd to va se) (J := IM t dk cm Fs En z Dr gv n0 Mv ev fd to va se) (I2 := IC t dk cm Fs En (z.map fun o => ceO o (ceV z ev i j) i j n) Dr gv n0 Mv (flW ev (ceV z ev i j)) fd to va se) (J2 := IM t dk cm Fs En (z.map fun o => ceO o (ceV z ev i j) i j n) Dr gv n0 Mv (flW ev (ceV z ev i j)) fd to va se) (kC_cell q0) (kM_cell q0) pm0 h1 h2 IC.mono IM.mono ?_
  intro D2 N2 Bc2 Bm2 p2 g1 g2
  obtain ⟨q1, q2, q3, q4, q5, q6, q7, q8, q9⟩ := q0
  exact ⟨t, dk, cm, Fs, En, z.map fun o => ceO o (ceV z ev i j) i j n, Dr, gv, n0, Mv, flW ev (ceV z ev i j), fd, to, va, se, N2, Bc2, Bm2, p2, ⟨q1, q2, q3, pu_cell q4, q5, q6, q7, q8, q9⟩, g1, g2⟩
theorem kC_desk (q0 : pAll t Fs En z Dr gv n0 Mv se) : kX X 91 [.ref 78, .int x, .int y] (.int (deV En ev x y)) (IC t dk cm Fs En z Dr gv n0 Mv ev fd to va se) (IC t dk cm Fs En (if deV En ev x y = 0 then some (deO x y) else z) Dr gv n0 Mv (flW ev (deV En ev x y)) fd to va se) := by
  obtain ⟨q1, q2, q3, q4, q5, q6, q7, q8, q9⟩ := q0
  intro N B Rm h sN
  refine h.elim ?_
  intro c_tp c_ps c_fs c_le c_dk c_dr c_gv c_rc c_mv c_wk c_to c_va c_se c_kd eB Ctp Cps Cfs Cle Cdk Cdr Cgv Crc Cmv Cwk Cto Cva Cse Ckd
  subst eB
  have s_le : c_le ⊆ c_tp ++ (c_ps ++ (c_fs ++ (c_le ++ (c_dr ++ (c_gv ++ (c_rc ++ (c_mv ++ (c_to ++ (c_va ++ (c_se ++ (c_kd ++ Rm))))))))))) := fun e he => List.mem_append_right _ (List.mem_append_right _ (List.mem_append_right _ (List.mem_append_left _ he)))
  have s_N : N ⊆ c_tp ++ (c_ps ++ (c_fs ++ (c_le ++ (c_dr ++ (c_gv ++ (c_rc ++ (c_mv ++ (c_to ++ (c_va ++ (c_se ++ (c_kd ++ Rm))))))))))) := fun e he => List.mem_append_right _ (List.mem_append_right _ (List.mem_append_right _ (List.mem_append_right _ (List.mem_append_right _ (List.mem_append_right _ (List.mem_append_right _ (List.mem_append_right _ (List.mem_append_right _ (List.mem_append_right _ (List.mem_append_right _ (List.mem_append_right _ (sN he))))))))))))
  refine yK.perm (D2 := c_dk ++ (c_wk ++ (c_tp ++ (c_ps ++ (c_fs ++ (c_le ++ (c_dr ++ (c_gv ++ (c_rc ++ (c_mv ++ (c_to ++ (c_va ++ (c_se ++ (c_kd ++ Rm)))))))))))))) (pq fun φ => by simp only [cn_a]; omega) (((oC_desk Cle Cdk Cwk s_le s_N).up (yle rfl) (yle rfl)).mono (yle rfl) (yle rfl) ?_)
  rintro w D ⟨rfl, B0, B1, G, hp, H0, H1⟩
  exact ⟨rfl, c_tp ++ (c_ps ++ (c_fs ++ (c_le ++ (B0 ++ (c_dr ++ (c_gv ++ (c_rc ++ (c_mv ++ (B1 ++ (c_to ++ (c_va ++ (c_se ++ c_kd)))))))))))), G, hp.trans (pq fun φ => by simp only [cn_a, cn_n]; omega), IC.mk Ctp (cPs.mono (List.subset_append_right _ _) Cps) (cFs.mono (List.subset_append_right _ _) Cfs) Cle H0 (cDr.mono (List.subset_append_right _ _) Cdr) Cgv Crc Cmv H1 Cto Cva (cSe.mono (List.subset_append_right _ _) Cse) Ckd⟩
theorem kM_desk (q0 : pAll t Fs En z Dr gv n0 Mv se) : kX X 255 [.ref 209, .int x, .int y] (.int (deV En ev x y)) (IM t dk cm Fs En z Dr gv n0 Mv ev fd to va se) (IM t dk cm Fs En (if deV En ev x y = 0 then some (deO x y) else z) Dr gv n0 Mv (flW ev (deV En ev x y)) fd to va se) := by
  obtain ⟨q1, q2, q3, q4, q5, q6, q7, q8, q9⟩ := q0
  intro N B Rm h sN
  refine h.elim ?_
  intro e_tp e_ps e_fs e_le e_dk e_dr e_lg e_rc e_mv e_wk e_pl e_se e_kd eB Etp Eps Efs Ele Edk Edr Elg Erc Emv Ewk Epl Ese Ekd
  subst eB
  have s_le : e_le ⊆ e_tp ++ (e_ps ++ (e_fs ++ (e_le ++ (e_dr ++ (e_lg ++ (e_rc ++ (e_mv ++ (e_pl ++ (e_se ++ (e_kd ++ Rm)))))))))) := fun e he => List.mem_append_right _ (List.mem_append_right _ (List.mem_append_right _ (List.mem_append_left _ he)))
  refine yK.perm (D2 := e_dk ++ (e_wk ++ (e_tp ++ (e_ps ++ (e_fs ++ (e_le ++ (e_dr ++ (e_lg ++ (e_rc ++ (e_mv ++ (e_pl ++ (e_se ++ (e_kd ++ Rm))))))))))))) (pq fun φ => by simp only [cn_a]; omega) (((oM_desk (N := N) Ele Edk Ewk s_le).up (yle rfl) (yle rfl)).mono (yle rfl) (yle rfl) ?_)
  rintro w D ⟨rfl, B0, B1, G, hp, H0, H1⟩
  exact ⟨rfl, e_tp ++ (e_ps ++ (e_fs ++ (e_le ++ (B0 ++ (e_dr ++ (e_lg ++ (e_rc ++ (e_mv ++ (B1 ++ (e_pl ++ (e_se ++ e_kd))))))))))), G, hp.trans (pq fun φ => by simp only [cn_a, cn_n]; omega), IM.mk Etp (mPs.mono (List.subset_append_right _ _) Eps) (mFs.mono (List.subset_append_right _ _) Efs) Ele H0 (mDr.mono (List.subset_append_right _ _) Edr) (mLg.mono (List.subset_append_right _ _) Elg) Erc Emv H1 Epl Ese Ekd⟩
theorem op_desk (h : Inv D) : yP2 Value.int X 91 255 [.int x, .int y] D := by
  obtain ⟨t, dk, cm, Fs, En, z, Dr, gv, n0, Mv, ev, fd, to, va, se, N, Bc, Bm, pm0, q0, h1, h2⟩ := h
  refine yp_both (f := Value.int) (r := (deV En ev x y)) (I := IC t dk cm Fs En z Dr gv n0 Mv ev fd to va se) (J := IM t dk cm Fs En z Dr gv n0 Mv ev fd to va se) (I2 := IC t dk cm Fs En (if deV En ev x y = 0 then some (deO x y) else z) Dr gv n0 Mv (flW ev (deV En ev x y)) fd to va se) (J2 := IM t dk cm Fs En (if deV En ev x y = 0 then some (deO x y) else z) Dr gv n0 Mv (flW ev (deV En ev x y)) fd to va se) (kC_desk q0) (kM_desk q0) pm0 h1 h2 IC.mono IM.mono ?_
  intro D2 N2 Bc2 Bm2 p2 g1 g2
  obtain ⟨q1, q2, q3, q4, q5, q6, q7, q8, q9⟩ := q0
  exact ⟨t, dk, cm, Fs, En, if deV En ev x y = 0 then some (deO x y) else z, Dr, gv, n0, Mv, flW ev (deV En ev x y), fd, to, va, se, N2, Bc2, Bm2, p2, ⟨q1, q2, q3, pu_desk q3 q4, q5, q6, q7, q8, q9⟩, g1, g2⟩
end CALLSW
