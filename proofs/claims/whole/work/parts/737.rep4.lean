/-! WHAT AN EXP LEFT: try, ones, levels -/
section REP4
variable {tk : List zK} {s s' : zP} {fg : Nat} {rl : Nat → Nat → zP → zF Nat} {ro : Nat → zP → zF Nat} {i n : Nat}
theorem rep_try (ho : RepO fg ro) (eo : ExtO ro) (h : pTry tk ro i s = .inl (s', n)) : Rp fg s s' n := by
  unfold pTry at h
  obtain ⟨s0, _, q0, h0⟩ := pb_inl h
  obtain ⟨s1, _, q1, h1⟩ := pb_inl h0
  obtain ⟨s2, st, q2, h2⟩ := pb_inl h1
  obtain ⟨s3, a, q3, h3⟩ := pb_inl h2
  obtain ⟨s4, en, q4, h4⟩ := pb_inl h3
  obtain ⟨s5, _, q5, h5⟩ := pb_inl h4
  obtain ⟨s6, b, q6, h6⟩ := pb_inl h5
  clear h h0 h1 h2 h3 h4 h5
  obtain ⟨_, e0⟩ := pEnter_inl q0
  obtain ⟨_, e1⟩ := sNo_inl q1
  obtain ⟨_, e2, t2⟩ := sEm_inl q2
  obtain ⟨_, e4, t4⟩ := sEm_inl q4
  obtain ⟨_, e5⟩ := pWant_inl q5
  obtain ⟨_, e7, t7⟩ := sNd_inl h6
  have ha := ho _ _ _ _ q3
  have xa := eo _ _ _ _ q3
  have hb := ho _ _ _ _ q6
  have xb := eo _ _ _ _ q6
  rw [e0] at e1
  rw [e1] at e2 t2
  rw [e4] at e5
  have t2 : st = s.2.2.1.length := t2
  have c2 : s2.2.2.1 = s.2.2.1 ++ [(5, 0)] := by rw [e2]; rfl
  have n2 : s2.2.2.2.1 = s.2.2.2.1 := by rw [e2]; rfl
  have u2 : s2.2.2.2.2 = s.2.2.2.2 := by rw [e2]; rfl
  have o2 : s2.2.1 = s.2.1 + 1 := by rw [e2]; rfl
  have lc2 : s2.2.2.1.length = s.2.2.1.length + 1 := by rw [c2, List.length_append]; rfl
  have c5 : s5.2.2.1 = (s3.2.2.1 ++ [(6, 0)]).set st (5, Int32.ofNat (s3.2.2.1.length + 1)) := by
    rw [e5]
    show (s3.2.2.1 ++ [(6, 0)]).set st (5, Int32.ofNat (s3.2.2.1 ++ [(6, 0)]).length) = _
    rw [List.length_append]; rfl
  have n5 : s5.2.2.2.1 = s3.2.2.2.1 := by rw [e5]; rfl
  have u5 : s5.2.2.2.2 = s3.2.2.2.2 := by rw [e5]; rfl
  have o5 : s5.2.1 = s3.2.1 := by rw [e5]; rfl
  have lc5 : s5.2.2.1.length = s3.2.2.1.length + 1 := by rw [c5, List.length_set, List.length_append]; rfl
  have c7 : s'.2.2.1 = s6.2.2.1.set en (6, Int32.ofNat s6.2.2.1.length) := by rw [e7]; rfl
  have n7 : s'.2.2.2.1 = s6.2.2.2.1 ++ [(10, Int32.ofNat a, Int32.ofNat b, 0)] := by rw [e7]; rfl
  have u7 : s'.2.2.2.2 = s6.2.2.2.2 := by rw [e7]; rfl
  have o7 : s'.2.1 = s6.2.1 := by rw [e7]; rfl
  have t7 : n = s6.2.2.2.1.length := t7
  obtain ⟨x1, x2, x3, x4, x5, x6, x7, x8⟩ := xa
  obtain ⟨y1, y2, y3, y4, y5, y6, y7, y8⟩ := xb
  rw [n2] at x6; rw [u2] at x7; rw [n5] at y6; rw [u5] at y7
  have hsa : pRep fg s.2.2.2.1.length s.2.2.2.2.length s' (s6.2.1 - s.2.1 - 1) (s.2.2.1.length + 1) s3.2.2.1.length a := by
    have hx := ha
    unfold Rp at hx
    rw [lc2, n2, u2] at hx
    refine pRep.mv (Nat.le_refl _) (Nat.le_refl _) (Nat.le_refl _) ?_ ?_ _ _ _ _ _ (by omega) ?_ hx
    · intro k k1 k2
      rw [n7, List.getElem?_append_left (by omega), y3 k (by rw [n5]; omega), n5]
    · intro k k1 k2
      rw [u7, y4 k (by rw [u5]; omega), u5]
    · intro k k1 k2
      rw [c7, List.getElem?_set_ne (by omega), y2 k (by omega), c5, List.getElem?_set_ne (by omega), List.getElem?_append_left k2]
  have hsb : pRep fg s.2.2.2.1.length s.2.2.2.2.length s' (s6.2.1 - s.2.1 - 1) (s3.2.2.1.length + 1) s6.2.2.1.length b := by
    have hx := hb
    unfold Rp at hx
    rw [lc5, n5, u5] at hx
    refine pRep.mv (Nat.le_refl _) (by omega) (by omega) ?_ ?_ _ _ _ _ _ (by omega) ?_ hx
    · intro k k1 k2
      rw [n7, List.getElem?_append_left k2]
    · intro k k1 k2
      rw [u7]
    · intro k k1 k2
      rw [c7, List.getElem?_set_ne (by omega)]
  have la := hsa.lt
  have lb := hsb.lt
  unfold Rp
  rw [show s'.2.1 - s.2.1 = (s6.2.1 - s.2.1 - 1) + 1 by rw [o7]; omega, show s'.2.2.1.length = s6.2.2.1.length by rw [c7, List.length_set], t7]
  refine ⟨by omega, by omega, 10, Int32.ofNat a, Int32.ofNat b, 0, by rw [n7]; simp, Or.inr (Or.inr (Or.inr (Or.inr (Or.inr (Or.inr (Or.inr (Or.inr (Or.inr (Or.inl ⟨rfl, s3.2.2.1.length, a, b, rfl, rfl, ?_, hsa, ?_, hsb⟩)))))))))⟩
  · rw [c7, List.getElem?_set_ne (by omega), y2 _ (by omega), c5, t2, List.getElem?_set_self (by rw [List.length_append]; omega)]
  · rw [c7, t4, List.getElem?_set_self (by omega)]
theorem rep_one1 (ho : RepO fg ro) (eo : ExtO ro) {d op : Int32} (hd : (op = 14 ∧ d = 16) ∨ (op = 13 ∧ d = 17)) (h : (pb (pEnter i s) fun s1 _ => pb (sNo s1) fun s1 _ => pb (ro (i + 1) (sNx s1)) fun s2 n => pb (sEm s2 d 0) fun s3 _ => sNd s3 (op, Int32.ofNat n, 0, 0)) = .inl (s', n)) : Rp fg s s' n := by
  obtain ⟨s0, _, q0, h0⟩ := pb_inl h
  obtain ⟨s1, _, q1, h1⟩ := pb_inl h0
  obtain ⟨s2, a, q2, h2⟩ := pb_inl h1
  obtain ⟨s3, c, q3, h3⟩ := pb_inl h2
  clear h h0 h1 h2
  obtain ⟨_, e0⟩ := pEnter_inl q0
  obtain ⟨_, e1⟩ := sNo_inl q1
  obtain ⟨_, e3, _⟩ := sEm_inl q3
  obtain ⟨_, e4, t4⟩ := sNd_inl h3
  have ha := ho _ _ _ _ q2
  have xa := eo _ _ _ _ q2
  rw [e0] at e1
  have c1 : (sNx s1).2.2.1 = s.2.2.1 := by rw [e1]; rfl
  have n1 : (sNx s1).2.2.2.1 = s.2.2.2.1 := by rw [e1]; rfl
  have u1 : (sNx s1).2.2.2.2 = s.2.2.2.2 := by rw [e1]; rfl
  have o1 : (sNx s1).2.1 = s.2.1 + 1 := by rw [e1]; rfl
  have c4 : s'.2.2.1 = s2.2.2.1 ++ [(d, 0)] := by rw [e4, e3]
  have n4 : s'.2.2.2.1 = s2.2.2.2.1 ++ [(op, Int32.ofNat a, 0, 0)] := by rw [e4, e3]
  have u4 : s'.2.2.2.2 = s2.2.2.2.2 := by rw [e4, e3]
  have o4 : s'.2.1 = s2.2.1 := by rw [e4, e3]
  have t4 : n = s2.2.2.2.1.length := by rw [t4, e3]
  obtain ⟨x1, x2, x3, x4, x5, x6, x7, x8⟩ := xa
  rw [c1] at x5; rw [n1] at x6; rw [o1] at x1
  have hsa : pRep fg s.2.2.2.1.length s.2.2.2.2.length s' (s2.2.1 - s.2.1 - 1) s.2.2.1.length s2.2.2.1.length a := by
    have hx := ha
    unfold Rp at hx
    rw [c1, n1, u1, o1] at hx
    refine pRep.mv (Nat.le_refl _) (Nat.le_refl _) (Nat.le_refl _) ?_ ?_ _ _ _ _ _ (by omega) ?_ hx
    · intro k k1 k2
      rw [n4, List.getElem?_append_left k2]
    · intro k k1 k2
      rw [u4]
    · intro k k1 k2
      rw [c4, List.getElem?_append_left k2]
  have la := hsa.lt
  unfold Rp
  rw [show s'.2.1 - s.2.1 = (s2.2.1 - s.2.1 - 1) + 1 by rw [o4]; omega, show s'.2.2.1.length = s2.2.2.1.length + 1 by rw [c4, List.length_append]; rfl, t4]
  have hcode : s'.2.2.1[s2.2.2.1.length]? = some (d, 0) := by rw [c4]; simp
  refine ⟨by omega, by omega, op, Int32.ofNat a, 0, 0, by rw [n4]; simp, Or.inr (Or.inr (Or.inr (Or.inr (Or.inr (Or.inr (Or.inr (Or.inr (Or.inr (Or.inr (Or.inr (Or.inl ?_)))))))))))⟩
  rcases hd with ⟨rfl, rfl⟩ | ⟨rfl, rfl⟩
  · exact ⟨Or.inr rfl, a, rfl, hsa, hcode⟩
  · exact ⟨Or.inl rfl, a, rfl, hsa, hcode⟩
end REP4
