/-! WHAT AN EXP LEFT: names, ones, levels -/
section REP3
variable {tk : List zK} {s s' : zP} {fg : Nat} {rl : Nat → Nat → zP → zF Nat} {ro : Nat → zP → zF Nat} {i n : Nat}
theorem rep_cell {u m x y : Nat} {nd0 : yNd} {a : Nat} {b : Int64} (s3 s5 s6 s7 : zP) (hc : s3.2.2.1 = s.2.2.1) (hn : n < s3.2.2.2.1.length) (hn0 : s.2.2.2.1.length = n) (hu : u < s3.2.2.2.2.length) (hu0 : s.2.2.2.2.length = u) (ho : s.2.1 < s3.2.1) (ex : Ext s3 s5) (hx : Rp fg s3 s5 x) (h6 : s6.2 = (s5.2.1, s5.2.2.1, s5.2.2.2.1.set n nd0, s5.2.2.2.2)) (ey : Ext s6 s7) (hy : Rp fg s6 s7 y) (hs : s' = (m, s7.2.1, s7.2.2.1 ++ [(13, 0)], s7.2.2.2.1.set n (4, 0, Int32.ofNat x, Int64.ofNat y), s7.2.2.2.2.set u (a, b, 0, some s7.2.2.1.length, n))) : Rp fg s s' n := by
  obtain ⟨x1, x2, x3, x4, x5, x6, x7, x8⟩ := ex
  obtain ⟨y1, y2, y3, y4, y5, y6, y7, y8⟩ := ey
  have e1 : s6.2.1 = s5.2.1 := by rw [h6]
  have e2 : s6.2.2.1 = s5.2.2.1 := by rw [h6]
  have e3 : s6.2.2.2.1 = s5.2.2.2.1.set n nd0 := by rw [h6]
  have e4 : s6.2.2.2.2 = s5.2.2.2.2 := by rw [h6]
  have l3 : s6.2.2.2.1.length = s5.2.2.2.1.length := by rw [e3, List.length_set]
  have l2 : s6.2.2.1.length = s5.2.2.1.length := by rw [e2]
  have l4 : s6.2.2.2.2.length = s5.2.2.2.2.length := by rw [e4]
  have U : US s' s.2.2.2.2.length s7.2.2.1.length n 0 := by
    refine ⟨u, a, b, 0, by omega, ?_, Nat.le_refl _⟩
    rw [hs]
    show (s7.2.2.2.2.set u (a, b, 0, some s7.2.2.1.length, n))[u]? = _
    rw [List.getElem?_set_self (by omega)]
  have hcode : s'.2.2.1[s7.2.2.1.length]? = some (13, 0) := by
    rw [hs]
    show (s7.2.2.1 ++ [(13, 0)])[s7.2.2.1.length]? = _
    simp
  have hlen : s'.2.2.1.length = s7.2.2.1.length + 1 := by
    rw [hs]
    show (s7.2.2.1 ++ [(13, 0)]).length = _
    rw [List.length_append]; rfl
  have hno : s'.2.1 - s.2.1 = (s7.2.1 - s.2.1 - 1) + 1 := by
    rw [hs]
    show s7.2.1 - s.2.1 = _
    omega
  have hnode : s'.2.2.2.1[n]? = some (4, 0, Int32.ofNat x, Int64.ofNat y) := by
    rw [hs]
    show (s7.2.2.2.1.set n _)[n]? = _
    rw [List.getElem?_set_self (by omega)]
  have cN : ∀ k, n + 1 ≤ k → s'.2.2.2.1[k]? = s7.2.2.2.1[k]? := by
    intro k k1
    rw [hs]
    show (s7.2.2.2.1.set n _)[k]? = _
    rw [List.getElem?_set_ne (by omega)]
  have cU : ∀ k, u + 1 ≤ k → s'.2.2.2.2[k]? = s7.2.2.2.2[k]? := by
    intro k k1
    rw [hs]
    show (s7.2.2.2.2.set u _)[k]? = _
    rw [List.getElem?_set_ne (by omega)]
  have cC : ∀ k, k < s7.2.2.1.length → s'.2.2.1[k]? = s7.2.2.1[k]? := by
    intro k k1
    rw [hs]
    show (s7.2.2.1 ++ [_])[k]? = _
    rw [List.getElem?_append_left k1]
  have hsx : pRep fg s.2.2.2.1.length s.2.2.2.2.length s' (s7.2.1 - s.2.1 - 1) s.2.2.1.length s5.2.2.1.length x := by
    have hx' := hx
    unfold Rp at hx'
    rw [hc] at hx'
    refine pRep.mv (Nat.le_refl _) (by omega) (by omega) ?_ ?_ _ _ _ _ _ (by omega) ?_ hx'
    · intro k k1 k2
      rw [cN k (by omega), y3 k (by omega), e3, List.getElem?_set_ne (by omega)]
    · intro k k1 k2
      rw [cU k (by omega), y4 k (by omega), e4]
    · intro k k1 k2
      rw [cC k (by omega), y2 k (by omega), e2]
  have hsy : pRep fg s.2.2.2.1.length s.2.2.2.2.length s' (s7.2.1 - s.2.1 - 1) s5.2.2.1.length s7.2.2.1.length y := by
    have hy' := hy
    unfold Rp at hy'
    rw [l2] at hy'
    refine pRep.mv (Nat.le_refl _) (by omega) (by omega) ?_ ?_ _ _ _ _ _ (by omega) ?_ hy'
    · intro k k1 k2
      rw [cN k (by omega)]
    · intro k k1 k2
      rw [cU k (by omega)]
    · intro k k1 k2
      rw [cC k (by omega)]
  have hl := hsx.lt
  have hl2 := hsy.lt
  unfold Rp
  rw [hno, hlen]
  exact ⟨by omega, by omega, 4, 0, Int32.ofNat x, Int64.ofNat y, hnode, Or.inr (Or.inr (Or.inr (Or.inl ⟨rfl, s5.2.2.1.length, x, y, rfl, rfl, hsx, hsy, hcode, U⟩)))⟩
theorem rep_named (hl : RepL fg rl) (el : ExtL rl) (h : pNamed tk fg rl i s = .inl (s', n)) : Rp fg s s' n := by
  unfold pNamed at h
  obtain ⟨s1, n1, e1, h⟩ := pb_inl h
  obtain ⟨s2, _, e2, h⟩ := pb_inl h
  obtain ⟨s3, u, e3, h⟩ := pb_inl h
  obtain ⟨_, rfl⟩ := sNo_inl e2
  obtain ⟨_, rfl, rfl⟩ := sNd_inl e1
  obtain ⟨_, _, hs3, rfl⟩ := pUse_inl e3
  have hc3 : s3.2.2.1 = s.2.2.1 := by rw [hs3]; rfl
  have hn3 : s3.2.2.2.1 = s.2.2.2.1 ++ [(1, 0, 0, 0)] := by rw [hs3]; rfl
  have hu3 : s3.2.2.2.2.length = s.2.2.2.2.length + 1 := by rw [hs3]; show (s.2.2.2.2 ++ [_]).length = _; rw [List.length_append]; rfl
  have ho3 : s3.2.1 = s.2.1 + 1 := by rw [hs3]; rfl
  have hl3 : s3.2.2.2.1.length = s.2.2.2.1.length + 1 := by rw [hn3, List.length_append]; rfl
  by_cases k91 : kd tk s3.1 = 91
  · rw [if_pos k91] at h
    obtain ⟨s5, a, e5, h⟩ := pb_inl h
    unfold pBetween at e5
    obtain ⟨s6, _, q1, q2⟩ := pb_inl e5
    obtain ⟨_, rfl⟩ := pEnter_inl q1
    have hx := hl _ _ _ _ _ q2
    have ex := el _ _ _ _ _ q2
    generalize hsB : sNx (sSn (sSu s3 s.2.2.2.2.length (pl tk s.1, va tk s.1, 0, none, s.2.2.2.1.length)) s.2.2.2.1.length (3, 0, 0, 0)) = sB at hx ex
    have bc : sB.2.2.1 = s.2.2.1 := by rw [← hsB]; exact hc3
    have bn : sB.2.2.2.1.length = s.2.2.2.1.length + 1 := by rw [← hsB]; show (s3.2.2.2.1.set _ _).length = _; rw [List.length_set, hl3]
    have bu : sB.2.2.2.2.length = s.2.2.2.2.length + 1 := by rw [← hsB]; show (s3.2.2.2.2.set _ _).length = _; rw [List.length_set, hu3]
    have bo : sB.2.1 = s.2.1 + 1 := by rw [← hsB]; exact ho3
    by_cases k44 : kd tk s5.1 = 44
    · rw [if_pos k44] at h
      obtain ⟨s7, y, e7, h⟩ := pb_inl h
      have hy := hl _ _ _ _ _ e7
      have ey := el _ _ _ _ _ e7
      obtain ⟨s8, _, e8, h⟩ := pb_inl h
      obtain ⟨_, rfl⟩ := pWant_inl e8
      obtain ⟨rfl, hs⟩ := pEnd_inl h
      exact rep_cell sB s5 _ s7 bc (by omega) rfl (by omega) rfl (by omega) ex hx rfl ey hy hs
    · rw [if_neg k44] at h
      obtain ⟨s8, _, e8, h⟩ := pb_inl h
      obtain ⟨_, rfl⟩ := pWant_inl e8
      obtain ⟨rfl, hs⟩ := pEnd_inl h
      exact rep_at sB s5 bc (by omega) rfl (by omega) rfl (by omega) ex hx hs (Or.inl ⟨rfl, rfl⟩)
  · rw [if_neg k91] at h
    obtain ⟨rfl, hs⟩ := pEnd_inl h
    exact rep_use (x := (1, 0, 0, 0)) s3 hc3 (by rw [hn3]; simp) (Nat.le_refl _) (by omega) (Nat.le_refl _) (by omega) hs (fun _ => Or.inl ⟨rfl, rfl, rfl, Nat.le_refl _⟩)
theorem rep_asked (hl : RepL fg rl) (el : ExtL rl) {d : Nat} (hd : d = 8 ∨ d = 9 ∨ d = 10 ∨ d = 11) (h : pAsked tk rl d i s = .inl (s', n)) : Rp fg s s' n := by
  unfold pAsked at h
  obtain ⟨s1, n1, e1, h⟩ := pb_inl h
  obtain ⟨_, rfl, rfl⟩ := sNd_inl e1
  obtain ⟨s2, _, e2, ha⟩ := pb_inl h
  clear h
  obtain ⟨_, rfl⟩ := sNo_inl e2
  obtain ⟨s3, so, e3, hb⟩ := pb_inl ha
  clear ha
  have hS : s3.2 = (s.2.1 + 1, s.2.2.1, s.2.2.2.1 ++ [(Int32.ofNat (d - 3), 0, 0, 0)], s.2.2.2.2) ∧ so < 8 ∧ (d ≠ 10 → so = 0) := by
    by_cases h10 : d = 10
    · rw [if_pos h10] at e3
      unfold pSort at e3
      split at e3
      · cases e3
        exact ⟨rfl, by omega, fun hh => absurd h10 hh⟩
      · cases e3
    · rw [if_neg h10] at e3
      cases e3
      exact ⟨rfl, by omega, fun _ => rfl⟩
  obtain ⟨hS, hso, hso0⟩ := hS
  unfold pAsked2 at hb
  obtain ⟨s4, _, e4, hc⟩ := pb_inl hb
  clear hb
  obtain ⟨_, rfl⟩ := sNo_inl e4
  obtain ⟨s5, u, e5, h⟩ := pb_inl hc
  clear hc
  obtain ⟨_, _, hs5, rfl⟩ := pUse_inl e5
  have c5 : s5.2.2.1 = s.2.2.1 := by rw [hs5]; show s3.2.2.1 = _; rw [hS]
  have n5 : s5.2.2.2.1 = s.2.2.2.1 ++ [(Int32.ofNat (d - 3), 0, Int32.ofNat so, 0)] := by
    rw [hs5]; show s3.2.2.2.1.set s.2.2.2.1.length _ = _; rw [hS]
    simp
  have u5 : s5.2.2.2.2.length = s.2.2.2.2.length + 1 := by rw [hs5]; show (s3.2.2.2.2 ++ [_]).length = _; rw [hS, List.length_append]; rfl
  have o5 : s5.2.1 = s.2.1 + 2 := by rw [hs5]; show s3.2.1 + 1 = _; rw [hS]
  have l5 : s5.2.2.2.1.length = s.2.2.2.1.length + 1 := by rw [n5, List.length_append]; rfl
  have ul : (sSn s3 s.2.2.2.1.length (Int32.ofNat (d - 3), 0, Int32.ofNat so, 0)).2.2.2.2.length = s.2.2.2.2.length := by show s3.2.2.2.2.length = _; rw [hS]
  by_cases hk : d = 11 ∧ kd tk s5.1 = 91
  · rw [if_pos hk] at h
    obtain ⟨s7, a, e7, hd1⟩ := pb_inl h
    clear h
    obtain ⟨s8, _, e8, hd2⟩ := pb_inl hd1
    clear hd1
    unfold pBetween at e7
    obtain ⟨s6, _, q1, q2⟩ := pb_inl e7
    obtain ⟨_, hs6⟩ := pEnter_inl q1
    rw [hs6] at q2
    have hx := hl _ _ _ _ _ q2
    have ex := el _ _ _ _ _ q2
    obtain ⟨_, hs8⟩ := pWant_inl e8
    obtain ⟨hnn, hs⟩ := pEnd_inl hd2
    rw [hnn]
    rw [hs8] at hs
    exact rep_at (sNx s5) s7 c5 (by show _ < s5.2.2.2.1.length; omega) rfl (by show _ < s5.2.2.2.2.length; rw [u5]; exact Nat.lt_succ_of_le (Nat.le_of_eq ul)) ul.symm (by show _ < s5.2.1; omega) ex hx hs (Or.inr ⟨rfl, rfl⟩)
  · rw [if_neg hk] at h
    obtain ⟨rfl, hs⟩ := pEnd_inl h
    refine rep_use (x := (Int32.ofNat (d - 3), 0, Int32.ofNat so, 0)) s5 c5 (by rw [n5]; simp) (Nat.le_refl _) (by rw [u5]; exact Nat.lt_succ_of_le (Nat.le_of_eq ul)) (Nat.le_of_eq ul.symm) (by omega) hs (fun _ => ?_)
    rcases hd with rfl | rfl | rfl | rfl
    · rw [hso0 (by decide)]; exact Or.inr (Or.inl ⟨rfl, rfl, rfl, rfl⟩)
    · rw [hso0 (by decide)]; exact Or.inr (Or.inr (Or.inl ⟨rfl, rfl, rfl, rfl⟩))
    · refine Or.inr (Or.inr (Or.inr (Or.inl ⟨rfl, rfl, rfl, rfl, ?_, ?_⟩)))
      · rw [yi_nat (by omega)]; omega
      · rw [yi_nat (by omega)]; omega
    · rw [hso0 (by decide)]; exact Or.inr (Or.inr (Or.inr (Or.inr ⟨rfl, rfl, rfl, rfl⟩)))
end REP3
