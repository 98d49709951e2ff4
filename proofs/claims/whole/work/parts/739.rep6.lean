/-! WHAT AN EXP LEFT: numbers fit; an exp of a form -/
theorem vaOk_of {t : List Int32} {tk : List zK} (hT : tkT t tk) : vaOk tk := by
  intro k hk
  rcases ht : tk[k]? with _ | τ
  · rw [kd, ht] at hk
    exact absurd hk (by decide)
  · have ek : kd tk k = τ.1 := by rw [kd, ht]; rfl
    obtain ⟨⟨g1, g2, g3, g4, g5⟩, _⟩ := hT k τ ht
    have hva : va tk k = ((lexK (t.drop τ.2.1)).2.2).getD 0 := by
      rw [va, ht]; show (τ.2.2.2).getD 0 = _; rw [g4]
    rw [ek, g2, kdAt] at hk
    rw [hva]
    cases hd : t.drop τ.2.1 with
    | nil => rw [hd] at hk; exact absurd hk (by decide)
    | cons b r =>
      rw [hd] at hk
      by_cases hL : isL b = true
      · rw [lexK_w hL] at hk
        dsimp only at hk
        by_cases h8 : nW (b :: r) ≤ 8
        · rw [if_pos h8] at hk
          have hr := kW_range (nW_lg (b :: r)) (by rw [List.length_take]; omega)
          rw [hk] at hr
          rcases hr with hr | ⟨j, hj, hr⟩
          · exact absurd hr (by decide)
          · have := congrArg Int32.toInt hr
            rw [yi_nat (by omega), show (2 : Int32).toInt = 2 by decide] at this
            omega
        · rw [if_neg h8] at hk
          exact absurd hk (by decide)
      · by_cases hG : isG b = true
        · rw [lexK_g hL hG] at hk ⊢
          dsimp only at hk
          by_cases h6 : nG (b :: r) ≤ 6
          · obtain ⟨v, hv0, hv1, hv2⟩ := num_spec h6
            show (gV 0 ((b :: r).take (nG (b :: r)))).toInt32.toInt64 = gV 0 ((b :: r).take (nG (b :: r)))
            rw [hv1, ← y3264 (by omega), Int32.toInt32_toInt64]
          · rw [if_neg h6] at hk
            exact absurd hk (by decide)
        · rw [lexK_s hL hG] at hk
          dsimp only at hk
          by_cases hs : b ∈ zwsg
          · obtain ⟨c0, c1, c2, c3, c4⟩ := zwsg_k b hs
            rw [if_pos hs] at hk
            exact absurd hk c2
          · rw [if_neg hs] at hk
            exact absurd hk (by decide)
theorem rep_exp {tk : List zK} {s s' : zP} {fg i : Nat} {w : Int32 × Int32} (hva : vaOk tk) (h : fExp tk fg i s = .inl (s', w)) : Ext s s' ∧ ∃ n e, w = (Int32.ofNat n, Int32.ofNat s.2.2.1.length) ∧ s'.2.2.1.length = e + 1 ∧ pRep fg s.2.2.2.1.length s.2.2.2.2.length s' (s'.2.1 - s.2.1) s.2.2.1.length e n ∧ s'.2.2.1[e]? = some (0, 0) := by
  unfold fExp at h
  obtain ⟨s1, n, q1, h1⟩ := pb_inl h
  obtain ⟨s2, c, q2, h2⟩ := pb_inl h1
  clear h h1
  cases h2
  have hx := (rep_fix (fg := fg) hva 92).1 _ _ _ _ _ q1
  have ex := (E_fix (tk := tk) (fg := fg) 92).1 _ _ _ _ _ q1
  refine ⟨ex.em q2, ?_⟩
  obtain ⟨_, e2, _⟩ := sEm_inl q2
  have c2 : s'.2.2.1 = s1.2.2.1 ++ [(0, 0)] := by rw [e2]
  have n2 : s'.2.2.2.1 = s1.2.2.2.1 := by rw [e2]
  have u2 : s'.2.2.2.2 = s1.2.2.2.2 := by rw [e2]
  have o2 : s'.2.1 = s1.2.1 := by rw [e2]
  refine ⟨n, s1.2.2.1.length, rfl, by rw [c2, List.length_append]; rfl, ?_, by rw [c2]; simp⟩
  unfold Rp at hx
  refine pRep.mv (Nat.le_refl _) (Nat.le_refl _) (Nat.le_refl _) ?_ ?_ _ _ _ _ _ (by omega) ?_ hx
  · intro k k1 k2
    rw [n2]
  · intro k k1 k2
    rw [u2]
  · intro k k1 k2
    rw [c2, List.getElem?_append_left k2]
