/-! A FORM WHOSE NAMES ARE SETTLED -/
theorem nAll_eff {G : zG} : ∀ (r : List zU) (s : zP), nFt G r = none → r.Pairwise (fun u v => u.2.2.2.2 ≠ v.2.2.2.2 ∧ u.2.2.2.1 ≠ v.2.2.2.1) → (∀ u ∈ r, u.2.2.2.1 ≠ none) →
    (∀ u ∈ r, ∃ x, nRes G u.2.1 u.2.2.1 = some x ∧ (∀ c d, u.2.2.2.1 = some c → s.2.2.1[c]? = some d → (nAll G r s).2.2.1[c]? = some (nCw x d)) ∧ ∀ nd, s.2.2.2.1[u.2.2.2.2]? = some nd → (nAll G r s).2.2.2.1[u.2.2.2.2]? = some (nNw x nd))
    ∧ (∀ c, (∀ u ∈ r, u.2.2.2.1 ≠ some c) → (nAll G r s).2.2.1[c]? = s.2.2.1[c]?) ∧ (∀ n, (∀ u ∈ r, u.2.2.2.2 ≠ n) → (nAll G r s).2.2.2.1[n]? = s.2.2.2.1[n]?)
    ∧ (nAll G r s).2.2.1.length = s.2.2.1.length ∧ (nAll G r s).2.2.2.1.length = s.2.2.2.1.length ∧ (nAll G r s).2.1 = s.2.1
  | [], s, _, _, _ => ⟨fun u hu => by simp at hu, fun _ _ => rfl, fun _ _ => rfl, rfl, rfl, rfl⟩
  | u :: r, s, hf, hp, hn => by
    rw [nFt] at hf
    obtain ⟨hp1, hp2⟩ := List.pairwise_cons.mp hp
    obtain ⟨c, hc⟩ := Option.ne_none_iff_exists'.mp (hn u List.mem_cons_self)
    rcases hx : nRes G u.2.1 u.2.2.1 with _ | x
    · rw [if_pos hx] at hf; cases hf
    · rw [if_neg (by rw [hx]; intro hh; cases hh)] at hf
      obtain ⟨i1, i2, i3, i4, i5, i6⟩ := nAll_eff r (nDo s u x) hf hp2 (fun v hv => hn v (List.mem_cons_of_mem _ hv))
      have eA : nAll G (u :: r) s = nAll G r (nDo s u x) := by rw [nAll, hx]
      have eC : (nDo s u x).2.2.1 = s.2.2.1.set c (nCw x ((s.2.2.1[c]?).getD (0, 0))) := by
        show s.2.2.1.set (u.2.2.2.1.getD 0) _ = _
        rw [hc]; rfl
      have eN : (nDo s u x).2.2.2.1 = s.2.2.2.1.set u.2.2.2.2 (nNw x ((s.2.2.2.1[u.2.2.2.2]?).getD (0, 0, 0, 0))) := rfl
      rw [eA]
      refine ⟨fun v hv => ?_, fun c' hc' => ?_, fun n' hn' => ?_, by rw [i4, eC, List.length_set], by rw [i5, eN, List.length_set], i6⟩
      · rcases List.mem_cons.mp hv with rfl | hv
        · refine ⟨x, hx, fun c' d hc' hd => ?_, fun nd hnd => ?_⟩
          · rw [hc] at hc'
            cases hc'
            rw [i2 c (fun w hw hh => (hp1 w hw).2 (hc.trans hh.symm)), eC, List.getElem?_set_self (List.getElem?_eq_some_iff.mp hd).1, hd]
            rfl
          · rw [i3 _ (fun w hw hh => (hp1 w hw).1 hh.symm), eN, List.getElem?_set_self (List.getElem?_eq_some_iff.mp hnd).1, hnd]
            rfl
        · obtain ⟨y, y1, y2, y3⟩ := i1 v hv
          refine ⟨y, y1, fun c' d hc' hd => y2 c' d hc' ?_, fun nd hnd => y3 nd ?_⟩
          · rw [eC, List.getElem?_set_ne (fun hh => (hp1 v hv).2 (by rw [hc, hc', hh]))]; exact hd
          · rw [eN, List.getElem?_set_ne (fun hh => (hp1 v hv).1 hh)]; exact hnd
      · rw [i2 c' (fun w hw => hc' w (List.mem_cons_of_mem _ hw)), eC, List.getElem?_set_ne (fun hh => hc' u List.mem_cons_self (by rw [hc, hh]))]
      · rw [i3 n' (fun w hw => hn' w (List.mem_cons_of_mem _ hw)), eN, List.getElem?_set_ne (fun hh => hn' u List.mem_cons_self hh)]
/-- the form -/
def fF (G : zG) (s : zP) : yF := (G.1.map Prod.snd, G.2.1.map Prod.snd, G.2.2.1, (Int32.ofNat s.2.1, G.2.2.2.1, G.2.2.2.2), s.2.2.2.1, s.2.2.1)
theorem i64_32 {y : Nat} : (Int64.ofNat y).toInt32 = Int32.ofNat y := by simp
section SETTLED
variable {G : zG} {s : zP}
theorem ask_of {p : Nat} {P : Int64 × yPt} {s' : zP} (h : G.1[p]? = some P) (hk : P.2.1 ≠ 11) (h20 : G.1.length ≤ 20) : yAsk (fF G s') (Int32.ofNat p) := by
  have hl := (List.getElem?_eq_some_iff.mp h).1
  have e := yi_nat (i := p) (by omega)
  refine ⟨by omega, P.2, ?_, hk⟩
  rw [e, Int.toNat_natCast]
  show (G.1.map Prod.snd)[p]? = _
  rw [List.getElem?_map, h]; rfl
theorem rep_of (hf : nFt G s.2.2.2.2 = none) (hpw : s.2.2.2.2.Pairwise (fun u v => u.2.2.2.2 ≠ v.2.2.2.2 ∧ u.2.2.2.1 ≠ v.2.2.2.1)) (hnd : ∀ u ∈ s.2.2.2.2, Nd G.2.1.length u) (huk : Uk s) (h1 : G.1.length ≤ 20) (h2 : G.2.1.length ≤ 12) (hnl : s.2.2.2.1.length ≤ 299) {j : Nat} : ∀ (k a e n : Nat), pRep j 0 0 s k a e n → yRep (fF G (nAll G s.2.2.2.2 s)) j k a e (Int32.ofNat n)
  | 0, _, _, _, h => absurd h id
  | k + 1, a, e, n, h => by
    obtain ⟨i1, i2, i3, i4, i5, i6⟩ := nAll_eff s.2.2.2.2 s hf hpw (fun u hu => (hnd u hu).1)
    have hlt := h.lt
    obtain ⟨hn0, h2', op, one, two, val, h3, h4⟩ := h
    have en := yi_nat (i := n) (by omega)
    have nK : ∀ nd, s.2.2.2.1[n]? = some nd → (nd.1.toInt < 1 ∨ 9 < nd.1.toInt) → (nAll G s.2.2.2.2 s).2.2.2.1[n]? = some nd := by
      intro nd q1 q2
      rw [i3 n ?_]
      · exact q1
      · rintro u hu rfl
        obtain ⟨k, hk⟩ := List.getElem?_of_mem hu
        obtain ⟨⟨nd', g1, g2⟩, _⟩ := huk k u hk
        rw [g1] at q1
        cases q1
        omega
    have cK : ∀ (c : Nat) d, s.2.2.1[c]? = some d → (d.1.toInt < 7 ∨ 14 < d.1.toInt) → (nAll G s.2.2.2.2 s).2.2.1[c]? = some d := by
      intro c d q1 q2
      rw [i2 c ?_]
      · exact q1
      · intro u hu hc
        obtain ⟨k, hk⟩ := List.getElem?_of_mem hu
        obtain ⟨d', g1, g2⟩ := (huk k u hk).2 c hc
        rw [g1] at q1
        cases q1
        omega
    have uS : ∀ (c t : Nat) d, US s 0 c n t → s.2.2.1[c]? = some d → ∃ x, (nAll G s.2.2.2.2 s).2.2.1[c]? = some (nCw x d) ∧ (nAll G s.2.2.2.2 s).2.2.2.1[n]? = some (nNw x (op, one, two, val)) ∧ ((∃ i, x = (true, i) ∧ i < t ∧ i < 12) ∨ ∃ p, x = (false, p) ∧ yAsk (fF G (nAll G s.2.2.2.2 s)) (Int32.ofNat p)) := by
      rintro c t d ⟨u, a', b, t', _, u1, u2⟩ hd
      obtain ⟨x, x1, x2, x3⟩ := i1 _ (List.mem_of_getElem? u1)
      refine ⟨x, x2 c d rfl hd, x3 _ h3, ?_⟩
      have x1 : nRes G b t' = some x := x1
      rcases nRes_cases (G := G) (b := b) (t := t') h1 h2 with ⟨i, f1, f2, f3, f4, f5⟩ | ⟨f1, p, P, f2, f3, f4, f5⟩ | ⟨f1, f5, f2⟩
      · rw [f5] at x1; cases x1
        exact Or.inl ⟨i, rfl, by omega, by omega⟩
      · rw [f5] at x1; cases x1
        exact Or.inr ⟨p, rfl, ask_of f3 f4 h1⟩
      · rw [f5] at x1; cases x1
    have u0 : ∀ (c : Nat) d, US s 0 c n 0 → s.2.2.1[c]? = some d → ∃ p, (fF G (nAll G s.2.2.2.2 s)).2.2.2.2.2[c]? = some (d.1, d.2 + 8 * Int32.ofNat p) ∧ (fF G (nAll G s.2.2.2.2 s)).2.2.2.2.1[(Int32.ofNat n).toInt.toNat]? = some (op, Int32.ofNat p, two, val) ∧ yAsk (fF G (nAll G s.2.2.2.2 s)) (Int32.ofNat p) := by
      intro c d q1 q2
      obtain ⟨x, x1, x2, ⟨i, rfl, x3⟩ | ⟨p, rfl, x3⟩⟩ := uS c 0 d q1 q2
      · omega
      · refine ⟨p, ?_, ?_, x3⟩
        · rw [Int32.mul_comm]; exact x1
        · rw [en, Int.toNat_natCast]; exact x2
    have en' : (Int32.ofNat n).toInt.toNat = n := by rw [en, Int.toNat_natCast]
    have sub := rep_of (j := j) hf hpw hnd huk h1 h2 hnl k
    rw [yRep]
    refine ⟨by omega, ?_⟩
    rcases h4 with ⟨rfl, q1, v, q2, q3⟩ | ⟨rfl, q1, q2, q3⟩ | ⟨rfl, x, rfl, q2, q3, q4⟩ | ⟨rfl, m, x, y, rfl, rfl, q3, q4, q5, q6⟩ | ⟨rfl, q1, q2, q3⟩ | ⟨rfl, q1, q2, q3⟩ | ⟨rfl, q1, q2, q3, q4⟩ | ⟨rfl, q1, q2, q3⟩ | ⟨rfl, x, rfl, q2, q3, q4⟩ | ⟨rfl, m, x, y, rfl, rfl, q3, q4, q5, q6⟩ | ⟨q0, m, x, y, rfl, rfl, q3, q4, q5, q6⟩ | ⟨q0, x, rfl, q2, q3⟩ | ⟨q0, q0', m, x, y, rfl, rfl, q3, q4, q5⟩
    · exact ⟨_, _, _, _, by rw [en']; exact nK _ h3 (Or.inl (by show (0 : Int32).toInt < 1; decide)), Or.inl ⟨rfl, q1, v, cK _ _ q2 (Or.inl (by show (1 : Int32).toInt < 7; decide)), q3⟩⟩
    · obtain ⟨x, x1, x2, ⟨i, rfl, x3, x4⟩ | ⟨p, rfl, x3⟩⟩ := uS a j _ q3 q2
      · have := yi_nat (i := i) (by omega)
        exact ⟨_, _, _, _, by rw [en']; exact x2, Or.inr (Or.inr (Or.inl ⟨rfl, q1, x1, by dsimp only; omega, by dsimp only; omega⟩))⟩
      · exact ⟨_, _, _, _, by rw [en']; exact x2, Or.inr (Or.inl ⟨rfl, q1, by rw [show (8 : Int32) * Int32.ofNat p = 0 + Int32.ofNat p * 8 by rw [Int32.zero_add, Int32.mul_comm]]; exact x1, x3⟩)⟩
    · obtain ⟨p, p1, p2, p3⟩ := u0 _ _ q4 q3
      exact ⟨_, _, _, _, p2, Or.inr (Or.inr (Or.inr (Or.inl ⟨rfl, h2', sub _ _ _ q2, by rw [p1, Int32.zero_add], p3⟩)))⟩
    · obtain ⟨p, p1, p2, p3⟩ := u0 _ _ q6 q5
      exact ⟨_, _, _, _, p2, Or.inr (Or.inr (Or.inr (Or.inr (Or.inl ⟨rfl, h2', m, sub _ _ _ q3, by rw [i64_32]; exact sub _ _ _ q4, by rw [p1, Int32.zero_add], p3⟩))))⟩
    · obtain ⟨p, p1, p2, p3⟩ := u0 _ _ q3 q2
      exact ⟨_, _, _, _, p2, Or.inr (Or.inr (Or.inr (Or.inr (Or.inr (Or.inl ⟨rfl, q1, by rw [p1, Int32.zero_add], p3⟩)))))⟩
    · obtain ⟨p, p1, p2, p3⟩ := u0 _ _ q3 q2
      exact ⟨_, _, _, _, p2, Or.inr (Or.inr (Or.inr (Or.inr (Or.inr (Or.inr (Or.inl ⟨rfl, q1, by rw [p1, Int32.zero_add], p3⟩))))))⟩
    · obtain ⟨p, p1, p2, p3⟩ := u0 _ _ q3 q2
      exact ⟨_, _, _, _, p2, Or.inr (Or.inr (Or.inr (Or.inr (Or.inr (Or.inr (Or.inr (Or.inl ⟨rfl, q1, by rw [p1, Int32.add_comm], p3, q4⟩)))))))⟩
    · obtain ⟨p, p1, p2, p3⟩ := u0 _ _ q3 q2
      exact ⟨_, _, _, _, p2, Or.inr (Or.inr (Or.inr (Or.inr (Or.inr (Or.inr (Or.inr (Or.inr (Or.inl ⟨rfl, q1, by rw [p1, Int32.zero_add], p3⟩))))))))⟩
    · obtain ⟨p, p1, p2, p3⟩ := u0 _ _ q4 q3
      exact ⟨_, _, _, _, p2, Or.inr (Or.inr (Or.inr (Or.inr (Or.inr (Or.inr (Or.inr (Or.inr (Or.inr (Or.inl ⟨rfl, h2', sub _ _ _ q2, by rw [p1, Int32.zero_add], p3⟩)))))))))⟩
    · exact ⟨_, _, _, _, by rw [en']; exact nK _ h3 (Or.inr (by show 9 < (10 : Int32).toInt; decide)), Or.inr (Or.inr (Or.inr (Or.inr (Or.inr (Or.inr (Or.inr (Or.inr (Or.inr (Or.inr (Or.inl ⟨rfl, m, cK _ _ q3 (Or.inl (by show (5 : Int32).toInt < 7; decide)), sub _ _ _ q4, cK _ _ q5 (Or.inl (by show (6 : Int32).toInt < 7; decide)), sub _ _ _ q6⟩))))))))))⟩
    · have o1 : op.toInt = 11 ∨ op.toInt = 12 := by rcases q0 with rfl | rfl; exact Or.inl (by decide); exact Or.inr (by decide)
      have o2 : (op - 8).toInt < 7 := by rcases q0 with rfl | rfl <;> decide
      exact ⟨_, _, _, _, by rw [en']; exact nK _ h3 (Or.inr (by show 9 < op.toInt; omega)), Or.inr (Or.inr (Or.inr (Or.inr (Or.inr (Or.inr (Or.inr (Or.inr (Or.inr (Or.inr (Or.inr (Or.inl ⟨q0, h2', m, sub _ _ _ q3, cK _ _ q4 (Or.inl o2), sub _ _ _ q5, cK _ _ q6 (Or.inr (by show 14 < (15 : Int32).toInt; decide))⟩)))))))))))⟩
    · have o1 : 9 < op.toInt := by rcases q0 with rfl | rfl <;> decide
      have o2 : 14 < (30 - op).toInt := by rcases q0 with rfl | rfl <;> decide
      exact ⟨_, _, _, _, by rw [en']; exact nK _ h3 (Or.inr o1), Or.inr (Or.inr (Or.inr (Or.inr (Or.inr (Or.inr (Or.inr (Or.inr (Or.inr (Or.inr (Or.inr (Or.inr (Or.inl ⟨q0, h2', sub _ _ _ q2, cK _ _ q3 (Or.inr o2)⟩))))))))))))⟩
    · have o2 : 14 < (if op.toInt < 20 then op + 6 else op - 2).toInt := by
        split
        · have : (6 : Int32).toInt = 6 := by decide
          rw [yi_plus (by omega) (by omega)]; omega
        · have : (2 : Int32).toInt = 2 := by decide
          rw [yi_sub (by omega) (by omega)]; omega
      exact ⟨_, _, _, _, by rw [en']; exact nK _ h3 (Or.inr (by show 9 < op.toInt; omega)), Or.inr (Or.inr (Or.inr (Or.inr (Or.inr (Or.inr (Or.inr (Or.inr (Or.inr (Or.inr (Or.inr (Or.inr (Or.inr ⟨q0, q0', h2', m, sub _ _ _ q3, sub _ _ _ q4, cK _ _ q5 (Or.inr o2)⟩))))))))))))⟩
end SETTLED
