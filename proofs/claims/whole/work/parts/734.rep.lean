/-! WHAT AN EXP LEFT: its code from a up to e, and its node n, say the same; names not yet settled -/
/-- the name whose code is at c and whose node is n; t figures told at the most -/
def US (s : zP) (u0 c n t : Nat) : Prop := ∃ (u a : Nat) (b : Int64) (t' : Nat), u0 ≤ u ∧ s.2.2.2.2[u]? = some (a, b, t', some c, n) ∧ t' ≤ t
def pRep (j n0 u0 : Nat) (s : zP) : Nat → Nat → Nat → Nat → Prop
  | 0, _, _, _ => False
  | k + 1, a, e, n => n0 ≤ n ∧ a < e ∧ ∃ op one two val, s.2.2.2.1[n]? = some (op, one, two, val) ∧ (
      (op = 0 ∧ e = a + 1 ∧ ∃ v, s.2.2.1[a]? = some (1, v) ∧ val = v.toInt64)
    ∨ (op = 1 ∧ e = a + 1 ∧ s.2.2.1[a]? = some (7, 0) ∧ US s u0 a n j)
    ∨ (op = 3 ∧ ∃ x, two = Int32.ofNat x ∧ pRep j n0 u0 s k a (e - 1) x ∧ s.2.2.1[e - 1]? = some (12, 0) ∧ US s u0 (e - 1) n 0)
    ∨ (op = 4 ∧ ∃ m x y, two = Int32.ofNat x ∧ val = Int64.ofNat y ∧ pRep j n0 u0 s k a m x ∧ pRep j n0 u0 s k m (e - 1) y ∧ s.2.2.1[e - 1]? = some (13, 0) ∧ US s u0 (e - 1) n 0)
    ∨ (op = 5 ∧ e = a + 1 ∧ s.2.2.1[a]? = some (8, 0) ∧ US s u0 a n 0)
    ∨ (op = 6 ∧ e = a + 1 ∧ s.2.2.1[a]? = some (9, 0) ∧ US s u0 a n 0)
    ∨ (op = 7 ∧ e = a + 1 ∧ s.2.2.1[a]? = some (10, two) ∧ US s u0 a n 0 ∧ 0 ≤ two.toInt ∧ two.toInt < 8)
    ∨ (op = 8 ∧ e = a + 1 ∧ s.2.2.1[a]? = some (11, 0) ∧ US s u0 a n 0)
    ∨ (op = 9 ∧ ∃ x, two = Int32.ofNat x ∧ pRep j n0 u0 s k a (e - 1) x ∧ s.2.2.1[e - 1]? = some (14, 0) ∧ US s u0 (e - 1) n 0)
    ∨ (op = 10 ∧ ∃ m x y, one = Int32.ofNat x ∧ two = Int32.ofNat y ∧ s.2.2.1[a]? = some (5, Int32.ofNat (m + 1)) ∧ pRep j n0 u0 s k (a + 1) m x ∧ s.2.2.1[m]? = some (6, Int32.ofNat e) ∧ pRep j n0 u0 s k (m + 1) e y)
    ∨ ((op = 11 ∨ op = 12) ∧ ∃ m x y, one = Int32.ofNat x ∧ two = Int32.ofNat y ∧ pRep j n0 u0 s k a m x ∧ s.2.2.1[m]? = some (op - 8, Int32.ofNat e) ∧ pRep j n0 u0 s k (m + 1) (e - 1) y ∧ s.2.2.1[e - 1]? = some (15, 0))
    ∨ ((op = 13 ∨ op = 14) ∧ ∃ x, one = Int32.ofNat x ∧ pRep j n0 u0 s k a (e - 1) x ∧ s.2.2.1[e - 1]? = some (30 - op, 0))
    ∨ (15 ≤ op.toInt ∧ op.toInt ≤ 22 ∧ ∃ m x y, one = Int32.ofNat x ∧ two = Int32.ofNat y ∧ pRep j n0 u0 s k a m x ∧ pRep j n0 u0 s k m (e - 1) y ∧ s.2.2.1[e - 1]? = some (if op.toInt < 20 then op + 6 else op - 2, 0)))
theorem pRep.lt {j n0 u0 : Nat} {s : zP} {k a e n : Nat} (h : pRep j n0 u0 s k a e n) : a < e ∧ n0 ≤ n ∧ n < s.2.2.2.1.length := by
  cases k with
  | zero => exact absurd h id
  | succ k =>
    obtain ⟨h1, h2, op, one, two, val, h3, _⟩ := h
    exact ⟨h2, h1, (List.getElem?_eq_some_iff.mp h3).1⟩
theorem US.mv {s s' : zP} {u0 u0' c n t t' : Nat} (hu0 : u0' ≤ u0) (ht : t ≤ t') (hu : ∀ i, u0 ≤ i → i < s.2.2.2.2.length → s'.2.2.2.2[i]? = s.2.2.2.2[i]?) (h : US s u0 c n t) : US s' u0' c n t' := by
  obtain ⟨u, a, b, t1, h1, h2, h3⟩ := h
  exact ⟨u, a, b, t1, by omega, by rw [hu u h1 (List.getElem?_eq_some_iff.mp h2).1]; exact h2, by omega⟩
/-- it stays, whatever else is done -/
theorem pRep.mv {j j' n0 u0 n0' u0' : Nat} {s s' : zP} (hj : j ≤ j') (hn0 : n0' ≤ n0) (hu0 : u0' ≤ u0) (hn : ∀ i, n0 ≤ i → i < s.2.2.2.1.length → s'.2.2.2.1[i]? = s.2.2.2.1[i]?) (hu : ∀ i, u0 ≤ i → i < s.2.2.2.2.length → s'.2.2.2.2[i]? = s.2.2.2.2[i]?) : ∀ (k k' a e n : Nat), k ≤ k' → (∀ i, a ≤ i → i < e → s'.2.2.1[i]? = s.2.2.1[i]?) → pRep j n0 u0 s k a e n → pRep j' n0' u0' s' k' a e n
  | 0, _, _, _, _, _, _, h => absurd h id
  | k + 1, 0, _, _, _, hk, _, _ => by omega
  | k + 1, k' + 1, a, e, n, hk, hc, h => by
    have hlt := h.lt
    obtain ⟨h1, h2, op, one, two, val, h3, h4⟩ := h
    have sub : ∀ (a' e' n' : Nat), a ≤ a' → e' ≤ e → pRep j n0 u0 s k a' e' n' → pRep j' n0' u0' s' k' a' e' n' := fun a' e' n' ha he hh => pRep.mv hj hn0 hu0 hn hu k k' a' e' n' (by omega) (fun i q1 q2 => hc i (by omega) (by omega)) hh
    have us : ∀ (c t t' : Nat), t ≤ t' → US s u0 c n t → US s' u0' c n t' := fun c t t' ht hh => US.mv hu0 ht hu hh
    have ca := hc a (by omega) h2
    have ce := hc (e - 1) (by omega) (by omega)
    refine ⟨by omega, h2, op, one, two, val, by rw [hn n h1 hlt.2.2]; exact h3, ?_⟩
    rcases h4 with ⟨rfl, q1, v, q2, q3⟩ | ⟨rfl, q1, q2, q3⟩ | ⟨rfl, x, q1, q2, q3, q4⟩ | ⟨rfl, m, x, y, q1, q2, q3, q4, q5, q6⟩ | ⟨rfl, q1, q2, q3⟩ | ⟨rfl, q1, q2, q3⟩ | ⟨rfl, q1, q2, q3, q4⟩ | ⟨rfl, q1, q2, q3⟩ | ⟨rfl, x, q1, q2, q3, q4⟩ | ⟨rfl, m, x, y, q1, q2, q3, q4, q5, q6⟩ | ⟨q0, m, x, y, q1, q2, q3, q4, q5, q6⟩ | ⟨q0, x, q1, q2, q3⟩ | ⟨q0, q0', m, x, y, q1, q2, q3, q4, q5⟩
    · exact Or.inl ⟨rfl, q1, v, by rw [ca]; exact q2, q3⟩
    · exact Or.inr (Or.inl ⟨rfl, q1, by rw [ca]; exact q2, us _ _ _ hj q3⟩)
    · exact Or.inr (Or.inr (Or.inl ⟨rfl, x, q1, sub _ _ _ (by omega) (by omega) q2, by rw [ce]; exact q3, us _ _ _ (Nat.le_refl _) q4⟩))
    · have l3 := q3.lt
      have l4 := q4.lt
      exact Or.inr (Or.inr (Or.inr (Or.inl ⟨rfl, m, x, y, q1, q2, sub _ _ _ (by omega) (by omega) q3, sub _ _ _ (by omega) (by omega) q4, by rw [ce]; exact q5, us _ _ _ (Nat.le_refl _) q6⟩)))
    · exact Or.inr (Or.inr (Or.inr (Or.inr (Or.inl ⟨rfl, q1, by rw [ca]; exact q2, us _ _ _ (Nat.le_refl _) q3⟩))))
    · exact Or.inr (Or.inr (Or.inr (Or.inr (Or.inr (Or.inl ⟨rfl, q1, by rw [ca]; exact q2, us _ _ _ (Nat.le_refl _) q3⟩)))))
    · exact Or.inr (Or.inr (Or.inr (Or.inr (Or.inr (Or.inr (Or.inl ⟨rfl, q1, by rw [ca]; exact q2, us _ _ _ (Nat.le_refl _) q3, q4⟩))))))
    · exact Or.inr (Or.inr (Or.inr (Or.inr (Or.inr (Or.inr (Or.inr (Or.inl ⟨rfl, q1, by rw [ca]; exact q2, us _ _ _ (Nat.le_refl _) q3⟩)))))))
    · exact Or.inr (Or.inr (Or.inr (Or.inr (Or.inr (Or.inr (Or.inr (Or.inr (Or.inl ⟨rfl, x, q1, sub _ _ _ (by omega) (by omega) q2, by rw [ce]; exact q3, us _ _ _ (Nat.le_refl _) q4⟩))))))))
    · have l4 := q4.lt
      have l6 := q6.lt
      exact Or.inr (Or.inr (Or.inr (Or.inr (Or.inr (Or.inr (Or.inr (Or.inr (Or.inr (Or.inl ⟨rfl, m, x, y, q1, q2, by rw [ca]; exact q3, sub _ _ _ (by omega) (by omega) q4, by rw [hc m (by omega) (by omega)]; exact q5, sub _ _ _ (by omega) (by omega) q6⟩)))))))))
    · have l3 := q3.lt
      have l5 := q5.lt
      exact Or.inr (Or.inr (Or.inr (Or.inr (Or.inr (Or.inr (Or.inr (Or.inr (Or.inr (Or.inr (Or.inl ⟨q0, m, x, y, q1, q2, sub _ _ _ (by omega) (by omega) q3, by rw [hc m (by omega) (by omega)]; exact q4, sub _ _ _ (by omega) (by omega) q5, by rw [ce]; exact q6⟩))))))))))
    · exact Or.inr (Or.inr (Or.inr (Or.inr (Or.inr (Or.inr (Or.inr (Or.inr (Or.inr (Or.inr (Or.inr (Or.inl ⟨q0, x, q1, sub _ _ _ (by omega) (by omega) q2, by rw [ce]; exact q3⟩)))))))))))
    · have l3 := q3.lt
      have l4 := q4.lt
      exact Or.inr (Or.inr (Or.inr (Or.inr (Or.inr (Or.inr (Or.inr (Or.inr (Or.inr (Or.inr (Or.inr (Or.inr ⟨q0, q0', m, x, y, q1, q2, sub _ _ _ (by omega) (by omega) q3, sub _ _ _ (by omega) (by omega) q4, by rw [ce]; exact q5⟩)))))))))))
