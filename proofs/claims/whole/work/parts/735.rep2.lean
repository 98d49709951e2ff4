/-! WHAT AN EXP LEFT: leaves and names -/
def vaOk (tk : List zK) : Prop := ∀ k, kd tk k = 2 → (va tk k).toInt32.toInt64 = va tk k
/-- what was read from s to s' is node n -/
def Rp (fg : Nat) (s s' : zP) (n : Nat) : Prop := pRep fg s.2.2.2.1.length s.2.2.2.2.length s' (s'.2.1 - s.2.1) s.2.2.1.length s'.2.2.1.length n
def RepL (fg : Nat) (rl : Nat → Nat → zP → zF Nat) : Prop := ∀ l i s s' n, rl l i s = .inl (s', n) → Rp fg s s' n
def RepO (fg : Nat) (ro : Nat → zP → zF Nat) : Prop := ∀ i s s' n, ro i s = .inl (s', n) → Rp fg s s' n
theorem pEnd_inl {d w : Int32} {u : Nat} {us : zU} {x n : Nat} {s s' : zP} (h : pEnd d w u us x s = .inl (s', n)) : n = x ∧ s' = (s.1, s.2.1, s.2.2.1 ++ [(d, w)], s.2.2.2.1, s.2.2.2.2.set u (us.1, us.2.1, us.2.2.1, some s.2.2.1.length, us.2.2.2.2)) := by
  unfold pEnd at h
  obtain ⟨s2, c, q1, q2⟩ := pb_inl h
  obtain ⟨_, rfl, rfl⟩ := sEm_inl q1
  cases q2
  exact ⟨rfl, rfl⟩
section REP2
variable {tk : List zK} {s s' : zP} {fg : Nat} {rl : Nat → Nat → zP → zF Nat} {ro : Nat → zP → zF Nat} {i n : Nat}
theorem rep_num (hva : vaOk tk) (hk : kd tk s.1 = 2) (h : (pb (sNo s) fun s _ => pb (sEm s 1 (va tk s.1).toInt32) fun s _ => pb (sNd s (0, 0, 0, va tk s.1)) fun s n => .inl (sNx s, n)) = .inl (s', n)) : Rp fg s s' n := by
  obtain ⟨s1, _, q1, h⟩ := pb_inl h
  obtain ⟨s2, c, q2, h⟩ := pb_inl h
  obtain ⟨s3, m, q3, h⟩ := pb_inl h
  cases h
  obtain ⟨_, rfl, rfl⟩ := sNd_inl q3
  obtain ⟨_, rfl, rfl⟩ := sEm_inl q2
  obtain ⟨_, rfl⟩ := sNo_inl q1
  unfold Rp
  show pRep fg s.2.2.2.1.length s.2.2.2.2.length _ (s.2.1 + 1 - s.2.1) s.2.2.1.length (s.2.2.1 ++ [(1, (va tk s.1).toInt32)]).length s.2.2.2.1.length
  rw [Nat.add_sub_cancel_left, List.length_append, List.length_singleton]
  refine ⟨Nat.le_refl _, Nat.lt_succ_self _, 0, 0, 0, va tk s.1, ?_, Or.inl ⟨rfl, rfl, (va tk s.1).toInt32, ?_, (hva _ hk).symm⟩⟩
  · show (s.2.2.2.1 ++ [_])[s.2.2.2.1.length]? = _
    simp
  · show (s.2.2.1 ++ [_])[s.2.2.1.length]? = _
    simp
/-- a name by itself, or asked for: one code, one node -/
theorem rep_use {d w : Int32} {u t : Nat} {x : yNd} {a : Nat} {b : Int64} (s3 : zP) (hc : s3.2.2.1 = s.2.2.1) (hn : s3.2.2.2.1[n]? = some x) (hn0 : s.2.2.2.1.length ≤ n) (hu : u < s3.2.2.2.2.length) (hu0 : s.2.2.2.2.length ≤ u) (ho : s.2.1 < s3.2.1) (hs : s' = (s3.1, s3.2.1, s3.2.2.1 ++ [(d, w)], s3.2.2.2.1, s3.2.2.2.2.set u (a, b, t, some s3.2.2.1.length, n))) (hx : ∀ (U : ∀ t0, t ≤ t0 → US s' s.2.2.2.2.length s.2.2.1.length n t0), (x.1 = 1 ∧ d = 7 ∧ w = 0 ∧ t ≤ fg) ∨ (x.1 = 5 ∧ d = 8 ∧ w = 0 ∧ t = 0) ∨ (x.1 = 6 ∧ d = 9 ∧ w = 0 ∧ t = 0) ∨ (x.1 = 7 ∧ d = 10 ∧ w = x.2.2.1 ∧ t = 0 ∧ 0 ≤ w.toInt ∧ w.toInt < 8) ∨ (x.1 = 8 ∧ d = 11 ∧ w = 0 ∧ t = 0)) : Rp fg s s' n := by
  have U : ∀ t0, t ≤ t0 → US s' s.2.2.2.2.length s.2.2.1.length n t0 := by
    intro t0 ht
    refine ⟨u, a, b, t, hu0, ?_, ht⟩
    rw [hs]
    show (s3.2.2.2.2.set u (a, b, t, some s3.2.2.1.length, n))[u]? = _
    rw [List.getElem?_set_self hu, hc]
  have hcode : s'.2.2.1[s.2.2.1.length]? = some (d, w) := by
    rw [hs]
    show (s3.2.2.1 ++ [(d, w)])[s.2.2.1.length]? = _
    rw [hc]; simp
  have hlen : s'.2.2.1.length = s.2.2.1.length + 1 := by
    rw [hs]
    show (s3.2.2.1 ++ [(d, w)]).length = _
    rw [List.length_append, hc]; rfl
  have hno : s'.2.1 - s.2.1 = (s3.2.1 - s.2.1 - 1) + 1 := by
    rw [hs]
    show s3.2.1 - s.2.1 = _
    omega
  have hnode : s'.2.2.2.1[n]? = some x := by rw [hs]; exact hn
  unfold Rp
  rw [hno, hlen]
  obtain ⟨op, one, two, val⟩ := x
  refine ⟨hn0, Nat.lt_succ_self _, op, one, two, val, hnode, ?_⟩
  rcases hx U with ⟨rfl, rfl, rfl, ht⟩ | ⟨rfl, rfl, rfl, ht⟩ | ⟨rfl, rfl, rfl, ht⟩ | ⟨rfl, rfl, rfl, ht, h0, h8⟩ | ⟨rfl, rfl, rfl, ht⟩
  · exact Or.inr (Or.inl ⟨rfl, rfl, hcode, U _ ht⟩)
  · exact Or.inr (Or.inr (Or.inr (Or.inr (Or.inl ⟨rfl, rfl, hcode, U _ (by omega)⟩))))
  · exact Or.inr (Or.inr (Or.inr (Or.inr (Or.inr (Or.inl ⟨rfl, rfl, hcode, U _ (by omega)⟩)))))
  · exact Or.inr (Or.inr (Or.inr (Or.inr (Or.inr (Or.inr (Or.inl ⟨rfl, rfl, hcode, U _ (by omega), h0, h8⟩))))))
  · exact Or.inr (Or.inr (Or.inr (Or.inr (Or.inr (Or.inr (Or.inr (Or.inl ⟨rfl, rfl, hcode, U _ (by omega)⟩)))))))
/-- a name and what stands in its brackets -/
theorem rep_at {d : Int32} {u m x : Nat} {nd : yNd} {a : Nat} {b : Int64} (s3 s5 : zP) (hc : s3.2.2.1 = s.2.2.1) (hn : n < s3.2.2.2.1.length) (hn0 : s.2.2.2.1.length = n) (hu : u < s3.2.2.2.2.length) (hu0 : s.2.2.2.2.length = u) (ho : s.2.1 < s3.2.1) (ex : Ext s3 s5) (hx : Rp fg s3 s5 x) (hs : s' = (m, s5.2.1, s5.2.2.1 ++ [(d, 0)], s5.2.2.2.1.set n nd, s5.2.2.2.2.set u (a, b, 0, some s5.2.2.1.length, n))) (hd : (nd = (3, 0, Int32.ofNat x, 0) ∧ d = 12) ∨ (nd = (9, 0, Int32.ofNat x, 0) ∧ d = 14)) : Rp fg s s' n := by
  obtain ⟨x1, x2, x3, x4, x5, x6, x7, x8⟩ := ex
  have U : US s' s.2.2.2.2.length s5.2.2.1.length n 0 := by
    refine ⟨u, a, b, 0, by omega, ?_, Nat.le_refl _⟩
    rw [hs]
    show (s5.2.2.2.2.set u (a, b, 0, some s5.2.2.1.length, n))[u]? = _
    rw [List.getElem?_set_self (by omega)]
  have hcode : s'.2.2.1[s5.2.2.1.length]? = some (d, 0) := by
    rw [hs]
    show (s5.2.2.1 ++ [(d, 0)])[s5.2.2.1.length]? = _
    simp
  have hlen : s'.2.2.1.length = s5.2.2.1.length + 1 := by
    rw [hs]
    show (s5.2.2.1 ++ [(d, 0)]).length = _
    rw [List.length_append]; rfl
  have hno : s'.2.1 - s.2.1 = (s5.2.1 - s.2.1 - 1) + 1 := by
    rw [hs]
    show s5.2.1 - s.2.1 = _
    omega
  have hnode : s'.2.2.2.1[n]? = some nd := by
    rw [hs]
    show (s5.2.2.2.1.set n nd)[n]? = _
    rw [List.getElem?_set_self (by omega)]
  have hsub : pRep fg s.2.2.2.1.length s.2.2.2.2.length s' (s5.2.1 - s.2.1 - 1) s.2.2.1.length s5.2.2.1.length x := by
    have hx' := hx
    unfold Rp at hx'
    rw [hc] at hx'
    refine pRep.mv (Nat.le_refl _) (by omega) (by omega) ?_ ?_ _ _ _ _ _ (by omega) ?_ hx'
    · intro k k1 k2
      rw [hs]
      show (s5.2.2.2.1.set n nd)[k]? = _
      rw [List.getElem?_set_ne (by omega)]
    · intro k k1 k2
      rw [hs]
      show (s5.2.2.2.2.set u _)[k]? = _
      rw [List.getElem?_set_ne (by omega)]
    · intro k k1 k2
      rw [hs]
      show (s5.2.2.1 ++ [(d, 0)])[k]? = _
      rw [List.getElem?_append_left k2]
  have hl := hsub.lt
  unfold Rp
  rw [hno, hlen]
  rcases hd with ⟨rfl, rfl⟩ | ⟨rfl, rfl⟩
  · exact ⟨by omega, by omega, 3, 0, Int32.ofNat x, 0, hnode, Or.inr (Or.inr (Or.inl ⟨rfl, x, rfl, hsub, hcode, U⟩))⟩
  · exact ⟨by omega, by omega, 9, 0, Int32.ofNat x, 0, hnode, Or.inr (Or.inr (Or.inr (Or.inr (Or.inr (Or.inr (Or.inr (Or.inr (Or.inl ⟨rfl, x, rfl, hsub, hcode, U⟩))))))))⟩
end REP2
