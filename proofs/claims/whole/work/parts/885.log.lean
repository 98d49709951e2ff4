/-! THE LOG of the reference and the chains -/
section LOGP
variable {lg : List yLg} {gd gp gu : List Int32} {gw : List Value} {D : List xE} {i : Nat}
def lgP (i : Nat) (e : yLg) : Bool := e.1 == i && !e.2.2.2
def lgF (e : yLg) : Nat × Option yO := (e.2.1, e.2.2.1)
theorem chL_eq : chL lg i = ((lg.filter (lgP i)).map lgF).reverse := rfl
theorem lg_at {k : Nat} {e : yLg} (hL : lgA lg gd gp gu gw D) (hi : i < 1000) (he : e.1 < 1000) (hk : lg[k]? = some e) : (gd[k]? = some (Int32.ofNat i) ∧ gu[k]? = some 0) ↔ lgP i e = true := by
  obtain ⟨q1, q2, q3, -⟩ := hL.2.2 k e hk
  rw [q1, q3, lgP]
  constructor
  · rintro ⟨h1, h2⟩
    injection h1 with h1
    injection h2 with h2
    have e1 : e.1 = i := yi_inj (by omega) (by omega) h1
    have e2 : e.2.2.2 = false := by
      cases hb : e.2.2.2 with
      | false => rfl
      | true =>
        rw [hb] at h2
        exact absurd h2 (by decide)
    rw [e1, e2]
    simp
  · intro h
    simp only [Bool.and_eq_true, beq_iff_eq, Bool.not_eq_true'] at h
    rw [h.1, h.2]
    exact ⟨rfl, rfl⟩
theorem opC_ch (hL : lgA lg gd gp gu gw D) (hi : i < 1000) (he : ∀ e ∈ lg, e.1 < 1000) : ∀ k, k ≤ lg.length → opC gd gu (Int32.ofNat i) k = ((lg.take k).filter (lgP i)).length
  | 0, _ => rfl
  | k + 1, h => by
    obtain ⟨e, hk⟩ : ∃ e, lg[k]? = some e := ⟨_, List.getElem?_eq_getElem (by omega)⟩
    have hm := lg_at hL hi (he e (List.mem_of_getElem? hk)) hk
    rw [opC, opC_ch hL hi he k (by omega), List.take_add_one, hk, List.filter_append, List.length_append]
    by_cases hp : lgP i e = true
    · rw [if_pos (hm.mpr hp)]
      simp [hp]
    · rw [if_neg (fun h => hp (hm.mp h))]
      simp [hp]
theorem lsC_ch (hL : lgA lg gd gp gu gw D) (hi : i < 1000) (he : ∀ e ∈ lg, e.1 < 1000) : ∀ k, k ≤ lg.length → match lsC gd gu (Int32.ofNat i) k with
    | none => (lg.take k).filter (lgP i) = []
    | some j => j < k ∧ ∃ e, lg[j]? = some e ∧ lgP i e = true ∧ (lg.take k).filter (lgP i) = (lg.take j).filter (lgP i) ++ [e]
  | 0, _ => rfl
  | k + 1, h => by
    obtain ⟨e, hk⟩ : ∃ e, lg[k]? = some e := ⟨_, List.getElem?_eq_getElem (by omega)⟩
    have hm := lg_at hL hi (he e (List.mem_of_getElem? hk)) hk
    have ih := lsC_ch hL hi he k (by omega)
    rw [lsC]
    by_cases hp : lgP i e = true
    · rw [if_pos (hm.mpr hp)]
      refine ⟨by omega, e, hk, hp, ?_⟩
      rw [List.take_add_one, hk, List.filter_append]
      simp [hp]
    · rw [if_neg (fun h => hp (hm.mp h))]
      have eq : (lg.take (k + 1)).filter (lgP i) = (lg.take k).filter (lgP i) := by
        rw [List.take_add_one, hk, List.filter_append]
        simp [hp]
      rw [eq]
      cases hl : lsC gd gu (Int32.ofNat i) k with
      | none =>
        rw [hl] at ih
        exact ih
      | some j =>
        rw [hl] at ih
        obtain ⟨h1, h2⟩ := ih
        exact ⟨by omega, h2⟩
theorem chL_none (hL : lgA lg gd gp gu gw D) (hi : i < 1000) (he : ∀ e ∈ lg, e.1 < 1000) (h : lsC gd gu (Int32.ofNat i) lg.length = none) : chL lg i = [] := by
  have := lsC_ch hL hi he lg.length (Nat.le_refl _)
  rw [h] at this
  have e : (lg.take lg.length).filter (lgP i) = [] := this
  rw [List.take_length] at e
  rw [chL_eq, e]
  rfl
/-- the last that stands is taken back -/
theorem chL_some {j : Nat} (hL : lgA lg gd gp gu gw D) (hi : i < 1000) (he : ∀ e ∈ lg, e.1 < 1000) (h : lsC gd gu (Int32.ofNat i) lg.length = some j) : ∃ e, lg[j]? = some e ∧ e.1 = i ∧ chL lg i = lgF e :: chL (lg.set j (e.1, e.2.1, e.2.2.1, true)) i ∧ ∀ i2, i2 ≠ i → chL (lg.set j (e.1, e.2.1, e.2.2.1, true)) i2 = chL lg i2 := by
  have := lsC_ch hL hi he lg.length (Nat.le_refl _)
  rw [h] at this
  obtain ⟨h1, e, h2, h3, h4⟩ := this
  rw [List.take_length] at h4
  have e1 : e.1 = i := by
    rw [lgP] at h3
    simp only [Bool.and_eq_true, beq_iff_eq, Bool.not_eq_true'] at h3
    exact h3.1
  have hjl := (List.getElem?_eq_some_iff.mp h2).1
  have cut : lg = lg.take j ++ (e :: lg.drop (j + 1)) := by
    have : lg[j] = e := (List.getElem?_eq_some_iff.mp h2).2
    rw [← this, ← List.drop_eq_getElem_cons hjl, List.take_append_drop]
  have cut2 : ∀ e2, lg.set j e2 = lg.take j ++ (e2 :: lg.drop (j + 1)) := fun e2 => List.set_eq_take_append_cons_drop.trans (if_pos hjl)
  have tl : (lg.drop (j + 1)).filter (lgP i) = [] := by
    have h5 := h4
    rw [cut, List.filter_append, List.filter_cons_of_pos h3, ← cut] at h5
    have h6 := List.append_cancel_left h5
    injection h6 with _ h7
  refine ⟨e, h2, e1, ?_, fun i2 hne => ?_⟩
  · rw [chL_eq, chL_eq, h4, cut2, List.filter_append, List.filter_cons_of_neg (by simp [lgP]), tl, List.append_nil, List.map_append, List.reverse_append]
    rfl
  · rw [chL_eq, chL_eq, cut2]
    conv => rhs; rw [cut]
    rw [List.filter_append, List.filter_append, List.filter_cons_of_neg (by simp [lgP]), List.filter_cons_of_neg (by
      rw [lgP, e1]
      simp
      intro h
      exact absurd h.symm hne)]
theorem chL_push {d p : Nat} {z : Option yO} : chL (lg ++ [(d, p, z, false)]) i = if d = i then (p, z) :: chL lg i else chL lg i := by
  rw [chL_eq, chL_eq, List.filter_append]
  by_cases h : d = i
  · rw [if_pos h, List.filter_cons_of_pos (by simp [lgP, h]), List.filter_nil, List.map_append, List.reverse_append]
    rfl
  · rw [if_neg h, List.filter_cons_of_neg (by simp [lgP, h]), List.filter_nil, List.append_nil]
theorem chL_new (h : ∀ e ∈ lg, e.1 < i) : chL lg i = [] := by
  rw [chL_eq]
  have : lg.filter (lgP i) = [] := by
    rw [List.filter_eq_nil_iff]
    intro e he
    have := h e he
    rw [lgP]
    simp
    omega
  rw [this]
  rfl
theorem lg_undo {j : Nat} {e : yLg} (hL : lgA lg gd gp gu gw D) (h : lg[j]? = some e) : lgA (lg.set j (e.1, e.2.1, e.2.2.1, true)) gd gp (gu.set j 1) gw D := by
  have hjl := (List.getElem?_eq_some_iff.mp h).1
  refine ⟨by rw [List.length_set]; exact hL.1, by rw [List.length_set]; exact hL.2.1, fun k e2 hk => ?_⟩
  have := hL.1
  have := hL.2.1
  by_cases ek : j = k
  · subst ek
    rw [List.getElem?_set_self hjl] at hk
    injection hk with hk
    subst hk
    obtain ⟨q1, q2, q3, q4⟩ := hL.2.2 _ e h
    exact ⟨q1, q2, by rw [List.getElem?_set_self (by omega)]; rfl, q4⟩
  · rw [List.getElem?_set_ne ek] at hk
    obtain ⟨q1, q2, q3, q4⟩ := hL.2.2 _ e2 hk
    exact ⟨q1, q2, by rw [List.getElem?_set_ne ek]; exact q3, q4⟩
end LOGP
