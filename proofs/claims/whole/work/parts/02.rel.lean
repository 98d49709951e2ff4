/-! HOW THE ABSTRACT MACHINE'S LOCALS, VALUES AND HEAP STAND FOR THE MACHINE'S -/
/-- a value: a reference is a place, ad says its address -/
def xcn (ad : Nat → Nat) (v : Value) : Value := match v with
  | .ref k => .ref (ad k)
  | v => v
theorem xcn_cat (ad : Nat → Nat) (v : Value) : (xcn ad v).category = v.category := by cases v <;> rfl
theorem xcn_def (ad : Nat → Nat) (ty : FieldType) : xcn ad (defaultValue ty) = defaultValue ty := by cases ty <;> rfl
theorem xcats_map (ad : Nat → Nat) (st : List Value) : ((st.map (xcn ad)).map fun v => v.category).sum = xcats st := by
  unfold xcats
  induction st with
  | nil => rfl
  | cons v r ih => simp only [List.map_cons, List.sum_cons, xcn_cat, ih]
theorem xfit_ok {ty : FieldType} {v : Value} (ad : Nat → Nat) (h : xfit ty v = true) : narrow ty (xcn ad v) = xcn ad v ∧ fits ty (xcn ad v) = true := by
  unfold xfit at h
  split at h
  · exact ⟨rfl, rfl⟩
  · exact ⟨rfl, rfl⟩
  · rename_i x
    simp only [Bool.or_eq_true, beq_iff_eq] at h
    rcases h with rfl | rfl
    · exact ⟨(by decide : narrow FieldType.boolean (.int 0) = .int 0), (by decide : fits .boolean (.int 0) = true)⟩
    · exact ⟨(by decide : narrow FieldType.boolean (.int 1) = .int 1), (by decide : fits .boolean (.int 1) = true)⟩
  · rename_i x
    have e : x.toInt8.toInt32 = x := by simpa using h
    rw [← e]
    exact ⟨pk_nb _, pk_fb _⟩
  · rename_i x
    have e : (x.toUInt32 % 65536).toInt32 = x := by simpa using h
    rw [← e]
    exact ⟨pk_nc _, pk_fc _⟩
  · exact ⟨rfl, rfl⟩
  · exact ⟨rfl, rfl⟩
  · exact ⟨rfl, rfl⟩
  · exact ⟨rfl, rfl⟩
  · cases h
/-- the locals -/
def xLR (ad : Nat → Nat) (ls : Array Slot) (L : xL) : Prop := ls.size = L.length ∧ lv_wf ls ∧ ∀ (i : Nat) (v : Value), L[i]? = some (some v) → ls[i]? = some (.val (xcn ad v))
def xprs (ad : Nat → Nat) (L : xL) : List (Nat × Value) := (List.range L.length).filterMap fun i => match L[i]? with
  | some (some v) => some (i, xcn ad v)
  | _ => none
theorem xprs_mem {ad : Nat → Nat} {L : xL} {i : Nat} {w : Value} : (i, w) ∈ xprs ad L ↔ ∃ v, L[i]? = some (some v) ∧ w = xcn ad v := by
  unfold xprs
  rw [List.mem_filterMap]
  constructor
  · rintro ⟨j, -, h⟩
    split at h
    · rename_i v hv
      cases h
      exact ⟨v, hv, rfl⟩
    · cases h
  · rintro ⟨v, hv, rfl⟩
    refine ⟨i, List.mem_range.mpr (List.getElem?_eq_some_iff.mp hv).1, ?_⟩
    rw [hv]
theorem xLR.has {ad : Nat → Nat} {ls : Array Slot} {L : xL} (h : xLR ad ls L) : lv_has ls L.length (xprs ad L) := by
  refine ⟨h.1, h.2.1, ?_⟩
  rintro ⟨i, w⟩ hq
  obtain ⟨v, hv, rfl⟩ := xprs_mem.mp hq
  exact h.2.2 i v hv
theorem xst1_len (L : xL) (i : Nat) (v : Value) : (xst1 L i v).length = L.length := by
  unfold xst1
  split
  · simp
  · split
    · split <;> simp
    · simp
theorem xst1_at {L : xL} {i : Nat} {v : Value} {j : Nat} {w : Value} (h : (xst1 L i v)[j]? = some (some w)) : (j = i ∧ w = v) ∨ (¬ j = i ∧ L[j]? = some (some w) ∧ ¬ (j + 1 = i ∧ w.category = 2)) := by
  unfold xst1 at h
  split at h
  · rw [List.getElem?_set] at h
    split at h
    · split at h
      · cases h; left; exact ⟨by omega, rfl⟩
      · cases h
    · right; exact ⟨by omega, h, fun q => by omega⟩
  · rename_i i0
    split at h
    · rename_i u hu
      split at h
      · rename_i hc
        rw [List.getElem?_set] at h
        split at h
        · split at h
          · cases h
          · cases h
        · rw [List.getElem?_set] at h
          split at h
          · split at h
            · cases h; left; exact ⟨by omega, rfl⟩
            · cases h
          · right; exact ⟨by omega, h, fun q => by omega⟩
      · rename_i hc
        rw [List.getElem?_set] at h
        split at h
        · split at h
          · cases h; left; exact ⟨by omega, rfl⟩
          · cases h
        · right
          refine ⟨by omega, h, fun q => ?_⟩
          have e : j = i0 := by omega
          subst e
          rw [hu] at h
          cases h
          exact hc q.2
    · rename_i hu
      rw [List.getElem?_set] at h
      split at h
      · split at h
        · cases h; left; exact ⟨by omega, rfl⟩
        · cases h
      · right
        refine ⟨by omega, h, fun q => ?_⟩
        have e : j = i0 := by omega
        subst e
        exact hu w h
theorem xLR.st1 {ad : Nat → Nat} {ls' : Array Slot} {L : xL} {i : Nat} {v : Value} (h : lv_has ls' L.length ((i, xcn ad v) :: (xprs ad L).filter (fun q => !(q.1 == i) && !(q.1 + 1 == i && q.2.category == 2)))) : xLR ad ls' (xst1 L i v) := by
  refine ⟨by rw [xst1_len]; exact h.1, h.2.1, fun j w hj => ?_⟩
  rcases xst1_at hj with ⟨rfl, rfl⟩ | ⟨h1, h2, h3⟩
  · exact h.2.2 (j, xcn ad w) List.mem_cons_self
  · refine h.2.2 (j, xcn ad w) (List.mem_cons_of_mem _ (List.mem_filter.mpr ⟨xprs_mem.mpr ⟨w, h2, rfl⟩, ?_⟩))
    simp only [xcn_cat, Bool.and_eq_true, Bool.not_eq_true', beq_eq_false_iff_ne, Bool.and_eq_false_iff]
    refine ⟨h1, ?_⟩
    by_cases e : j + 1 = i
    · right; exact fun q => h3 ⟨e, q⟩
    · left; exact e
theorem xLR.st2 {ad : Nat → Nat} {ls' : Array Slot} {L : xL} {i : Nat} {v : Value} (h : lv_has ls' L.length ((i, xcn ad v) :: (xprs ad L).filter (fun q => !(q.1 == i) && (!(q.1 == i + 1) && !(q.1 + 1 == i && q.2.category == 2))))) : xLR ad ls' (xst2 L i v) := by
  refine ⟨by unfold xst2; rw [List.length_set, xst1_len]; exact h.1, h.2.1, fun j w hj => ?_⟩
  unfold xst2 at hj
  rw [List.getElem?_set] at hj
  split at hj
  · split at hj
    · cases hj
    · cases hj
  · rename_i hne
    rcases xst1_at hj with ⟨rfl, rfl⟩ | ⟨h1, h2, h3⟩
    · exact h.2.2 (j, xcn ad w) List.mem_cons_self
    · refine h.2.2 (j, xcn ad w) (List.mem_cons_of_mem _ (List.mem_filter.mpr ⟨xprs_mem.mpr ⟨w, h2, rfl⟩, ?_⟩))
      simp only [xcn_cat, Bool.and_eq_true, Bool.not_eq_true', beq_eq_false_iff_ne, Bool.and_eq_false_iff]
      refine ⟨h1, fun q => hne q.symm, ?_⟩
      by_cases e : j + 1 = i
      · right; exact fun q => h3 ⟨e, q⟩
      · left; exact e
/-- a method's entry -/
theorem xargs_at (ad : Nat → Nat) : ∀ (vs : List Value) (b i : Nat) (v : Value), (xargs vs)[i]? = some (some v) → (b + i, xcn ad v) ∈ lv_args b (vs.map (xcn ad)) := by
  intro vs
  induction vs with
  | nil => intro b i v h; simp [xargs] at h
  | cons w r ih =>
    intro b i v h
    unfold xargs at h
    simp only [List.map_cons, lv_args, xcn_cat]
    split at h
    · rename_i hc
      match i, h with
      | 0, h => cases h; simp
      | 1, h => cases h
      | i + 2, h =>
        have := ih (b + 2) i v h
        refine List.mem_cons_of_mem _ ?_
        rw [hc, show b + (i + 2) = b + 2 + i by omega]
        exact this
    · rename_i hc
      have hc1 : w.category = 1 := (lv_cat w).resolve_right hc
      match i, h with
      | 0, h => cases h; simp
      | i + 1, h =>
        have := ih (b + 1) i v h
        refine List.mem_cons_of_mem _ ?_
        rw [hc1, show b + (i + 1) = b + 1 + i by omega]
        exact this

theorem xsl_len (ad : Nat → Nat) (vs : List Value) : (lg_sl (vs.map (xcn ad))).length = (xargs vs).length := by
  induction vs with
  | nil => rfl
  | cons v r ih =>
    unfold xargs
    simp only [List.map_cons, lg_sl, List.flatMap_cons, List.length_append] at ih ⊢
    rw [ih, xcn_cat]
    by_cases hc : v.category = 2
    · rw [if_pos hc, if_pos hc]; simp; omega
    · rw [if_neg hc, if_neg hc]; simp; omega
theorem xLR.entry (ad : Nat → Nat) (vs : List Value) {n : Nat} (h : (xargs vs).length ≤ n) : xLR ad ((lg_sl (vs.map (xcn ad)) ++ List.replicate (n - (lg_sl (vs.map (xcn ad))).length) Slot.unset).toArray) (xargs vs ++ List.replicate (n - (xargs vs).length) none) := by
  have hl := lv_entry (vs.map (xcn ad)) (n := n) (by rw [xsl_len]; exact h)
  refine ⟨?_, hl.2.1, fun i v hv => ?_⟩
  · rw [hl.1]; simp; omega
  · by_cases hi : i < (xargs vs).length
    · rw [List.getElem?_append_left hi] at hv
      have := xargs_at ad vs 0 i v hv
      rw [Nat.zero_add] at this
      exact hl.2.2 _ this
    · rw [List.getElem?_append_right (by omega), List.getElem?_replicate] at hv
      split at hv <;> cases hv
