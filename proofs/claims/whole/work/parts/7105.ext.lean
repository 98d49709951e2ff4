/-! WHAT READING AN EXP LEAVES AS IT WAS -/
theorem pb_inl {α β : Type} {r : zF α} {f : zP → α → zF β} {x : zP × β} (h : pb r f = .inl x) : ∃ s a, r = .inl (s, a) ∧ f s a = .inl x := by
  rcases r with ⟨s, a⟩ | k
  · exact ⟨s, a, rfl, h⟩
  · cases h
theorem sNo_inl {s s' : zP} {u : Unit} (h : sNo s = .inl (s', u)) : s.2.1 < 250 ∧ s' = (s.1, s.2.1 + 1, s.2.2) := by
  unfold sNo at h
  split at h
  · cases h; exact ⟨by assumption, rfl⟩
  · cases h
theorem sEm_inl {s s' : zP} {d w : Int32} {c : Nat} (h : sEm s d w = .inl (s', c)) : s.2.2.1.length < 559 ∧ s' = (s.1, s.2.1, s.2.2.1 ++ [(d, w)], s.2.2.2) ∧ c = s.2.2.1.length := by
  unfold sEm at h
  split at h
  · cases h; exact ⟨by assumption, rfl, rfl⟩
  · cases h
theorem sNd_inl {s s' : zP} {n : yNd} {c : Nat} (h : sNd s n = .inl (s', c)) : s.2.2.2.1.length < 299 ∧ s' = (s.1, s.2.1, s.2.2.1, s.2.2.2.1 ++ [n], s.2.2.2.2) ∧ c = s.2.2.2.1.length := by
  unfold sNd at h
  split at h
  · cases h; exact ⟨by assumption, rfl, rfl⟩
  · cases h
theorem sUs_inl {s s' : zP} {n : zU} {c : Nat} (h : sUs s n = .inl (s', c)) : s.2.2.2.2.length < 250 ∧ s' = (s.1, s.2.1, s.2.2.1, s.2.2.2.1, s.2.2.2.2 ++ [n]) ∧ c = s.2.2.2.2.length := by
  unfold sUs at h
  split at h
  · cases h; exact ⟨by assumption, rfl, rfl⟩
  · cases h
theorem pWant_inl {tk : List zK} {c : Int32} {s s' : zP} {u : Unit} (h : pWant tk c s = .inl (s', u)) : kd tk s.1 = c ∧ s' = sNx s := by
  unfold pWant at h
  split at h
  · cases h; exact ⟨by assumption, rfl⟩
  · cases h
theorem pEnter_inl {i : Nat} {s s' : zP} {u : Unit} (h : pEnter i s = .inl (s', u)) : i < 10 ∧ s' = s := by
  unfold pEnter at h
  split at h
  · cases h; exact ⟨by assumption, rfl⟩
  · cases h
theorem pUse_inl {tk : List zK} {told n : Nat} {s s' : zP} {u : Nat} (h : pUse tk told n s = .inl (s', u)) : kd tk s.1 = 3 ∧ s.2.2.2.2.length < 250 ∧ s' = sNx (s.1, s.2.1, s.2.2.1, s.2.2.2.1, s.2.2.2.2 ++ [(pl tk s.1, va tk s.1, told, none, n)]) ∧ u = s.2.2.2.2.length := by
  unfold pUse at h
  split at h
  · obtain ⟨s1, a, q1, q2⟩ := pb_inl h
    obtain ⟨g1, rfl, rfl⟩ := sUs_inl q1
    cases q2
    exact ⟨by assumption, g1, rfl, rfl⟩
  · cases h
/-- all that was is there still -/
def Ext (s s' : zP) : Prop := s.2.1 ≤ s'.2.1 ∧ (∀ i : Nat, i < s.2.2.1.length → s'.2.2.1[i]? = s.2.2.1[i]?) ∧ (∀ i : Nat, i < s.2.2.2.1.length → s'.2.2.2.1[i]? = s.2.2.2.1[i]?) ∧ (∀ i : Nat, i < s.2.2.2.2.length → s'.2.2.2.2[i]? = s.2.2.2.2[i]?) ∧ s.2.2.1.length ≤ s'.2.2.1.length ∧ s.2.2.2.1.length ≤ s'.2.2.2.1.length ∧ s.2.2.2.2.length ≤ s'.2.2.2.2.length ∧ s.1 ≤ s'.1
theorem Ext.refl {s : zP} : Ext s s := ⟨Nat.le_refl _, fun _ _ => rfl, fun _ _ => rfl, fun _ _ => rfl, Nat.le_refl _, Nat.le_refl _, Nat.le_refl _, Nat.le_refl _⟩
theorem Ext.trans {s s' s2 : zP} (h : Ext s s') (g : Ext s' s2) : Ext s s2 := by
  obtain ⟨a1, a2, a3, a4, a5, a6, a7, a8⟩ := h
  obtain ⟨b1, b2, b3, b4, b5, b6, b7, b8⟩ := g
  exact ⟨by omega, fun i hi => (b2 i (by omega)).trans (a2 i hi), fun i hi => (b3 i (by omega)).trans (a3 i hi), fun i hi => (b4 i (by omega)).trans (a4 i hi), by omega, by omega, by omega, by omega⟩
section EXTS
variable {s0 s s' : zP}
theorem Ext.nx (h : Ext s0 s) : Ext s0 (sNx s) := h.trans ⟨Nat.le_refl _, fun _ _ => rfl, fun _ _ => rfl, fun _ _ => rfl, Nat.le_refl _, Nat.le_refl _, Nat.le_refl _, Nat.le_succ _⟩
theorem Ext.no {u : Unit} (h : Ext s0 s) (g : sNo s = .inl (s', u)) : Ext s0 s' := by
  obtain ⟨_, rfl⟩ := sNo_inl g
  exact h.trans ⟨Nat.le_succ _, fun _ _ => rfl, fun _ _ => rfl, fun _ _ => rfl, Nat.le_refl _, Nat.le_refl _, Nat.le_refl _, Nat.le_refl _⟩
theorem Ext.em {d w : Int32} {c : Nat} (h : Ext s0 s) (g : sEm s d w = .inl (s', c)) : Ext s0 s' := by
  obtain ⟨_, rfl, _⟩ := sEm_inl g
  exact h.trans ⟨Nat.le_refl _, fun i hi => List.getElem?_append_left hi, fun _ _ => rfl, fun _ _ => rfl, by simp, Nat.le_refl _, Nat.le_refl _, Nat.le_refl _⟩
theorem Ext.nd {n : yNd} {c : Nat} (h : Ext s0 s) (g : sNd s n = .inl (s', c)) : Ext s0 s' := by
  obtain ⟨_, rfl, _⟩ := sNd_inl g
  exact h.trans ⟨Nat.le_refl _, fun _ _ => rfl, fun i hi => List.getElem?_append_left hi, fun _ _ => rfl, Nat.le_refl _, by simp, Nat.le_refl _, Nat.le_refl _⟩
theorem Ext.us {tk : List zK} {told n u : Nat} (h : Ext s0 s) (g : pUse tk told n s = .inl (s', u)) : Ext s0 s' := by
  obtain ⟨_, _, rfl, _⟩ := pUse_inl g
  exact h.trans ⟨Nat.le_refl _, fun _ _ => rfl, fun _ _ => rfl, fun i hi => List.getElem?_append_left hi, Nat.le_refl _, Nat.le_refl _, by simp [sNx], Nat.le_succ _⟩
theorem Ext.want {tk : List zK} {c : Int32} {u : Unit} (h : Ext s0 s) (g : pWant tk c s = .inl (s', u)) : Ext s0 s' := by
  obtain ⟨_, rfl⟩ := pWant_inl g
  exact h.nx
theorem Ext.cd {i : Nat} {c : Int32 × Int32} (h : Ext s0 s) (hi : s0.2.2.1.length ≤ i) : Ext s0 (sCd s i c) := by
  obtain ⟨a1, a2, a3, a4, a5, a6, a7, a8⟩ := h
  exact ⟨a1, fun j hj => by show (s.2.2.1.set i c)[j]? = _; rw [List.getElem?_set_ne (by omega)]; exact a2 j hj, a3, a4, by show _ ≤ (s.2.2.1.set i c).length; rw [List.length_set]; exact a5, a6, a7, a8⟩
theorem Ext.sn {i : Nat} {c : yNd} (h : Ext s0 s) (hi : s0.2.2.2.1.length ≤ i) : Ext s0 (sSn s i c) := by
  obtain ⟨a1, a2, a3, a4, a5, a6, a7, a8⟩ := h
  exact ⟨a1, a2, fun j hj => by show (s.2.2.2.1.set i c)[j]? = _; rw [List.getElem?_set_ne (by omega)]; exact a3 j hj, a4, a5, by show _ ≤ (s.2.2.2.1.set i c).length; rw [List.length_set]; exact a6, a7, a8⟩
theorem Ext.su {i : Nat} {c : zU} (h : Ext s0 s) (hi : s0.2.2.2.2.length ≤ i) : Ext s0 (sSu s i c) := by
  obtain ⟨a1, a2, a3, a4, a5, a6, a7, a8⟩ := h
  exact ⟨a1, a2, a3, fun j hj => by show (s.2.2.2.2.set i c)[j]? = _; rw [List.getElem?_set_ne (by omega)]; exact a4 j hj, a5, a6, by show _ ≤ (s.2.2.2.2.set i c).length; rw [List.length_set]; exact a7, a8⟩
end EXTS
def ExtL (rl : Nat → Nat → zP → zF Nat) : Prop := ∀ l i s s' m, rl l i s = .inl (s', m) → Ext s s'
def ExtO (ro : Nat → zP → zF Nat) : Prop := ∀ i s s' m, ro i s = .inl (s', m) → Ext s s'
section EXTP
variable {tk : List zK} {fg : Nat} {rl : Nat → Nat → zP → zF Nat} {ro : Nat → zP → zF Nat}
theorem E_between (hl : ExtL rl) {i : Nat} {s s' : zP} {m : Nat} (h : pBetween rl i s = .inl (s', m)) : Ext s s' := by
  obtain ⟨s1, _, q1, q2⟩ := pb_inl h
  obtain ⟨_, rfl⟩ := pEnter_inl q1
  exact (Ext.refl.nx).trans (hl _ _ _ _ _ q2)
theorem E_try (ho : ExtO ro) {i : Nat} {s s' : zP} {m : Nat} (h : pTry tk ro i s = .inl (s', m)) : Ext s s' := by
  unfold pTry at h
  obtain ⟨s1, _, q1, h⟩ := pb_inl h
  rw [(pEnter_inl q1).2] at h
  obtain ⟨s2, _, q2, h⟩ := pb_inl h
  have e2 := Ext.refl.no q2
  obtain ⟨s3, st, q3, h⟩ := pb_inl h
  have e3 := e2.nx.em q3
  obtain ⟨_, _, rfl⟩ := sEm_inl q3
  obtain ⟨s4, a, q4, h⟩ := pb_inl h
  have e4 := e3.trans (ho _ _ _ _ q4)
  obtain ⟨s5, en, q5, h⟩ := pb_inl h
  have e5 := e4.em q5
  obtain ⟨_, _, rfl⟩ := sEm_inl q5
  obtain ⟨s6, _, q6, h⟩ := pb_inl h
  have e6 := (e5.cd (i := (sNx s2).2.2.1.length) (c := (5, Int32.ofNat s5.2.2.1.length)) e2.2.2.2.2.1).want q6
  obtain ⟨s7, b, q7, h⟩ := pb_inl h
  have e7 := e6.trans (ho _ _ _ _ q7)
  exact (e7.cd (i := s4.2.2.1.length) e4.2.2.2.2.1).nd h
theorem E_end {d w : Int32} {u : Nat} {us : zU} {n : Nat} {s0 s s' : zP} {m : Nat} (e : Ext s0 s) (hu : s0.2.2.2.2.length ≤ u) (h : pEnd d w u us n s = .inl (s', m)) : Ext s0 s' ∧ m = n := by
  obtain ⟨s1, c, q1, h⟩ := pb_inl h
  cases h
  exact ⟨(e.em q1).su hu, rfl⟩
theorem E_named (hl : ExtL rl) {i : Nat} {s s' : zP} {m : Nat} (h : pNamed tk fg rl i s = .inl (s', m)) : Ext s s' := by
  obtain ⟨s1, n, q1, h⟩ := pb_inl h
  have e1 := Ext.refl.nd q1
  obtain ⟨_, _, rfl⟩ := sNd_inl q1
  obtain ⟨s2, _, q2, h⟩ := pb_inl h
  have e2 := e1.no q2
  obtain ⟨s3, u, q3, h⟩ := pb_inl h
  have e3 := e2.us q3
  obtain ⟨_, _, _, rfl⟩ := pUse_inl q3
  split at h
  · obtain ⟨s4, a, q4, h⟩ := pb_inl h
    have e4 := ((e3.su e2.2.2.2.2.2.2.1).sn (Nat.le_refl _)).trans (E_between hl q4)
    split at h
    · obtain ⟨s5, b, q5, h⟩ := pb_inl h
      obtain ⟨s6, _, q6, h⟩ := pb_inl h
      have e6 := ((((e4.sn (Nat.le_refl _)).nx.trans (hl _ _ _ _ _ q5))).sn (Nat.le_refl _)).want q6
      exact (E_end e6 e2.2.2.2.2.2.2.1 h).1
    · obtain ⟨s6, _, q6, h⟩ := pb_inl h
      exact (E_end ((e4.sn (Nat.le_refl _)).want q6) e2.2.2.2.2.2.2.1 h).1
  · exact (E_end e3 e2.2.2.2.2.2.2.1 h).1
theorem E_asked2 (hl : ExtL rl) {d i so n : Nat} {s0 s s' : zP} {m : Nat} (e : Ext s0 s) (hn : s0.2.2.2.1.length ≤ n) (h : pAsked2 tk rl d i so n s = .inl (s', m)) : Ext s0 s' ∧ m = n := by
  obtain ⟨s4, _, q4, h⟩ := pb_inl h
  have e4 := e.no q4
  obtain ⟨s5, u, q5, h⟩ := pb_inl h
  have e5 := e4.us q5
  obtain ⟨_, _, _, rfl⟩ := pUse_inl q5
  split at h
  · obtain ⟨s6, a, q6, h⟩ := pb_inl h
    obtain ⟨s7, _, q7, h⟩ := pb_inl h
    have e7 := ((e5.trans (E_between hl q6)).sn hn).want q7
    exact E_end e7 e4.2.2.2.2.2.2.1 h
  · exact E_end e5 e4.2.2.2.2.2.2.1 h
theorem E_asked (hl : ExtL rl) {d i : Nat} {s s' : zP} {m : Nat} (h : pAsked tk rl d i s = .inl (s', m)) : Ext s s' := by
  obtain ⟨s1, n, q1, h⟩ := pb_inl h
  have e1 := Ext.refl.nd q1
  obtain ⟨_, _, rfl⟩ := sNd_inl q1
  obtain ⟨s2, _, q2, h⟩ := pb_inl h
  have e2 := e1.no q2
  obtain ⟨s3, so, q3, h⟩ := pb_inl h
  have e3 : Ext s s3 := by
    split at q3
    · unfold pSort at q3
      split at q3
      · cases q3; exact e2.nx.nx
      · cases q3
    · cases q3; exact e2.nx
  exact (E_asked2 hl (e3.sn (Nat.le_refl _)) (Nat.le_refl _) h).1
theorem E_base (hl : ExtL rl) (ho : ExtO ro) {i : Nat} {s s' : zP} {m : Nat} (h : pBase tk fg rl ro i s = .inl (s', m)) : Ext s s' := by
  unfold pBase at h
  split at h
  · obtain ⟨s1, _, q1, h⟩ := pb_inl h
    obtain ⟨s2, _, q2, h⟩ := pb_inl h
    obtain ⟨s3, _, q3, h⟩ := pb_inl h
    cases h
    exact (((Ext.refl.no q1).em q2).nd q3).nx
  · split at h
    · exact E_named hl h
    · split at h
      · obtain ⟨s1, n, q1, h⟩ := pb_inl h
        obtain ⟨s2, _, q2, h⟩ := pb_inl h
        cases h
        exact (E_between hl q1).want q2
      · split at h
        · exact E_asked hl h
        · split at h
          · exact E_asked hl h
          · split at h
            · exact E_asked hl h
            · split at h
              · exact E_asked hl h
              · split at h
                · exact E_try ho h
                · cases h
theorem E_one (hl : ExtL rl) (ho : ExtO ro) : ExtO (pOne tk fg rl ro) := by
  intro i s s' m h
  unfold pOne at h
  split at h
  · obtain ⟨s1, _, q1, h⟩ := pb_inl h
    obtain ⟨_, rfl⟩ := pEnter_inl q1
    obtain ⟨s2, _, q2, h⟩ := pb_inl h
    obtain ⟨s3, n, q3, h⟩ := pb_inl h
    obtain ⟨s4, _, q4, h⟩ := pb_inl h
    exact (((Ext.refl.no q2).nx.trans (ho _ _ _ _ q3)).em q4).nd h
  · exact E_base hl ho h
theorem E_loop (hl : ExtL rl) : ∀ (f l i n : Nat) (s s' : zP) (m : Nat), pLoop tk rl f l i n s = .inl (s', m) → Ext s s'
  | 0, _, _, _, _, _, _, h => by cases h
  | f + 1, l, i, n, s, s', m, h => by
    rw [pLoop] at h
    split at h
    · obtain ⟨s1, _, q1, h⟩ := pb_inl h
      have e1 := Ext.refl.no q1
      obtain ⟨s2, sk, q2, h⟩ := pb_inl h
      have e2 : Ext s s2 ∧ (l < 2 → s.2.2.1.length ≤ sk) := by
        split at q2
        · obtain ⟨_, _, rfl⟩ := sEm_inl q2
          exact ⟨e1.nx.em q2, fun _ => e1.2.2.2.2.1⟩
        · cases q2; exact ⟨e1.nx, fun h => absurd h (by assumption)⟩
      obtain ⟨s3, k, q3, h⟩ := pb_inl h
      have e3 := e2.1.trans (hl _ _ _ _ _ q3)
      obtain ⟨s4, _, q4, h⟩ := pb_inl h
      have e4 := e3.em q4
      obtain ⟨s5, n2, q5, h⟩ := pb_inl h
      have e5 : Ext s s5 := by
        split at q5
        · exact (e4.cd (e2.2 (by assumption))).nd q5
        · exact e4.nd q5
      split at h
      · cases h; exact e5
      · exact e5.trans (E_loop hl f l i n2 s5 s' m h)
    · cases h; exact Ext.refl
theorem E_level (hl : ExtL rl) (ho : ExtO ro) : ExtL (pLevel tk rl ro) := by
  intro l i s s' m h
  unfold pLevel at h
  split at h
  · obtain ⟨s1, n, q1, h⟩ := pb_inl h
    exact (hl _ _ _ _ _ q1).trans (E_loop hl _ _ _ _ _ _ _ h)
  · exact ho _ _ _ _ h
end EXTP
theorem E_fix {tk : List zK} {fg : Nat} : ∀ n : Nat, ExtL (pFix tk fg n).1 ∧ ExtO (pFix tk fg n).2
  | 0 => by
    refine ⟨?_, ?_⟩
    · intro l i s s' m h
      exact absurd h (by intro h; cases h)
    · intro i s s' m h
      exact absurd h (by intro h; cases h)
  | n + 1 => ⟨E_level (E_fix n).1 (E_fix n).2, E_one (E_fix n).1 (E_fix n).2⟩
