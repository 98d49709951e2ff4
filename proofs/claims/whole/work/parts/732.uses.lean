/-! NAMES IN EXPS: their places rise, each has its own node and code -/
def Uv (tk : List zK) (s : zP) : Prop := (∀ (i : Nat) u, s.2.2.2.2[i]? = some u → u.1 < pl tk s.1 ∧ u.2.2.2.2 < s.2.2.2.1.length ∧ ∀ c, u.2.2.2.1 = some c → c < s.2.2.1.length) ∧ ∀ (i j : Nat) u v, i < j → s.2.2.2.2[i]? = some u → s.2.2.2.2[j]? = some v → u.1 < v.1 ∧ u.2.2.2.2 ≠ v.2.2.2.2 ∧ ∀ c, u.2.2.2.1 = some c → v.2.2.2.1 ≠ some c
def Pv {β : Type} (tk : List zK) (r : zF β) : Prop := ∀ s b, r = .inl (s, b) → Uv tk s
def plUp (tk : List zK) : Prop := ∀ k, kd tk k ≠ 0 → kd tk k ≠ 1 → pl tk k < pl tk (k + 1)
section USES
variable {α β : Type} {tk : List zK} {s : zP} {fg : Nat} {rl : Nat → Nat → zP → zF Nat} {ro : Nat → zP → zF Nat} {i : Nat}
theorem Pv.bind {r : zF α} {f : zP → α → zF β} (h : Pv tk r) (g : ∀ s a, r = .inl (s, a) → Uv tk s → Pv tk (f s a)) : Pv tk (pb r f) := by
  intro s b hb
  obtain ⟨s1, a, q1, q2⟩ := pb_inl hb
  exact g s1 a q1 (h s1 a q1) s b q2
theorem Pv.ret {b : β} (h : Uv tk s) : Pv tk (.inl (s, b)) := by
  intro s1 b1 hb
  cases hb; exact h
theorem Pv.flt {k : Option Nat} : Pv tk (.inr k : zF β) := by
  intro s1 b1 hb
  cases hb
theorem Uv.nx (hpl : plUp tk) (h : Uv tk s) (h0 : kd tk s.1 ≠ 0) (h1 : kd tk s.1 ≠ 1) : Uv tk (sNx s) := by
  refine ⟨fun i u hu => ?_, h.2⟩
  obtain ⟨q1, q2⟩ := h.1 i u hu
  exact ⟨Nat.lt_trans q1 (hpl _ h0 h1), q2⟩
theorem Uv.no (h : Uv tk s) : Pv tk (sNo s) := by
  intro s1 b hb
  obtain ⟨_, rfl⟩ := sNo_inl hb
  exact h
theorem Uv.em {d w : Int32} (h : Uv tk s) : Pv tk (sEm s d w) := by
  intro s1 b hb
  obtain ⟨_, rfl, _⟩ := sEm_inl hb
  refine ⟨fun i u hu => ?_, h.2⟩
  obtain ⟨q1, q2, q3⟩ := h.1 i u hu
  refine ⟨q1, q2, fun c hc => ?_⟩
  have := q3 c hc
  show c < (s.2.2.1 ++ [(d, w)]).length
  rw [List.length_append]; omega
theorem Uv.cd {j : Nat} {x : Int32 × Int32} (h : Uv tk s) : Uv tk (sCd s j x) := by
  refine ⟨fun i u hu => ?_, h.2⟩
  obtain ⟨q1, q2, q3⟩ := h.1 i u hu
  refine ⟨q1, q2, fun c hc => ?_⟩
  show c < (s.2.2.1.set j x).length
  rw [List.length_set]; exact q3 c hc
theorem Uv.nd {x : yNd} (h : Uv tk s) : Pv tk (sNd s x) := by
  intro s1 b hb
  obtain ⟨_, rfl, _⟩ := sNd_inl hb
  refine ⟨fun i u hu => ?_, h.2⟩
  obtain ⟨q1, q2, q3⟩ := h.1 i u hu
  refine ⟨q1, ?_, q3⟩
  show u.2.2.2.2 < (s.2.2.2.1 ++ [x]).length
  rw [List.length_append]; omega
theorem Uv.sn {j : Nat} {x : yNd} (h : Uv tk s) : Uv tk (sSn s j x) := by
  refine ⟨fun i u hu => ?_, h.2⟩
  obtain ⟨q1, q2, q3⟩ := h.1 i u hu
  refine ⟨q1, ?_, q3⟩
  show u.2.2.2.2 < (s.2.2.2.1.set j x).length
  rw [List.length_set]; exact q2
theorem Uv.want (hpl : plUp tk) {c : Int32} (c0 : c ≠ 0) (c1 : c ≠ 1) (h : Uv tk s) : Pv tk (pWant tk c s) := by
  intro s1 b hb
  obtain ⟨hk, rfl⟩ := pWant_inl hb
  exact h.nx hpl (by rw [hk]; exact c0) (by rw [hk]; exact c1)
/-- a use with a node of its own -/
theorem Uv.use (hpl : plUp tk) {told n : Nat} (h : Uv tk s) (hn : n < s.2.2.2.1.length) (hf : ∀ (i : Nat) u, s.2.2.2.2[i]? = some u → u.2.2.2.2 ≠ n) : Pv tk (pUse tk told n s) := by
  intro s1 b hb
  obtain ⟨hk, _, rfl, _⟩ := pUse_inl hb
  have hlt := hpl s.1 (by rw [hk]; decide) (by rw [hk]; decide)
  refine ⟨fun i u hu => ?_, fun i j u v hij hu hv => ?_⟩
  · have hu : (s.2.2.2.2 ++ [(pl tk s.1, va tk s.1, told, none, n)])[i]? = some u := hu
    by_cases hi : i < s.2.2.2.2.length
    · rw [List.getElem?_append_left hi] at hu
      obtain ⟨q1, q2⟩ := h.1 i u hu
      exact ⟨Nat.lt_trans q1 hlt, q2⟩
    · have hil := (List.getElem?_eq_some_iff.mp hu).1
      rw [List.length_append, List.length_singleton] at hil
      obtain rfl : i = s.2.2.2.2.length := by omega
      rw [List.getElem?_append_right (Nat.le_refl _), Nat.sub_self] at hu
      cases hu
      exact ⟨hlt, hn, fun c hc => by cases hc⟩
  · have hu : (s.2.2.2.2 ++ [(pl tk s.1, va tk s.1, told, none, n)])[i]? = some u := hu
    have hv : (s.2.2.2.2 ++ [(pl tk s.1, va tk s.1, told, none, n)])[j]? = some v := hv
    have hjl := (List.getElem?_eq_some_iff.mp hv).1
    rw [List.length_append, List.length_singleton] at hjl
    rw [List.getElem?_append_left (by omega)] at hu
    by_cases hj : j < s.2.2.2.2.length
    · rw [List.getElem?_append_left hj] at hv
      exact h.2 i j u v hij hu hv
    · obtain rfl : j = s.2.2.2.2.length := by omega
      rw [List.getElem?_append_right (Nat.le_refl _), Nat.sub_self] at hv
      cases hv
      obtain ⟨q1, _, _⟩ := h.1 i u hu
      exact ⟨q1, hf i u hu, fun c hc => by intro hh; cases hh⟩
theorem Uv.su {u a : Nat} {b : Int64} {t t' n : Nat} {o : Option Nat} (h : Uv tk s) (hu : s.2.2.2.2[u]? = some (a, b, t, o, n)) : Uv tk (sSu s u (a, b, t', o, n)) := by
  have hul := (List.getElem?_eq_some_iff.mp hu).1
  have get : ∀ (i : Nat) v, (s.2.2.2.2.set u (a, b, t', o, n))[i]? = some v → ∃ w, s.2.2.2.2[i]? = some w ∧ w.1 = v.1 ∧ w.2.2.2 = v.2.2.2 := by
    intro i v hv
    by_cases hi : u = i
    · subst hi
      rw [List.getElem?_set_self hul] at hv
      cases hv
      exact ⟨_, hu, rfl, rfl⟩
    · rw [List.getElem?_set_ne hi] at hv
      exact ⟨v, hv, rfl, rfl⟩
  refine ⟨fun i v hv => ?_, fun i j v v' hij hv hv' => ?_⟩
  · obtain ⟨w, w1, w2, w3⟩ := get i v hv
    obtain ⟨q1, q2, q3⟩ := h.1 i w w1
    rw [← w2, ← w3]
    exact ⟨q1, q2, q3⟩
  · obtain ⟨w, w1, w2, w3⟩ := get i v hv
    obtain ⟨x, x1, x2, x3⟩ := get j v' hv'
    have := h.2 i j w x hij w1 x1
    rw [← w2, ← w3, ← x2, ← x3]
    exact this
theorem Uv.fin {d w : Int32} {u a : Nat} {b : Int64} {t n x : Nat} {o : Option Nat} (h : Uv tk s) (hu : s.2.2.2.2[u]? = some (a, b, t, o, n)) : Pv tk (pEnd d w u (a, b, t, o, n) x s) := by
  intro s1 y hb
  unfold pEnd at hb
  obtain ⟨s2, c, q1, q2⟩ := pb_inl hb
  have h2 := h.em s2 c q1
  obtain ⟨_, rfl, rfl⟩ := sEm_inl q1
  cases q2
  have hul := (List.getElem?_eq_some_iff.mp hu).1
  have get : ∀ (i : Nat) v, (s.2.2.2.2.set u (a, b, t, some s.2.2.1.length, n))[i]? = some v → (i = u ∧ v = (a, b, t, some s.2.2.1.length, n)) ∨ (i ≠ u ∧ s.2.2.2.2[i]? = some v) := by
    intro i v hv
    by_cases hi : u = i
    · subst hi
      rw [List.getElem?_set_self hul] at hv
      cases hv
      exact Or.inl ⟨rfl, rfl⟩
    · rw [List.getElem?_set_ne hi] at hv
      exact Or.inr ⟨fun hh => hi hh.symm, hv⟩
  refine ⟨fun i v hv => ?_, fun i j v v' hij hv hv' => ?_⟩
  · rcases get i v hv with ⟨rfl, rfl⟩ | ⟨hi, hv⟩
    · obtain ⟨q1, q2, q3⟩ := h.1 i _ hu
      refine ⟨q1, q2, fun c hc => ?_⟩
      cases hc
      show s.2.2.1.length < (s.2.2.1 ++ [(d, w)]).length
      rw [List.length_append]; simp
    · exact h2.1 i v hv
  · rcases get i v hv with ⟨rfl, rfl⟩ | ⟨hi, g1⟩
    · rcases get j v' hv' with ⟨rfl, rfl⟩ | ⟨hj, g2⟩
      · omega
      · obtain ⟨q1, q2, q3⟩ := h.2 i j _ v' hij hu g2
        refine ⟨q1, q2, fun c hc hh => ?_⟩
        cases hc
        have := (h.1 j v' g2).2.2 _ hh
        omega
    · rcases get j v' hv' with ⟨rfl, rfl⟩ | ⟨hj, g2⟩
      · obtain ⟨q1, q2, q3⟩ := h.2 i j v _ hij g1 hu
        refine ⟨q1, q2, fun c hc hh => ?_⟩
        cases hh
        have := (h.1 i v g1).2.2 _ hc
        omega
      · exact h.2 i j v v' hij g1 g2
def UL (tk : List zK) (rl : Nat → Nat → zP → zF Nat) : Prop := ∀ l i s, Uv tk s → Pv tk (rl l i s)
def UO (tk : List zK) (ro : Nat → zP → zF Nat) : Prop := ∀ i s, Uv tk s → Pv tk (ro i s)
theorem Uv.between (hpl : plUp tk) (hl : UL tk rl) (h : Uv tk s) (h0 : kd tk s.1 ≠ 0) (h1 : kd tk s.1 ≠ 1) : Pv tk (pBetween rl i s) := by
  unfold pBetween
  intro s1 b hb
  obtain ⟨s2, a, q1, q2⟩ := pb_inl hb
  obtain ⟨_, rfl⟩ := pEnter_inl q1
  exact hl _ _ _ (h.nx hpl h0 h1) s1 b q2
theorem Uv.try' (hpl : plUp tk) (ho : UO tk ro) (h : Uv tk s) (hk : kd tk s.1 = 226) : Pv tk (pTry tk ro i s) := by
  unfold pTry
  intro s1 b hb
  obtain ⟨s2, a, q1, q2⟩ := pb_inl hb
  obtain ⟨_, rfl⟩ := pEnter_inl q1
  refine Pv.bind h.no (fun s3 _ e3 u3 => ?_) s1 b q2
  obtain ⟨_, rfl⟩ := sNo_inl e3
  refine Pv.bind (Uv.em (u3.nx hpl (by show kd tk s2.1 ≠ 0; rw [hk]; decide) (by show kd tk s2.1 ≠ 1; rw [hk]; decide))) fun s4 _ _ u4 => Pv.bind (ho _ _ u4) fun s5 _ _ u5 => Pv.bind u5.em fun s6 _ _ u6 => Pv.bind (Uv.want hpl (by decide) (by decide) u6.cd) fun s7 _ _ u7 => Pv.bind (ho _ _ u7) fun s8 _ _ u8 => Uv.nd u8.cd
theorem Uv.named (hpl : plUp tk) (hl : UL tk rl) (el : ExtL rl) (h : Uv tk s) : Pv tk (pNamed tk fg rl i s) := by
  unfold pNamed
  refine Pv.bind h.nd fun s1 n e1 u1 => Pv.bind u1.no fun s2 _ e2 u2 => ?_
  obtain ⟨_, rfl⟩ := sNo_inl e2
  obtain ⟨_, rfl, rfl⟩ := sNd_inl e1
  refine Pv.bind (Uv.use hpl u2 (by show s.2.2.2.1.length < (s.2.2.2.1 ++ [_]).length; rw [List.length_append]; simp) (fun j v hv => by have := (h.1 j v hv).2.1; omega)) fun s3 u e3 u3 => ?_
  obtain ⟨_, _, hs3, rfl⟩ := pUse_inl e3
  have hu3 : s3.2.2.2.2[s.2.2.2.2.length]? = some (pl tk s.1, va tk s.1, fg, none, s.2.2.2.1.length) := by
    rw [hs3]; simp [sNx]
  intro s9 b9 hb9
  by_cases k91 : kd tk s3.1 = 91
  · rw [if_pos k91] at hb9
    revert hb9
    show pb (pBetween rl i (sSn (sSu s3 s.2.2.2.2.length (pl tk s.1, va tk s.1, 0, none, s.2.2.2.1.length)) s.2.2.2.1.length (3, 0, 0, 0))) _ = _ → _
    have u4 : Uv tk (sSn (sSu s3 s.2.2.2.2.length (pl tk s.1, va tk s.1, 0, none, s.2.2.2.1.length)) s.2.2.2.1.length (3, 0, 0, 0)) := (Uv.su u3 hu3).sn
    have hu4 : (sSn (sSu s3 s.2.2.2.2.length (pl tk s.1, va tk s.1, 0, none, s.2.2.2.1.length)) s.2.2.2.1.length (3, 0, 0, 0)).2.2.2.2[s.2.2.2.2.length]? = some (pl tk s.1, va tk s.1, 0, none, s.2.2.2.1.length) := List.getElem?_set_self (List.getElem?_eq_some_iff.mp hu3).1
    refine Pv.bind (Uv.between hpl hl u4 (by show kd tk s3.1 ≠ 0; rw [k91]; decide) (by show kd tk s3.1 ≠ 1; rw [k91]; decide)) (fun s5 a e5 u5 => ?_) s9 b9
    have hu5 : s5.2.2.2.2[s.2.2.2.2.length]? = some (pl tk s.1, va tk s.1, 0, none, s.2.2.2.1.length) := by
      unfold pBetween at e5
      obtain ⟨s6, _, q1, q2⟩ := pb_inl e5
      obtain ⟨_, rfl⟩ := pEnter_inl q1
      have ex := el _ _ _ _ _ q2
      rw [ex.2.2.2.1 _ (List.getElem?_eq_some_iff.mp hu4).1]
      exact hu4
    split
    · rename_i k44
      refine Pv.bind (hl _ _ _ (u5.sn.nx hpl (by show kd tk s5.1 ≠ 0; rw [k44]; decide) (by show kd tk s5.1 ≠ 1; rw [k44]; decide))) fun s6 b e6 u6 => ?_
      have ex := el _ _ _ _ _ e6
      have hu6 : s6.2.2.2.2[s.2.2.2.2.length]? = some (pl tk s.1, va tk s.1, 0, none, s.2.2.2.1.length) := by
        rw [ex.2.2.2.1 _ (List.getElem?_eq_some_iff.mp hu5).1]
        exact hu5
      refine Pv.bind (Uv.want hpl (by decide) (by decide) u6.sn) fun s7 _ e7 u7 => ?_
      obtain ⟨_, rfl⟩ := pWant_inl e7
      exact Uv.fin u7 hu6
    · refine Pv.bind (Uv.want hpl (by decide) (by decide) u5.sn) fun s7 _ e7 u7 => ?_
      obtain ⟨_, rfl⟩ := pWant_inl e7
      exact Uv.fin u7 hu5
  · rw [if_neg k91] at hb9
    exact Uv.fin u3 hu3 s9 b9 hb9
theorem Uv.asked2 (hpl : plUp tk) (hl : UL tk rl) (el : ExtL rl) {d so n : Nat} (h : Uv tk s) (hn : n < s.2.2.2.1.length) (hf : ∀ (i : Nat) u, s.2.2.2.2[i]? = some u → u.2.2.2.2 ≠ n) : Pv tk (pAsked2 tk rl d i so n s) := by
  unfold pAsked2
  refine Pv.bind h.no fun s2 _ e2 u2 => ?_
  obtain ⟨_, rfl⟩ := sNo_inl e2
  refine Pv.bind (Uv.use hpl u2 hn hf) fun s3 u e3 u3 => ?_
  obtain ⟨_, _, hs3, rfl⟩ := pUse_inl e3
  have hu3 : s3.2.2.2.2[s.2.2.2.2.length]? = some (pl tk s.1, va tk s.1, 0, none, n) := by
    rw [hs3]; simp [sNx]
  split
  · rename_i hk
    refine Pv.bind (Uv.between hpl hl u3 (by rw [hk.2]; decide) (by rw [hk.2]; decide)) fun s5 a e5 u5 => ?_
    have hu5 : s5.2.2.2.2[s.2.2.2.2.length]? = some (pl tk s.1, va tk s.1, 0, none, n) := by
      unfold pBetween at e5
      obtain ⟨s6, _, q1, q2⟩ := pb_inl e5
      obtain ⟨_, rfl⟩ := pEnter_inl q1
      have ex := el _ _ _ _ _ q2
      rw [ex.2.2.2.1 _ (List.getElem?_eq_some_iff.mp hu3).1]
      exact hu3
    refine Pv.bind (Uv.want hpl (by decide) (by decide) u5.sn) fun s7 _ e7 u7 => ?_
    obtain ⟨_, rfl⟩ := pWant_inl e7
    exact Uv.fin u7 hu5
  · exact Uv.fin u3 hu3
theorem Uv.asked (hpl : plUp tk) (hl : UL tk rl) (el : ExtL rl) {d : Nat} (h : Uv tk s) (h0 : kd tk s.1 ≠ 0) (h1 : kd tk s.1 ≠ 1) : Pv tk (pAsked tk rl d i s) := by
  unfold pAsked
  refine Pv.bind h.nd fun s1 n e1 u1 => Pv.bind u1.no fun s2 _ e2 u2 => ?_
  obtain ⟨_, rfl⟩ := sNo_inl e2
  obtain ⟨_, rfl, rfl⟩ := sNd_inl e1
  have u3 := u2.nx hpl h0 h1
  have hS : ∀ s3 so, (if d = 10 then pSort tk (sNx (s.1, s.2.1 + 1, s.2.2.1, s.2.2.2.1 ++ [(Int32.ofNat (d - 3), 0, 0, 0)], s.2.2.2.2)) else .inl (sNx (s.1, s.2.1 + 1, s.2.2.1, s.2.2.2.1 ++ [(Int32.ofNat (d - 3), 0, 0, 0)], s.2.2.2.2), 0)) = .inl (s3, so) → Uv tk s3 ∧ s3.2.2.2.1 = s.2.2.2.1 ++ [(Int32.ofNat (d - 3), 0, 0, 0)] ∧ s3.2.2.2.2 = s.2.2.2.2 := by
    intro s3 so hs
    split at hs
    · unfold pSort at hs
      split at hs
      · rename_i hc
        cases hs
        refine ⟨u3.nx hpl (fun hh => ?_) (fun hh => ?_), rfl, rfl⟩
        · rw [hh] at hc; exact absurd hc (by decide)
        · rw [hh] at hc; exact absurd hc (by decide)
      · cases hs
    · cases hs
      exact ⟨u3, rfl, rfl⟩
  refine Pv.bind (fun s3 so hs => (hS s3 so hs).1) fun s3 so e3 u3 => ?_
  obtain ⟨_, l3, l4⟩ := hS s3 so e3
  refine Uv.asked2 hpl hl el u3.sn ?_ ?_
  · show s.2.2.2.1.length < (s3.2.2.2.1.set _ _).length
    rw [List.length_set, l3, List.length_append]; simp
  · intro j v hv
    have hv : s3.2.2.2.2[j]? = some v := hv
    rw [l4] at hv
    have := (h.1 j v hv).2.1
    show v.2.2.2.2 ≠ s.2.2.2.1.length
    omega
theorem Uv.base (hpl : plUp tk) (hl : UL tk rl) (ho : UO tk ro) (el : ExtL rl) (h : Uv tk s) : Pv tk (pBase tk fg rl ro i s) := by
  unfold pBase
  split
  · rename_i hk
    refine Pv.bind h.no fun s1 _ e1 u1 => Pv.bind u1.em fun s2 _ e2 u2 => Pv.bind u2.nd fun s3 _ e3 u3 => ?_
    have hs : s3.1 = s.1 := by
      obtain ⟨_, rfl, _⟩ := sNd_inl e3
      obtain ⟨_, rfl, _⟩ := sEm_inl e2
      obtain ⟨_, rfl⟩ := sNo_inl e1
      rfl
    exact Pv.ret (u3.nx hpl (by rw [hs, hk]; decide) (by rw [hs, hk]; decide))
  split
  · exact Uv.named hpl hl el h
  split
  · rename_i hk
    exact Pv.bind (Uv.between hpl hl h (by rw [hk]; decide) (by rw [hk]; decide)) fun s1 _ _ u1 => Pv.bind (Uv.want hpl (by decide) (by decide) u1) fun s2 _ _ u2 => Pv.ret u2
  split
  · rename_i hk
    exact Uv.asked hpl hl el h (by rw [hk]; decide) (by rw [hk]; decide)
  split
  · rename_i hk
    exact Uv.asked hpl hl el h (by rw [hk]; decide) (by rw [hk]; decide)
  split
  · rename_i hk
    exact Uv.asked hpl hl el h (by rw [hk]; decide) (by rw [hk]; decide)
  split
  · rename_i hk
    exact Uv.asked hpl hl el h (by rw [hk]; decide) (by rw [hk]; decide)
  split
  · rename_i hk
    exact Uv.try' hpl ho h hk
  · exact Pv.flt
theorem Uv.one (hpl : plUp tk) (hl : UL tk rl) (ho : UO tk ro) (el : ExtL rl) : UO tk (pOne tk fg rl ro) := by
  intro i s h
  unfold pOne
  split
  · rename_i hk
    intro s1 b hb
    obtain ⟨s2, a, q1, q2⟩ := pb_inl hb
    obtain ⟨_, rfl⟩ := pEnter_inl q1
    refine Pv.bind h.no (fun s3 _ e3 u3 => ?_) s1 b q2
    obtain ⟨_, rfl⟩ := sNo_inl e3
    have h0 : kd tk s2.1 ≠ 0 ∧ kd tk s2.1 ≠ 1 := by rcases hk with hk | hk <;> rw [hk] <;> decide
    exact Pv.bind (ho _ _ (u3.nx hpl h0.1 h0.2)) fun s4 _ _ u4 => Pv.bind u4.em fun s5 _ _ u5 => u5.nd
  · exact Uv.base hpl hl ho el h
theorem Uv.loop (hpl : plUp tk) (hl : UL tk rl) {l : Nat} (hl4 : l ≤ 4) : ∀ (f x : Nat) (s : zP), Uv tk s → Pv tk (pLoop tk rl f l i x s)
  | 0, _, _, _ => Pv.flt
  | f + 1, x, s, h => by
    rw [pLoop]
    split
    · rename_i hlv
      obtain ⟨k0, k1, _, _⟩ := lvO_kd hl4 hlv
      refine Pv.bind h.no fun s1 _ e1 u1 => ?_
      obtain ⟨_, rfl⟩ := sNo_inl e1
      have u2 := u1.nx hpl k0 k1
      refine Pv.bind ?_ fun s2 sk _ u2 => Pv.bind (hl _ _ _ u2) fun s3 _ _ u3 => Pv.bind u3.em fun s4 _ _ u4 => Pv.bind (Uv.nd ?_) fun s5 x5 _ u5 => ?_
      · split
        · exact u2.em
        · exact Pv.ret u2
      · split
        · exact u4.cd
        · exact u4
      · split
        · exact Pv.ret u5
        · exact Uv.loop hpl hl hl4 f x5 s5 u5
    · exact Pv.ret h
theorem Uv.level (hpl : plUp tk) (hl : UL tk rl) (ho : UO tk ro) : UL tk (pLevel tk rl ro) := by
  intro l i s h
  unfold pLevel
  split
  · rename_i h4
    exact Pv.bind (hl _ _ _ h) fun s1 x _ u1 => Uv.loop hpl hl h4 251 x s1 u1
  · exact ho _ _ h
end USES
theorem Uv.fix {tk : List zK} {fg : Nat} (hpl : plUp tk) : ∀ n : Nat, UL tk (pFix tk fg n).1 ∧ UO tk (pFix tk fg n).2
  | 0 => ⟨fun _ _ _ _ => Pv.flt, fun _ _ _ => Pv.flt⟩
  | n + 1 => by
    obtain ⟨h1, h2⟩ := Uv.fix (fg := fg) hpl n
    exact ⟨Uv.level hpl h1 h2, Uv.one hpl h1 h2 (E_fix (tk := tk) (fg := fg) n).1⟩
