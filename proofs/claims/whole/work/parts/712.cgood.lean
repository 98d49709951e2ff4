/-! THE CLASS READS: as the function on tokens says -/
def tkOK (tk : List zK) : Prop := tk.length ≤ 1401 ∧ ∀ (i : Nat) τ, tk[i]? = some τ → (0 ≤ τ.1.toInt ∧ (τ.1 ≠ 0 → τ.1 ≠ 1 → i + 1 < tk.length) ∧ τ.2.1 ≤ 1400 ∧ (τ.1 = 2 ∨ τ.1 = 3 → ∃ v, τ.2.2.2 = some v))
def CP (tk : List zK) (s : zP) (S : zS) : Prop := WP S ∧ zI S 6 = -9 ∧ (zI S 5 = Int32.ofNat s.1 ∧ s.1 < tk.length) ∧ (∀ (i : Nat) τ, tk[i]? = some τ → tokC S i τ) ∧ (zI S 27 = Int32.ofNat s.2.1 ∧ s.2.1 ≤ 250) ∧ (zI S 32 = Int32.ofNat s.2.2.1.length ∧ s.2.2.1.length ≤ 559 ∧ ∀ (i : Nat) c, s.2.2.1[i]? = some c → (zA S 30)[i]? = some c.1 ∧ (zA S 31)[i]? = some c.2) ∧ (zI S 7 = Int32.ofNat s.2.2.2.2.length ∧ s.2.2.2.2.length ≤ 250 ∧ ∀ (i : Nat) u, s.2.2.2.2[i]? = some u → (zA S 10)[i]? = some (Int32.ofNat u.1) ∧ (zB S 11)[i]? = some u.2.1 ∧ (zA S 13)[i]? = some (Int32.ofNat u.2.2.1) ∧ ∀ c, u.2.2.2.1 = some c → (zA S 12)[i]? = some (Int32.ofNat c))
def Rs {α β : Type} (tk : List zK) (S : zS) (V : α → β → Prop) (F : α → Prop) (p : zF β) (o : Option (α × zS)) : Prop := match p with
  | .inl (s, b) => ∃ a S', o = some (a, S') ∧ CP tk s S' ∧ eqX S S' ∧ V a b
  | .inr (some k) => ∃ a S', o = some (a, S') ∧ CF (pl tk k) S' ∧ eqX S S' ∧ F a
  | .inr none => True
def TT {α β : Type} : α → β → Prop := fun _ _ => True
def T1 {α : Type} : α → Prop := fun _ => True
section RS
variable {α β γ δ : Type} {tk : List zK} {S S1 : zS} {V : α → β → Prop} {F : α → Prop} {W : γ → δ → Prop} {G : γ → Prop}
theorem Rs.base {p : zF β} {o : Option (α × zS)} (e : eqX S S1) (h : Rs tk S1 V F p o) : Rs tk S V F p o := by
  rcases p with ⟨s, b⟩ | _ | k
  · obtain ⟨a, S', q1, q2, q3, q4⟩ := h
    exact ⟨a, S', q1, q2, e.trans q3, q4⟩
  · trivial
  · obtain ⟨a, S', q1, q2, q3, q4⟩ := h
    exact ⟨a, S', q1, q2, e.trans q3, q4⟩
theorem Rs.bind {p : zF β} {f : zP → β → zF δ} {o : Option (α × zS)} {g : α → zS → Option (γ × zS)} (h : Rs tk S V F p o) (hg : ∀ s b a S1, p = .inl (s, b) → CP tk s S1 → eqX S S1 → V a b → Rs tk S1 W G (f s b) (g a S1)) (hf : ∀ a, F a → ∀ q S1, CF q S1 → ∃ c S2, g a S1 = some (c, S2) ∧ CF q S2 ∧ eqX S1 S2 ∧ G c) : Rs tk S W G (pb p f) (zb o g) := by
  rcases p with ⟨s, b⟩ | _ | k
  · obtain ⟨a, S', q1, q2, q3, q4⟩ := h
    rw [q1, zbs]
    exact Rs.base q3 (hg s b a S' rfl q2 q3 q4)
  · trivial
  · obtain ⟨a, S', q1, q2, q3, q4⟩ := h
    obtain ⟨c, S2, r1, r2, r3, r4⟩ := hf a q4 _ _ q2
    exact ⟨c, S2, by rw [q1, zbs, r1], r2, q3.trans r3, r4⟩
theorem Rs.mono {p : zF β} {o : Option (α × zS)} {V2 : α → β → Prop} {F2 : α → Prop} (h : Rs tk S V F p o) (hV : ∀ a b, V a b → V2 a b) (hF : ∀ a, F a → F2 a) : Rs tk S V2 F2 p o := by
  rcases p with ⟨s, b⟩ | _ | k
  · obtain ⟨a, S', q1, q2, q3, q4⟩ := h
    exact ⟨a, S', q1, q2, q3, hV _ _ q4⟩
  · trivial
  · obtain ⟨a, S', q1, q2, q3, q4⟩ := h
    exact ⟨a, S', q1, q2, q3, hF _ q4⟩
end RS
theorem eqX.fg {S S' : zS} {x : Int32} (e : eqX S S') (h : zI S 22 = x) : zI S' 22 = x := (e.1 22 (by decide) (by decide) (by decide) (by decide) (by decide)).trans h
section GOOD
variable {N : Nat} {tk : List zK} {s : zP} {S : zS}
theorem CP.kdp (h : CP tk s S) : ∃ τ, tk[s.1]? = some τ ∧ kd tk s.1 = τ.1 ∧ pl tk s.1 = τ.2.1 ∧ tokC S s.1 τ := by
  obtain ⟨τ, hτ⟩ : ∃ τ, tk[s.1]? = some τ := ⟨_, List.getElem?_eq_getElem h.2.2.1.2⟩
  exact ⟨τ, hτ, by rw [kd, hτ]; rfl, by rw [pl, hτ]; rfl, h.2.2.2.1 _ _ hτ⟩
theorem sees_G (ok : tkOK tk) (h : CP tk s S) : cP_sees N S = some (kd tk s.1, S) := by
  obtain ⟨τ, h1, h2, _, h3⟩ := h.kdp
  have := h.2.2.1.2
  rw [cP_sees, if_neg (fun hh => hh h.2.1), h.2.2.1.1, gI_nat (by have := ok.1; omega), h3.1, zgs, h2]
theorem next_G (ok : tkOK tk) (h : CP tk s S) (h0 : kd tk s.1 ≠ 0) (h1 : kd tk s.1 ≠ 1) : cP_next N S = some ((), zsI S 5 (Int32.ofNat (s.1 + 1))) ∧ CP tk (sNx s) (zsI S 5 (Int32.ofNat (s.1 + 1))) ∧ eqX S (zsI S 5 (Int32.ofNat (s.1 + 1))) := by
  obtain ⟨τ, g1, g2, _, g3⟩ := h.kdp
  obtain ⟨c1, c2, _, _⟩ := ok.2 _ _ g1
  rw [g2] at h0 h1
  have hl := c2 h0 h1
  have hok := ok.1
  obtain ⟨⟨w1, w2, w3, w4, w5, w6, w7⟩, r2, ⟨r3, r3'⟩, r4, r5, r6, r7⟩ := h
  have hne : ¬ τ.1.toInt ≤ 1 := by
    intro hle
    rcases (show τ.1.toInt = 0 ∨ τ.1.toInt = 1 by omega) with hh | hh
    · exact h0 (by rw [xi32_eq, hh]; rfl)
    · exact h1 (by rw [xi32_eq, hh]; rfl)
  refine ⟨?_, ⟨⟨w1, w2, w3, ⟨s.1 + 1, by omega, by rw [zi_I, if_pos rfl]⟩, w5, w6, w7⟩, r2, ⟨by rw [zi_I, if_pos rfl]; rfl, hl⟩, r4, r5, r6, r7⟩, ?_⟩
  · rw [cP_next, if_neg (fun hh => hh r2), r3, gI_nat (by omega), g3.1, zgs, if_neg hne, w1.1, yi_add1, if_neg (by rw [yi_nat (by omega), yi_nat (by omega)]; omega)]
  · exact ⟨fun i h5 _ _ _ _ => by rw [zi_I, if_neg h5], fun _ _ _ _ _ _ => rfl, fun _ _ => rfl⟩
theorem refuse_G (ok : tkOK tk) (h : CP tk s S) : ∃ S', cP_refuse N S = some ((), S') ∧ CF (pl tk s.1) S' ∧ eqX S S' := by
  obtain ⟨τ, g1, _, g2, g3⟩ := h.kdp
  obtain ⟨_, _, c3, _⟩ := ok.2 _ _ g1
  have hok := ok.1
  obtain ⟨⟨w1, w2, w3, w4, w5, w6, w7⟩, r2, ⟨r3, r3'⟩, r4, r5, r6, r7⟩ := h
  refine ⟨zsI S 6 (Int32.ofNat τ.2.1), ?_, ⟨⟨w1, w2, w3, w4, w5, w6, w7⟩, by rw [g2]; exact c3, by rw [g2]; rfl⟩, ?_⟩
  · rw [cP_refuse, if_neg (fun hh => hh r2), r3, gI_nat (by omega), g3.2.1, zgs]
  · exact ⟨fun i _ h6 _ _ _ => by rw [zi_I, if_neg h6], fun _ _ _ _ _ _ => rfl, fun _ _ => rfl⟩
theorem R_want (ok : tkOK tk) {c : Int32} (c0 : c ≠ 0) (c1 : c ≠ 1) (h : CP tk s S) : Rs tk S TT T1 (pWant tk c s) (cP_want N c S) := by
  rw [cP_want, sees_G ok h, zbs, pWant]
  by_cases hk : kd tk s.1 = c
  · obtain ⟨n1, n2, n3⟩ := next_G (N := N) ok h (by rw [hk]; exact c0) (by rw [hk]; exact c1)
    rw [if_pos hk, if_neg (fun hh => hh hk), n1, zbs]
    exact ⟨(), _, rfl, n2, n3, trivial⟩
  · obtain ⟨S', n1, n2, n3⟩ := refuse_G (N := N) ok h
    rw [if_neg hk, if_pos hk, n1, zbs]
    exact ⟨(), _, rfl, n2, n3, trivial⟩
theorem R_enter (ok : tkOK tk) {i : Nat} (hi : i < 100) (h : CP tk s S) : Rs tk S TT T1 (pEnter i s) (cP_enter N (Int32.ofNat i) S) := by
  rw [cP_enter, pEnter, yi_nat (by omega)]
  by_cases h10 : i < 10
  · rw [if_pos h10, if_pos (by omega)]
    exact ⟨(), S, rfl, h, eqX.refl, trivial⟩
  · obtain ⟨S', n1, n2, n3⟩ := refuse_G (N := N) ok h
    rw [if_neg h10, if_neg (by omega), n1, zbs]
    exact ⟨(), _, rfl, n2, n3, trivial⟩
theorem R_node (ok : tkOK tk) (h : CP tk s S) : Rs tk S TT T1 (sNo s) (cP_node N S) := by
  rw [cP_node, sNo, h.2.2.2.2.1.1]
  have h5 := h.2.2.2.2.1.2
  rw [yi_nat (by omega)]
  by_cases hn : s.2.1 < 250
  · rw [if_pos hn, if_pos (by omega), yi_add1]
    obtain ⟨⟨w1, w2, w3, w4, w5, w6, w7⟩, r2, r3, r4, r5, r6, r7⟩ := h
    exact ⟨(), _, rfl, ⟨⟨w1, w2, w3, w4, w5, w6, s.2.1 + 1, by omega, by rw [zi_I, if_pos rfl]⟩, r2, r3, r4, ⟨by rw [zi_I, if_pos rfl], by show s.2.1 + 1 ≤ 250; omega⟩, r6, r7⟩, ⟨fun i _ _ _ h27 _ => by rw [zi_I, if_neg h27], fun _ _ _ _ _ _ => rfl, fun _ _ => rfl⟩, trivial⟩
  · obtain ⟨S', n1, n2, n3⟩ := refuse_G (N := N) ok h
    rw [if_neg hn, if_neg (by omega), n1, zbs]
    exact ⟨(), _, rfl, n2, n3, trivial⟩
theorem R_emit {d w : Int32} (h : CP tk s S) : Rs tk S (fun a b => a = Int32.ofNat b ∧ b < 560) (fun _ => False) (sEm s d w) (cP_emit N d w S) := by
  rw [sEm]
  split
  · rename_i hlt
    obtain ⟨S', q1, q2, q3, q4, q5, q6, q7, q8, q9, q10, q11, q12, q13, q14⟩ := emit_W (N := N) (d := d) (w := w) h.1 (c := s.2.2.1.length) (by omega) h.2.2.2.2.2.1.1
    rw [Nat.min_eq_left (by omega)] at q1 q8 q9 q10
    obtain ⟨⟨w1, w2, ⟨w3, w3'⟩, w4, w5, w6, w7⟩, r2, r3, r4, r5, ⟨r6, r6', r6''⟩, ⟨r7, r7', r7''⟩⟩ := h
    refine ⟨_, S', q1, ⟨q2, by rw [q5]; exact r2, ⟨by rw [q4]; exact r3.1, r3.2⟩, ?_, ⟨by rw [q7]; exact r5.1, r5.2⟩, ⟨?_, ?_, ?_⟩, ⟨by rw [q6]; exact r7, r7', ?_⟩⟩, q3, rfl, by omega⟩
    · intro i τ hτ
      obtain ⟨t1, t2, t3⟩ := r4 i τ hτ
      exact ⟨by rw [q3.2.1 2 (by decide) (by decide) (by decide) (by decide) (by decide)]; exact t1, by rw [q3.2.1 3 (by decide) (by decide) (by decide) (by decide) (by decide)]; exact t2, fun v hv => by rw [q3.2.2 4 (by decide)]; exact t3 v hv⟩
    · rw [q8]; show _ = Int32.ofNat (s.2.2.1 ++ [(d, w)]).length; rw [List.length_append]; rfl
    · show (s.2.2.1 ++ [(d, w)]).length ≤ 559; rw [List.length_append]; simp; omega
    · intro i c hc
      have hc : (s.2.2.1 ++ [(d, w)])[i]? = some c := hc
      rw [q9, q10]
      by_cases hi : i < s.2.2.1.length
      · rw [List.getElem?_append_left hi] at hc
        rw [List.getElem?_set_ne (by omega), List.getElem?_set_ne (by omega)]
        exact r6'' i c hc
      · have hil := (List.getElem?_eq_some_iff.mp hc).1
        rw [List.length_append] at hil
        simp at hil
        obtain rfl : i = s.2.2.1.length := by omega
        rw [List.getElem?_append_right (Nat.le_refl _), Nat.sub_self] at hc
        cases hc
        rw [List.getElem?_set_self (by omega), List.getElem?_set_self (by omega)]
        exact ⟨rfl, rfl⟩
    · intro i u hu
      rw [q11, q12, q13, q14]
      exact r7'' i u hu
  · trivial
theorem with_G {i : Nat} {d y x : Int32} (h : CP tk s S) (hi : s.2.2.1[i]? = some (d, y)) : zok (zA S 31) (Int32.ofNat i) ∧ CP tk (sCd s i (d, x)) (zsA S 31 (zs (zA S 31) (Int32.ofNat i) x)) ∧ eqX S (zsA S 31 (zs (zA S 31) (Int32.ofNat i) x)) := by
  have hil := (List.getElem?_eq_some_iff.mp hi).1
  obtain ⟨z1, z2, z3⟩ := with_W (S := S) (i := i) (x := x) h.1 (by have := h.2.2.2.2.2.1.2.1; omega)
  obtain ⟨⟨w1, w2, ⟨w3, w3'⟩, w4, w5, w6, w7⟩, r2, r3, r4, r5, ⟨r6, r6', r6''⟩, r7⟩ := h
  refine ⟨z1, ⟨z2, r2, r3, r4, r5, ⟨?_, ?_, ?_⟩, r7⟩, z3⟩
  · show zI S 32 = Int32.ofNat (s.2.2.1.set i (d, x)).length; rw [List.length_set]; exact r6
  · show (s.2.2.1.set i (d, x)).length ≤ 559; rw [List.length_set]; exact r6'
  · intro j c hc
    have hc : (s.2.2.1.set i (d, x))[j]? = some c := hc
    show (zA S 30)[j]? = _ ∧ (zs (zA S 31) (Int32.ofNat i) x)[j]? = _
    rw [zs_nat (by omega)]
    by_cases hj : j = i
    · subst hj
      rw [List.getElem?_set_self hil] at hc
      cases hc
      rw [List.getElem?_set_self (by omega)]
      exact ⟨(r6'' j _ hi).1, rfl⟩
    · rw [List.getElem?_set_ne (by omega)] at hc
      rw [List.getElem?_set_ne (by omega)]
      exact r6'' j c hc
theorem code_G {i c : Nat} {a : Nat} {b : Int64} {t : Nat} {o : Option Nat} {n : Nat} (h : CP tk s S) (hi : s.2.2.2.2[i]? = some (a, b, t, o, n)) : zok (zA S 12) (Int32.ofNat i) ∧ CP tk (sSu s i (a, b, t, some c, n)) (zsA S 12 (zs (zA S 12) (Int32.ofNat i) (Int32.ofNat c))) ∧ eqX S (zsA S 12 (zs (zA S 12) (Int32.ofNat i) (Int32.ofNat c))) := by
  have hil := (List.getElem?_eq_some_iff.mp hi).1
  have hi250 : i < 250 := by have := h.2.2.2.2.2.2.2.1; omega
  obtain ⟨z1, z2, z3⟩ := code_W (S := S) (i := i) (x := Int32.ofNat c) h.1 hi250
  obtain ⟨⟨w1, ⟨a1, a2, a3, a4⟩, w3, w4, w5, w6, w7⟩, r2, r3, r4, r5, r6, ⟨r7, r7', r7''⟩⟩ := h
  refine ⟨z1, ⟨z2, r2, r3, r4, r5, r6, ⟨?_, ?_, ?_⟩⟩, z3⟩
  · show zI S 7 = Int32.ofNat (s.2.2.2.2.set i _).length; rw [List.length_set]; exact r7
  · show (s.2.2.2.2.set i _).length ≤ 250; rw [List.length_set]; exact r7'
  · intro j u hu
    have hu : (s.2.2.2.2.set i (a, b, t, some c, n))[j]? = some u := hu
    show (zA S 10)[j]? = _ ∧ (zB S 11)[j]? = _ ∧ (zA S 13)[j]? = _ ∧ ∀ c', _ → (zs (zA S 12) (Int32.ofNat i) (Int32.ofNat c))[j]? = _
    rw [zs_nat (by omega)]
    by_cases hj : j = i
    · subst hj
      rw [List.getElem?_set_self hil] at hu
      cases hu
      obtain ⟨x1, x2, x3, _⟩ := r7'' j _ hi
      refine ⟨x1, x2, x3, fun c' hc' => ?_⟩
      cases hc'
      rw [List.getElem?_set_self (by omega)]
    · rw [List.getElem?_set_ne (by omega)] at hu
      rw [List.getElem?_set_ne (by omega)]
      exact r7'' j u hu
theorem told_G {i : Nat} {a : Nat} {b : Int64} {t : Nat} {n : Nat} (h : CP tk s S) (hi : s.2.2.2.2[i]? = some (a, b, t, none, n)) : zok (zA S 13) (Int32.ofNat i) ∧ CP tk (sSu s i (a, b, 0, none, n)) (zsA S 13 (zs (zA S 13) (Int32.ofNat i) 0)) ∧ eqX S (zsA S 13 (zs (zA S 13) (Int32.ofNat i) 0)) := by
  have hil := (List.getElem?_eq_some_iff.mp hi).1
  have hi250 : i < 250 := by have := h.2.2.2.2.2.2.2.1; omega
  obtain ⟨z1, z2, z3⟩ := told_W (S := S) (i := i) (x := 0) h.1 hi250
  obtain ⟨⟨w1, ⟨a1, a2, a3, a4⟩, w3, w4, w5, w6, w7⟩, r2, r3, r4, r5, r6, ⟨r7, r7', r7''⟩⟩ := h
  refine ⟨z1, ⟨z2, r2, r3, r4, r5, r6, ⟨?_, ?_, ?_⟩⟩, z3⟩
  · show zI S 7 = Int32.ofNat (s.2.2.2.2.set i _).length; rw [List.length_set]; exact r7
  · show (s.2.2.2.2.set i _).length ≤ 250; rw [List.length_set]; exact r7'
  · intro j u hu
    have hu : (s.2.2.2.2.set i (a, b, 0, none, n))[j]? = some u := hu
    show (zA S 10)[j]? = _ ∧ (zB S 11)[j]? = _ ∧ (zs (zA S 13) (Int32.ofNat i) 0)[j]? = _ ∧ _
    rw [zs_nat (by omega)]
    by_cases hj : j = i
    · subst hj
      rw [List.getElem?_set_self hil] at hu
      cases hu
      obtain ⟨x1, x2, x3, _⟩ := r7'' j _ hi
      refine ⟨x1, x2, ?_, fun c' hc' => by cases hc'⟩
      rw [List.getElem?_set_self (by omega)]
      rfl
    · rw [List.getElem?_set_ne (by omega)] at hu
      rw [List.getElem?_set_ne (by omega)]
      exact r7'' j u hu
theorem R_use (ok : tkOK tk) {told n : Nat} (h : CP tk s S) : Rs tk S (fun a b => a = Int32.ofNat b ∧ b < 250) (fun a => ∃ u, u < 250 ∧ a = Int32.ofNat u) (pUse tk told n s) (cP_readUse N (Int32.ofNat told) S) := by
  obtain ⟨τ, g1, g2, g2', g3⟩ := h.kdp
  have hok := ok.1
  rw [cP_readUse, sees_G ok h, zbs, h.2.2.2.2.2.2.1, use_at h.2.2.2.2.2.2.2.1, pUse]
  by_cases hk : kd tk s.1 = 3
  · rw [if_pos hk, if_neg (fun hh => hh hk)]
    unfold sUs
    split
    · rename_i hlt
      rw [Nat.min_eq_left (by omega)]
      obtain ⟨v, hv⟩ := (ok.2 _ _ g1).2.2.2 (Or.inr (g2 ▸ hk))
      have hva : va tk s.1 = v := by rw [va, g1]; show (τ.2.2.2).getD 0 = v; rw [hv]; rfl
      obtain ⟨⟨w1, ⟨a1, a2, a3, a4⟩, w3, w4, w5, w6, w7⟩, r2, r3, r4, r5, r6, ⟨r7, r7', r7''⟩⟩ := h
      rw [r3.1, gI_nat (by have := r3.2; omega), g3.2.1, zgs, if_pos (zok_nat (by omega) (by omega)), gI_nat (by have := r3.2; omega), g3.2.2 v hv, zgs, if_pos (zok_nat (by omega) (by omega)), if_pos (zok_nat (by omega) (by omega)), yi_add1, zs_nat (by omega), zs_nat (by omega), zs_nat (by omega)]
      generalize hS1 : zsI (zsA (zsB (zsA S 10 ((zA S 10).set s.2.2.2.2.length (Int32.ofNat τ.2.1))) 11 ((zB S 11).set s.2.2.2.2.length v)) 13 ((zA S 13).set s.2.2.2.2.length (Int32.ofNat told))) 7 (Int32.ofNat (s.2.2.2.2.length + 1)) = S1
      have hC : CP tk (s.1, s.2.1, s.2.2.1, s.2.2.2.1, s.2.2.2.2 ++ [(pl tk s.1, va tk s.1, told, none, n)]) S1 := by
        subst hS1
        refine ⟨⟨w1, ⟨?_, ?_, a3, ?_⟩, w3, w4, ⟨s.2.2.2.2.length + 1, by omega, rfl⟩, w6, w7⟩, r2, r3, r4, r5, r6, ⟨?_, ?_, ?_⟩⟩
        · show ((zA S 10).set _ _).length = 250; rw [List.length_set, a1]
        · show ((zB S 11).set _ _).length = 250; rw [List.length_set, a2]
        · show ((zA S 13).set _ _).length = 250; rw [List.length_set, a4]
        · show _ = Int32.ofNat (s.2.2.2.2 ++ [_]).length; rw [List.length_append]; rfl
        · show (s.2.2.2.2 ++ [_]).length ≤ 250; rw [List.length_append]; simp; omega
        · intro j u hu
          have hu : (s.2.2.2.2 ++ [(pl tk s.1, va tk s.1, told, none, n)])[j]? = some u := hu
          show ((zA S 10).set _ _)[j]? = _ ∧ ((zB S 11).set _ _)[j]? = _ ∧ ((zA S 13).set _ _)[j]? = _ ∧ ∀ c, _ → (zA S 12)[j]? = _
          by_cases hj : j < s.2.2.2.2.length
          · rw [List.getElem?_append_left hj] at hu
            rw [List.getElem?_set_ne (by omega), List.getElem?_set_ne (by omega), List.getElem?_set_ne (by omega)]
            exact r7'' j u hu
          · have hil := (List.getElem?_eq_some_iff.mp hu).1
            rw [List.length_append] at hil
            simp at hil
            obtain rfl : j = s.2.2.2.2.length := by omega
            rw [List.getElem?_append_right (Nat.le_refl _), Nat.sub_self] at hu
            cases hu
            rw [List.getElem?_set_self (by omega), List.getElem?_set_self (by omega), List.getElem?_set_self (by omega)]
            exact ⟨by rw [g2'], by rw [hva], rfl, fun c hc => by cases hc⟩
      have hE : eqX S S1 := by
        subst hS1
        exact ⟨fun i _ _ h7 _ _ => by rw [zi_I, if_neg h7]; rfl, fun i h10 _ h13 _ _ => by rw [za_I, za_A, if_neg h13, za_B, za_A, if_neg h10], fun i h11 => by rw [zb_I, zb_A, zb_B, if_neg h11, zb_A]⟩
      obtain ⟨n1, n2, n3⟩ := next_G (N := N) ok hC (by show kd tk s.1 ≠ 0; rw [hk]; decide) (by show kd tk s.1 ≠ 1; rw [hk]; decide)
      rw [n1, zbs]
      exact ⟨_, _, rfl, n2, hE.trans n3, rfl, by omega⟩
    · trivial
  · obtain ⟨S', n1, n2, n3⟩ := refuse_G (N := N) ok h
    rw [if_neg hk, if_pos hk, n1, zbs]
    exact ⟨_, _, rfl, n2, n3, _, by have := h.2.2.2.2.2.2.2.1; omega, rfl⟩
theorem R_nd {α : Type} {a : α} {n : yNd} (h : CP tk s S) : Rs tk S TT T1 (sNd s n) (some (a, S)) := by
  unfold sNd
  split
  · exact ⟨a, S, rfl, h, eqX.refl, trivial⟩
  · trivial
end GOOD
