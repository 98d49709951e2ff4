/-! THE REFERENCE READS: as the function on tokens says -/
def tkT (t : List Int32) (tk : List zK) : Prop := ∀ (i : Nat) τ, tk[i]? = some τ → tokS t τ ∧ (∀ τ', tk[i + 1]? = some τ' → τ'.2.1 = τ.2.2.1 + nB (t.drop τ.2.2.1)) ∧ (τ.1 ≠ 0 → τ.1 ≠ 1 → ∃ τ', tk[i + 1]? = some τ')
def RQ (t : List Int32) (tk : List zK) (i : Nat) (s : zP) (S : zS) : Prop := WQ S ∧ zI S 6 = -9 ∧ refTape t S ∧ (∃ τ, tk[s.1]? = some τ ∧ refTok t S τ.2.1) ∧ zI S 7 = Int32.ofNat i ∧ (zI S 31 = Int32.ofNat s.2.1 ∧ s.2.1 ≤ 250) ∧ (zI S 32 = Int32.ofNat s.2.2.2.1.length ∧ s.2.2.2.1.length ≤ 299 ∧ ∀ (j : Nat) n, s.2.2.2.1[j]? = some n → (zA S 33)[j]? = some n.1 ∧ (zA S 35)[j]? = some n.2.1 ∧ (zA S 36)[j]? = some n.2.2.1 ∧ (zB S 34)[j]? = some n.2.2.2) ∧ (zI S 9 = Int32.ofNat s.2.2.2.2.length ∧ s.2.2.2.2.length ≤ 250 ∧ ∀ (j : Nat) u, s.2.2.2.2[j]? = some u → (zB S 10)[j]? = some u.2.1 ∧ (zA S 11)[j]? = some (Int32.ofNat u.1) ∧ (zA S 12)[j]? = some (Int32.ofNat u.2.2.2.2) ∧ (zA S 13)[j]? = some (Int32.ofNat u.2.2.1))
def Rq {α β : Type} (t : List Int32) (tk : List zK) (i : Nat) (S : zS) (V : α → β → Prop) (F : α → Prop) (p : zF β) (o : Option (α × zS)) : Prop := match p with
  | .inl (s, b) => ∃ a S', o = some (a, S') ∧ RQ t tk i s S' ∧ eqY S S' ∧ V a b
  | .inr (some k) => ∃ a S', o = some (a, S') ∧ QF (pl tk k) S' ∧ eqY S S' ∧ F a
  | .inr none => True
def VN : Int32 → Nat → Prop := fun a b => a = Int32.ofNat b ∧ b < 300
section RQS
variable {α β γ δ : Type} {t : List Int32} {tk : List zK} {i i2 : Nat} {S S1 : zS} {V : α → β → Prop} {F : α → Prop} {W : γ → δ → Prop} {G : γ → Prop}
theorem Rq.base {p : zF β} {o : Option (α × zS)} (e : eqY S S1) (h : Rq t tk i S1 V F p o) : Rq t tk i S V F p o := by
  rcases p with ⟨s, b⟩ | _ | k
  · obtain ⟨a, S', q1, q2, q3, q4⟩ := h
    exact ⟨a, S', q1, q2, e.trans q3, q4⟩
  · trivial
  · obtain ⟨a, S', q1, q2, q3, q4⟩ := h
    exact ⟨a, S', q1, q2, e.trans q3, q4⟩
theorem Rq.bind {p : zF β} {f : zP → β → zF δ} {o : Option (α × zS)} {g : α → zS → Option (γ × zS)} (h : Rq t tk i2 S V F p o) (hg : ∀ s b a S1, p = .inl (s, b) → RQ t tk i2 s S1 → eqY S S1 → V a b → Rq t tk i S1 W G (f s b) (g a S1)) (hf : ∀ a, F a → ∀ q S1, QF q S1 → ∃ c S2, g a S1 = some (c, S2) ∧ QF q S2 ∧ eqY S1 S2 ∧ G c) : Rq t tk i S W G (pb p f) (zb o g) := by
  rcases p with ⟨s, b⟩ | _ | k
  · obtain ⟨a, S', q1, q2, q3, q4⟩ := h
    rw [q1, zbs]
    exact Rq.base q3 (hg s b a S' rfl q2 q3 q4)
  · trivial
  · obtain ⟨a, S', q1, q2, q3, q4⟩ := h
    obtain ⟨c, S2, r1, r2, r3, r4⟩ := hf a q4 _ _ q2
    exact ⟨c, S2, by rw [q1, zbs, r1], r2, q3.trans r3, r4⟩
end RQS
section GOODQ
variable {N : Nat} {t : List Int32} {tk : List zK} {i : Nat} {s : zP} {S : zS}
theorem RQ.kdp (hT : tkT t tk) (h : RQ t tk i s S) : ∃ τ, tk[s.1]? = some τ ∧ kd tk s.1 = kdAt t τ.2.1 ∧ pl tk s.1 = τ.2.1 ∧ refTok t S τ.2.1 ∧ τ.2.1 ≤ 1400 := by
  obtain ⟨τ, h1, h2⟩ := h.2.2.2.1
  obtain ⟨⟨g1, g2, g3, g4, g5⟩, _⟩ := hT _ _ h1
  have := h.2.2.1.2.1
  exact ⟨τ, h1, by rw [kd, h1]; exact g2, by rw [pl, h1]; rfl, h2, by omega⟩
theorem good_G (h : RQ t tk i s S) : rQ_good N S = some (1, S) := by rw [rQ_good, if_neg (by rw [h.2.1]; decide)]
theorem isSign_G (hT : tkT t tk) {c : Int32} (hc : c ∈ zwsg) (h : RQ t tk i s S) : rQ_isSign N c S = some (if kd tk s.1 = c then 1 else 0, S) := by
  obtain ⟨τ, g1, g2, g3, g4, _⟩ := h.kdp hT
  rw [rQ_isSign_ok h.2.2.1 g4 hc, g2]
theorem isWord_G (hN : 1400 < N) (hT : tkT t tk) {j : Nat} {bs : List Int32} (hj : zwords[j]? = some bs) (h : RQ t tk i s S) : rS_isWord bs N S = some (if kd tk s.1 = Int32.ofNat (200 + j) then 1 else 0, S) := by
  obtain ⟨τ, g1, g2, g3, g4, _⟩ := h.kdp hT
  rw [rS_isWord_ok hN h.2.2.1 g4 hj, g2]
theorem isName_G (hN : 1400 < N) (hT : tkT t tk) (h : RQ t tk i s S) : rQ_isName N S = some (if kd tk s.1 = 3 then 1 else 0, S) := by
  obtain ⟨τ, g1, g2, g3, g4, _⟩ := h.kdp hT
  rw [rQ_isName_ok hN h.2.2.1 g4, g2]
theorem next_Q (hN : 1400 < N) (hT : tkT t tk) (h : RQ t tk i s S) (h0 : kd tk s.1 ≠ 0) (h1 : kd tk s.1 ≠ 1) : ∃ S', rQ_next N S = some ((), S') ∧ RQ t tk i (sNx s) S' ∧ eqY S S' := by
  obtain ⟨τ, g1, g2, g3, g4, _⟩ := h.kdp hT
  obtain ⟨⟨c1, c2, c3, c4, c5⟩, d2, d3⟩ := hT _ _ g1
  rw [g2, ← c2] at h0 h1
  obtain ⟨τ', hτ'⟩ := d3 h0 h1
  obtain ⟨S', q1, q2, q3, q4⟩ := rQ_next_ok (p := τ.2.2.1) hN h.2.2.1 c5 (by rw [g4.2.2.1, c3])
  have qA : ∀ j, zA S' j = zA S j := fun j => congrFun (congrArg (fun x => x.2.2.1) q2) j
  have qB : ∀ j, zB S' j = zB S j := fun j => congrFun (congrArg (fun x => x.2.2.2.1) q2) j
  have e : eqY S S' := ⟨fun j h2 h3 h4 h5 _ _ _ _ _ => q3 j h2 h3 h4 h5, fun j _ _ _ _ _ _ => qA j, fun j _ _ => qB j⟩
  obtain ⟨⟨⟨a1, a2, a3, a4⟩, ⟨a5, a6, a7, a8⟩, n, hn, a9⟩, r2, r3, r4, r5, r6, ⟨r7, r7', r7''⟩, ⟨r8, r8', r8''⟩⟩ := h
  refine ⟨S', q1, ⟨⟨⟨by rw [qA]; exact a1, by rw [qA]; exact a2, by rw [qA]; exact a3, by rw [qB]; exact a4⟩, ⟨by rw [qB]; exact a5, by rw [qA]; exact a6, by rw [qA]; exact a7, by rw [qA]; exact a8⟩, n, hn, by rw [q3 32 (by decide) (by decide) (by decide) (by decide)]; exact a9⟩, by rw [q3 6 (by decide) (by decide) (by decide) (by decide)]; exact r2, e.tape r3, ⟨τ', hτ', ?_⟩, by rw [q3 7 (by decide) (by decide) (by decide) (by decide)]; exact r5, ⟨by rw [q3 31 (by decide) (by decide) (by decide) (by decide)]; exact r6.1, r6.2⟩, ⟨by rw [q3 32 (by decide) (by decide) (by decide) (by decide)]; exact r7, r7', ?_⟩, ⟨by rw [q3 9 (by decide) (by decide) (by decide) (by decide)]; exact r8, r8', ?_⟩⟩, e⟩
  · rw [d2 τ' hτ']; exact q4
  · intro j n hn
    rw [qA, qA, qA, qB]; exact r7'' j n hn
  · intro j u hu
    rw [qA, qA, qA, qB]; exact r8'' j u hu
theorem step_Q (hN : 1400 < N) (hT : tkT t tk) (h : RQ t tk i s S) (h0 : kd tk s.1 ≠ 0) (h1 : kd tk s.1 ≠ 1) : ∃ S', rQ_step N S = some ((), S') ∧ RQ t tk i (sNx s) S' ∧ eqY S S' := by
  obtain ⟨S', q1, q2⟩ := next_Q hN hT h h0 h1
  exact ⟨S', by rw [rQ_step, good_G h, zbs, if_neg (by decide), q1, zbs], q2⟩
theorem wrong_Q (hT : tkT t tk) (h : RQ t tk i s S) : ∃ S', rQ_wrong N S = some ((), S') ∧ QF (pl tk s.1) S' ∧ eqY S S' := by
  obtain ⟨τ, g1, g2, g3, g4, g5⟩ := h.kdp hT
  refine ⟨zsI S 6 (zI S 3), by rw [rQ_wrong, if_neg (by rw [h.2.1]; decide)], ⟨h.1, by rw [g3]; exact g5, by rw [zi_I, if_pos rfl, g4.2.1, g3]⟩, fun j _ _ _ _ h6 _ _ _ _ => by rw [zi_I, if_neg h6], fun _ _ _ _ _ _ _ => rfl, fun _ _ _ => rfl⟩
theorem Q_sign (hN : 1400 < N) (hT : tkT t tk) {c : Int32} (hc : c ∈ zwsg) (h : RQ t tk i s S) : Rq t tk i S TT T1 (pWant tk c s) (rQ_sign N c S) := by
  rw [rQ_sign, good_G h, zbs, if_neg (by decide), isSign_G hT hc h, zbs, pWant]
  obtain ⟨c0, c1, _⟩ := zwsg_k c hc
  by_cases hk : kd tk s.1 = c
  · obtain ⟨S', q1, q2, q3⟩ := next_Q hN hT h (by rw [hk]; exact c0) (by rw [hk]; exact c1)
    rw [if_pos hk, if_pos hk, if_neg (by decide), q1, zbs]
    exact ⟨(), S', rfl, q2, q3, trivial⟩
  · obtain ⟨S', q1, q2, q3⟩ := wrong_Q (N := N) hT h
    rw [if_neg hk, if_neg hk, if_pos rfl, q1, zbs]
    exact ⟨(), S', rfl, q2, q3, trivial⟩
theorem Q_word (hN : 1400 < N) (hT : tkT t tk) (h : RQ t tk i s S) : Rq t tk i S TT T1 (pWant tk 227 s) (rQ_word N S) := by
  rw [rQ_word, good_G h, zbs, if_neg (by decide), isWord_G (j := 27) hN hT rfl h, zbs, pWant]
  by_cases hk : kd tk s.1 = 227
  · obtain ⟨S', q1, q2, q3⟩ := next_Q hN hT h (by rw [hk]; decide) (by rw [hk]; decide)
    rw [if_pos hk, if_pos (show kd tk s.1 = Int32.ofNat (200 + 27) from hk), if_neg (by decide), q1, zbs]
    exact ⟨(), S', rfl, q2, q3, trivial⟩
  · obtain ⟨S', q1, q2, q3⟩ := wrong_Q (N := N) hT h
    rw [if_neg hk, if_neg (show ¬ kd tk s.1 = Int32.ofNat (200 + 27) from hk), if_pos rfl, q1, zbs]
    exact ⟨(), S', rfl, q2, q3, trivial⟩
theorem Q_counts (hT : tkT t tk) (h : RQ t tk i s S) : Rq t tk i S TT T1 (sNo s) (rQ_counts N S) := by
  have h5 := h.2.2.2.2.2.1.2
  have e31 := h.2.2.2.2.2.1.1
  rw [rQ_counts, good_G h, zbs, if_neg (by decide), e31, sNo]
  by_cases hn : s.2.1 < 250
  · rw [if_pos hn, if_pos (by rw [Ne, xi32_eq, yi_nat (by omega), show (250 : Int32).toInt = 250 by decide]; omega), rQ_counts_10, good_G h, zbs, if_neg (by decide), e31, yi_add1]
    obtain ⟨r1, r2, r3, r4, r5, r6, r7, r8⟩ := h
    exact ⟨(), _, rfl, ⟨r1, r2, r3, r4, r5, ⟨by rw [zi_I, if_pos rfl], by show s.2.1 + 1 ≤ 250; omega⟩, r7, r8⟩, ⟨fun j _ _ _ _ _ _ _ h31 _ => by rw [zi_I, if_neg h31], fun _ _ _ _ _ _ _ => rfl, fun _ _ _ => rfl⟩, trivial⟩
  · obtain ⟨S', q1, q2, q3⟩ := wrong_Q (N := N) hT h
    have hs : s.2.1 = 250 := by omega
    rw [if_neg hn, hs, if_neg (by decide), q1, zbs, rQ_counts_10, good_F q2, zbs, if_pos rfl]
    exact ⟨(), _, rfl, q2, q3.trans ⟨fun j _ _ _ _ _ _ _ h31 _ => by rw [zi_I, if_neg h31], fun _ _ _ _ _ _ _ => rfl, fun _ _ _ => rfl⟩, trivial⟩
theorem Q_deeper (hT : tkT t tk) (hi : i ≤ 10) (h : RQ t tk i s S) : Rq t tk (i + 1) S TT T1 (pEnter i s) (rQ_deeper N S) := by
  have e7 := h.2.2.2.2.1
  rw [rQ_deeper, good_G h, zbs, if_neg (by decide), e7, pEnter]
  by_cases h10 : i < 10
  · rw [if_pos h10, if_pos (by rw [Ne, xi32_eq, yi_nat (by omega), show (10 : Int32).toInt = 10 by decide]; omega), yi_add1]
    obtain ⟨r1, r2, r3, r4, r5, r6, r7, r8⟩ := h
    exact ⟨(), _, rfl, ⟨r1, r2, r3, r4, by rw [zi_I, if_pos rfl], r6, r7, r8⟩, ⟨fun j _ _ _ _ _ h7 _ _ _ => by rw [zi_I, if_neg h7], fun _ _ _ _ _ _ _ => rfl, fun _ _ _ => rfl⟩, trivial⟩
  · obtain ⟨S', q1, q2, q3⟩ := wrong_Q (N := N) hT h
    have hi10 : i = 10 := by omega
    rw [if_neg h10, hi10, if_neg (by decide), q1, zbs]
    obtain ⟨w1, w2⟩ := shallow_F (x := zI S' 7 + 1) q2
    exact ⟨(), _, rfl, w1, q3.trans w2, trivial⟩
theorem shallow_Q (hi : i ≤ 10) (h : RQ t tk (i + 1) s S) : RQ t tk i s (zsI S 7 (zI S 7 - 1)) ∧ eqY S (zsI S 7 (zI S 7 - 1)) := by
  obtain ⟨r1, r2, r3, r4, r5, r6, r7, r8⟩ := h
  exact ⟨⟨r1, r2, r3, r4, by rw [zi_I, if_pos rfl, r5, yi_s1], r6, r7, r8⟩, fun j _ _ _ _ _ h7 _ _ _ => by rw [zi_I, if_neg h7], fun _ _ _ _ _ _ _ => rfl, fun _ _ _ => rfl⟩
theorem Q_node {op a b : Int32} (h : RQ t tk i s S) : Rq t tk i S VN (fun _ => False) (sNd s (op, a, b, 0)) (rQ_node N op a b S) := by
  rw [sNd]
  split
  · rename_i hlt
    obtain ⟨S', q1, q2, q3, q4, q5, q6, q7, q8, q9, q10, q11, q12, q13⟩ := node_W (N := N) (op := op) (a := a) (b := b) h.1 h.2.2.2.2.2.2.1.2.1 h.2.2.2.2.2.2.1.1
    rw [if_pos hlt] at q4
    obtain ⟨⟨⟨a1, a2, a3, a4⟩, a5, _⟩, r2, r3, ⟨τ, g1, g2⟩, r5, r6, ⟨r7, r7', r7''⟩, ⟨r8, r8', r8''⟩⟩ := h
    refine ⟨_, S', q1, ⟨q2, by rw [q9 6 (by decide)]; exact r2, q3.tape r3, ⟨τ, g1, ?_⟩, by rw [q9 7 (by decide)]; exact r5, ⟨by rw [q9 31 (by decide)]; exact r6.1, r6.2⟩, ⟨?_, ?_, ?_⟩, ⟨by rw [q9 9 (by decide)]; exact r8, r8', ?_⟩⟩, q3, rfl, by omega⟩
    · obtain ⟨k1, k2, k3, k4⟩ := g2
      refine ⟨k1, by rw [q9 3 (by decide)]; exact k2, by rw [q9 4 (by decide)]; exact k3, ?_⟩
      rw [q9 2 (by decide), q9 5 (by decide)]; exact k4
    · rw [q4]; show _ = Int32.ofNat (s.2.2.2.1 ++ [_]).length; rw [List.length_append]; rfl
    · show (s.2.2.2.1 ++ [_]).length ≤ 299; rw [List.length_append]; simp; omega
    · intro j n hn
      have hn : (s.2.2.2.1 ++ [(op, a, b, 0)])[j]? = some n := hn
      rw [q5, q6, q7, q8]
      by_cases hj : j < s.2.2.2.1.length
      · rw [List.getElem?_append_left hj] at hn
        rw [List.getElem?_set_ne (by omega), List.getElem?_set_ne (by omega), List.getElem?_set_ne (by omega), List.getElem?_set_ne (by omega)]
        exact r7'' j n hn
      · have hil := (List.getElem?_eq_some_iff.mp hn).1
        rw [List.length_append] at hil
        simp at hil
        obtain rfl : j = s.2.2.2.1.length := by omega
        rw [List.getElem?_append_right (Nat.le_refl _), Nat.sub_self] at hn
        cases hn
        rw [List.getElem?_set_self (by omega), List.getElem?_set_self (by omega), List.getElem?_set_self (by omega), List.getElem?_set_self (by omega)]
        exact ⟨rfl, rfl, rfl, rfl⟩
    · intro j u hu
      rw [q10, q11, q12, q13]; exact r8'' j u hu
  · trivial
theorem set_Q {n : Nat} {o a b : Int32} {v : Int64} {o' b' : Int32} {v' : Int64} {S2 : zS} (h : RQ t tk i s S) (hn : s.2.2.2.1[n]? = some (o, a, b, v)) (e1 : S2.1 = S.1) (hW : WQ S2) (e : eqY S S2) (c33 : zA S2 33 = (zA S 33).set n o') (c35 : zA S2 35 = zA S 35) (c36 : zA S2 36 = (zA S 36).set n b') (c34 : zB S2 34 = (zB S 34).set n v') (cA : ∀ j, j ≠ 33 → j ≠ 36 → zA S2 j = zA S j) (cB : zB S2 10 = zB S 10) : RQ t tk i (sSn s n (o', a, b', v')) S2 := by
  have hil := (List.getElem?_eq_some_iff.mp hn).1
  obtain ⟨⟨⟨a1, a2, a3, a4⟩, a5, _⟩, r2, r3, ⟨τ, g1, g2⟩, r5, r6, ⟨r7, r7', r7''⟩, ⟨r8, r8', r8''⟩⟩ := h
  have eI : ∀ j, zI S2 j = zI S j := fun j => congrFun e1 j
  refine ⟨hW, by rw [eI]; exact r2, e.tape r3, ⟨τ, g1, ?_⟩, by rw [eI]; exact r5, ⟨by rw [eI]; exact r6.1, r6.2⟩, ⟨?_, ?_, ?_⟩, ⟨by rw [eI]; exact r8, r8', ?_⟩⟩
  · obtain ⟨k1, k2, k3, k4⟩ := g2
    refine ⟨k1, by rw [eI]; exact k2, by rw [eI]; exact k3, ?_⟩
    rw [eI 2, eI 5]; exact k4
  · rw [eI]; show _ = Int32.ofNat (s.2.2.2.1.set n _).length; rw [List.length_set]; exact r7
  · show (s.2.2.2.1.set n _).length ≤ 299; rw [List.length_set]; exact r7'
  · intro j m hm
    have hm : (s.2.2.2.1.set n (o', a, b', v'))[j]? = some m := hm
    rw [c33, c35, c36, c34]
    by_cases hj : j = n
    · subst hj
      rw [List.getElem?_set_self hil] at hm
      cases hm
      rw [List.getElem?_set_self (by omega), List.getElem?_set_self (by omega), List.getElem?_set_self (by omega)]
      exact ⟨rfl, (r7'' j _ hn).2.1, rfl, rfl⟩
    · rw [List.getElem?_set_ne (by omega)] at hm
      rw [List.getElem?_set_ne (by omega), List.getElem?_set_ne (by omega), List.getElem?_set_ne (by omega)]
      exact r7'' j m hm
  · intro j u hu
    rw [cB, cA 11 (by decide) (by decide), cA 12 (by decide) (by decide), cA 13 (by decide) (by decide)]
    exact r8'' j u hu
theorem set_same {α : Type} {l : List α} {n : Nat} {x : α} (h : l[n]? = some x) : l.set n x = l := by
  obtain ⟨h1, h2⟩ := List.getElem?_eq_some_iff.mp h
  rw [← h2]; exact List.set_getElem_self h1
theorem op_Q {n : Nat} {o a b : Int32} {v : Int64} {x : Int32} (h : RQ t tk i s S) (hn : s.2.2.2.1[n]? = some (o, a, b, v)) : zok (zA S 33) (Int32.ofNat n) ∧ RQ t tk i (sSn s n (x, a, b, v)) (zsA S 33 (zs (zA S 33) (Int32.ofNat n) x)) ∧ eqY S (zsA S 33 (zs (zA S 33) (Int32.ofNat n) x)) := by
  have hil := (List.getElem?_eq_some_iff.mp hn).1
  have := h.2.2.2.2.2.2.1.2.1
  obtain ⟨z1, z2, z3⟩ := op_W (S := S) (n := n) (x := x) h.1 (by omega)
  obtain ⟨w1, w2, w3, w4⟩ := h.2.2.2.2.2.2.1.2.2 n _ hn
  refine ⟨z1, set_Q h hn rfl z2 z3 (by rw [za_A, if_pos rfl, zs_nat (by omega)]) rfl (by rw [za_A, if_neg (by decide), set_same w3]) (by rw [zb_A, set_same w4]) (fun j h1 _ => by rw [za_A, if_neg h1]) rfl, z3⟩
theorem two_Q {n : Nat} {o a b : Int32} {v : Int64} {x : Int32} (h : RQ t tk i s S) (hn : s.2.2.2.1[n]? = some (o, a, b, v)) : zok (zA S 36) (Int32.ofNat n) ∧ RQ t tk i (sSn s n (o, a, x, v)) (zsA S 36 (zs (zA S 36) (Int32.ofNat n) x)) ∧ eqY S (zsA S 36 (zs (zA S 36) (Int32.ofNat n) x)) := by
  have hil := (List.getElem?_eq_some_iff.mp hn).1
  have := h.2.2.2.2.2.2.1.2.1
  obtain ⟨z1, z2, z3⟩ := two_W (S := S) (n := n) (x := x) h.1 (by omega)
  obtain ⟨w1, w2, w3, w4⟩ := h.2.2.2.2.2.2.1.2.2 n _ hn
  refine ⟨z1, set_Q h hn rfl z2 z3 (by rw [za_A, if_neg (by decide), set_same w1]) rfl (by rw [za_A, if_pos rfl, zs_nat (by omega)]) (by rw [zb_A, set_same w4]) (fun j _ h1 => by rw [za_A, if_neg h1]) rfl, z3⟩
theorem val_Q {n : Nat} {o a b : Int32} {v : Int64} {x : Int64} (h : RQ t tk i s S) (hn : s.2.2.2.1[n]? = some (o, a, b, v)) : zok (zB S 34) (Int32.ofNat n) ∧ RQ t tk i (sSn s n (o, a, b, x)) (zsB S 34 (zs (zB S 34) (Int32.ofNat n) x)) ∧ eqY S (zsB S 34 (zs (zB S 34) (Int32.ofNat n) x)) := by
  have hil := (List.getElem?_eq_some_iff.mp hn).1
  have := h.2.2.2.2.2.2.1.2.1
  obtain ⟨z1, z2, z3⟩ := val_W (S := S) (n := n) (x := x) h.1 (by omega)
  obtain ⟨w1, w2, w3, w4⟩ := h.2.2.2.2.2.2.1.2.2 n _ hn
  refine ⟨z1, set_Q h hn rfl z2 z3 (by rw [za_B, set_same w1]) rfl (by rw [za_B, set_same w3]) (by rw [zb_B, if_pos rfl, zs_nat (by omega)]) (fun j _ _ => rfl) (by rw [zb_B, if_neg (by decide)]), z3⟩
theorem su_Q {u : Nat} {a : Nat} {b : Int64} {c : Nat} {o o' : Option Nat} {n : Nat} (h : RQ t tk i s S) (hu : s.2.2.2.2[u]? = some (a, b, c, o, n)) : RQ t tk i (sSu s u (a, b, c, o', n)) S := by
  have hil := (List.getElem?_eq_some_iff.mp hu).1
  obtain ⟨r1, r2, r3, r4, r5, r6, r7, ⟨r8, r8', r8''⟩⟩ := h
  refine ⟨r1, r2, r3, r4, r5, r6, r7, ⟨?_, ?_, ?_⟩⟩
  · show _ = Int32.ofNat (s.2.2.2.2.set u _).length; rw [List.length_set]; exact r8
  · show (s.2.2.2.2.set u _).length ≤ 250; rw [List.length_set]; exact r8'
  · intro j x hx
    have hx : (s.2.2.2.2.set u (a, b, c, o', n))[j]? = some x := hx
    by_cases hj : j = u
    · subst hj
      rw [List.getElem?_set_self hil] at hx
      cases hx
      exact r8'' j (a, b, c, o, n) hu
    · rw [List.getElem?_set_ne (by omega)] at hx
      exact r8'' j x hx
theorem ahead_Q {u : Nat} {a : Nat} {b : Int64} {c : Nat} {o : Option Nat} {n : Nat} (h : RQ t tk i s S) (hu : s.2.2.2.2[u]? = some (a, b, c, o, n)) : zok (zA S 13) (Int32.ofNat u) ∧ RQ t tk i (sSu s u (a, b, 0, o, n)) (zsA S 13 (zs (zA S 13) (Int32.ofNat u) 0)) ∧ eqY S (zsA S 13 (zs (zA S 13) (Int32.ofNat u) 0)) := by
  have hil := (List.getElem?_eq_some_iff.mp hu).1
  have hu250 := h.2.2.2.2.2.2.2.2.1
  have e : eqY S (zsA S 13 (zs (zA S 13) (Int32.ofNat u) 0)) := ⟨fun _ _ _ _ _ _ _ _ _ _ => rfl, fun j _ _ h13 _ _ _ => by rw [za_A, if_neg h13], fun _ _ _ => rfl⟩
  obtain ⟨⟨a1, ⟨a5, a6, a7, a8⟩, a9⟩, r2, r3, r4, r5, r6, r7, ⟨r8, r8', r8''⟩⟩ := h
  refine ⟨zok_nat (by omega) (by omega), ⟨⟨a1, ⟨a5, a6, a7, ?_⟩, a9⟩, r2, e.tape r3, r4, r5, r6, r7, ⟨?_, ?_, ?_⟩⟩, e⟩
  · show (zs (zA S 13) (Int32.ofNat u) 0).length = 252; rw [zs_nat (by omega), List.length_set, a8]
  · show _ = Int32.ofNat (s.2.2.2.2.set u _).length; rw [List.length_set]; exact r8
  · show (s.2.2.2.2.set u _).length ≤ 250; rw [List.length_set]; exact r8'
  · intro j x hx
    have hx : (s.2.2.2.2.set u (a, b, 0, o, n))[j]? = some x := hx
    show (zB S 10)[j]? = _ ∧ (zA S 11)[j]? = _ ∧ (zA S 12)[j]? = _ ∧ (zs (zA S 13) (Int32.ofNat u) 0)[j]? = _
    rw [zs_nat (by omega)]
    by_cases hj : j = u
    · subst hj
      rw [List.getElem?_set_self hil] at hx
      cases hx
      obtain ⟨x1, x2, x3, _⟩ := r8'' j _ hu
      exact ⟨x1, x2, x3, by rw [List.getElem?_set_self (by omega)]; rfl⟩
    · rw [List.getElem?_set_ne (by omega)] at hx
      rw [List.getElem?_set_ne (by omega)]
      exact r8'' j x hx
end GOODQ
