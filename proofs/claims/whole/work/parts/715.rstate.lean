/-! THE REFERENCE READS: states and small calls -/
def eqY (S S' : zS) : Prop := (∀ i, i ≠ 2 → i ≠ 3 → i ≠ 4 → i ≠ 5 → i ≠ 6 → i ≠ 7 → i ≠ 9 → i ≠ 31 → i ≠ 32 → zI S' i = zI S i) ∧ (∀ i, i ≠ 11 → i ≠ 12 → i ≠ 13 → i ≠ 33 → i ≠ 35 → i ≠ 36 → zA S' i = zA S i) ∧ ∀ i, i ≠ 10 → i ≠ 34 → zB S' i = zB S i
theorem eqY.refl {S : zS} : eqY S S := ⟨fun _ _ _ _ _ _ _ _ _ _ => rfl, fun _ _ _ _ _ _ _ => rfl, fun _ _ _ => rfl⟩
theorem eqY.trans {S S' S2 : zS} (h : eqY S S') (g : eqY S' S2) : eqY S S2 :=
  ⟨fun i a b c d e f j k l => (g.1 i a b c d e f j k l).trans (h.1 i a b c d e f j k l), fun i a b c d e f => (g.2.1 i a b c d e f).trans (h.2.1 i a b c d e f), fun i a b => (g.2.2 i a b).trans (h.2.2 i a b)⟩
theorem eqY.fg {S S' : zS} {x : Int32} (e : eqY S S') (h : zI S 23 = x) : zI S' 23 = x := (e.1 23 (by decide) (by decide) (by decide) (by decide) (by decide) (by decide) (by decide) (by decide) (by decide)).trans h
theorem eqY.tape {S S' : zS} {t : List Int32} (e : eqY S S') (h : refTape t S) : refTape t S' := by
  obtain ⟨h0, h1, h2, jk, h3⟩ := h
  exact ⟨(e.1 0 (by decide) (by decide) (by decide) (by decide) (by decide) (by decide) (by decide) (by decide) (by decide)).trans h0, h1, h2, jk, (e.2.1 1 (by decide) (by decide) (by decide) (by decide) (by decide) (by decide)).trans h3⟩
def WQ (S : zS) : Prop := ((zA S 33).length = 300 ∧ (zA S 35).length = 300 ∧ (zA S 36).length = 300 ∧ (zB S 34).length = 300) ∧ ((zB S 10).length = 252 ∧ (zA S 11).length = 252 ∧ (zA S 12).length = 252 ∧ (zA S 13).length = 252) ∧ ∃ n, n ≤ 299 ∧ zI S 32 = Int32.ofNat n
def QF (p : Nat) (S : zS) : Prop := WQ S ∧ p ≤ 1400 ∧ zI S 6 = Int32.ofNat p
theorem QF.ge {p : Nat} {S : zS} (h : QF p S) : 0 ≤ (zI S 6).toInt := by
  rw [h.2.2, yi_nat (by have := h.2.1; omega)]; omega
def FQ {α : Type} (g : zS → Option (α × zS)) : Prop := ∀ p S, QF p S → ∃ a S', g S = some (a, S') ∧ QF p S' ∧ eqY S S'
section SMALLQ
variable {N p : Nat} {S : zS}
theorem good_F (h : QF p S) : rQ_good N S = some (0, S) := by rw [rQ_good, if_pos h.ge]
theorem wrong_F (h : QF p S) : rQ_wrong N S = some ((), S) := by rw [rQ_wrong, if_pos h.ge]
theorem sign_F {c : Int32} (h : QF p S) : rQ_sign N c S = some ((), S) := by rw [rQ_sign, good_F h, zbs, if_pos rfl, wrong_F h, zbs]
theorem word_F (h : QF p S) : rQ_word N S = some ((), S) := by rw [rQ_word, good_F h, zbs, if_pos rfl, wrong_F h, zbs]
theorem step_F (h : QF p S) : rQ_step N S = some ((), S) := by rw [rQ_step, good_F h, zbs, if_pos rfl]
theorem number_F {a b : Int32} (h : QF p S) : rQ_number N a b S = some (a, S) := by rw [rQ_number, good_F h, zbs, if_pos rfl, wrong_F h, zbs]
theorem deeper_F (h : QF p S) : ∃ S', rQ_deeper N S = some ((), S') ∧ QF p S' ∧ eqY S S' := by
  rw [rQ_deeper, good_F h, zbs, if_pos rfl]
  exact ⟨_, rfl, h, fun i _ _ _ _ _ h7 _ _ _ => by rw [zi_I, if_neg h7], fun _ _ _ _ _ _ _ => rfl, fun _ _ _ => rfl⟩
theorem shallow_F {x : Int32} (h : QF p S) : QF p (zsI S 7 x) ∧ eqY S (zsI S 7 x) :=
  ⟨h, fun i _ _ _ _ _ h7 _ _ _ => by rw [zi_I, if_neg h7], fun _ _ _ _ _ _ _ => rfl, fun _ _ _ => rfl⟩
theorem counts_F (h : QF p S) : ∃ S', rQ_counts N S = some ((), S') ∧ QF p S' ∧ eqY S S' := by
  rw [rQ_counts, good_F h, zbs, if_pos rfl, rQ_counts_10, good_F h, zbs, if_pos rfl]
  exact ⟨_, rfl, h, fun i _ _ _ _ _ _ _ h31 _ => by rw [zi_I, if_neg h31], fun _ _ _ _ _ _ _ => rfl, fun _ _ _ => rfl⟩
theorem node_W {op a b : Int32} {n : Nat} (h : WQ S) (hn : n ≤ 299) (hS : zI S 32 = Int32.ofNat n) : ∃ S', rQ_node N op a b S = some (Int32.ofNat n, S') ∧ WQ S' ∧ eqY S S' ∧ zI S' 32 = Int32.ofNat (if n < 299 then n + 1 else n) ∧ zA S' 33 = (zA S 33).set n op ∧ zA S' 35 = (zA S 35).set n a ∧ zA S' 36 = (zA S 36).set n b ∧ zB S' 34 = (zB S 34).set n 0 ∧ (∀ i, i ≠ 32 → zI S' i = zI S i) ∧ zB S' 10 = zB S 10 ∧ zA S' 11 = zA S 11 ∧ zA S' 12 = zA S 12 ∧ zA S' 13 = zA S 13 := by
  obtain ⟨⟨a1, a2, a3, a4⟩, a5, _⟩ := h
  have en := yi_nat (i := n) (by omega)
  have hstep : ∀ x : Int32, rQ_node_16 N op a b (Int32.ofNat n) (Int32.ofNat n) x S = some (Int32.ofNat n, (zsB (zsA (zsA (zsA (zsI S 32 (Int32.ofNat n + x)) 33 ((zA S 33).set n op)) 35 ((zA S 35).set n a)) 36 ((zA S 36).set n b)) 34 ((zB S 34).set n 0))) := by
    intro x
    rw [rQ_node_16, if_pos (zok_nat (by omega) (by omega)), if_pos (zok_nat (by omega) (by omega)), if_pos (zok_nat (by omega) (by omega)), if_pos (zok_nat (by omega) (by omega)), zs_nat (by omega), zs_nat (by omega), zs_nat (by omega), zs_nat (by omega)]
  rw [rQ_node, hS, en]
  by_cases h9 : n < 299
  · rw [if_neg (by omega), hstep, if_pos h9, yi_add1]
    refine ⟨_, rfl, ⟨⟨?_, ?_, ?_, ?_⟩, a5, n + 1, by omega, rfl⟩, ⟨fun i _ _ _ _ _ _ _ _ h32 => by show zI (zsI S 32 _) i = _; rw [zi_I, if_neg h32], fun i _ _ _ h33 h35 h36 => by rw [za_B, za_A, if_neg h36, za_A, if_neg h35, za_A, if_neg h33, za_I], fun i _ h34 => by rw [zb_B, if_neg h34]; rfl⟩, rfl, rfl, rfl, rfl, rfl, fun i h32 => by show zI (zsI S 32 _) i = _; rw [zi_I, if_neg h32], rfl, rfl, rfl, rfl⟩
    · show ((zA S 33).set n op).length = 300; rw [List.length_set, a1]
    · show ((zA S 35).set n a).length = 300; rw [List.length_set, a2]
    · show ((zA S 36).set n b).length = 300; rw [List.length_set, a3]
    · show ((zB S 34).set n 0).length = 300; rw [List.length_set, a4]
  · rw [if_pos (by omega), hstep, if_neg h9, show Int32.ofNat n + 0 = Int32.ofNat n from Int32.add_zero _]
    refine ⟨_, rfl, ⟨⟨?_, ?_, ?_, ?_⟩, a5, n, by omega, rfl⟩, ⟨fun i _ _ _ _ _ _ _ _ h32 => by show zI (zsI S 32 _) i = _; rw [zi_I, if_neg h32], fun i _ _ _ h33 h35 h36 => by rw [za_B, za_A, if_neg h36, za_A, if_neg h35, za_A, if_neg h33, za_I], fun i _ h34 => by rw [zb_B, if_neg h34]; rfl⟩, rfl, rfl, rfl, rfl, rfl, fun i h32 => by show zI (zsI S 32 _) i = _; rw [zi_I, if_neg h32], rfl, rfl, rfl, rfl⟩
    · show ((zA S 33).set n op).length = 300; rw [List.length_set, a1]
    · show ((zA S 35).set n a).length = 300; rw [List.length_set, a2]
    · show ((zA S 36).set n b).length = 300; rw [List.length_set, a3]
    · show ((zB S 34).set n 0).length = 300; rw [List.length_set, a4]
theorem node_FQ {op a b : Int32} (h : QF p S) : ∃ n S', n < 300 ∧ rQ_node N op a b S = some (Int32.ofNat n, S') ∧ QF p S' ∧ eqY S S' := by
  obtain ⟨n, hn, hS⟩ := h.1.2.2
  obtain ⟨S', q1, q2, q3, q4, q5, q6, q7, q8, q9, _⟩ := node_W (N := N) (op := op) (a := a) (b := b) h.1 hn hS
  exact ⟨n, S', by omega, q1, ⟨q2, h.2.1, by rw [q9 6 (by decide)]; exact h.2.2⟩, q3⟩
theorem op_W {n : Nat} {x : Int32} (h : WQ S) (hn : n < 300) : zok (zA S 33) (Int32.ofNat n) ∧ WQ (zsA S 33 (zs (zA S 33) (Int32.ofNat n) x)) ∧ eqY S (zsA S 33 (zs (zA S 33) (Int32.ofNat n) x)) := by
  obtain ⟨⟨a1, a2, a3, a4⟩, a5⟩ := h
  exact ⟨zok_nat (by omega) (by omega), ⟨⟨by rw [za_A, if_pos rfl, zs_nat (by omega), List.length_set, a1], a2, a3, a4⟩, a5⟩, fun _ _ _ _ _ _ _ _ _ _ => rfl, fun i _ _ _ h _ _ => by rw [za_A, if_neg h], fun _ _ _ => rfl⟩
theorem two_W {n : Nat} {x : Int32} (h : WQ S) (hn : n < 300) : zok (zA S 36) (Int32.ofNat n) ∧ WQ (zsA S 36 (zs (zA S 36) (Int32.ofNat n) x)) ∧ eqY S (zsA S 36 (zs (zA S 36) (Int32.ofNat n) x)) := by
  obtain ⟨⟨a1, a2, a3, a4⟩, a5⟩ := h
  exact ⟨zok_nat (by omega) (by omega), ⟨⟨a1, a2, by rw [za_A, if_pos rfl, zs_nat (by omega), List.length_set, a3], a4⟩, a5⟩, fun _ _ _ _ _ _ _ _ _ _ => rfl, fun i _ _ _ _ _ h => by rw [za_A, if_neg h], fun _ _ _ => rfl⟩
theorem val_W {n : Nat} {x : Int64} (h : WQ S) (hn : n < 300) : zok (zB S 34) (Int32.ofNat n) ∧ WQ (zsB S 34 (zs (zB S 34) (Int32.ofNat n) x)) ∧ eqY S (zsB S 34 (zs (zB S 34) (Int32.ofNat n) x)) := by
  obtain ⟨⟨a1, a2, a3, a4⟩, a5⟩ := h
  exact ⟨zok_nat (by omega) (by omega), ⟨⟨a1, a2, a3, by rw [zb_B, if_pos rfl, zs_nat (by omega), List.length_set, a4]⟩, a5⟩, fun _ _ _ _ _ _ _ _ _ _ => rfl, fun _ _ _ _ _ _ _ => rfl, fun i _ h => by rw [zb_B, if_neg h]⟩
theorem refer_F {n a : Int32} (h : QF p S) : ∃ S', rQ_refer N n a S = some ((), S') ∧ QF p S' ∧ eqY S S' := by
  obtain ⟨S1, q1, q2, q3⟩ := counts_F (N := N) h
  rw [rQ_refer, good_F h, zbs, if_pos rfl, wrong_F h, zbs, rQ_refer_8, q1, zbs, good_F q2, zbs, if_pos rfl]
  exact ⟨S1, rfl, q2, q3⟩
end SMALLQ
/-! behind a fault -/
section FAULTQ
variable {N : Nat} {r1 r2 : zS → Option (Int32 × zS)}
theorem FQ_one : FQ (rQ_one r1 r2 N) := by
  intro p S h
  rw [rQ_one, good_F h, zbs, if_neg (by decide)]
  exact ⟨0, S, rfl, h, eqY.refl⟩
theorem FQ_prod3 {n : Nat} (hn : 0 < n) {x : Int32} : FQ (rQ_prod_3 r1 r2 N n x) := by
  intro p S h
  obtain ⟨n, rfl⟩ : ∃ k, n = k + 1 := ⟨n - 1, by omega⟩
  rw [rQ_prod_3, good_F h, zbs, if_pos rfl]
  exact ⟨x, S, rfl, h, eqY.refl⟩
theorem FQ_prod (hN : 0 < N) (f2 : FQ r2) : FQ (rQ_prod r1 r2 N) := by
  intro p S h
  obtain ⟨a, S1, q1, q2, q3⟩ := f2 p S h
  obtain ⟨b, S2, w1, w2, w3⟩ := FQ_prod3 (r1 := r1) (r2 := r2) (N := N) hN (x := a) p S1 q2
  rw [rQ_prod, q1, zbs, w1]
  exact ⟨b, S2, rfl, w2, q3.trans w3⟩
theorem FQ_sum3 {n : Nat} (hn : 0 < n) {x : Int32} : FQ (rQ_sum_3 r1 r2 N n x) := by
  intro p S h
  obtain ⟨n, rfl⟩ : ∃ k, n = k + 1 := ⟨n - 1, by omega⟩
  rw [rQ_sum_3, good_F h, zbs, if_pos rfl]
  exact ⟨x, S, rfl, h, eqY.refl⟩
theorem FQ_sum (hN : 0 < N) (f2 : FQ r2) : FQ (rQ_sum r1 r2 N) := by
  intro p S h
  obtain ⟨a, S1, q1, q2, q3⟩ := FQ_prod (r1 := r1) (N := N) hN f2 p S h
  obtain ⟨b, S2, w1, w2, w3⟩ := FQ_sum3 (r1 := r1) (r2 := r2) (N := N) hN (x := a) p S1 q2
  rw [rQ_sum, q1, zbs, w1]
  exact ⟨b, S2, rfl, w2, q3.trans w3⟩
theorem FQ_comp (hN : 0 < N) (f2 : FQ r2) : FQ (rQ_comp r1 r2 N) := by
  intro p S h
  obtain ⟨a, S1, q1, q2, q3⟩ := FQ_sum (r1 := r1) (N := N) hN f2 p S h
  rw [rQ_comp, q1, zbs, good_F q2, zbs, if_pos rfl]
  exact ⟨a, S1, rfl, q2, q3⟩
theorem FQ_every3 {n : Nat} (hn : 0 < n) {x : Int32} : FQ (rQ_every_3 r1 r2 N n x) := by
  intro p S h
  obtain ⟨n, rfl⟩ : ∃ k, n = k + 1 := ⟨n - 1, by omega⟩
  rw [rQ_every_3, good_F h, zbs, if_pos rfl]
  exact ⟨x, S, rfl, h, eqY.refl⟩
theorem FQ_every (hN : 0 < N) (f2 : FQ r2) : FQ (rQ_every r1 r2 N) := by
  intro p S h
  obtain ⟨a, S1, q1, q2, q3⟩ := FQ_comp (r1 := r1) (N := N) hN f2 p S h
  obtain ⟨b, S2, w1, w2, w3⟩ := FQ_every3 (r1 := r1) (r2 := r2) (N := N) hN (x := a) p S1 q2
  rw [rQ_every, q1, zbs, w1]
  exact ⟨b, S2, rfl, w2, q3.trans w3⟩
theorem FQ_exp3 {n : Nat} (hn : 0 < n) {x : Int32} : FQ (rQ_exp_3 r1 r2 N n x) := by
  intro p S h
  obtain ⟨n, rfl⟩ : ∃ k, n = k + 1 := ⟨n - 1, by omega⟩
  rw [rQ_exp_3, good_F h, zbs, if_pos rfl]
  exact ⟨x, S, rfl, h, eqY.refl⟩
theorem FQ_exp (hN : 0 < N) (f2 : FQ r2) : FQ (rQ_exp r1 r2 N) := by
  intro p S h
  obtain ⟨a, S1, q1, q2, q3⟩ := FQ_every (r1 := r1) (N := N) hN f2 p S h
  obtain ⟨b, S2, w1, w2, w3⟩ := FQ_exp3 (r1 := r1) (r2 := r2) (N := N) hN (x := a) p S1 q2
  rw [rQ_exp, q1, zbs, w1]
  exact ⟨b, S2, rfl, w2, q3.trans w3⟩
theorem FQ_fix (hN : 0 < N) : ∀ n : Nat, (2 ≤ n → FQ (rQ_fix N n).1) ∧ (1 ≤ n → FQ (rQ_fix N n).2)
  | 0 => ⟨fun h => by omega, fun h => by omega⟩
  | n + 1 => by
    refine ⟨fun h => ?_, fun _ => ?_⟩
    · have := (FQ_fix hN n).2 (by omega)
      exact FQ_exp hN this
    · exact FQ_one
end FAULTQ
