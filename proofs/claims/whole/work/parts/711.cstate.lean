/-! THE CLASS READS: states and small calls -/
def eqX (S S' : zS) : Prop := (∀ i, i ≠ 5 → i ≠ 6 → i ≠ 7 → i ≠ 27 → i ≠ 32 → zI S' i = zI S i) ∧ (∀ i, i ≠ 10 → i ≠ 12 → i ≠ 13 → i ≠ 30 → i ≠ 31 → zA S' i = zA S i) ∧ ∀ i, i ≠ 11 → zB S' i = zB S i
theorem eqX.refl {S : zS} : eqX S S := ⟨fun _ _ _ _ _ _ => rfl, fun _ _ _ _ _ _ => rfl, fun _ _ => rfl⟩
theorem eqX.trans {S S' S2 : zS} (h : eqX S S') (g : eqX S' S2) : eqX S S2 :=
  ⟨fun i a b c d e => (g.1 i a b c d e).trans (h.1 i a b c d e), fun i a b c d e => (g.2.1 i a b c d e).trans (h.2.1 i a b c d e), fun i a => (g.2.2 i a).trans (h.2.2 i a)⟩
def WP (S : zS) : Prop := ((zA S 2).length = 1401 ∧ (zA S 3).length = 1401 ∧ (zB S 4).length = 1401) ∧ ((zA S 10).length = 250 ∧ (zB S 11).length = 250 ∧ (zA S 12).length = 250 ∧ (zA S 13).length = 250) ∧ ((zA S 30).length = 560 ∧ (zA S 31).length = 560) ∧ (∃ k, k < 1401 ∧ zI S 5 = Int32.ofNat k) ∧ (∃ u, u ≤ 250 ∧ zI S 7 = Int32.ofNat u) ∧ (∃ c, c ≤ 560 ∧ zI S 32 = Int32.ofNat c) ∧ ∃ n, n ≤ 250 ∧ zI S 27 = Int32.ofNat n
/-- a fault at a place -/
def CF (p : Nat) (S : zS) : Prop := WP S ∧ p ≤ 1400 ∧ zI S 6 = Int32.ofNat p
theorem CF.ne {p : Nat} {S : zS} (h : CF p S) : zI S 6 ≠ -9 := by
  rw [h.2.2, Ne, xi32_eq, yi_nat (by have := h.2.1; omega), y_m9]; omega
/-- a call that comes to its end behind a fault -/
def FM {α : Type} (g : zS → Option (α × zS)) : Prop := ∀ p S, CF p S → ∃ a S', g S = some (a, S') ∧ CF p S' ∧ eqX S S'
theorem FM.bind {α β : Type} {f : zS → Option (α × zS)} {g : α → zS → Option (β × zS)} (hf : FM f) (hg : ∀ a, FM (g a)) : FM (fun S => zb (f S) g) := by
  intro p S h
  obtain ⟨a, S1, q1, q2, q3⟩ := hf p S h
  obtain ⟨b, S2, r1, r2, r3⟩ := hg a p S1 q2
  exact ⟨b, S2, by show zb (f S) g = _; rw [q1, zbs, r1], r2, q3.trans r3⟩
theorem FM.ret {α : Type} {a : α} : FM (fun S => some (a, S)) := fun _ S h => ⟨a, S, rfl, h, eqX.refl⟩
section SMALL
variable {N p : Nat} {S : zS}
theorem sees_F (h : CF p S) : cP_sees N S = some (1, S) := by rw [cP_sees, if_pos h.ne]
theorem next_F (h : CF p S) : cP_next N S = some ((), S) := by rw [cP_next, if_pos h.ne]
theorem refuse_F (h : CF p S) : cP_refuse N S = some ((), S) := by rw [cP_refuse, if_pos h.ne]
theorem want_F {c : Int32} (hc : c ≠ 1) (h : CF p S) : cP_want N c S = some ((), S) := by rw [cP_want, sees_F h, zbs, if_pos (Ne.symm hc), refuse_F h, zbs]
theorem enter_F {i : Int32} (h : CF p S) : cP_enter N i S = some ((), S) := by
  rw [cP_enter]
  split
  · rfl
  · rw [refuse_F h, zbs]
theorem node_F (h : CF p S) : ∃ S', cP_node N S = some ((), S') ∧ CF p S' ∧ eqX S S' := by
  obtain ⟨⟨w1, w2, w3, w4, w5, w6, n, hn, w7⟩, w8⟩ := h
  rw [cP_node]
  split
  · rename_i hlt
    rw [w7, yi_nat (by omega)] at hlt
    refine ⟨_, rfl, ⟨⟨w1, w2, w3, w4, w5, w6, n + 1, by omega, ?_⟩, w8⟩, ?_⟩
    · rw [zi_I, if_pos rfl, w7, yi_add1]
    · exact ⟨fun i _ _ _ h27 _ => by rw [zi_I, if_neg h27], fun _ _ _ _ _ _ => rfl, fun _ _ => rfl⟩
  · rw [refuse_F ⟨⟨w1, w2, w3, w4, w5, w6, n, hn, w7⟩, w8⟩, zbs]
    exact ⟨S, rfl, ⟨⟨w1, w2, w3, w4, w5, w6, n, hn, w7⟩, w8⟩, eqX.refl⟩
theorem emit_at {c : Nat} (hc : c ≤ 560) : (if (559 : Int32) < Int32.ofNat c then (559 : Int32) else Int32.ofNat c) = Int32.ofNat (min c 559) := by
  have e1 : (559 : Int32).toInt = 559 := by decide
  have e2 := yi_nat (i := c) (by omega)
  split <;> rename_i h <;> rw [Int32.lt_iff_toInt_lt, e1, e2] at h
  · rw [Nat.min_eq_right (by omega)]; rfl
  · rw [Nat.min_eq_left (by omega)]
theorem emit_W {d w : Int32} {c : Nat} (h : WP S) (hc : c ≤ 560) (hl : zI S 32 = Int32.ofNat c) : ∃ S', cP_emit N d w S = some (Int32.ofNat (min c 559), S') ∧ WP S' ∧ eqX S S' ∧ zI S' 5 = zI S 5 ∧ zI S' 6 = zI S 6 ∧ zI S' 7 = zI S 7 ∧ zI S' 27 = zI S 27 ∧ zI S' 32 = Int32.ofNat (min c 559 + 1) ∧ zA S' 30 = (zA S 30).set (min c 559) d ∧ zA S' 31 = (zA S 31).set (min c 559) w ∧ zA S' 10 = zA S 10 ∧ zA S' 12 = zA S 12 ∧ zA S' 13 = zA S 13 ∧ zB S' 11 = zB S 11 := by
  obtain ⟨w1, w2, ⟨w3, w3'⟩, w4, w5, w6, w7⟩ := h
  rw [cP_emit, hl, emit_at hc, if_pos (zok_nat (by omega) (by omega)), if_pos (zok_nat (by omega) (by omega)), yi_add1, zs_nat (by omega), zs_nat (by omega)]
  refine ⟨_, rfl, ⟨w1, w2, ⟨?_, ?_⟩, w4, w5, ⟨min c 559 + 1, by omega, by rw [zi_I, if_pos rfl]⟩, w7⟩, ?_, rfl, rfl, rfl, rfl, rfl, rfl, rfl, rfl, rfl, rfl, rfl⟩
  · show ((zA S 30).set _ d).length = 560; rw [List.length_set, w3]
  · show ((zA S 31).set _ w).length = 560; rw [List.length_set, w3']
  · exact ⟨fun i _ _ _ _ h32 => by rw [zi_I, if_neg h32]; rfl, fun i _ _ _ h30 h31 => by rw [za_I, za_A, if_neg h31, za_A, if_neg h30], fun _ _ => rfl⟩
theorem emit_F {d w : Int32} (h : CF p S) : ∃ c S', c < 560 ∧ cP_emit N d w S = some (Int32.ofNat c, S') ∧ CF p S' ∧ eqX S S' := by
  obtain ⟨c, hc, hl⟩ := h.1.2.2.2.2.2.1
  obtain ⟨S', q1, q2, q3, q4, q5, _⟩ := emit_W (N := N) (d := d) (w := w) h.1 hc hl
  exact ⟨_, S', by omega, q1, ⟨q2, h.2.1, by rw [q5]; exact h.2.2⟩, q3⟩
theorem with_W {i : Nat} {x : Int32} (h : WP S) (hi : i < 560) : zok (zA S 31) (Int32.ofNat i) ∧ WP (zsA S 31 (zs (zA S 31) (Int32.ofNat i) x)) ∧ eqX S (zsA S 31 (zs (zA S 31) (Int32.ofNat i) x)) := by
  obtain ⟨w1, w2, ⟨w3, w3'⟩, w4, w5, w6, w7⟩ := h
  refine ⟨zok_nat (by omega) (by omega), ⟨w1, w2, ⟨w3, ?_⟩, w4, w5, w6, w7⟩, ?_⟩
  · show (zs (zA S 31) (Int32.ofNat i) x).length = 560
    rw [zs_nat (by omega), List.length_set, w3']
  · exact ⟨fun _ _ _ _ _ _ => rfl, fun j _ _ _ _ h31 => by rw [za_A, if_neg h31], fun _ _ => rfl⟩
theorem code_W {i : Nat} {x : Int32} (h : WP S) (hi : i < 250) : zok (zA S 12) (Int32.ofNat i) ∧ WP (zsA S 12 (zs (zA S 12) (Int32.ofNat i) x)) ∧ eqX S (zsA S 12 (zs (zA S 12) (Int32.ofNat i) x)) := by
  obtain ⟨w1, ⟨a1, a2, a3, a4⟩, w3, w4, w5, w6, w7⟩ := h
  refine ⟨zok_nat (by omega) (by omega), ⟨w1, ⟨a1, a2, ?_, a4⟩, w3, w4, w5, w6, w7⟩, ?_⟩
  · show (zs (zA S 12) (Int32.ofNat i) x).length = 250
    rw [zs_nat (by omega), List.length_set, a3]
  · exact ⟨fun _ _ _ _ _ _ => rfl, fun j _ h12 _ _ _ => by rw [za_A, if_neg h12], fun _ _ => rfl⟩
theorem told_W {i : Nat} {x : Int32} (h : WP S) (hi : i < 250) : zok (zA S 13) (Int32.ofNat i) ∧ WP (zsA S 13 (zs (zA S 13) (Int32.ofNat i) x)) ∧ eqX S (zsA S 13 (zs (zA S 13) (Int32.ofNat i) x)) := by
  obtain ⟨w1, ⟨a1, a2, a3, a4⟩, w3, w4, w5, w6, w7⟩ := h
  refine ⟨zok_nat (by omega) (by omega), ⟨w1, ⟨a1, a2, a3, ?_⟩, w3, w4, w5, w6, w7⟩, ?_⟩
  · show (zs (zA S 13) (Int32.ofNat i) x).length = 250
    rw [zs_nat (by omega), List.length_set, a4]
  · exact ⟨fun _ _ _ _ _ _ => rfl, fun j _ _ h13 _ _ => by rw [za_A, if_neg h13], fun _ _ => rfl⟩
theorem use_at {u : Nat} (hu : u ≤ 250) : (if (249 : Int32) < Int32.ofNat u then (249 : Int32) else Int32.ofNat u) = Int32.ofNat (min u 249) := by
  have e1 : (249 : Int32).toInt = 249 := by decide
  have e2 := yi_nat (i := u) (by omega)
  split <;> rename_i h <;> rw [Int32.lt_iff_toInt_lt, e1, e2] at h
  · rw [Nat.min_eq_right (by omega)]; rfl
  · rw [Nat.min_eq_left (by omega)]
theorem readUse_F {v : Int32} (h : CF p S) : ∃ u, u < 250 ∧ cP_readUse N v S = some (Int32.ofNat u, S) := by
  obtain ⟨u, hu, hl⟩ := h.1.2.2.2.2.1
  refine ⟨min u 249, by omega, ?_⟩
  rw [cP_readUse, sees_F h, zbs, if_pos (by decide), refuse_F h, zbs, hl, use_at hu]
theorem readSort_F (h : CF p S) : cP_readSort N S = some (0, S) := by
  rw [cP_readSort, sees_F h, zbs, if_pos (by decide), refuse_F h, zbs]
theorem lvO_eq {c : Int32} : cP_levelOf N c S = some (lvO c, S) := by
  unfold cP_levelOf lvO
  repeat' split
  all_goals rfl
theorem doO_eq {c : Int32} : cP_doingOf N c S = some (doO c, S) := by
  unfold cP_doingOf doO
  repeat' split
  all_goals rfl
end SMALL
/-! behind a fault all that was begun comes to its end -/
section FAULT
variable {N : Nat} {r1 : Int32 → Int32 → zS → Option (Unit × zS)} {r2 : Int32 → zS → Option (Unit × zS)}
theorem F_between {i : Int32} (h1 : ∀ l i, FM (r1 l i)) : FM (cP_readBetween r1 r2 N i) := by
  intro p S h
  rw [cP_readBetween, enter_F h, zbs, next_F h, zbs, if_pos h.ne]
  exact ⟨(), S, rfl, h, eqX.refl⟩
theorem F_try {i : Int32} : FM (cP_readTry r1 r2 N i) := by
  intro p S h
  obtain ⟨S1, q1, q2, q3⟩ := node_F (N := N) h
  rw [cP_readTry, enter_F h, zbs, q1, zbs, next_F q2, zbs, if_neg q2.ne]
  exact ⟨(), S1, rfl, q2, q3⟩
theorem F_end {d w : Int32} {u p : Nat} {S : zS} (hu : u < 250) (h : CF p S) : ∃ a S', (zb (cP_emit N d w S) fun x S1 => (if zok (zA S1 12) (Int32.ofNat u) then some ((), (zsA S1 12 (zs (zA S1 12) (Int32.ofNat u) x))) else none)) = some (a, S') ∧ CF p S' ∧ eqX S S' := by
  obtain ⟨c, S1, hc, q1, q2, q3⟩ := emit_F (N := N) (d := d) (w := w) h
  obtain ⟨z1, z2, z3⟩ := code_W (x := Int32.ofNat c) q2.1 hu
  rw [q1, zbs, if_pos z1]
  exact ⟨(), _, rfl, ⟨z2, q2.2.1, q2.2.2⟩, q3.trans z3⟩
theorem F_asked13 {l1 l2 l3 s0 : Int32} : FM (cP_readAsked_13 r1 r2 N l1 l2 l3 s0) := by
  intro p S h
  obtain ⟨S1, q1, q2, q3⟩ := node_F (N := N) h
  obtain ⟨u, hu, g1⟩ := readUse_F (N := N) (v := 0) q2
  rw [cP_readAsked_13, q1, zbs, g1, zbs]
  split
  · obtain ⟨a, S', w1, w2, w3⟩ := F_end (N := N) (d := l3) (w := s0) hu q2
    exact ⟨a, S', w1, w2, q3.trans w3⟩
  · rw [sees_F q2, zbs, if_pos (by decide)]
    obtain ⟨a, S', w1, w2, w3⟩ := F_end (N := N) (d := l3) (w := s0) hu q2
    exact ⟨a, S', w1, w2, q3.trans w3⟩
theorem F_asked {d i : Int32} : FM (cP_readAsked r1 r2 N d i) := by
  intro p S h
  obtain ⟨S1, q1, q2, q3⟩ := node_F (N := N) h
  rw [cP_readAsked, q1, zbs, next_F q2, zbs]
  split
  · obtain ⟨a, S', w1, w2, w3⟩ := F_asked13 (r1 := r1) (r2 := r2) (N := N) (l1 := d) (l2 := i) (l3 := d) (s0 := 0) p S1 q2
    exact ⟨a, S', w1, w2, q3.trans w3⟩
  · rw [readSort_F q2, zbs]
    obtain ⟨a, S', w1, w2, w3⟩ := F_asked13 (r1 := r1) (r2 := r2) (N := N) (l1 := d) (l2 := i) (l3 := d) (s0 := 0) p S1 q2
    exact ⟨a, S', w1, w2, q3.trans w3⟩
theorem F_named {i : Int32} : FM (cP_readNamed r1 r2 N i) := by
  intro p S h
  obtain ⟨S1, q1, q2, q3⟩ := node_F (N := N) h
  obtain ⟨u, hu, g1⟩ := readUse_F (N := N) (v := zI S1 22) q2
  rw [cP_readNamed, q1, zbs, g1, zbs, sees_F q2, zbs, if_pos (by decide)]
  obtain ⟨a, S', w1, w2, w3⟩ := F_end (N := N) (d := 7) (w := 0) hu q2
  exact ⟨a, S', w1, w2, q3.trans w3⟩
theorem F_base {i : Int32} : FM (cP_readBase r1 r2 N i) := by
  intro p S h
  rw [cP_readBase, sees_F h, zbs, if_neg (by decide), if_neg (by decide), if_neg (by decide), if_neg (by decide), if_neg (by decide), if_neg (by decide), if_neg (by decide), if_neg (by decide), refuse_F h, zbs]
  exact ⟨(), S, rfl, h, eqX.refl⟩
theorem F_one {i : Int32} : FM (cP_readOne r1 r2 N i) := by
  intro p S h
  rw [cP_readOne, sees_F h, zbs, if_neg (by decide), if_neg (by decide)]
  obtain ⟨a, S', w1, w2, w3⟩ := F_base (r1 := r1) (r2 := r2) (N := N) (i := i) p S h
  rw [w1, zbs]
  exact ⟨(), S', rfl, w2, w3⟩
theorem F_loop {n : Nat} {l i most c : Int32} (hn : 0 < n) (hl : l ≠ -9) : FM (cP_readLevel_22 r1 r2 N n l i most c) := by
  intro p S h
  obtain ⟨n, rfl⟩ : ∃ k, n = k + 1 := ⟨n - 1, by omega⟩
  rw [cP_readLevel_22]
  split
  · exact ⟨(), S, rfl, h, eqX.refl⟩
  · rw [sees_F h, zbs, lvO_eq, zbs, if_pos (by rw [show lvO 1 = -9 by decide]; exact Ne.symm hl)]
    exact ⟨(), S, rfl, h, eqX.refl⟩
theorem F_fix (hN : 1400 < N) : ∀ (n : Nat), (∀ (l : Nat) (i : Int32), l ≤ 5 → 7 ≤ n + l → FM ((cP_fix N n).1 (Int32.ofNat l) i)) ∧ ∀ i : Int32, 1 ≤ n → FM ((cP_fix N n).2 i)
  | 0 => ⟨fun l i h1 h2 => by omega, fun i h => by omega⟩
  | n + 1 => by
    have ih := F_fix hN n
    refine ⟨fun l i h1 h2 => ?_, fun i _ => ?_⟩
    · intro p S h
      show ∃ a S', cP_readLevel (cP_fix N n).1 (cP_fix N n).2 N (Int32.ofNat l) i S = some (a, S') ∧ _
      have el := yi_nat (i := l) (by omega)
      rw [cP_readLevel]
      by_cases h4 : l ≤ 4
      · rw [if_pos (by rw [el]; omega), yi_add1]
        obtain ⟨a, S1, q1, q2, q3⟩ := ih.1 (l + 1) i (by omega) (by omega) p S h
        rw [q1, zbs]
        have hl9 : Int32.ofNat l ≠ -9 := by rw [Ne, xi32_eq, el, y_m9]; omega
        split
        · obtain ⟨b, S2, g1, g2, g3⟩ := F_loop (r1 := (cP_fix N n).1) (r2 := (cP_fix N n).2) (N := N) (n := N) (i := i) (most := 251) (c := 0) (by omega) hl9 p S1 q2
          exact ⟨b, S2, g1, g2, q3.trans g3⟩
        · obtain ⟨b, S2, g1, g2, g3⟩ := F_loop (r1 := (cP_fix N n).1) (r2 := (cP_fix N n).2) (N := N) (n := N) (i := i) (most := 1) (c := 0) (by omega) hl9 p S1 q2
          exact ⟨b, S2, g1, g2, q3.trans g3⟩
      · rw [if_neg (by rw [el]; omega)]
        obtain ⟨a, S1, q1, q2, q3⟩ := ih.2 i (by omega) p S h
        rw [q1, zbs]
        exact ⟨(), S1, rfl, q2, q3⟩
    · exact F_one
end FAULT
