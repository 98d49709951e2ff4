/-! THE TOKENS OF A TAPE; the class's rows of them -/
/-- kind, place, end, number of a word or a number -/
abbrev zK : Type := Int32 × Nat × Nat × Option Int64
def tks : Nat → Nat → List Int32 → List zK
  | 0, _, _ => []
  | n + 1, p, r => ((lexK (r.drop (nB r))).1, p + nB r, p + nB r + (lexK (r.drop (nB r))).2.1, (lexK (r.drop (nB r))).2.2) :: (if (lexK (r.drop (nB r))).1 = 0 ∨ (lexK (r.drop (nB r))).1 = 1 then [] else tks n (p + nB r + (lexK (r.drop (nB r))).2.1) ((r.drop (nB r)).drop (lexK (r.drop (nB r))).2.1))
theorem nW_pos {b : Int32} {r : List Int32} (h : isL b = true) : 1 ≤ nW (b :: r) := by
  rw [nW, if_pos (Or.inl h)]; omega
theorem nG_pos {b : Int32} {r : List Int32} (h : isG b = true) : 1 ≤ nG (b :: r) := by
  rw [nG, if_pos h]; omega
theorem lexK_len {b : Int32} {r : List Int32} : 1 ≤ (lexK (b :: r)).2.1 ∧ (lexK (b :: r)).2.1 ≤ (b :: r).length := by
  by_cases hL : isL b = true
  · rw [lexK_w hL]; exact ⟨nW_pos hL, nW_le _⟩
  · by_cases hG : isG b = true
    · rw [lexK_g hL hG]; exact ⟨nG_pos hG, nG_le _⟩
    · rw [lexK_s hL hG]; simp
def eqT (S S' : zS) : Prop := S'.1 = S.1 ∧ (∀ i, i ≠ 2 → i ≠ 3 → zA S' i = zA S i) ∧ (∀ i, i ≠ 4 → zB S' i = zB S i) ∧ (zA S' 2).length = (zA S 2).length ∧ (zA S' 3).length = (zA S 3).length ∧ (zB S' 4).length = (zB S 4).length
theorem eqT.trans {S S' S2 : zS} (h : eqT S S') (g : eqT S' S2) : eqT S S2 :=
  ⟨g.1.trans h.1, fun i h2 h3 => (g.2.1 i h2 h3).trans (h.2.1 i h2 h3), fun i h4 => (g.2.2.1 i h4).trans (h.2.2.1 i h4), g.2.2.2.1.trans h.2.2.2.1, g.2.2.2.2.1.trans h.2.2.2.2.1, g.2.2.2.2.2.trans h.2.2.2.2.2⟩
/-- what the class's rows say of a token -/
def tokC (S : zS) (i : Nat) (τ : zK) : Prop := (zA S 2)[i]? = some τ.1 ∧ (zA S 3)[i]? = some (Int32.ofNat τ.2.1) ∧ ∀ v, τ.2.2.2 = some v → (zB S 4)[i]? = some v
def sameTok (S S' : zS) (j : Nat) : Prop := ∀ i, i < j → (zA S' 2)[i]? = (zA S 2)[i]? ∧ (zA S' 3)[i]? = (zA S 3)[i]? ∧ (zB S' 4)[i]? = (zB S 4)[i]?
theorem vSt_I {S : zS} {k i : Nat} {o : Option Int64} : zI (vSt S k o) i = zI S i := by cases o <;> rfl
theorem vSt_1 {S : zS} {k : Nat} {o : Option Int64} : (vSt S k o).1 = S.1 := by cases o <;> rfl
theorem vSt_A {S : zS} {k i : Nat} {o : Option Int64} : zA (vSt S k o) i = zA S i := by cases o <;> rfl
theorem vSt_B {S : zS} {k i : Nat} {o : Option Int64} (h : i ≠ 4) : zB (vSt S k o) i = zB S i := by
  cases o with
  | none => rfl
  | some v => show zB (zsB S 4 _) i = _; rw [zb_B, if_neg h]
theorem vSt_4 {S : zS} {k : Nat} {o : Option Int64} (hk : k < 2147483648) : zB (vSt S k o) 4 = match o with | none => zB S 4 | some v => (zB S 4).set k v := by
  cases o with
  | none => rfl
  | some v => show zB (zsB S 4 _) 4 = _; rw [zb_B, if_pos rfl, zs_nat hk]
theorem cL_split {N : Nat} (hN : 1400 < N) {jk : List Int32} : ∀ (m n : Nat) (r pre : List Int32) (j : Nat) (S : zS), zI S 0 = Int32.ofNat (pre.length + r.length) → zA S 1 = pre ++ r ++ jk → pre.length + r.length ≤ 1400 → r.length < m → m ≤ n → j + r.length < 1401 → (zA S 2).length = 1401 → (zA S 3).length = 1401 → (zB S 4).length = 1401 → (∀ b ∈ r, 0 ≤ b.toInt ∧ b.toInt ≤ 255) → ∃ S', cP_split_4 N n (Int32.ofNat pre.length) (Int32.ofNat j) S = some ((), S') ∧ eqT S S' ∧ sameTok S S' j ∧ ∀ i τ, (tks m pre.length r)[i]? = some τ → tokC S' (j + i) τ
  | 0, _, _, _, _, _, _, _, _, h, _, _, _, _, _, _ => by omega
  | m + 1, 0, _, _, _, _, _, _, _, _, h, _, _, _, _, _ => by omega
  | m + 1, n + 1, r, pre, j, S, h0, h1, h2, hm, hn, hj, hl2, hl3, hl4, hb => by
    have wB := nB_le r
    have ej := yi_nat (i := j) (by omega)
    have hr : r = r.take (nB r) ++ r.drop (nB r) := (List.take_append_drop _ _).symm
    have hpl : (pre ++ r.take (nB r)).length = pre.length + nB r := by rw [List.length_append, List.length_take, Nat.min_eq_left wB]
    have hdl : (r.drop (nB r)).length = r.length - nB r := List.length_drop
    have hbl : cP_behindBlanks N (Int32.ofNat pre.length) S = some (Int32.ofNat (pre.length + nB r), S) := cL_blanks r pre N h0 h1 h2 (by omega)
    have z3 : zok (zA S 3) (Int32.ofNat j) := zok_nat (by omega) (by omega)
    have hone := cL_one (N := N) (S := zsA S 3 (zs (zA S 3) (Int32.ofNat j) (Int32.ofNat (pre.length + nB r)))) (jk := jk) (r := r.drop (nB r)) (pre := pre ++ r.take (nB r)) (k := j) (by rw [zi_A, h0, hpl, hdl]; congr 1; omega) (by rw [za_A, if_neg (by decide), h1, List.append_assoc, List.append_assoc, List.append_assoc, ← List.append_assoc (r.take _), ← hr]) (by omega) hN (by omega) (by rw [za_A, if_neg (by decide)]; exact hl2) (by rw [zb_A]; exact hl4) (fun b hb' => hb b (List.mem_of_mem_drop hb'))
    rw [hpl] at hone
    rw [cP_split_4, if_neg (by rw [hl2, ej, yi_nat (by omega)]; omega), hbl, zbs, if_pos z3, hone, zbs]
    generalize hτ : lexK (r.drop (nB r)) = τ at hone ⊢
    generalize hS1 : zsA (vSt (zsA S 3 (zs (zA S 3) (Int32.ofNat j) (Int32.ofNat (pre.length + nB r)))) j τ.2.2) 2 (zs (zA (zsA S 3 (zs (zA S 3) (Int32.ofNat j) (Int32.ofNat (pre.length + nB r)))) 2) (Int32.ofNat j) τ.1) = S1
    have a2 : zA S1 2 = (zA S 2).set j τ.1 := by
      rw [← hS1, za_A, if_pos rfl, zs_nat (by omega), za_A, if_neg (by decide)]
    have a3 : zA S1 3 = (zA S 3).set j (Int32.ofNat (pre.length + nB r)) := by
      rw [← hS1, za_A, if_neg (by decide), vSt_A, za_A, if_pos rfl, zs_nat (by omega)]
    have a4 : zB S1 4 = match τ.2.2 with | none => zB S 4 | some v => (zB S 4).set j v := by
      rw [← hS1, zb_A, vSt_4 (by omega)]
      rfl
    have aI : S1.1 = S.1 := by rw [← hS1]; exact vSt_1
    have aA : ∀ i, i ≠ 2 → i ≠ 3 → zA S1 i = zA S i := by
      intro i h2 h3
      rw [← hS1, za_A, if_neg h2, vSt_A, za_A, if_neg h3]
    have aB : ∀ i, i ≠ 4 → zB S1 i = zB S i := by
      intro i h4
      rw [← hS1, zb_A, vSt_B h4, zb_A]
    have l4 : (zB S1 4).length = (zB S 4).length := by
      rw [a4]
      cases τ.2.2 <;> simp
    have eT : eqT S S1 := ⟨aI, aA, aB, by rw [a2, List.length_set], by rw [a3, List.length_set], l4⟩
    have hsm : sameTok S S1 j := by
      intro i hi
      refine ⟨by rw [a2, List.getElem?_set_ne (by omega)], by rw [a3, List.getElem?_set_ne (by omega)], ?_⟩
      rw [a4]
      cases τ.2.2 with
      | none => rfl
      | some v => exact List.getElem?_set_ne (by omega)
    have htk : tokC S1 j (τ.1, pre.length + nB r, pre.length + nB r + τ.2.1, τ.2.2) := by
      refine ⟨by rw [a2, List.getElem?_set_self (by omega)], by rw [a3, List.getElem?_set_self (by omega)], ?_⟩
      intro v hv
      dsimp only at hv
      rw [a4, hv]
      exact List.getElem?_set_self (by omega)
    have hg : gI (zA S1 2) (Int32.ofNat j) = some τ.1 := by rw [gI_nat (by omega)]; exact htk.1
    rw [hg, zgs]
    by_cases hz : τ.1 = 0
    · refine ⟨S1, by rw [if_pos hz], eT, hsm, ?_⟩
      intro i σ hσ
      rw [tks, hτ, if_pos (Or.inl hz)] at hσ
      cases i with
      | zero => cases hσ; exact htk
      | succ i => cases hσ
    · rw [if_neg hz, zgs]
      by_cases ho : τ.1 = 1
      · refine ⟨S1, by rw [if_neg (fun h => h ho)], eT, hsm, ?_⟩
        intro i σ hσ
        rw [tks, hτ, if_pos (Or.inr ho)] at hσ
        cases i with
        | zero => cases hσ; exact htk
        | succ i => cases hσ
      · rw [if_pos ho, yi_add1]
        cases hd : r.drop (nB r) with
        | nil => rw [hd] at hτ; rw [← hτ] at hz; exact absurd rfl hz
        | cons b r1 =>
          have hlen := lexK_len (b := b) (r := r1)
          rw [← hd, hτ] at hlen
          have hpl2 : (pre ++ r.take (nB r) ++ (r.drop (nB r)).take τ.2.1).length = pre.length + nB r + τ.2.1 := by
            rw [List.length_append, hpl, List.length_take, Nat.min_eq_left hlen.2]
          have hdl2 : ((r.drop (nB r)).drop τ.2.1).length = r.length - nB r - τ.2.1 := by rw [List.length_drop, hdl]
          obtain ⟨S', q1, q2, q3, q4⟩ := cL_split hN (jk := jk) m n ((r.drop (nB r)).drop τ.2.1) (pre ++ r.take (nB r) ++ (r.drop (nB r)).take τ.2.1) (j + 1) S1 (by rw [show zI S1 0 = zI S 0 from congrFun aI 0, h0, hpl2, hdl2]; congr 1; omega) (by rw [aA 1 (by decide) (by decide), h1, List.append_assoc _ (List.take _ _) (List.drop _ _), List.take_append_drop, List.append_assoc pre (List.take (nB r) r) (List.drop (nB r) r), List.take_append_drop]) (by omega) (by omega) (by omega) (by omega) (by rw [a2, List.length_set, hl2]) (by rw [a3, List.length_set, hl3]) (by rw [l4, hl4]) (fun c hc => hb c (List.mem_of_mem_drop (List.mem_of_mem_drop hc)))
          rw [hpl2] at q1 q4
          refine ⟨S', q1, eT.trans q2, ?_, ?_⟩
          · intro i hi
            obtain ⟨x1, x2, x3⟩ := q3 i (by omega)
            obtain ⟨y1, y2, y3⟩ := hsm i hi
            exact ⟨x1.trans y1, x2.trans y2, x3.trans y3⟩
          · intro i σ hσ
            rw [tks, hτ, if_neg (by rw [not_or]; exact ⟨hz, ho⟩)] at hσ
            cases i with
            | zero =>
              cases hσ
              obtain ⟨x1, x2, x3⟩ := q3 j (by omega)
              exact ⟨x1.trans htk.1, x2.trans htk.2.1, fun v hv => x3.trans (htk.2.2 v hv)⟩
            | succ i =>
              have := q4 i σ hσ
              rwa [show j + 1 + i = j + (i + 1) by omega] at this
