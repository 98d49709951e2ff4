/-! NAMES: what a name means in a form -/
theorem nIx_ge {x : Int64} : ∀ (r : List Int64) (k : Nat), k + r.length < 2000000000 → nIx x r k = -9 ∨ ((k : Int) ≤ (nIx x r k).toInt ∧ (nIx x r k).toInt < k + r.length)
  | [], _, _ => Or.inl rfl
  | y :: r, k, h => by
    rw [List.length_cons] at h ⊢
    rw [nIx]
    split
    · right
      rw [yi_nat (by omega)]
      omega
    · rcases nIx_ge r (k + 1) (by omega) with h1 | h1
      · exact Or.inl h1
      · right; omega
/-- among the first t of them: the same, if it is one of these -/
theorem nIx_take {x : Int64} : ∀ (l : List Int64) (t k : Nat), k + l.length < 2000000000 → nIx x (l.take t) k = if nIx x l k ≠ -9 ∧ (nIx x l k).toInt < k + t then nIx x l k else -9
  | [], t, k, _ => by
    rw [List.take_nil, nIx, if_neg (fun hh => hh.1 rfl)]
  | y :: r, 0, k, h => by
    rw [List.take_zero, nIx, if_neg ?_]
    rintro ⟨h1, h2⟩
    rcases nIx_ge (x := x) (y :: r) k h with h3 | h3
    · exact h1 h3
    · omega
  | y :: r, t + 1, k, h => by
    rw [List.length_cons] at h
    rw [List.take_succ_cons, nIx, nIx]
    by_cases hy : y = x
    · rw [if_pos hy, if_pos hy, if_pos ?_]
      rw [Ne, xi32_eq, yi_nat (by omega), y_m9]
      constructor <;> omega
    · rw [if_neg hy, if_neg hy, nIx_take r t (k + 1) (by omega)]
      by_cases hc : nIx x r (k + 1) ≠ -9 ∧ (nIx x r (k + 1)).toInt < (k + 1 : Nat) + t
      · rw [if_pos hc, if_pos ⟨hc.1, by omega⟩]
      · rw [if_neg hc, if_neg (fun hh => hc ⟨hh.1, by omega⟩)]
/-- a figure (true, its number), a part (false, its number), or nothing -/
def nRes (G : zG) (b : Int64) (t : Nat) : Option (Bool × Nat) := if nIx b (G.2.1.map Prod.fst) 0 ≠ -9 ∧ (nIx b (G.2.1.map Prod.fst) 0).toInt < t then some (true, (nIx b (G.2.1.map Prod.fst) 0).toInt.toNat) else if nIx b (G.1.map Prod.fst) 0 ≠ -9 ∧ ((G.1[(nIx b (G.1.map Prod.fst) 0).toInt.toNat]?).map fun p => p.2.1) ≠ some 11 then some (false, (nIx b (G.1.map Prod.fst) 0).toInt.toNat) else none
