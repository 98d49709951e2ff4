/-! WORDS AND NUMBERS of tokens: what they are worth -/
theorem yl_nat {n : Nat} (h : n < 9223372036854775808) : (Int64.ofNat n).toInt = n := Int64.toInt_ofNat_of_lt h
theorem y3264 {b : Nat} (h : b < 2147483648) : (Int32.ofNat b).toInt64 = Int64.ofNat b := by
  rw [xi64_eq, Int32.toInt_toInt64, yi_nat h, yl_nat (by omega)]
theorem wV_step {v b : Nat} (hb : b < 256) (h : v * 256 + b < 9223372036854775808) : (Int64.ofNat v <<< ((8 : Int32).toInt64 &&& 63)) ||| (Int32.ofNat b).toInt64 = Int64.ofNat (v * 256 + b) := by
  rw [y3264 (by omega)]
  apply Int64.toBitVec_inj.mp
  rw [Int64.toBitVec_or, Int64.toBitVec_shiftLeft, show (((8 : Int32).toInt64 &&& 63).toBitVec.smod 64) = 8#64 by decide, Int64.toBitVec_ofNat', Int64.toBitVec_ofNat', Int64.toBitVec_ofNat']
  apply BitVec.eq_of_toNat_eq
  have a8 : v * 256 < 18446744073709551616 := Nat.lt_of_le_of_lt (Nat.le_add_right (v * 256) b) (Nat.lt_of_lt_of_le h (by decide))
  have a5 : v * 256 % 18446744073709551616 = v * 256 := Nat.mod_eq_of_lt a8
  have a9 : (2 : Nat) ^ 64 = 18446744073709551616 := by decide
  clear a8
  have a1 : v % 2 ^ 64 = v := Nat.mod_eq_of_lt (by omega)
  have a2 : b % 2 ^ 64 = b := Nat.mod_eq_of_lt (by omega)
  have a3 : (v * 256 + b) % 2 ^ 64 = v * 256 + b := Nat.mod_eq_of_lt (by omega)
  have a4 : v <<< 8 = v * 256 := Nat.shiftLeft_eq v 8
  have a0 : b < 2 ^ 8 := hb
  have a6 : v <<< 8 + b = v <<< 8 ||| b := Nat.shiftLeft_add_eq_or_of_lt (i := 8) a0 v
  have a7 : 8 % 2 ^ 64 = 8 := by decide
  rw [a4] at a6
  rw [BitVec.toNat_or, BitVec.shiftLeft_eq', BitVec.toNat_shiftLeft, BitVec.toNat_ofNat, BitVec.toNat_ofNat, BitVec.toNat_ofNat, BitVec.toNat_ofNat, a7, a1, a2, a3, a4, a9, a5, ← a6]
/-- a word as a number, by its bytes -/
def wN : Nat → List Nat → Nat
  | v, [] => v
  | v, b :: r => wN (v * 256 + b) r
theorem wN_ge : ∀ (r : List Nat) (v : Nat), v ≤ wN v r
  | [], _ => Nat.le_refl _
  | b :: r, v => Nat.le_trans (by omega) (wN_ge r (v * 256 + b))
theorem wV_wN : ∀ (r : List Nat) (v : Nat), (∀ b ∈ r, b < 256) → wN v r < 9223372036854775808 → wV (Int64.ofNat v) (r.map Int32.ofNat) = Int64.ofNat (wN v r)
  | [], _, _, _ => rfl
  | b :: r, v, hb, h => by
    have h1 := wN_ge r (v * 256 + b)
    have hb1 := hb b (by simp)
    rw [List.map_cons, wV, wV_step hb1 (Nat.lt_of_le_of_lt h1 h), wV_wN r _ (fun c hc => hb c (by simp [hc])) h]
    rfl
def wR : List Nat → Nat
  | [] => 0
  | d :: r => wR r * 256 + d
theorem wN_app : ∀ (l r : List Nat) (v : Nat), wN v (l ++ r) = wN (wN v l) r
  | [], _, _ => rfl
  | b :: l, r, v => wN_app l r (v * 256 + b)
theorem wN_wR : ∀ r : List Nat, wN 0 r.reverse = wR r
  | [] => rfl
  | d :: r => by rw [List.reverse_cons, wN_app, wN_wR r]; rfl
theorem wR_inj : ∀ (r s : List Nat), (∀ b ∈ r, 0 < b ∧ b < 256) → (∀ b ∈ s, 0 < b ∧ b < 256) → wR r = wR s → r = s
  | [], [], _, _, _ => rfl
  | [], d :: s, _, h, e => by
    have := h d (by simp)
    have e : 0 = wR s * 256 + d := e
    omega
  | d :: r, [], h, _, e => by
    have := h d (by simp)
    have e : wR r * 256 + d = 0 := e
    omega
  | d :: r, c :: s, h, g, e => by
    have h1 := h d (by simp)
    have g1 := g c (by simp)
    have e : wR r * 256 + d = wR s * 256 + c := e
    obtain rfl : d = c := by omega
    rw [wR_inj r s (fun b hb => h b (by simp [hb])) (fun b hb => g b (by simp [hb])) (by omega)]
theorem wN_inj {r s : List Nat} (h : ∀ b ∈ r, 0 < b ∧ b < 256) (g : ∀ b ∈ s, 0 < b ∧ b < 256) (e : wN 0 r = wN 0 s) : r = s := by
  rw [← List.reverse_reverse r, ← List.reverse_reverse s, wN_wR, wN_wR] at e
  have := wR_inj _ _ (fun b hb => h b (List.mem_reverse.mp hb)) (fun b hb => g b (List.mem_reverse.mp hb)) e
  rw [← List.reverse_reverse r, ← List.reverse_reverse s, this]
theorem wN_lt : ∀ (r : List Nat) (v : Nat), (∀ b ∈ r, b < 128) → wN v r < (v + 1) * 256 ^ r.length
  | [], v, _ => by simp [wN]
  | b :: r, v, h => by
    have h1 := h b (by simp)
    have h2 := wN_lt r (v * 256 + b) (fun c hc => h c (by simp [hc]))
    rw [wN, List.length_cons, Nat.pow_succ]
    refine Nat.lt_of_lt_of_le h2 ?_
    rw [show (v + 1) * (256 ^ r.length * 256) = ((v + 1) * 256) * 256 ^ r.length by rw [Nat.mul_comm (256 ^ r.length), Nat.mul_assoc]]
    exact Nat.mul_le_mul_right _ (by omega)
theorem wN_lt63 {r : List Nat} (h : ∀ b ∈ r, b < 128) (hl : r.length ≤ 8) : wN 0 r < 9223372036854775808 := by
  cases r with
  | nil => simp [wN]
  | cons b r =>
    have h1 := h b (by simp)
    have h2 := wN_lt r b (fun c hc => h c (by simp [hc]))
    have hl : r.length ≤ 7 := by simp at hl; omega
    have h3 : 256 ^ r.length ≤ 256 ^ 7 := Nat.pow_le_pow_right (by omega) hl
    have h4 : (b + 1) * 256 ^ r.length ≤ 128 * 256 ^ 7 := Nat.mul_le_mul (by omega) h3
    rw [wN, Nat.zero_mul, Nat.zero_add]
    have : 128 * 256 ^ 7 = 9223372036854775808 := by decide
    omega
/-- bytes of words -/
def isLG (b : Int32) : Prop := 0 < b.toInt ∧ b.toInt < 128
theorem lg_map {w : List Int32} (h : ∀ b ∈ w, isLG b) : w = (w.map fun b => b.toInt.toNat).map Int32.ofNat := by
  rw [List.map_map]
  conv => lhs; rw [← List.map_id w]
  apply List.map_congr_left
  intro b hb
  have := h b hb
  unfold isLG at this
  show b = Int32.ofNat b.toInt.toNat
  rw [xi32_eq, yi_nat (by omega)]
  omega
theorem wV_inj {w u : List Int32} (hw : ∀ b ∈ w, isLG b) (hu : ∀ b ∈ u, isLG b) (lw : w.length ≤ 8) (lu : u.length ≤ 8) (e : wV 0 w = wV 0 u) : w = u := by
  have f1 : ∀ {w : List Int32}, (∀ b ∈ w, isLG b) → ∀ c ∈ w.map (fun b => b.toInt.toNat), 0 < c ∧ c < 128 := by
    intro w hw c hc
    obtain ⟨b, hb, rfl⟩ := List.mem_map.mp hc
    have := hw b hb
    unfold isLG at this
    omega
  have f2 : ∀ {w : List Int32}, (∀ b ∈ w, isLG b) → w.length ≤ 8 → wV 0 w = Int64.ofNat (wN 0 (w.map fun b => b.toInt.toNat)) := by
    intro w hw lw
    conv => lhs; rw [lg_map hw]
    exact wV_wN _ 0 (fun b hb => by have := f1 hw b hb; omega) (wN_lt63 (fun b hb => (f1 hw b hb).2) (by rw [List.length_map]; exact lw))
  rw [f2 hw lw, f2 hu lu] at e
  have e2 : wN 0 (w.map fun b => b.toInt.toNat) = wN 0 (u.map fun b => b.toInt.toNat) := by
    have := congrArg Int64.toInt e
    rw [yl_nat (wN_lt63 (fun b hb => (f1 hw b hb).2) (by rw [List.length_map]; exact lw)), yl_nat (wN_lt63 (fun b hb => (f1 hu b hb).2) (by rw [List.length_map]; exact lu))] at this
    omega
  have e3 := wN_inj (fun b hb => by have := f1 hw b hb; omega) (fun b hb => by have := f1 hu b hb; omega) e2
  rw [lg_map hw, lg_map hu, e3]
theorem nW_lg : ∀ (r : List Int32), ∀ b ∈ r.take (nW r), isLG b
  | [], b, h => by simp [nW] at h
  | c :: r, b, h => by
    rw [nW] at h
    split at h
    · rename_i hc
      rw [List.take_succ_cons] at h
      rcases List.mem_cons.mp h with h | h
      · subst h
        simp only [isL, isG, Bool.and_eq_true, decide_eq_true_eq] at hc
        unfold isLG
        omega
      · exact nW_lg r b h
    · simp at h
theorem zwords_lg : ∀ w ∈ zwords, (∀ b ∈ w, 97 ≤ b.toInt ∧ b.toInt ≤ 122) ∧ w.length ≤ 8 ∧ 0 < w.length := by decide +kernel
theorem zwords_v : zwords.map (wV 0) = zw81 := by decide +kernel
theorem zw81_nd : zw81.Nodup := by decide +kernel
theorem kWf_spec {v : Int64} : ∀ (r : List Int64) (j : Nat), (∃ i, r[i]? = some v ∧ kWf v r j = Int32.ofNat (200 + j + i)) ∨ (¬ v ∈ r ∧ kWf v r j = 3)
  | [], _ => Or.inr ⟨by simp, rfl⟩
  | w :: r, j => by
    rw [kWf]
    by_cases h : w = v
    · exact Or.inl ⟨0, by rw [h]; rfl, by rw [if_pos h]; rfl⟩
    · rw [if_neg h]
      rcases kWf_spec r (j + 1) with ⟨i, q1, q2⟩ | ⟨q1, q2⟩
      · exact Or.inl ⟨i + 1, q1, by rw [q2]; congr 1; omega⟩
      · exact Or.inr ⟨by simp [Ne.symm h, q1], q2⟩
/-- a word of at most 8 is the i-th word of the list, or a name -/
theorem kW_spec {w : List Int32} (hw : ∀ b ∈ w, isLG b) (lw : w.length ≤ 8) : (∃ i, i < 36 ∧ zwords[i]? = some w ∧ kW (wV 0 w) = Int32.ofNat (200 + i)) ∨ (¬ w ∈ zwords ∧ kW (wV 0 w) = 3) := by
  have hl : ∀ u ∈ zwords, wV 0 u = wV 0 w → u = w := by
    intro u hu e
    obtain ⟨h1, h2, h3⟩ := zwords_lg u hu
    exact wV_inj (fun b hb => by have := h1 b hb; unfold isLG; omega) hw h2 lw e
  rcases kWf_spec (v := wV 0 w) zw81 0 with ⟨i, q1, q2⟩ | ⟨q1, q2⟩
  · left
    have q1' := q1
    rw [← zwords_v, List.getElem?_map] at q1
    cases hz : zwords[i]? with
    | none => rw [hz] at q1; cases q1
    | some u =>
      rw [hz] at q1
      have e : wV 0 u = wV 0 w := Option.some.inj q1
      obtain rfl := hl u (List.mem_of_getElem? hz) e
      have := (List.getElem?_eq_some_iff.mp q1').1
      exact ⟨i, this, hz, by rw [kW, q2, Nat.add_zero]⟩
  · right
    refine ⟨fun hm => q1 ?_, q2⟩
    rw [← zwords_v]
    exact List.mem_map_of_mem hm
/-- digits -/
def dg (b : Int32) : Nat := (b.toInt - 48).toNat
def dV : Nat → List Int32 → Nat
  | v, [] => v
  | v, b :: r => dV (v * 10 + dg b) r
def gW : Int32 → List Int32 → Int32
  | v, [] => v
  | v, b :: r => gW (((10 * v) + b) - 48) r
theorem dig_of {b : Int32} (h : isG b = true) : ∃ d, d < 10 ∧ b = Int32.ofNat (48 + d) ∧ dg b = d := by
  simp only [isG, Bool.and_eq_true, decide_eq_true_eq] at h
  refine ⟨(b.toInt - 48).toNat, by omega, ?_, rfl⟩
  rw [xi32_eq, yi_nat (by omega)]; omega
theorem gV_dV : ∀ (r : List Int32) (v : Nat), (∀ b ∈ r, isG b = true) → gV (Int64.ofNat v) r = Int64.ofNat (dV v r)
  | [], _, _ => rfl
  | b :: r, v, h => by
    obtain ⟨d, h1, rfl, h2⟩ := dig_of (h b (by simp))
    rw [gV, dV, h2, ← gV_dV r _ (fun c hc => h c (by simp [hc])), y3264 (by omega)]
    congr 1
    rw [show (10 : Int64) = Int64.ofNat 10 from rfl, show (48 : Int64) = Int64.ofNat 48 from rfl, ← Int64.ofNat_mul, ← Int64.ofNat_add, Int64.sub_eq_iff_eq_add, ← Int64.ofNat_add]
    congr 1
    omega
theorem gW_dV : ∀ (r : List Int32) (v : Nat), (∀ b ∈ r, isG b = true) → gW (Int32.ofNat v) r = Int32.ofNat (dV v r)
  | [], _, _ => rfl
  | b :: r, v, h => by
    obtain ⟨d, h1, rfl, h2⟩ := dig_of (h b (by simp))
    rw [gW, dV, h2, ← gW_dV r _ (fun c hc => h c (by simp [hc]))]
    congr 1
    rw [show (10 : Int32) = Int32.ofNat 10 from rfl, show (48 : Int32) = Int32.ofNat 48 from rfl, ← Int32.ofNat_mul, ← Int32.ofNat_add, Int32.sub_eq_iff_eq_add, ← Int32.ofNat_add]
    congr 1
    omega
theorem dV_lt : ∀ (r : List Int32) (v : Nat), (∀ b ∈ r, isG b = true) → dV v r < (v + 1) * 10 ^ r.length
  | [], v, _ => by simp [dV]
  | b :: r, v, h => by
    obtain ⟨d, h1, _, h2⟩ := dig_of (h b (by simp))
    have h3 := dV_lt r (v * 10 + d) (fun c hc => h c (by simp [hc]))
    rw [dV, h2, List.length_cons, Nat.pow_succ]
    refine Nat.lt_of_lt_of_le h3 ?_
    rw [show (v + 1) * (10 ^ r.length * 10) = ((v + 1) * 10) * 10 ^ r.length by rw [Nat.mul_comm (10 ^ r.length), Nat.mul_assoc]]
    exact Nat.mul_le_mul_right _ (by omega)
theorem nG_all : ∀ (r : List Int32), ∀ b ∈ r.take (nG r), isG b = true
  | [], b, h => by simp [nG] at h
  | c :: r, b, h => by
    rw [nG] at h
    split at h
    · rename_i hc
      rw [List.take_succ_cons] at h
      rcases List.mem_cons.mp h with h | h
      · rw [h]; exact hc
      · exact nG_all r b h
    · simp at h
/-- a number of at most 6 digits -/
theorem num_spec {r : List Int32} (h : nG r ≤ 6) : ∃ v, v < 1000000 ∧ gV 0 (r.take (nG r)) = Int64.ofNat v ∧ gW 0 (r.take (nG r)) = Int32.ofNat v := by
  refine ⟨dV 0 (r.take (nG r)), ?_, gV_dV _ 0 (nG_all r), gW_dV _ 0 (nG_all r)⟩
  have h1 := dV_lt (r.take (nG r)) 0 (nG_all r)
  have h2 : (r.take (nG r)).length ≤ 6 := by rw [List.length_take]; omega
  have h3 : 10 ^ (r.take (nG r)).length ≤ 10 ^ 6 := Nat.pow_le_pow_right (by omega) h2
  omega
