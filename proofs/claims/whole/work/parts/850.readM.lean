/-! TAKE: reading bytes; the reference -/
/-- a long of so many bytes -/
def rdL : Nat → Int64 → List Int32 → Option (Int64 × List Int32)
  | 0, v, l => some (v, l)
  | _ + 1, _, [] => none
  | k + 1, v, b :: l => rdL k ((v <<< ((8 : Int32).toInt64 &&& 63)) ||| b.toInt64) l
/-- bytes as a number -/
def nvB : Nat → Nat → List Int32 → Nat
  | 0, a, _ => a
  | _ + 1, a, [] => a
  | k + 1, a, b :: l => nvB k (a * 256 + b.toInt.toNat) l
theorem by_nat {b : Int32} (h : 0 ≤ b.toInt ∧ b.toInt ≤ 255) : b.toBitVec.toNat = b.toInt.toNat ∧ b.toBitVec.toNat ≤ 255 := by
  have e1 : b.toInt = b.toBitVec.toInt := rfl
  have e2 := BitVec.toInt_eq_toNat_cond b.toBitVec
  have e3 := b.toBitVec.isLt
  rw [e1] at h ⊢
  split at e2 <;> omega
theorem or_nat {a b : Nat} (h : b < 256) : (a * 256) ||| b = a * 256 + b := by
  have := Nat.two_pow_add_eq_or_of_lt (i := 8) (b := b) (by omega) a
  rw [show (2 : Nat) ^ 8 = 256 from rfl, Nat.mul_comm] at this
  exact this.symm
theorem st32 {v b : Int32} (h : 0 ≤ b.toInt ∧ b.toInt ≤ 255) : ((v <<< ((8 : Int32) &&& 31)) ||| b).toBitVec.toNat = (v.toBitVec.toNat * 256 + b.toInt.toNat) % 2 ^ 32 := by
  obtain ⟨n1, n2⟩ := by_nat h
  have e0 : ((v <<< ((8 : Int32) &&& 31)) ||| b).toBitVec = (v.toBitVec <<< 8) ||| b.toBitVec := rfl
  rw [e0, BitVec.toNat_or, BitVec.toNat_shiftLeft, Nat.shiftLeft_eq, show (2 : Nat) ^ 8 = 256 from rfl]
  have e1 : v.toBitVec.toNat * 256 % 2 ^ 32 = (v.toBitVec.toNat % 2 ^ 24) * 256 := by omega
  rw [e1, or_nat (by omega)]
  omega
theorem st64 {v : Int64} {b : Int32} (h : 0 ≤ b.toInt ∧ b.toInt ≤ 255) : ((v <<< ((8 : Int32).toInt64 &&& 63)) ||| b.toInt64).toBitVec.toNat = (v.toBitVec.toNat * 256 + b.toInt.toNat) % 2 ^ 64 := by
  obtain ⟨n1, n2⟩ := by_nat h
  have e0 : ((v <<< ((8 : Int32).toInt64 &&& 63)) ||| b.toInt64).toBitVec = (v.toBitVec <<< 8) ||| b.toBitVec.signExtend 64 := rfl
  have eb : (b.toBitVec.signExtend 64).toNat = b.toBitVec.toNat := by
    rw [BitVec.signExtend_eq_setWidth_of_msb_false (by rw [BitVec.msb_eq_decide]; exact decide_eq_false (by omega)), BitVec.toNat_setWidth]
    omega
  rw [e0, BitVec.toNat_or, BitVec.toNat_shiftLeft, Nat.shiftLeft_eq, show (2 : Nat) ^ 8 = 256 from rfl, eb]
  have e1 : v.toBitVec.toNat * 256 % 2 ^ 64 = (v.toBitVec.toNat % 2 ^ 56) * 256 := by omega
  rw [e1, or_nat (by omega)]
  omega
theorem nvB_mod {M : Nat} : ∀ (k a a' : Nat) (l : List Int32), a % M = a' % M → nvB k a l % M = nvB k a' l % M
  | 0, _, _, _, h => h
  | _ + 1, _, _, [], h => h
  | k + 1, a, a', b :: l, h => by
    rw [nvB, nvB]
    refine nvB_mod k _ _ l ?_
    rw [Nat.add_mod, Nat.mul_mod, h, ← Nat.mul_mod, ← Nat.add_mod]
theorem rdN_nat : ∀ (k : Nat) (v : Int32) (l : List Int32) (q : Int32 × List Int32), byR l → rdN k v l = some q → q.1.toBitVec.toNat = nvB k v.toBitVec.toNat l % 2 ^ 32 ∧ q.2 = l.drop k
  | 0, v, l, q, hb, h => by
    injection h with h
    rw [← h]
    exact ⟨(Nat.mod_eq_of_lt v.toBitVec.isLt).symm, rfl⟩
  | k + 1, v, [], q, hb, h => by cases h
  | k + 1, v, b :: l, q, hb, h => by
    rw [rdN] at h
    have r := rdN_nat k _ l q (fun c hc => hb c (List.mem_cons_of_mem _ hc)) h
    refine ⟨?_, r.2⟩
    rw [r.1, st32 (hb b List.mem_cons_self), nvB]
    exact nvB_mod k _ _ l (Nat.mod_mod _ _)
theorem rdL_nat : ∀ (k : Nat) (v : Int64) (l : List Int32) (q : Int64 × List Int32), byR l → rdL k v l = some q → q.1.toBitVec.toNat = nvB k v.toBitVec.toNat l % 2 ^ 64 ∧ q.2 = l.drop k
  | 0, v, l, q, hb, h => by
    injection h with h
    rw [← h]
    exact ⟨(Nat.mod_eq_of_lt v.toBitVec.isLt).symm, rfl⟩
  | k + 1, v, [], q, hb, h => by cases h
  | k + 1, v, b :: l, q, hb, h => by
    rw [rdL] at h
    have r := rdL_nat k _ l q (fun c hc => hb c (List.mem_cons_of_mem _ hc)) h
    refine ⟨?_, r.2⟩
    rw [r.1, st64 (hb b List.mem_cons_self), nvB]
    exact nvB_mod k _ _ l (Nat.mod_mod _ _)
theorem rdL_some : ∀ (k : Nat) (v : Int64) (l : List Int32), (k ≤ l.length → ∃ q, rdL k v l = some q) ∧ (l.length < k → rdL k v l = none)
  | 0, v, l => ⟨fun _ => ⟨_, rfl⟩, fun h => by omega⟩
  | k + 1, v, [] => ⟨(fun h => by cases h), fun _ => rfl⟩
  | k + 1, v, b :: l => by
    have := rdL_some k ((v <<< ((8 : Int32).toInt64 &&& 63)) ||| b.toInt64) l
    exact ⟨fun h => this.1 (by rw [List.length_cons] at h; omega), fun h => this.2 (by rw [List.length_cons] at h; omega)⟩
theorem rdN_none {k : Nat} {v : Int32} {l : List Int32} (h : l.length < k) : rdN k v l = none := by
  rcases hq : rdN k v l with _ | q
  · rfl
  · have := (rdN_drop _ _ _ _ hq).2
    omega
theorem nvB_add : ∀ (k m a : Nat) (l : List Int32), k ≤ l.length → nvB (k + m) a l = nvB m (nvB k a l) (l.drop k)
  | 0, m, a, l, _ => by rw [Nat.zero_add]; rfl
  | k + 1, m, a, [], h => by cases h
  | k + 1, m, a, b :: l, h => by
    rw [show k + 1 + m = (k + m) + 1 by omega, nvB, nvB, nvB_add k m _ l (by rw [List.length_cons] at h; omega)]
    rfl
theorem nvB_lin : ∀ (k a : Nat) (l : List Int32), k ≤ l.length → nvB k a l = a * 256 ^ k + nvB k 0 l
  | 0, a, l, _ => by
    rw [nvB, nvB]
    omega
  | k + 1, a, [], h => by cases h
  | k + 1, a, b :: l, h => by
    have hk : k ≤ l.length := by rw [List.length_cons] at h; omega
    rw [nvB, nvB, nvB_lin k (a * 256 + _) l hk, nvB_lin k (0 * 256 + _) l hk, Nat.pow_succ]
    generalize nvB k 0 l = W
    generalize 256 ^ k = P
    generalize b.toInt.toNat = B
    rw [Nat.add_mul, Nat.zero_mul, Nat.zero_add, Nat.mul_assoc, Nat.mul_comm 256 P, Nat.add_assoc]
theorem nvB_lt : ∀ (k : Nat) (l : List Int32), k ≤ l.length → byR l → nvB k 0 l < 256 ^ k
  | 0, l, _, _ => by rw [nvB]; decide
  | k + 1, [], h, _ => by cases h
  | k + 1, b :: l, h, hb => by
    have hk : k ≤ l.length := by rw [List.length_cons] at h; omega
    have h1 := nvB_lt k l hk (fun c hc => hb c (List.mem_cons_of_mem _ hc))
    have h2 := hb b List.mem_cons_self
    rw [nvB, nvB_lin k _ l hk, Nat.pow_succ]
    have h3 : b.toInt.toNat ≤ 255 := by omega
    have h4 : b.toInt.toNat * 256 ^ k ≤ 255 * 256 ^ k := Nat.mul_le_mul_right _ h3
    rw [Nat.zero_mul, Nat.zero_add]
    omega
theorem i64_eq {a b : Int64} (h : a.toBitVec.toNat = b.toBitVec.toNat) : a = b := Int64.toBitVec_inj.mp (BitVec.eq_of_toNat_eq h)
theorem i32_eq {a b : Int32} (h : a.toBitVec.toNat = b.toBitVec.toNat) : a = b := Int32.toBitVec_inj.mp (BitVec.eq_of_toNat_eq h)
theorem sx_mod {a : Int32} : a.toInt64.toBitVec.toNat % 2 ^ 32 = a.toBitVec.toNat := by
  have e : a.toInt64.toBitVec = a.toBitVec.signExtend 64 := rfl
  rw [e, BitVec.toNat_signExtend, BitVec.toNat_setWidth]
  have := a.toBitVec.isLt
  split <;> omega
theorem tr_nat {a : Int64} : a.toInt32.toBitVec.toNat = a.toBitVec.toNat % 2 ^ 32 := by
  have e : a.toInt32.toBitVec = a.toBitVec.signExtend 32 := rfl
  rw [e, BitVec.toNat_signExtend, BitVec.toNat_setWidth]
  split <;> omega
/-- four bytes: the long cut to an int -/
theorem rdL_cut {k : Nat} {l : List Int32} {a : Int64 × List Int32} {q : Int32 × List Int32} (hb : byR l) (h1 : rdL k 0 l = some a) (h2 : rdN k 0 l = some q) : a.1.toInt32 = q.1 ∧ a.2 = q.2 := by
  obtain ⟨a1, a2⟩ := rdL_nat _ _ _ _ hb h1
  obtain ⟨q1, q2⟩ := rdN_nat _ _ _ _ hb h2
  refine ⟨i32_eq ?_, a2.trans q2.symm⟩
  rw [tr_nat, a1, q1]
  show nvB k 0 l % 2 ^ 64 % 2 ^ 32 = nvB k 0 l % 2 ^ 32
  omega
/-- one or two bytes: the same number -/
theorem rdL_few {k : Nat} {l : List Int32} {a : Int64 × List Int32} {q : Int32 × List Int32} (hk : k ≤ 2) (hb : byR l) (h1 : rdL k 0 l = some a) (h2 : rdN k 0 l = some q) : a.1 = q.1.toInt64 ∧ a.2 = q.2 := by
  obtain ⟨a1, a2⟩ := rdL_nat _ _ _ _ hb h1
  obtain ⟨q1, q2⟩ := rdN_nat _ _ _ _ hb h2
  have hl := (rdN_drop _ _ _ _ h2).2
  have hlt := nvB_lt k l hl hb
  have h256 : 256 ^ k ≤ 65536 := by
    have : 256 ^ k ≤ 256 ^ 2 := Nat.pow_le_pow_right (by omega) hk
    exact this
  have a1 : a.1.toBitVec.toNat = nvB k 0 l % 2 ^ 64 := a1
  have q1 : q.1.toBitVec.toNat = nvB k 0 l % 2 ^ 32 := q1
  refine ⟨i64_eq ?_, a2.trans q2.symm⟩
  have e : q.1.toInt64.toBitVec = q.1.toBitVec.signExtend 64 := rfl
  rw [e, BitVec.signExtend_eq_setWidth_of_msb_false (by rw [BitVec.msb_eq_decide]; exact decide_eq_false (by omega)), BitVec.toNat_setWidth]
  omega
theorem or_nat32 {a b : Nat} (h : b < 2 ^ 32) : (a * 2 ^ 32) ||| b = a * 2 ^ 32 + b := by
  have := Nat.two_pow_add_eq_or_of_lt (i := 32) (b := b) h a
  rw [Nat.mul_comm] at this
  exact this.symm
/-- eight bytes: two halves -/
theorem rdL_8 {l : List Int32} {a : Int64 × List Int32} {h q : Int32 × List Int32} (hb : byR l) (h1 : rdL 8 0 l = some a) (h2 : rdN 4 0 l = some h) (h3 : rdN 4 0 h.2 = some q) : a.1 = ((h.1.toInt64 <<< ((32 : Int32).toInt64 &&& 63)) ||| (q.1.toInt64 &&& 4294967295)) ∧ a.2 = q.2 := by
  obtain ⟨a1, a2⟩ := rdL_nat _ _ _ _ hb h1
  obtain ⟨q1, q2⟩ := rdN_nat _ _ _ _ hb h2
  rw [q2] at h3
  obtain ⟨r1, r2⟩ := rdN_nat _ _ _ _ (hb.drop 4) h3
  have hl := (rdN_drop _ _ _ _ h3).2
  rw [List.length_drop] at hl
  have m1 := nvB_lt 4 l (by omega) hb
  have m2 := nvB_lt 4 (l.drop 4) (by rw [List.length_drop]; omega) (hb.drop 4)
  have e8 : nvB 8 0 l = nvB 4 0 l * 256 ^ 4 + nvB 4 0 (l.drop 4) := by
    rw [show (8 : Nat) = 4 + 4 from rfl, nvB_add 4 4 0 l (by omega), nvB_lin 4 _ (l.drop 4) (by rw [List.length_drop]; omega)]
  have a1 : a.1.toBitVec.toNat = nvB 8 0 l % 2 ^ 64 := a1
  have q1 : h.1.toBitVec.toNat = nvB 4 0 l % 2 ^ 32 := q1
  have r1 : q.1.toBitVec.toNat = nvB 4 0 (l.drop 4) % 2 ^ 32 := r1
  have s1 := sx_mod (a := h.1)
  have s2 := sx_mod (a := q.1)
  refine ⟨i64_eq ?_, ?_⟩
  · have e0 : ((h.1.toInt64 <<< ((32 : Int32).toInt64 &&& 63)) ||| (q.1.toInt64 &&& 4294967295)).toBitVec = (h.1.toInt64.toBitVec <<< 32) ||| (q.1.toInt64.toBitVec &&& 4294967295#64) := rfl
    rw [e0, BitVec.toNat_or, BitVec.toNat_and, BitVec.toNat_shiftLeft, Nat.shiftLeft_eq]
    have e1 : q.1.toInt64.toBitVec.toNat &&& (4294967295#64).toNat = q.1.toInt64.toBitVec.toNat % 2 ^ 32 := by
      show q.1.toInt64.toBitVec.toNat &&& (2 ^ 32 - 1) = _
      rw [Nat.and_two_pow_sub_one_eq_mod]
    have e2 : h.1.toInt64.toBitVec.toNat * 2 ^ 32 % 2 ^ 64 = (h.1.toInt64.toBitVec.toNat % 2 ^ 32) * 2 ^ 32 := by omega
    rw [e1, e2, s1, s2, or_nat32 (by omega)]
    have : (256 : Nat) ^ 4 = 2 ^ 32 := rfl
    omega
  · rw [a2, r2, List.drop_drop]
