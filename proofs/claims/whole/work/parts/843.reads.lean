/-! TAKE: reading bytes; the class -/
/-- a number of so many bytes -/
def rdN : Nat → Int32 → List Int32 → Option (Int32 × List Int32)
  | 0, v, l => some (v, l)
  | _ + 1, _, [] => none
  | k + 1, v, b :: l => rdN k ((v <<< ((8 : Int32) &&& 31)) ||| b) l
/-- how many bytes an item has -/
def bOf (s : Nat) : Nat := if s = 1 then 4 else if s = 2 then 8 else if s = 3 then 2 else 1
/-- an item of a sort, by its number -/
def itmK (En : List (Int64 × Int32)) (s : Nat) (v : Int32) : Option Int64 := if s = 0 then (if 1 < v.toInt then none else some v.toInt64) else if s = 5 then (if v = 0 then some (-1) else if v.toInt ≤ En.length then some (v.toInt64 - 1) else none) else if s = 6 then (if v = 0 then some (-1) else if v.toInt ≤ En.length ∧ sgE En (v - 1) ≠ -9 then some (v.toInt64 - 1) else none) else if s = 7 then (if v.toInt < En.length then some v.toInt64 else none) else some v.toInt64
/-- an item of a sort (no rows) -/
def rdI (En : List (Int64 × Int32)) (s : Nat) (l : List Int32) : Option (Int64 × List Int32) := if s = 2 then (rdN 4 0 l).bind fun h => (rdN 4 0 h.2).map fun q => ((h.1.toInt64 <<< ((32 : Int32).toInt64 &&& 63)) ||| (q.1.toInt64 &&& 4294967295), q.2) else (rdN (bOf s) 0 l).bind fun q => (itmK En s q.1).map fun v => (v, q.2)
def byR (l : List Int32) : Prop := ∀ b ∈ l, 0 ≤ b.toInt ∧ b.toInt ≤ 255
theorem rdN_drop : ∀ (k : Nat) (v : Int32) (l : List Int32) (q : Int32 × List Int32), rdN k v l = some q → q.2 = l.drop k ∧ k ≤ l.length
  | 0, v, l, q, h => by
    injection h with h
    rw [← h]
    exact ⟨rfl, Nat.zero_le _⟩
  | k + 1, v, [], q, h => by cases h
  | k + 1, v, b :: l, q, h => by
    obtain ⟨h1, h2⟩ := rdN_drop k _ l q h
    exact ⟨h1, by rw [List.length_cons]; omega⟩
theorem rdN_some : ∀ (k : Nat) (v : Int32) (l : List Int32), k ≤ l.length → ∃ q, rdN k v l = some q
  | 0, v, l, _ => ⟨_, rfl⟩
  | k + 1, v, [], h => by rw [List.length_nil] at h; omega
  | k + 1, v, b :: l, h => rdN_some k _ l (by rw [List.length_cons] at h; omega)
theorem sh0 {b : Int32} : ((0 : Int32) <<< ((8 : Int32) &&& 31)) ||| b = b := by
  rw [show (0 : Int32) <<< ((8 : Int32) &&& 31) = 0 by decide, Int32.zero_or]
theorem rd1 {l : List Int32} {q : Int32 × List Int32} (h : rdN 1 0 l = some q) : l = q.1 :: q.2 := by
  cases l with
  | nil => cases h
  | cons b l =>
    rw [rdN, rdN, sh0] at h
    injection h with h
    rw [← h]
/-- where the reading stands -/
def RD (il ia ib : Nat) (S : zS) (l : List Int32) : Prop := ∃ n a : Nat, zI S il = Int32.ofNat n ∧ zI S ia = Int32.ofNat a ∧ a ≤ n ∧ n ≤ 1200 ∧ (zA S ib).length = 1200 ∧ l = ((zA S ib).take n).drop a
theorem RD.cons {il ia ib : Nat} {S : zS} {b : Int32} {l : List Int32} (h : RD il ia ib S (b :: l)) : (zI S ia).toInt < (zI S il).toInt ∧ gI (zA S ib) (zI S ia) = some b ∧ ∀ S', zI S' il = zI S il → zI S' ia = zI S ia + 1 → zA S' ib = zA S ib → RD il ia ib S' l := by
  obtain ⟨n, a, h1, h2, h3, h4, h5, h6⟩ := h
  have hlt : a < n := by
    rcases Nat.lt_or_ge a n with h | h
    · exact h
    · rw [List.drop_eq_nil_iff.mpr (by rw [List.length_take]; omega)] at h6
      cases h6
  have hg : ((zA S ib).take n)[a]? = some b := by
    rw [← Nat.add_zero a, ← List.getElem?_drop, ← h6]; rfl
  refine ⟨by rw [h1, h2, yi_nat (by omega), yi_nat (by omega)]; omega, ?_, ?_⟩
  · rw [h2, gI_nat (by omega)]
    rw [List.getElem?_take_of_lt hlt] at hg
    exact hg
  · intro S' e1 e2 e3
    refine ⟨n, a + 1, e1.trans h1, by rw [e2, h2, yi_add1], by omega, h4, by rw [e3]; exact h5, ?_⟩
    rw [e3, ← List.drop_drop, ← h6]
    rfl
theorem RD.nil {il ia ib : Nat} {S : zS} (h : RD il ia ib S []) : ¬ (zI S ia).toInt < (zI S il).toInt := by
  obtain ⟨n, a, h1, h2, h3, h4, h5, h6⟩ := h
  have := congrArg List.length h6
  rw [List.length_nil, List.length_drop, List.length_take, h5] at this
  rw [h1, h2, yi_nat (by omega), yi_nat (by omega)]
  omega
section READC
variable {N : Nat} {ne : Int32} {sn : List Int32} {En : List (Int64 × Int32)}
theorem c_numZ : ∀ (m k i n : Nat) (v : Int32) (S : zS) (l : List Int32), i + m = k → k < 100 → m < n → RD 0 1 3 S l → match rdN m v l with
    | some q => ∃ S', cZ_loadNumber_4 N n (Int32.ofNat k) v (Int32.ofNat i) S = some (q.1, S') ∧ RD 0 1 3 S' q.2 ∧ zI S' 2 = zI S 2 ∧ zI S' 0 = zI S 0 ∧ zA S' 3 = zA S 3
    | none => ∃ S', cZ_loadNumber_4 N n (Int32.ofNat k) v (Int32.ofNat i) S = some (0, S') ∧ RD 0 1 3 S' [] ∧ zI S' 2 = 1 ∧ zI S' 0 = zI S 0 ∧ zA S' 3 = zA S 3
  | _, _, _, 0, _, _, _, _, _, hn, _ => by omega
  | 0, k, i, n + 1, v, S, l, hi, hk, _, hR => by
    refine ⟨S, ?_, hR, rfl, rfl, rfl⟩
    rw [cZ_loadNumber_4, if_pos (by rw [yi_nat (by omega), yi_nat (by omega)]; omega)]
  | m + 1, k, i, n + 1, v, S, [], hi, hk, _, hR => by
    refine ⟨zsI S 2 1, ?_, ?_, rfl, rfl, rfl⟩
    · rw [cZ_loadNumber_4, if_neg (by rw [yi_nat (by omega), yi_nat (by omega)]; omega), if_neg hR.nil]
    · obtain ⟨n, a, h1, h2, h3⟩ := hR
      exact ⟨n, a, h1, h2, h3⟩
  | m + 1, k, i, n + 1, v, S, b :: l, hi, hk, hn, hR => by
    obtain ⟨r1, r2, r3⟩ := hR.cons
    rw [rdN, cZ_loadNumber_4, if_neg (by rw [yi_nat (by omega), yi_nat (by omega)]; omega), if_pos r1, r2, zg_s, yi_add1]
    exact c_numZ m k (i + 1) n _ (zsI S 1 (zI S 1 + 1)) l (by omega) hk (by omega) (r3 _ rfl rfl rfl)
theorem c_numO : ∀ (m k i n : Nat) (v : Int32) (S : zS) (l : List Int32), i + m = k → k < 100 → m < n → RD 3 4 6 S l → match rdN m v l with
    | some q => ∃ S', cO_loadNumber_4 ne sn N n (Int32.ofNat k) v (Int32.ofNat i) S = some (q.1, S') ∧ RD 3 4 6 S' q.2 ∧ zI S' 5 = zI S 5 ∧ (∀ j, j ≠ 4 → j ≠ 5 → zI S' j = zI S j) ∧ zA S' 6 = zA S 6 ∧ zB S' 2 = zB S 2
    | none => ∃ S', cO_loadNumber_4 ne sn N n (Int32.ofNat k) v (Int32.ofNat i) S = some (0, S') ∧ RD 3 4 6 S' [] ∧ zI S' 5 = 1 ∧ (∀ j, j ≠ 4 → j ≠ 5 → zI S' j = zI S j) ∧ zA S' 6 = zA S 6 ∧ zB S' 2 = zB S 2
  | _, _, _, 0, _, _, _, _, _, hn, _ => by omega
  | 0, k, i, n + 1, v, S, l, hi, hk, _, hR => by
    refine ⟨S, ?_, hR, rfl, fun _ _ _ => rfl, rfl, rfl⟩
    rw [cO_loadNumber_4, if_pos (by rw [yi_nat (by omega), yi_nat (by omega)]; omega)]
  | m + 1, k, i, n + 1, v, S, [], hi, hk, _, hR => by
    refine ⟨zsI S 5 1, ?_, ?_, rfl, fun j _ h5 => zup_ne h5, rfl, rfl⟩
    · rw [cO_loadNumber_4, if_neg (by rw [yi_nat (by omega), yi_nat (by omega)]; omega), if_neg hR.nil]
    · obtain ⟨n, a, h1, h2, h3⟩ := hR
      exact ⟨n, a, h1, h2, h3⟩
  | m + 1, k, i, n + 1, v, S, b :: l, hi, hk, hn, hR => by
    obtain ⟨r1, r2, r3⟩ := hR.cons
    have hst : cO_loadNumber_4 ne sn N (n + 1) (Int32.ofNat k) v (Int32.ofNat i) S = cO_loadNumber_4 ne sn N n (Int32.ofNat k) ((v <<< ((8 : Int32) &&& 31)) ||| b) (Int32.ofNat (i + 1)) (zsI S 4 (zI S 4 + 1)) := by
      rw [cO_loadNumber_4, if_neg (by rw [yi_nat (by omega), yi_nat (by omega)]; omega), if_pos r1, r2, zg_s, yi_add1]
    have ih := c_numO m k (i + 1) n ((v <<< ((8 : Int32) &&& 31)) ||| b) (zsI S 4 (zI S 4 + 1)) l (by omega) hk (by omega) (r3 _ rfl rfl rfl)
    rw [rdN, hst]
    rcases hr : rdN m ((v <<< ((8 : Int32) &&& 31)) ||| b) l with _ | q
    · rw [hr] at ih
      obtain ⟨S', a1, a2, a3, a4, a5⟩ := ih
      exact ⟨S', a1, a2, a3, fun j h4 h5 => (a4 j h4 h5).trans (zup_ne h4), a5⟩
    · rw [hr] at ih
      obtain ⟨S', a1, a2, a3, a4, a5⟩ := ih
      exact ⟨S', a1, a2, a3, fun j h4 h5 => (a4 j h4 h5).trans (zup_ne h4), a5⟩
end READC
