/-! TOKENS: what the class splits the tape into -/
theorem zbs {α β : Type} {x : α} {S : zS} {f : α → zS → Option β} : zb (some (x, S)) f = f x S := rfl
theorem zgs {α β : Type} {x : α} {f : α → Option β} : zg (some x) f = f x := rfl
theorem gI_nat {α : Type} {l : List α} {i : Nat} (h : i < 2147483648) : gI l (Int32.ofNat i) = l[i]? := by
  rw [gI, yi_nat h, if_pos (by omega), Int.toNat_natCast]
theorem gI_mid {α : Type} {pre r jk : List α} {b : α} (h : pre.length < 2147483648) : gI (pre ++ b :: r ++ jk) (Int32.ofNat pre.length) = some b := by
  rw [gI_nat h, List.append_assoc, List.getElem?_append_right (Nat.le_refl _)]
  simp
def isL (b : Int32) : Bool := decide (97 ≤ b.toInt) && decide (b.toInt ≤ 122)
def isG (b : Int32) : Bool := decide (48 ≤ b.toInt) && decide (b.toInt ≤ 57)
def isB (b : Int32) : Bool := b == 32 || b == 10
def nB : List Int32 → Nat
  | [] => 0
  | b :: r => if isB b = true then nB r + 1 else 0
def nW : List Int32 → Nat
  | [] => 0
  | b :: r => if isL b = true ∨ isG b = true then nW r + 1 else 0
def nG : List Int32 → Nat
  | [] => 0
  | b :: r => if isG b = true then nG r + 1 else 0
def wV : Int64 → List Int32 → Int64
  | v, [] => v
  | v, b :: r => wV ((v <<< ((8 : Int32).toInt64 &&& 63)) ||| b.toInt64) r
def gV : Int64 → List Int32 → Int64
  | v, [] => v
  | v, b :: r => gV (((v * 10) + b.toInt64) - 48) r
theorem nB_le : ∀ r : List Int32, nB r ≤ r.length
  | [] => Nat.le_refl _
  | b :: r => by
    have := nB_le r
    unfold nB
    split <;> simp <;> omega
theorem nW_le : ∀ r : List Int32, nW r ≤ r.length
  | [] => Nat.le_refl _
  | b :: r => by
    have := nW_le r
    unfold nW
    split <;> simp <;> omega
theorem nG_le : ∀ r : List Int32, nG r ≤ r.length
  | [] => Nat.le_refl _
  | b :: r => by
    have := nG_le r
    unfold nG
    split <;> simp <;> omega
theorem cP_isLetter_eq {N : Nat} {b : Int32} {S : zS} : cP_isLetter N b S = some (if isL b = true then 1 else 0, S) := by
  unfold cP_isLetter isL
  simp only [Bool.and_eq_true, decide_eq_true_eq]
  split
  · rw [if_neg (by omega)]
  · split
    · rw [if_neg (by omega)]
    · rw [if_pos (by omega)]
theorem cP_isDigit_eq {N : Nat} {b : Int32} {S : zS} : cP_isDigit N b S = some (if isG b = true then 1 else 0, S) := by
  unfold cP_isDigit isG
  simp only [Bool.and_eq_true, decide_eq_true_eq]
  split
  · rw [if_neg (by omega)]
  · split
    · rw [if_neg (by omega)]
    · rw [if_pos (by omega)]
theorem cL_blanks {N : Nat} {S : zS} {jk : List Int32} : ∀ (r pre : List Int32) (n : Nat), zI S 0 = Int32.ofNat (pre.length + r.length) → zA S 1 = pre ++ r ++ jk → pre.length + r.length ≤ 1400 → r.length < n → cP_behindBlanks_2 N n (Int32.ofNat pre.length) S = some (Int32.ofNat (pre.length + nB r), S)
  | [], pre, 0, _, _, _, h => by simp at h
  | [], pre, n + 1, h0, h1, h2, _ => by
    rw [cP_behindBlanks_2, h0, if_pos (by simp)]
    simp [nB]
  | b :: r, pre, 0, _, _, _, h => by simp at h
  | b :: r, pre, n + 1, h0, h1, h2, h3 => by
    simp only [List.length_cons] at h0 h2 h3
    have e1 := yi_nat (i := pre.length) (by omega)
    have e2 := yi_nat (i := pre.length + (r.length + 1)) (by omega)
    have ih := cL_blanks (N := N) (S := S) (jk := jk) r (pre ++ [b]) n (by rw [h0, List.length_append, List.length_cons, List.length_nil]; congr 1; omega) (by rw [h1]; simp) (by simp; omega) (by omega)
    rw [cP_behindBlanks_2, h0, if_neg (by rw [e1, e2]; omega), h1, gI_mid (by omega), zgs, zgs, yi_add1]
    simp only [List.length_append, List.length_cons, List.length_nil] at ih
    by_cases hb : isB b = true
    · have hn : nB (b :: r) = nB r + 1 := by rw [nB, if_pos hb]
      rw [hn, show pre.length + (nB r + 1) = pre.length + (0 + 1) + nB r by omega, ← ih]
      simp only [isB, Bool.or_eq_true, beq_iff_eq] at hb
      by_cases h32 : b = 32
      · rw [if_pos h32]
      · rw [if_neg h32, if_neg (by rcases hb with hb | hb; exact absurd hb h32; exact fun h => h hb)]
    · have hn : nB (b :: r) = 0 := by rw [nB, if_neg hb]
      simp only [isB, Bool.or_eq_true, beq_iff_eq, not_or] at hb
      rw [if_neg hb.1, if_pos hb.2, hn]
      rfl
theorem cL_word {N : Nat} {S : zS} {jk : List Int32} {l1 l2 : Int32} : ∀ (r pre : List Int32) (n : Nat) (v : Int64), zI S 0 = Int32.ofNat (pre.length + r.length) → zA S 1 = pre ++ r ++ jk → pre.length + r.length ≤ 1400 → r.length < n → cP_splitWord_4 N n l1 l2 v (Int32.ofNat pre.length) S = cP_splitWord_32 N l1 l2 (wV v (r.take (nW r))) (Int32.ofNat (pre.length + nW r)) S
  | [], pre, 0, _, _, _, _, h => by simp at h
  | [], pre, n + 1, v, h0, h1, h2, _ => by
    rw [cP_splitWord_4, h0, if_pos (by simp)]
    simp [nW, wV]
  | b :: r, pre, 0, _, _, _, _, h => by simp at h
  | b :: r, pre, n + 1, v, h0, h1, h2, h3 => by
    simp only [List.length_cons] at h0 h2 h3
    have e1 := yi_nat (i := pre.length) (by omega)
    have e2 := yi_nat (i := pre.length + (r.length + 1)) (by omega)
    have ih := cL_word (N := N) (S := S) (jk := jk) (l1 := l1) (l2 := l2) r (pre ++ [b]) n ((v <<< ((8 : Int32).toInt64 &&& 63)) ||| b.toInt64) (by rw [h0, List.length_append, List.length_cons, List.length_nil]; congr 1; omega) (by rw [h1]; simp) (by simp; omega) (by omega)
    simp only [List.length_append, List.length_cons, List.length_nil] at ih
    rw [cP_splitWord_4, h0, if_neg (by rw [e1, e2]; omega), h1, gI_mid (by omega), zgs, cP_isLetter_eq, zbs, h1, gI_mid (by omega), zgs, zgs, cP_isDigit_eq, zbs, h1, gI_mid (by omega), zgs, yi_add1]
    by_cases hb : isL b = true ∨ isG b = true
    · have hn : nW (b :: r) = nW r + 1 := by rw [nW, if_pos hb]
      rw [hn, List.take_succ_cons, wV, show pre.length + (nW r + 1) = pre.length + (0 + 1) + nW r by omega, ← ih]
      by_cases hL : isL b = true
      · rw [if_pos hL, if_pos (by decide)]
      · have hG : isG b = true := by rcases hb with hb | hb; exact absurd hb hL; exact hb
        rw [if_neg hL, if_neg (by decide), if_pos hG, if_neg (by decide)]
    · have hn : nW (b :: r) = 0 := by rw [nW, if_neg hb]
      rw [not_or] at hb
      rw [if_neg hb.1, if_neg (by decide), if_neg hb.2, if_pos rfl, hn]
      rfl
theorem cL_num {N : Nat} {S : zS} {jk : List Int32} {l1 l2 : Int32} : ∀ (r pre : List Int32) (n : Nat) (v : Int64), zI S 0 = Int32.ofNat (pre.length + r.length) → zA S 1 = pre ++ r ++ jk → pre.length + r.length ≤ 1400 → r.length < n → cP_splitNumber_4 N n l1 l2 v (Int32.ofNat pre.length) S = cP_splitNumber_28 N l1 l2 (gV v (r.take (nG r))) (Int32.ofNat (pre.length + nG r)) S
  | [], pre, 0, _, _, _, _, h => by simp at h
  | [], pre, n + 1, v, h0, h1, h2, _ => by
    rw [cP_splitNumber_4, h0, if_pos (by simp)]
    simp [nG, gV]
  | b :: r, pre, 0, _, _, _, _, h => by simp at h
  | b :: r, pre, n + 1, v, h0, h1, h2, h3 => by
    simp only [List.length_cons] at h0 h2 h3
    have e1 := yi_nat (i := pre.length) (by omega)
    have e2 := yi_nat (i := pre.length + (r.length + 1)) (by omega)
    have ih := cL_num (N := N) (S := S) (jk := jk) (l1 := l1) (l2 := l2) r (pre ++ [b]) n (((v * 10) + b.toInt64) - 48) (by rw [h0, List.length_append, List.length_cons, List.length_nil]; congr 1; omega) (by rw [h1]; simp) (by simp; omega) (by omega)
    simp only [List.length_append, List.length_cons, List.length_nil] at ih
    rw [cP_splitNumber_4, h0, if_neg (by rw [e1, e2]; omega), h1, gI_mid (by omega), zgs, cP_isDigit_eq, zbs, h1, gI_mid (by omega), zgs, yi_add1]
    by_cases hb : isG b = true
    · have hn : nG (b :: r) = nG r + 1 := by rw [nG, if_pos hb]
      rw [hn, List.take_succ_cons, gV, show pre.length + (nG r + 1) = pre.length + (0 + 1) + nG r by omega, ← ih, if_pos hb, if_neg (by decide)]
    · have hn : nG (b :: r) = 0 := by rw [nG, if_neg hb]
      rw [if_neg hb, if_pos rfl, hn]
      rfl
/-- the kind of a word by its number -/
def kWf (v : Int64) : List Int64 → Nat → Int32
  | [], _ => 3
  | w :: r, i => if w = v then Int32.ofNat (200 + i) else kWf v r (i + 1)
def kW (v : Int64) : Int32 := kWf v zw81 0
theorem cL_kind {N : Nat} {S : zS} {v : Int64} : ∀ (r pre : List Int64) (n : Nat), zw81 = pre ++ r → r.length < n → cP_kindOfWord_2 N n v (Int32.ofNat pre.length) S = some (kWf v r pre.length, S)
  | [], pre, 0, _, h => by simp at h
  | [], pre, n + 1, h1, _ => by
    have : pre.length = 36 := by rw [List.append_nil] at h1; rw [← h1]; rfl
    rw [cP_kindOfWord_2, this, if_pos (by decide)]
    rfl
  | w :: r, pre, 0, _, h => by simp at h
  | w :: r, pre, n + 1, h1, h3 => by
    have hl : pre.length + (r.length + 1) = 36 := by
      have := congrArg List.length h1
      simp only [List.length_append, List.length_cons] at this
      rw [← this]; rfl
    have e1 := yi_nat (i := pre.length) (by omega)
    have ih := cL_kind (N := N) (S := S) (v := v) r (pre ++ [w]) n (by rw [h1]; simp) (by simp at h3; omega)
    simp only [List.length_append, List.length_cons, List.length_nil] at ih
    have hg : gI zw81 (Int32.ofNat pre.length) = some w := by
      have := gI_mid (pre := pre) (r := r) (jk := []) (b := w) (by omega)
      rw [List.append_nil, ← h1] at this
      exact this
    rw [cP_kindOfWord_2, if_neg (by rw [e1]; omega), hg, zgs, kWf, yi_add1]
    by_cases hw : w = v
    · rw [if_pos hw, if_neg (by simp [hw])]
      congr 2
      rw [show (200 : Int32) = Int32.ofNat 200 from rfl, yi_add]
    · rw [if_neg hw, if_pos hw, ih]
/-- signs -/
theorem cL_sign {N : Nat} {S : zS} {c : Int32} : ∀ (r pre : List Int32) (n : Nat), zwsg = pre ++ r → r.length < n → ∃ x, cP_indexOfChar_5 N n 16 c (Int32.ofNat pre.length) S = some (x, S) ∧ (x.toInt < 0 ↔ ¬ c ∈ r)
  | [], pre, 0, _, h => by simp at h
  | [], pre, n + 1, h1, _ => by
    have : pre.length = 16 := by rw [List.append_nil] at h1; rw [← h1]; rfl
    refine ⟨-1, ?_, by simp⟩
    rw [cP_indexOfChar_5, this, if_pos (by decide)]
  | w :: r, pre, 0, _, h => by simp at h
  | w :: r, pre, n + 1, h1, h3 => by
    have hl : pre.length + (r.length + 1) = 16 := by
      have := congrArg List.length h1
      simp only [List.length_append, List.length_cons] at this
      rw [← this]; rfl
    have e1 := yi_nat (i := pre.length) (by omega)
    have hg : gI zwsg (Int32.ofNat pre.length) = some w := by
      have := gI_mid (pre := pre) (r := r) (jk := []) (b := w) (by omega)
      rw [List.append_nil, ← h1] at this
      exact this
    rw [cP_indexOfChar_5, if_neg (by rw [e1]; show ¬ (16 : Int) ≤ _; omega), hg, zgs, yi_add1]
    by_cases hw : w = c
    · exact ⟨Int32.ofNat pre.length, by rw [if_neg (by simp [hw])], by rw [e1]; simp [hw]⟩
    · obtain ⟨x, q1, q2⟩ := cL_sign (N := N) (S := S) (c := c) r (pre ++ [w]) n (by rw [h1]; simp) (by simp at h3; omega)
      simp only [List.length_append, List.length_cons, List.length_nil] at q1
      exact ⟨x, by rw [if_pos hw]; exact q1, by rw [q2]; simp [Ne.symm hw]⟩
