/-! THE TAPE SPLIT, class -/
theorem zs_nat {α : Type} {l : List α} {k : Nat} {v : α} (h : k < 2147483648) : zs l (Int32.ofNat k) v = l.set k v := by
  show l.set (Int32.ofNat k).toInt.toNat v = _
  rw [yi_nat h, Int.toNat_natCast]
theorem zok_nat {α : Type} {l : List α} {k : Nat} (h : k < 2147483648) (hl : k < l.length) : zok l (Int32.ofNat k) := by
  show 0 ≤ (Int32.ofNat k).toInt ∧ _
  rw [yi_nat h]; omega
theorem zi_I {S : zS} {i j : Nat} {v : Int32} : zI (zsI S i v) j = if j = i then v else zI S j := rfl
theorem za_A {S : zS} {i j : Nat} {v : List Int32} : zA (zsA S i v) j = if j = i then v else zA S j := rfl
theorem zb_B {S : zS} {i j : Nat} {v : List Int64} : zB (zsB S i v) j = if j = i then v else zB S j := rfl
theorem zi_A {S : zS} {i j : Nat} {v : List Int32} : zI (zsA S i v) j = zI S j := rfl
theorem zi_B {S : zS} {i j : Nat} {v : List Int64} : zI (zsB S i v) j = zI S j := rfl
theorem za_I {S : zS} {i j : Nat} {v : Int32} : zA (zsI S i v) j = zA S j := rfl
theorem za_B {S : zS} {i j : Nat} {v : List Int64} : zA (zsB S i v) j = zA S j := rfl
theorem zb_I {S : zS} {i j : Nat} {v : Int32} : zB (zsI S i v) j = zB S j := rfl
theorem zb_A {S : zS} {i j : Nat} {v : List Int32} : zB (zsA S i v) j = zB S j := rfl
theorem sb_int {b : Int32} (h : 0 ≤ b.toInt ∧ b.toInt ≤ 255) : (sb b).toInt = if b.toInt < 128 then b.toInt else b.toInt - 256 := by
  unfold sb
  rw [Int8.toInt_toInt32, Int32.toInt_toInt8, Int.bmod_def]
  have : ((2 ^ 8 : Nat) : Int) = 256 := by decide
  rw [this]
  split <;> split <;> omega
theorem zwsg_in : ∀ x ∈ zwsg, 0 < x.toInt ∧ x.toInt < 128 ∧ isL x = false ∧ isG x = false := by decide
theorem sb_sg {b : Int32} (h : 0 ≤ b.toInt ∧ b.toInt ≤ 255) : sb b ∈ zwsg ↔ b ∈ zwsg := by
  have e := sb_int h
  constructor
  · intro hm
    have h2 := zwsg_in _ hm
    have : sb b = b := by
      rw [xi32_eq, e]
      split at e
      · rw [if_pos (by assumption)]
      · omega
    rwa [this] at hm
  · intro hm
    have h2 := zwsg_in _ hm
    have : sb b = b := by rw [xi32_eq, e, if_pos h2.2.1]
    rwa [this]
theorem zu16 {b : Int32} (h : 0 ≤ b.toInt ∧ b.toInt ≤ 255) : (b.toUInt32 % 65536).toInt32 = b := by
  obtain ⟨m, hm, rfl, hm2⟩ := yi_of h.1
  have h3 : m ≤ 255 := by omega
  rw [xi32_eq, hm2]
  have : ((Int32.ofNat m).toUInt32 % 65536) = UInt32.ofNat m := by
    apply UInt32.toNat_inj.mp
    rw [UInt32.toNat_mod, show (Int32.ofNat m).toUInt32 = UInt32.ofNat m from rfl, UInt32.toNat_ofNat']
    rw [show (65536 : UInt32).toNat = 65536 from rfl]
    omega
  rw [this, show (UInt32.ofNat m).toInt32 = Int32.ofNat m from rfl, hm2]
def lexK : List Int32 → Int32 × Nat × Option Int64
  | [] => (0, 0, none)
  | b :: r => if isL b = true then ((if nW (b :: r) ≤ 8 then kW (wV 0 ((b :: r).take (nW (b :: r)))) else 1), nW (b :: r), some (wV 0 ((b :: r).take (nW (b :: r)))))
    else if isG b = true then ((if nG (b :: r) ≤ 6 then 2 else 1), nG (b :: r), some (gV 0 ((b :: r).take (nG (b :: r)))))
    else ((if b ∈ zwsg then b else 1), 1, none)
theorem lexK_w {b : Int32} {r : List Int32} (h : isL b = true) : lexK (b :: r) = ((if nW (b :: r) ≤ 8 then kW (wV 0 ((b :: r).take (nW (b :: r)))) else 1), nW (b :: r), some (wV 0 ((b :: r).take (nW (b :: r))))) := if_pos h
theorem lexK_g {b : Int32} {r : List Int32} (h : ¬ isL b = true) (h2 : isG b = true) : lexK (b :: r) = ((if nG (b :: r) ≤ 6 then 2 else 1), nG (b :: r), some (gV 0 ((b :: r).take (nG (b :: r))))) := (if_neg h).trans (if_pos h2)
theorem lexK_s {b : Int32} {r : List Int32} (h : ¬ isL b = true) (h2 : ¬ isG b = true) : lexK (b :: r) = ((if b ∈ zwsg then b else 1), 1, none) := (if_neg h).trans (if_neg h2)
theorem zb_id {α : Type} {o : Option (α × zS)} : zb o (fun x S => some (x, S)) = o := by rcases o with _ | ⟨x, S⟩ <;> rfl
def vSt (S : zS) (k : Nat) (o : Option Int64) : zS := match o with
  | none => S
  | some v => zsB S 4 (zs (zB S 4) (Int32.ofNat k) v)
theorem cP_idx_eq {N : Nat} {b : Int32} {S : zS} (hN : 1400 < N) (hb : 0 ≤ b.toInt ∧ b.toInt ≤ 255) : ∃ x, cP_indexOf_36_4 N ((b.toUInt32 % 65536).toInt32) S = some (x, S) ∧ (x.toInt < 0 ↔ ¬ b ∈ zwsg) := by
  obtain ⟨x, q1, q2⟩ := cL_sign (N := N) (S := S) (c := b.toInt8.toInt32) zwsg [] N rfl (by show 16 < N; omega)
  refine ⟨x, ?_, q2.trans (not_congr (sb_sg hb))⟩
  have hL : cP_length N S = some (16, S) := by
    show some (((Int32.ofNat zwsg.length) >>> ((0 : Int32) &&& 31)), S) = some (16, S)
    rw [show ((Int32.ofNat zwsg.length) >>> ((0 : Int32) &&& 31)) = 16 by decide]
  have hC : cP_canEncode N b S = some (1, S) := by
    unfold cP_canEncode
    rw [if_neg (by omega), if_neg (by omega)]
  have q1 : cP_indexOfChar_5 N N 16 b.toInt8.toInt32 0 S = some (x, S) := q1
  rw [zu16 hb, cP_indexOf_36_4, cP_indexOf_37_4, hL, zbs, cP_indexOf_38_5, hC, zbs, if_pos (by decide), if_pos (by decide), show (if (0 : Int32) < 0 then (0 : Int32) else 0) = 0 by decide, show (if (Int32.ofNat zwsg.length) < (16 : Int32) then (Int32.ofNat zwsg.length) else 16) = 16 by decide, cP_indexOfChar, q1]
  rfl
theorem yi_dif {p n : Nat} (h : p + n < 2147483648) : (Int32.ofNat (p + n) - Int32.ofNat p).toInt = n := by
  have e1 := yi_nat (i := p) (by omega)
  have e2 := yi_nat (i := p + n) (by omega)
  rw [yi_sub (by omega) (by omega), e1, e2]; omega
theorem cL_one {N : Nat} {S : zS} {jk r pre : List Int32} {k : Nat} (h0 : zI S 0 = Int32.ofNat (pre.length + r.length)) (h1 : zA S 1 = pre ++ r ++ jk) (h2 : pre.length + r.length ≤ 1400) (hN : 1400 < N) (hk : k < 1401) (hl2 : (zA S 2).length = 1401) (hl4 : (zB S 4).length = 1401) (hb : ∀ b ∈ r, 0 ≤ b.toInt ∧ b.toInt ≤ 255) : cP_splitOne N (Int32.ofNat k) (Int32.ofNat pre.length) S = some (Int32.ofNat (pre.length + (lexK r).2.1), zsA (vSt S k (lexK r).2.2) 2 (zs (zA S 2) (Int32.ofNat k) (lexK r).1)) := by
  have e1 := yi_nat (i := pre.length) (by omega)
  have e2 := yi_nat (i := pre.length + r.length) (by omega)
  have z2 : zok (zA S 2) (Int32.ofNat k) := zok_nat (by omega) (by omega)
  have z4 : zok (zB S 4) (Int32.ofNat k) := zok_nat (by omega) (by omega)
  unfold cP_splitOne
  cases r with
  | nil =>
    rw [h0, if_neg (by simp), if_pos z2]
    rfl
  | cons b r =>
    rw [h0, if_pos (by rw [e1, e2]; simp; omega), h1, gI_mid (by omega), zgs, cP_isLetter_eq, zbs]
    by_cases hL : isL b = true
    · have w := nW_le (b :: r)
      rw [if_pos hL, if_neg (by decide), lexK_w hL, zb_id, cP_splitWord, cL_word (b :: r) pre N 0 h0 h1 h2 (by omega), cP_splitWord_32, if_pos z4, yi_dif (by omega)]
      dsimp only
      by_cases h8 : nW (b :: r) ≤ 8
      · rw [if_pos (by omega), if_pos h8, cP_kindOfWord]
        rw [show cP_kindOfWord_2 N N _ 0 _ = _ from cL_kind zw81 [] N rfl (by show 36 < N; omega), zbs, if_pos (show zok (zA (zsB S 4 (zs (zB S 4) (Int32.ofNat k) (wV 0 ((b :: r).take (nW (b :: r)))))) 2) (Int32.ofNat k) from z2)]
        rfl
      · rw [if_neg (by omega), if_neg h8, if_pos z2]
        rfl
    · by_cases hG : isG b = true
      · have w := nG_le (b :: r)
        rw [if_neg hL, if_pos rfl, cP_isDigit_eq, zbs, if_pos hG, if_neg (by decide), lexK_g hL hG, zb_id, cP_splitNumber, cL_num (b :: r) pre N 0 h0 h1 h2 (by omega), cP_splitNumber_28, if_pos z4, yi_dif (by omega)]
        dsimp only
        by_cases h8 : nG (b :: r) ≤ 6
        · rw [if_pos (by omega), if_pos h8, if_pos z2]
          rfl
        · rw [if_neg (by omega), if_neg h8, if_pos z2]
          rfl
      · obtain ⟨x, q1, q2⟩ := cP_idx_eq (S := S) hN (hb b (by simp))
        rw [if_neg hL, if_pos rfl, cP_isDigit_eq, zbs, if_neg hG, if_pos rfl, q1, zbs, lexK_s hL hG, yi_add1]
        dsimp only
        by_cases hx : b ∈ zwsg
        · rw [if_neg (fun h => q2.mp h hx), if_pos z2, if_pos hx]
          rfl
        · rw [if_pos (q2.mpr hx), if_pos z2, if_neg hx]
          rfl
