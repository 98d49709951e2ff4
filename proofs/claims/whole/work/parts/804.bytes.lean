/-! THE DISK: bytes -/
/-- the byte of a number at a place -/
def byt (v : Int64) (i : Nat) : Int32 := (v >>> ((8 * Int32.ofNat i).toInt64 &&& 63)).toInt32 &&& 255
/-- its last so many bytes, the greatest first -/
def bts (v : Int64) : Nat → List Int32
  | 0 => []
  | w + 1 => byt v w :: bts v w
theorem bts_len {v : Int64} : ∀ w, (bts v w).length = w
  | 0 => rfl
  | w + 1 => by rw [bts, List.length_cons, bts_len w]
theorem byt_ref {v : Int64} {i : Nat} : ((v >>> ((8 * Int32.ofNat i).toInt64 &&& 63)) &&& 255).toInt32 = byt v i := by
  unfold byt
  rw [Int64.toInt32_and]
  rfl
/-- what the class has laid -/
def KC (Q S : zS) (bs : List Int32) : Prop := zI S 1 = Int32.ofNat bs.length ∧ (zA S 5).length = 3200 ∧ (∀ (i : Nat) b, bs[i]? = some b → (zA S 5)[i]? = some b) ∧ (zI S 0 = zI Q 0 ∧ zI S 2 = zI Q 2 ∧ zI S 3 = zI Q 3 ∧ zA S 4 = zA Q 4)
section BYTES
variable {np : Int32} {As : List (Option zO)} {N : Nat} {Q : zS}
theorem lay_4 {v : Int64} : ∀ (w n : Nat) (S : zS) (bs : List Int32), w < n → w ≤ 8 → bs.length + w ≤ 3200 → KC Q S bs → ∃ S', cKd_layNumber_4 np As N n v (Int32.ofNat w - 1) S = some ((), S') ∧ KC Q S' (bs ++ bts v w)
  | _, 0, _, _, h, _, _, _ => by omega
  | 0, n + 1, S, bs, _, _, _, hK => by
    rw [cKd_layNumber_4, if_pos (by decide)]
    exact ⟨S, rfl, by rw [bts, List.append_nil]; exact hK⟩
  | w + 1, n + 1, S, bs, hn, hw, hl, hK => by
    obtain ⟨k1, k2, k3, k4⟩ := hK
    rw [cKd_layNumber_4, yi_s1, if_neg (by rw [yi_nat (by omega)]; omega), if_neg (by rw [k1, k2, yi_nat (by omega), yi_nat (by omega)]; omega), k1, if_pos (zok_nat (by omega) (by omega)), zs_nat (by omega), yi_add1, yi_m1]
    obtain ⟨S', e1, e2⟩ := lay_4 (v := v) w n (zsI (zsA S 5 ((zA S 5).set bs.length (byt v w))) 1 (Int32.ofNat (bs.length + 1))) (bs ++ [byt v w]) (by omega) (by omega) (by rw [List.length_append, List.length_singleton]; omega) (by
      refine ⟨by rw [List.length_append]; rfl, ?_, ?_, k4⟩
      · show ((zA S 5).set bs.length (byt v w)).length = 3200
        rw [List.length_set]; exact k2
      · intro i b hb
        show ((zA S 5).set bs.length (byt v w))[i]? = some b
        by_cases hi : i < bs.length
        · rw [List.getElem?_append_left hi] at hb
          rw [List.getElem?_set_ne (by omega)]
          exact k3 i b hb
        · have hil := (List.getElem?_eq_some_iff.mp hb).1
          rw [List.length_append, List.length_singleton] at hil
          obtain rfl : i = bs.length := by omega
          rw [List.getElem?_append_right (Nat.le_refl _), Nat.sub_self] at hb
          cases hb
          rw [List.getElem?_set_self (by omega)])
    refine ⟨S', e1, ?_⟩
    rw [bts]
    rw [List.append_assoc] at e2
    exact e2
theorem c_lay {v : Int64} {w : Nat} {S : zS} {bs : List Int32} (hN : 8 < N) (hw : w ≤ 8) (hl : bs.length + w ≤ 3200) (hK : KC Q S bs) : ∃ S', cKd_layNumber np As N v (Int32.ofNat w) S = some ((), S') ∧ KC Q S' (bs ++ bts v w) := lay_4 w N S bs (by omega) hw hl hK
/-- the hash of bytes -/
def hsB (h : Int32) : List Int32 → Int32
  | [] => h
  | b :: r => hsB (h * 31 + b) r
theorem c_hash_4 : ∀ (r pre : List Int32) (n : Nat) (h : Int32) (S : zS), r.length < n → pre.length + r.length ≤ 3200 → KC Q S (pre ++ r) → cKd_hash_4 np As N n h (Int32.ofNat pre.length) S = some (hsB h r, S)
  | _, _, 0, _, _, hn, _, _ => by omega
  | [], pre, n + 1, h, S, _, hl, hK => by
    rw [cKd_hash_4, if_pos (by rw [hK.1, List.append_nil]; omega)]
    rfl
  | b :: r, pre, n + 1, h, S, hn, hl, hK => by
    rw [List.length_cons] at hn hl
    have hb : (zA S 5)[pre.length]? = some b := hK.2.2.1 _ b (by rw [List.getElem?_append_right (Nat.le_refl _), Nat.sub_self]; rfl)
    rw [cKd_hash_4, if_neg (by rw [hK.1, List.length_append, List.length_cons, yi_nat (by omega), yi_nat (by omega)]; omega), gI_nat (by omega), hb, zgs, yi_add1, hsB]
    have := c_hash_4 r (pre ++ [b]) n (h * 31 + b) S (by omega) (by rw [List.length_append, List.length_singleton]; omega) (by rw [List.append_assoc]; exact hK)
    rw [List.length_append, List.length_singleton] at this
    exact this
theorem c_hash {S : zS} {bs : List Int32} (hN : bs.length < N) (hl : bs.length ≤ 3200) (hK : KC Q S bs) : cKd_hash np As N S = some (hsB 17 bs, S) := c_hash_4 bs [] N 17 S hN (by rw [List.length_nil]; omega) hK
end BYTES
