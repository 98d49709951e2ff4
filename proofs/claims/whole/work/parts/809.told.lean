/-! THE DISK: bytes told, the reference -/
def KM (Q S : zS) (bs : List Int32) (c h : Int32) : Prop := zI S 1 = Int32.ofNat bs.length ∧ (zA S 5).length = 1200 ∧ (∀ (i : Nat) b, i < 1200 → bs[i]? = some b → (zA S 5)[i]? = some b) ∧ zI S 2 = c ∧ zI S 3 = h ∧ (zI S 0 = zI Q 0 ∧ zA S 4 = zA Q 4)
section TOLD
variable {N : Nat} {Q : zS}
theorem r_tell {v : Int32} {S : zS} {bs : List Int32} {c h : Int32} (hl : bs.length < 100000) (hK : KM Q S bs c h) : ∃ S', rK_tell N v S = some ((), S') ∧ KM Q S' (bs ++ [v]) ((c * 31 + v) &&& 65535) (h * 31 + v) := by
  obtain ⟨k1, k2, k3, k4, k5, k6⟩ := hK
  have ti := yi_nat (i := bs.length) (by omega)
  rw [rK_tell]
  by_cases hb : 1200 ≤ bs.length
  · rw [if_pos (by rw [k1, ti]; omega), rK_tell_10]
    refine ⟨_, rfl, ?_, k2, ?_, ?_, ?_, k6⟩
    · show zI S 1 + 1 = _
      rw [k1, yi_add1, List.length_append]; rfl
    · intro i b hi hb'
      rw [List.getElem?_append_left (by omega)] at hb'
      exact k3 i b hi hb'
    · show (31 * zI S 2 + v) &&& 65535 = _
      rw [k4, Int32.mul_comm]
    · show zI S 3 * 31 + v = _
      rw [k5]
  · rw [if_neg (by rw [k1, ti]; omega), k1, if_pos (zok_nat (by omega) (by omega)), zs_nat (by omega), rK_tell_10]
    refine ⟨_, rfl, ?_, ?_, ?_, ?_, ?_, k6⟩
    · show zI S 1 + 1 = _
      rw [k1, yi_add1, List.length_append]; rfl
    · show ((zA S 5).set bs.length v).length = 1200
      rw [List.length_set]; exact k2
    · intro i b hi hb'
      show ((zA S 5).set bs.length v)[i]? = some b
      by_cases hil : i < bs.length
      · rw [List.getElem?_append_left hil] at hb'
        rw [List.getElem?_set_ne (by omega)]
        exact k3 i b hi hb'
      · have hil2 := (List.getElem?_eq_some_iff.mp hb').1
        rw [List.length_append, List.length_singleton] at hil2
        obtain rfl : i = bs.length := by omega
        rw [List.getElem?_append_right (Nat.le_refl _), Nat.sub_self] at hb'
        cases hb'
        rw [List.getElem?_set_self (by omega)]
    · show (31 * zI S 2 + v) &&& 65535 = _
      rw [k4, Int32.mul_comm]
    · show zI S 3 * 31 + v = _
      rw [k5]
theorem r_tell_4 {v : Int64} : ∀ (w n : Nat) (S : zS) (bs : List Int32) (c h : Int32), w < n → w ≤ 8 → bs.length + w < 100000 → KM Q S bs c h → ∃ S', rK_tellL_4 N n v (Int32.ofNat w - 1) S = some ((), S') ∧ KM Q S' (bs ++ bts v w) (smB c (bts v w)) (hsB h (bts v w))
  | _, 0, _, _, _, _, h, _, _, _ => by omega
  | 0, n + 1, S, bs, c, h, _, _, _, hK => by
    rw [rK_tellL_4, if_pos (by decide)]
    exact ⟨S, rfl, by rw [bts, List.append_nil]; exact hK⟩
  | w + 1, n + 1, S, bs, c, h, hn, hw, hl, hK => by
    obtain ⟨S1, e1, e2⟩ := r_tell (N := N) (v := byt v w) (by omega) hK
    rw [rK_tellL_4, yi_s1, if_neg (by rw [yi_nat (by omega)]; omega), byt_ref, e1, zbs, yi_m1]
    obtain ⟨S', f1, f2⟩ := r_tell_4 (v := v) w n S1 (bs ++ [byt v w]) _ _ (by omega) (by omega) (by rw [List.length_append, List.length_singleton]; omega) e2
    refine ⟨S', f1, ?_⟩
    rw [List.append_assoc] at f2
    exact f2
theorem r_tellL {v : Int64} {w : Nat} {S : zS} {bs : List Int32} {c h : Int32} (hN : 8 < N) (hw : w ≤ 8) (hl : bs.length + w < 100000) (hK : KM Q S bs c h) : ∃ S', rK_tellL N v (Int32.ofNat w) S = some ((), S') ∧ KM Q S' (bs ++ bts v w) (smB c (bts v w)) (hsB h (bts v w)) := r_tell_4 w N S bs c h (by omega) hw hl hK
theorem smB_app {c : Int32} : ∀ (a b : List Int32), smB c (a ++ b) = smB (smB c a) b := by
  intro a
  induction a generalizing c with
  | nil => intro b; rfl
  | cons x a ih => intro b; exact ih b
theorem hsB_app {c : Int32} : ∀ (a b : List Int32), hsB c (a ++ b) = hsB (hsB c a) b := by
  intro a
  induction a generalizing c with
  | nil => intro b; rfl
  | cons x a ih => intro b; exact ih b
end TOLD
