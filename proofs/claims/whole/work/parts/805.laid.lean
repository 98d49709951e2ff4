/-! THE DISK: what is laid of an answer, the class -/
/-- the sum of bytes -/
def smB (c : Int32) : List Int32 → Int32
  | [] => c
  | b :: r => smB ((c * 31 + b) &&& 65535) r
/-- a row's bytes -/
def rwB (r : Option (List Int32)) : List Int32 := match r with
  | none => bts 255 1
  | some l => bts (Int32.ofNat l.length).toInt64 1 ++ l.flatMap fun c => bts c.toInt64 4
def wdB (s : Nat) : Nat := if s = 1 then 4 else if s = 2 then 8 else if s = 3 then 2 else 1
/-- an item's bytes -/
def itB (s : Nat) (v : Int64) : List Int32 := if s = 5 ∨ s = 6 then bts (if v = -1 then 0 else v + 1) 1 else bts v (wdB s)
def obI (y : yO) : List Int32 := if y.1 = 4 then y.2.2.flatMap rwB else y.2.1.flatMap (itB y.1)
/-- an answer's bytes, its sum behind them -/
def obB (p : Nat) (y : yO) : List Int32 := (bts (Int32.ofNat p).toInt64 1 ++ bts (Int32.ofNat y.1).toInt64 1 ++ bts (Int32.ofNat (osz y)).toInt64 1 ++ obI y) ++ bts (smB 0 (bts (Int32.ofNat p).toInt64 1 ++ bts (Int32.ofNat y.1).toInt64 1 ++ bts (Int32.ofNat (osz y)).toInt64 1 ++ obI y)).toInt64 2
section LAID
variable {np : Int32} {As : List (Option zO)} {N : Nat} {Q : zS}
theorem c_sum_4 : ∀ (r pre : List Int32) (n : Nat) (c : Int32) (S : zS), r.length < n → pre.length + r.length ≤ 3200 → KC Q S (pre ++ r) → cKd_sum_4 np As N n (zI S 1) c (Int32.ofNat pre.length) S = some (smB c r, S)
  | _, _, 0, _, _, hn, _, _ => by omega
  | [], pre, n + 1, c, S, _, hl, hK => by
    rw [cKd_sum_4, if_pos (by rw [hK.1, List.append_nil]; omega)]
    rfl
  | b :: r, pre, n + 1, c, S, hn, hl, hK => by
    rw [List.length_cons] at hn hl
    have hb : (zA S 5)[pre.length]? = some b := hK.2.2.1 _ b (by rw [List.getElem?_append_right (Nat.le_refl _), Nat.sub_self]; rfl)
    rw [cKd_sum_4, if_neg (by rw [hK.1, List.length_append, List.length_cons, yi_nat (by omega), yi_nat (by omega)]; omega), if_neg (by rw [hK.2.1, yi_nat (by omega), yi_nat (by omega)]; omega), gI_nat (by omega), hb, zgs, yi_add1, smB]
    have := c_sum_4 r (pre ++ [b]) n ((c * 31 + b) &&& 65535) S (by omega) (by rw [List.length_append, List.length_singleton]; omega) (by rw [List.append_assoc]; exact hK)
    rw [List.length_append, List.length_singleton] at this
    exact this
theorem c_cells_15 : ∀ (r pre : List Int32) (n : Nat) (S : zS) (bs : List Int32), r.length < n → pre.length + r.length ≤ 12 → bs.length + 4 * r.length ≤ 3200 → 8 < N → KC Q S bs → ∃ S', cKd_layCells_15 np As N n (pre ++ r) (Int32.ofNat pre.length) S = some ((), S') ∧ KC Q S' (bs ++ r.flatMap fun c => bts c.toInt64 4)
  | _, _, 0, _, _, hn, _, _, _, _ => by omega
  | [], pre, n + 1, S, bs, _, hp, _, _, hK => by
    rw [cKd_layCells_15, if_pos (by rw [List.append_nil]; omega)]
    exact ⟨S, rfl, by rw [List.flatMap_nil, List.append_nil]; exact hK⟩
  | c :: r, pre, n + 1, S, bs, hn, hp, hl, hN, hK => by
    rw [List.length_cons] at hn hp hl
    have hc : (pre ++ c :: r)[pre.length]? = some c := by rw [List.getElem?_append_right (Nat.le_refl _), Nat.sub_self]; rfl
    obtain ⟨S1, e1, e2⟩ := c_lay (np := np) (As := As) (N := N) (v := c.toInt64) (w := 4) hN (by omega) (by omega) hK
    have e1' : cKd_layNumber np As N c.toInt64 4 S = some ((), S1) := e1
    rw [cKd_layCells_15, if_neg (by rw [List.length_append, List.length_cons, yi_nat (by omega), yi_nat (by omega)]; omega), gI_nat (by omega), hc, zgs, e1', zbs, yi_add1]
    obtain ⟨S', f1, f2⟩ := c_cells_15 r (pre ++ [c]) n S1 (bs ++ bts c.toInt64 4) (by omega) (by rw [List.length_append, List.length_singleton]; omega) (by rw [List.length_append, bts_len]; omega) hN e2
    rw [List.append_assoc, List.length_append, List.length_singleton] at f1
    refine ⟨S', f1, ?_⟩
    rw [List.append_assoc] at f2
    exact f2
theorem c_cells {r : Option (List Int32)} {S : zS} {bs : List Int32} (hN : 20 < N) (h6 : ∀ l, r = some l → l.length ≤ 6) (hl : bs.length + 25 ≤ 3200) (hK : KC Q S bs) : ∃ S', cKd_layCells np As N r S = some ((), S') ∧ KC Q S' (bs ++ rwB r) := by
  rcases r with _ | l
  · obtain ⟨S1, e1, e2⟩ := c_lay (np := np) (As := As) (N := N) (v := 255) (w := 1) (by omega) (by omega) (by omega) hK
    have e1' : cKd_layNumber np As N 255 1 S = some ((), S1) := e1
    refine ⟨S1, ?_, e2⟩
    show (zb (cKd_layNumber np As N 255 1 S) fun _ S2 => some ((), S2)) = _
    rw [e1', zbs]
  · have h6 := h6 l rfl
    obtain ⟨S1, e1, e2⟩ := c_lay (np := np) (As := As) (N := N) (v := (Int32.ofNat l.length).toInt64) (w := 1) (by omega) (by omega) (by omega) hK
    have e1' : cKd_layNumber np As N ((Int32.ofNat l.length).toInt64) 1 S = some ((), S1) := e1
    obtain ⟨S', f1, f2⟩ := c_cells_15 (np := np) (As := As) (N := N) l [] N S1 _ (by omega) (by rw [List.length_nil]; omega) (by rw [List.length_append, bts_len]; omega) (by omega) e2
    refine ⟨S', ?_, ?_⟩
    · show (zb (cKd_layNumber np As N ((Int32.ofNat l.length).toInt64) 1 S) fun _ S5 => cKd_layCells_15 np As N N l 0 S5) = _
      rw [e1', zbs]
      exact f1
    · rw [List.append_assoc] at f2
      exact f2
theorem c_bytesOf {s : Nat} {S : zS} (hs : s ≤ 7) : cKd_bytesOf np As N (Int32.ofNat s) S = some (Int32.ofNat (wdB s), S) := by
  have : s = 0 ∨ s = 1 ∨ s = 2 ∨ s = 3 ∨ s = 4 ∨ s = 5 ∨ s = 6 ∨ s = 7 := by omega
  rcases this with rfl | rfl | rfl | rfl | rfl | rfl | rfl | rfl <;> rfl
end LAID
