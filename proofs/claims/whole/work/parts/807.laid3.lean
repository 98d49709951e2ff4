/-! THE DISK: a row of the disk, the class -/
section LAID3
variable {np : Int32} {As : List (Option zO)} {N : Nat} {Q : zS} {En : List (Int64 × Int32)} {o : zO} {y : yO} {hd : List Int32}
theorem row_fin {S : zS} {m : List Int32} (hN : 3200 < N) (hl : (hd ++ m).length + 2 ≤ 3200) (hK : KC Q S (hd ++ m)) : ∃ S', (zb (cKd_sum np As N (Int32.ofNat hd.length) (zI S 1) S) fun x10 S11 => (zb (cKd_layNumber np As N x10.toInt64 2 S11) fun _ S14 => some ((), S14))) = some ((), S') ∧ KC Q S' (hd ++ m ++ bts (smB 0 m).toInt64 2) := by
  have hl' := hl
  rw [List.length_append] at hl'
  have e0 : cKd_sum np As N (Int32.ofNat hd.length) (zI S 1) S = some (smB 0 m, S) := c_sum_4 m hd N 0 S (by omega) (by omega) hK
  obtain ⟨S1, e1, e2⟩ := c_lay (np := np) (As := As) (N := N) (v := (smB 0 m).toInt64) (w := 2) (by omega) (by omega) hl hK
  have e1' : cKd_layNumber np As N (smB 0 m).toInt64 2 S = some ((), S1) := e1
  refine ⟨S1, ?_, e2⟩
  rw [e0, zbs, e1', zbs]
theorem row_I (hN : 3200 < N) (hc : hC o y) (hk : yOk En y) (hE : En.length ≤ 100) (h4 : y.1 ≠ 4) : ∀ (r pre : List Int64) (n : Nat) (S : zS) (m : List Int32), y.2.1 = pre ++ r → r.length < n → (hd ++ m).length + 8 * r.length + 2 ≤ 3200 → KC Q S (hd ++ m) → ∃ S', cKd_layRow_22 np As N n o (Int32.ofNat hd.length) (Int32.ofNat pre.length) S = some ((), S') ∧ KC Q S' (hd ++ (m ++ r.flatMap (itB y.1)) ++ bts (smB 0 (m ++ r.flatMap (itB y.1))).toInt64 2)
  | _, _, 0, _, _, _, hn, _, _ => by omega
  | [], pre, n + 1, S, m, hp, _, hl, hK => by
    have l12 := (hk.2.2.1 h4).2
    rw [List.append_nil] at hp
    rw [cKd_layRow_22, if_pos (by rw [hc.2.1, osz_n4 h4, hp]; omega)]
    rw [List.flatMap_nil, List.append_nil]
    exact row_fin hN (by rw [List.length_nil] at hl; omega) hK
  | v :: r, pre, n + 1, S, m, hp, hn, hl, hK => by
    have l12 := (hk.2.2.1 h4).2
    have hlen : y.2.1.length = pre.length + (r.length + 1) := by rw [hp, List.length_append, List.length_cons]
    rw [List.length_cons] at hn hl
    have hv : y.2.1[pre.length]? = some v := by rw [hp, List.getElem?_append_right (Nat.le_refl _), Nat.sub_self]; rfl
    obtain ⟨S1, e1, e2⟩ := c_item (np := np) (As := As) (N := N) hc hk hE hv (by omega) (by omega) (by omega) hK
    have ho : o.1 ≠ (4 : Int32) := by
      rw [hc.1]
      intro hh
      have h7 := hk.1
      rw [xi32_eq, yi_nat (by omega), show (4 : Int32).toInt = 4 from rfl] at hh
      omega
    rw [cKd_layRow_22, if_neg (by rw [hc.2.1, osz_n4 h4, yi_nat (by omega), yi_nat (by omega)]; omega), if_pos ho, e1, zbs, yi_add1]
    have e3 := itB_len y.1 v
    rw [List.append_assoc] at e2
    obtain ⟨S', f1, f2⟩ := row_I hN hc hk hE h4 r (pre ++ [v]) n S1 (m ++ itB y.1 v) (by rw [hp]; simp) (by omega) (by rw [List.length_append] at hl ⊢; rw [List.length_append]; omega) e2
    rw [List.length_append, List.length_singleton] at f1
    refine ⟨S', f1, ?_⟩
    rw [List.flatMap_cons, ← List.append_assoc m]
    exact f2
theorem rwB_len {r : Option (List Int32)} (h : ∀ l, r = some l → l.length ≤ 6) : (rwB r).length ≤ 25 := by
  rcases r with _ | l
  · show (bts 255 1).length ≤ 25
    rw [bts_len]; omega
  · have h6 := h l rfl
    show (bts (Int32.ofNat l.length).toInt64 1 ++ l.flatMap fun c => bts c.toInt64 4).length ≤ 25
    have : ∀ l : List Int32, (l.flatMap fun c => bts c.toInt64 4).length = 4 * l.length := by
      intro l
      induction l with
      | nil => rfl
      | cons a l ih => rw [List.flatMap_cons, List.length_append, ih, bts_len, List.length_cons]; omega
    rw [List.length_append, bts_len, this]
    omega
theorem row_R (hN : 3200 < N) (hc : hC o y) (hk : yOk En y) (h4 : y.1 = 4) : ∀ (r pre : List (Option (List Int32))) (n : Nat) (S : zS) (m : List Int32), y.2.2 = pre ++ r → r.length < n → (hd ++ m).length + 25 * r.length + 2 ≤ 3200 → KC Q S (hd ++ m) → ∃ S', cKd_layRow_22 np As N n o (Int32.ofNat hd.length) (Int32.ofNat pre.length) S = some ((), S') ∧ KC Q S' (hd ++ (m ++ r.flatMap rwB) ++ bts (smB 0 (m ++ r.flatMap rwB)).toInt64 2)
  | _, _, 0, _, _, _, hn, _, _ => by omega
  | [], pre, n + 1, S, m, hp, _, hl, hK => by
    have l6 := (hk.2.1 h4).2.1
    rw [List.append_nil] at hp
    rw [cKd_layRow_22, if_pos (by rw [hc.2.1, osz4 h4, hp]; omega)]
    rw [List.flatMap_nil, List.append_nil]
    exact row_fin hN (by rw [List.length_nil] at hl; omega) hK
  | q :: r, pre, n + 1, S, m, hp, hn, hl, hK => by
    have l6 := (hk.2.1 h4).2.1
    have hlen : y.2.2.length = pre.length + (r.length + 1) := by rw [hp, List.length_append, List.length_cons]
    rw [List.length_cons] at hn hl
    have hv : y.2.2[pre.length]? = some q := by rw [hp, List.getElem?_append_right (Nat.le_refl _), Nat.sub_self]; rfl
    have hq : ∀ l, q = some l → l.length ≤ 6 := fun l hl => (hk.2.1 h4).2.2 l (hl ▸ List.mem_of_getElem? hv)
    obtain ⟨S1, e1, e2⟩ := c_cells (np := np) (As := As) (N := N) (by omega) hq (by omega) hK
    have ho : ¬ o.1 ≠ (4 : Int32) := by rw [hc.1, h4]; exact nn rfl
    have hg : gI o.2.2.2 (Int32.ofNat pre.length) = some q := by rw [hc.2.2.2 h4, gI_nat (by omega)]; exact hv
    have e3 := rwB_len hq
    rw [List.append_assoc] at e2
    obtain ⟨S', f1, f2⟩ := row_R hN hc hk h4 r (pre ++ [q]) n S1 (m ++ rwB q) (by rw [hp]; simp) (by omega) (by rw [List.length_append] at hl ⊢; rw [List.length_append]; omega) e2
    rw [List.length_append, List.length_singleton] at f1
    rw [cKd_layRow_22, if_neg (by rw [hc.2.1, osz4 h4, yi_nat (by omega), yi_nat (by omega)]; omega), if_neg ho, hg, zgs]
    refine ⟨S', ?_, ?_⟩
    · rcases q with _ | l
      · show (zb (cKd_layCells np As N none S) fun _ S21 => (cKd_layRow_22 np As N n) o (Int32.ofNat hd.length) (Int32.ofNat pre.length + 1) S21) = _
        rw [e1, zbs, yi_add1]; exact f1
      · show (zb (cKd_layCells np As N (some l) S) fun _ S21 => (cKd_layRow_22 np As N n) o (Int32.ofNat hd.length) (Int32.ofNat pre.length + 1) S21) = _
        rw [e1, zbs, yi_add1]; exact f1
    · rw [List.flatMap_cons, ← List.append_assoc m]
      exact f2
/-- an answer laid -/
theorem c_row {p : Nat} {S : zS} (hN : 3200 < N) (hc : hC o y) (hk : yOk En y) (hE : En.length ≤ 100) (hl : hd.length + 160 ≤ 3200) (hK : KC Q S hd) : ∃ S', cKd_layRow np As N (Int32.ofNat p) o S = some ((), S') ∧ KC Q S' (hd ++ obB p y) := by
  have h7 := hk.1
  obtain ⟨S1, e1, e2⟩ := c_lay (np := np) (As := As) (N := N) (v := (Int32.ofNat p).toInt64) (w := 1) (by omega) (by omega) (by omega) hK
  obtain ⟨S2, f1, f2⟩ := c_lay (np := np) (As := As) (N := N) (v := (Int32.ofNat y.1).toInt64) (w := 1) (by omega) (by omega) (by rw [List.length_append, bts_len]; omega) e2
  obtain ⟨S3, g1, g2⟩ := c_lay (np := np) (As := As) (N := N) (v := (Int32.ofNat (osz y)).toInt64) (w := 1) (by omega) (by omega) (by rw [List.length_append, List.length_append, bts_len, bts_len]; omega) f2
  have e1' : cKd_layNumber np As N (Int32.ofNat p).toInt64 1 S = some ((), S1) := e1
  have f1' : cKd_layNumber np As N (Int32.ofNat y.1).toInt64 1 S1 = some ((), S2) := f1
  have g1' : cKd_layNumber np As N (Int32.ofNat (osz y)).toInt64 1 S2 = some ((), S3) := g1
  rw [List.append_assoc, List.append_assoc, ← List.append_assoc (bts (Int32.ofNat p).toInt64 1)] at g2
  rw [cKd_layRow, e1', zbs, hc.1, f1', zbs, hc.2.1, g1', zbs, hK.1]
  have hm : (hd ++ (bts (Int32.ofNat p).toInt64 1 ++ bts (Int32.ofNat y.1).toInt64 1 ++ bts (Int32.ofNat (osz y)).toInt64 1)).length = hd.length + 3 := by
    rw [List.length_append, List.length_append, List.length_append, bts_len, bts_len, bts_len]
  unfold obB obI
  by_cases h4 : y.1 = 4
  · have l6 := (hk.2.1 h4).2.1
    rw [if_pos h4, ← List.append_assoc hd]
    exact row_R hN hc hk h4 y.2.2 [] N S3 _ rfl (by omega) (by rw [hm]; omega) g2
  · have l12 := (hk.2.2.1 h4).2
    rw [if_neg h4, ← List.append_assoc hd]
    exact row_I hN hc hk hE h4 y.2.1 [] N S3 _ rfl (by omega) (by rw [hm]; omega) g2
end LAID3
