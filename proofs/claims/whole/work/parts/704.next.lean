/-! TOKENS, the reference -/
theorem sb_eq {b c : Int32} (h : 0 ≤ b.toInt ∧ b.toInt ≤ 255) (hc : 0 ≤ c.toInt ∧ c.toInt < 128) : sb b = c ↔ b = c := by
  have := sb_int h
  rw [xi32_eq, xi32_eq]
  split at this <;> omega
theorem sb_L {b : Int32} (h : 0 ≤ b.toInt ∧ b.toInt ≤ 255) : isL (sb b) = isL b := by
  have := sb_int h
  rw [Bool.eq_iff_iff]
  simp only [isL, Bool.and_eq_true, decide_eq_true_eq]
  split at this <;> omega
theorem sb_G {b : Int32} (h : 0 ≤ b.toInt ∧ b.toInt ≤ 255) : isG (sb b) = isG b := by
  have := sb_int h
  rw [Bool.eq_iff_iff]
  simp only [isG, Bool.and_eq_true, decide_eq_true_eq]
  split at this <;> omega
theorem rQ_isLetter_eq {N : Nat} {b : Int32} {S : zS} : rQ_isLetter N b S = some (if isL b = true then 1 else 0, S) := by
  unfold rQ_isLetter isL
  simp only [Bool.and_eq_true, decide_eq_true_eq]
  split
  · rw [if_neg (by omega)]
  · split
    · rw [if_neg (by omega)]
    · rw [if_pos (by omega)]
theorem rQ_isDigit_eq {N : Nat} {b : Int32} {S : zS} : rQ_isDigit N b S = some (if isG b = true then 1 else 0, S) := by
  unfold rQ_isDigit isG
  simp only [Bool.and_eq_true, decide_eq_true_eq]
  split
  · rw [if_neg (by omega)]
  · split
    · rw [if_neg (by omega)]
    · rw [if_pos (by omega)]
theorem gI_sb {pre r jk : List Int32} {b : Int32} (h : pre.length < 2147483648) : gI ((pre ++ b :: r).map sb ++ jk) (Int32.ofNat pre.length) = some (sb b) := by
  have := gI_mid (pre := pre.map sb) (r := r.map sb) (jk := jk) (b := sb b) (by rw [List.length_map]; exact h)
  rw [List.length_map] at this
  rw [List.map_append, List.map_cons]
  exact this
theorem rL_blanks {N : Nat} {S : zS} {jk : List Int32} : ∀ (r pre : List Int32) (n : Nat), zI S 0 = Int32.ofNat (pre.length + r.length) → zA S 1 = (pre ++ r).map sb ++ jk → pre.length + r.length ≤ 1400 → r.length < n → (∀ b ∈ r, 0 ≤ b.toInt ∧ b.toInt ≤ 255) → rQ_next_3 N n (Int32.ofNat pre.length) S = rQ_next_21 N (Int32.ofNat (pre.length + nB r)) S
  | [], pre, 0, _, _, _, h, _ => by simp at h
  | [], pre, n + 1, h0, h1, h2, _, _ => by
    rw [rQ_next_3, h0, if_pos (by simp)]
    simp [nB]
  | b :: r, pre, 0, _, _, _, h, _ => by simp at h
  | b :: r, pre, n + 1, h0, h1, h2, h3, hb => by
    simp only [List.length_cons] at h0 h2 h3
    have e1 := yi_nat (i := pre.length) (by omega)
    have e2 := yi_nat (i := pre.length + (r.length + 1)) (by omega)
    have hb1 := hb b (by simp)
    have s1 := sb_eq (c := 32) hb1 (by decide)
    have s2 := sb_eq (c := 10) hb1 (by decide)
    have ih := rL_blanks (N := N) (S := S) (jk := jk) r (pre ++ [b]) n (by rw [h0, List.length_append, List.length_cons, List.length_nil]; congr 1; omega) (by rw [h1]; simp) (by simp; omega) (by omega) (fun c hc => hb c (by simp [hc]))
    rw [rQ_next_3, h0, if_neg (by rw [e1, e2]; omega), h1, gI_sb (by omega), zgs, zgs, yi_add1]
    simp only [List.length_append, List.length_cons, List.length_nil] at ih
    by_cases hB : isB b = true
    · have hn : nB (b :: r) = nB r + 1 := by rw [nB, if_pos hB]
      rw [hn, show pre.length + (nB r + 1) = pre.length + (0 + 1) + nB r by omega, ← ih]
      simp only [isB, Bool.or_eq_true, beq_iff_eq] at hB
      by_cases h32 : b = 32
      · rw [if_pos (s1.mpr h32)]
      · rw [if_neg (fun h => h32 (s1.mp h)), if_neg (by rcases hB with hB | hB; exact absurd hB h32; exact fun h => h (s2.mpr hB))]
    · have hn : nB (b :: r) = 0 := by rw [nB, if_neg hB]
      simp only [isB, Bool.or_eq_true, beq_iff_eq, not_or] at hB
      rw [if_neg (fun h => hB.1 (s1.mp h)), if_pos (fun h => hB.2 (s2.mp h)), hn]
      rfl
theorem rQ_at_in {N : Nat} {S : zS} {pre r jk : List Int32} {b : Int32} (h0 : zI S 0 = Int32.ofNat (pre.length + (r.length + 1))) (h1 : zA S 1 = (pre ++ b :: r).map sb ++ jk) (h2 : pre.length + (r.length + 1) ≤ 1400) : rQ_at N (Int32.ofNat pre.length) S = some (sb b, S) := by
  have e1 := yi_nat (i := pre.length) (by omega)
  have e2 := yi_nat (i := pre.length + (r.length + 1)) (by omega)
  rw [rQ_at, h0, if_neg (by rw [e1, e2]; omega), h1, gI_sb (by omega), zgs]
theorem rQ_at_out {N : Nat} {S : zS} {n : Nat} (h0 : zI S 0 = Int32.ofNat n) : rQ_at N (Int32.ofNat n) S = some (0, S) := by
  rw [rQ_at, h0, if_pos (Int.le_refl _)]
theorem rL_word {N : Nat} {jk : List Int32} : ∀ (r pre : List Int32) (n : Nat) (S : zS), zI S 0 = Int32.ofNat (pre.length + r.length) → zA S 1 = (pre ++ r).map sb ++ jk → pre.length + r.length ≤ 1400 → r.length < n → (∀ b ∈ r, 0 ≤ b.toInt ∧ b.toInt ≤ 255) → zI S 4 = Int32.ofNat pre.length → ∃ S', rQ_next_49 N n S = some ((), S') ∧ S'.2 = S.2 ∧ (∀ i, i ≠ 2 → i ≠ 4 → zI S' i = zI S i) ∧ zI S' 4 = Int32.ofNat (pre.length + nW r) ∧ zI S' 2 = if (Int32.ofNat (pre.length + nW r) - zI S 3).toInt ≤ 8 then 1 else 4
  | [], pre, 0, _, _, _, _, h, _, _ => by simp at h
  | [], pre, n + 1, S, h0, h1, h2, _, _, h4 => by
    have ha : rQ_at N (Int32.ofNat pre.length) S = some (0, S) := rQ_at_out h0
    rw [rQ_next_49, h4, ha, zbs, rQ_isLetter_eq, zbs, show (if isL 0 = true then (1 : Int32) else 0) = 0 by decide, if_neg (by decide), h4, ha, zbs, rQ_isDigit_eq, zbs, show (if isG 0 = true then (1 : Int32) else 0) = 0 by decide, if_pos rfl, h4]
    show ∃ S', (if (Int32.ofNat pre.length - zI S 3).toInt ≤ 8 then some ((), zsI S 2 1) else some ((), zsI S 2 4)) = some ((), S') ∧ _
    split
    · exact ⟨_, rfl, rfl, fun i h2 _ => by rw [zi_I, if_neg h2], by rw [zi_I, if_neg (by decide), h4]; rfl, by rw [zi_I, if_pos rfl, if_pos (by assumption)]⟩
    · exact ⟨_, rfl, rfl, fun i h2 _ => by rw [zi_I, if_neg h2], by rw [zi_I, if_neg (by decide), h4]; rfl, by rw [zi_I, if_pos rfl, if_neg (by assumption)]⟩
  | b :: r, pre, 0, _, _, _, _, h, _, _ => by simp at h
  | b :: r, pre, n + 1, S, h0, h1, h2, h3, hb, h4 => by
    simp only [List.length_cons] at h0 h2 h3
    have hb1 := hb b (by simp)
    have ha : rQ_at N (Int32.ofNat pre.length) S = some (sb b, S) := rQ_at_in h0 h1 h2
    rw [rQ_next_49, h4, ha, zbs, rQ_isLetter_eq, zbs, sb_L hb1, h4, ha, zbs, rQ_isDigit_eq, zbs, sb_G hb1, h4, yi_add1]
    by_cases hw : isL b = true ∨ isG b = true
    · have hn : nW (b :: r) = nW r + 1 := by rw [nW, if_pos hw]
      obtain ⟨S', q1, q2, q3, q4, q5⟩ := rL_word (N := N) (jk := jk) r (pre ++ [b]) n (zsI S 4 (Int32.ofNat (pre.length + 1))) (by rw [zi_I, if_neg (by decide), h0, List.length_append, List.length_cons, List.length_nil]; congr 1; omega) (by rw [za_I, h1]; simp) (by simp; omega) (by omega) (fun c hc => hb c (by simp [hc])) (by rw [zi_I, if_pos rfl]; simp)
      rw [hn]
      simp only [List.length_append, List.length_cons, List.length_nil] at q4 q5
      rw [show pre.length + (0 + 1) + nW r = pre.length + (nW r + 1) by omega] at q4 q5
      refine ⟨S', ?_, q2, fun i h2 h4 => by rw [q3 i h2 h4, zi_I, if_neg h4], q4, ?_⟩
      · by_cases hL : isL b = true
        · rw [if_pos hL, if_pos (by decide)]; exact q1
        · have hG : isG b = true := by rcases hw with hw | hw; exact absurd hw hL; exact hw
          rw [if_neg hL, if_neg (by decide), if_pos hG, if_neg (by decide)]; exact q1
      · exact q5
    · have hn : nW (b :: r) = 0 := by rw [nW, if_neg hw]
      rw [not_or] at hw
      rw [if_neg hw.1, if_neg (by decide), if_neg hw.2, if_pos rfl, hn]
      show ∃ S', (if (Int32.ofNat pre.length - zI S 3).toInt ≤ 8 then some ((), zsI S 2 1) else some ((), zsI S 2 4)) = some ((), S') ∧ _
      split
      · exact ⟨_, rfl, rfl, fun i h2 _ => by rw [zi_I, if_neg h2], by rw [zi_I, if_neg (by decide), h4]; rfl, by rw [zi_I, if_pos rfl, if_pos (by assumption)]⟩
      · exact ⟨_, rfl, rfl, fun i h2 _ => by rw [zi_I, if_neg h2], by rw [zi_I, if_neg (by decide), h4]; rfl, by rw [zi_I, if_pos rfl, if_neg (by assumption)]⟩
/-- the value of digits from a place on -/
theorem rL_val {N : Nat} {jk : List Int32} : ∀ (d pre r : List Int32) (n : Nat) (S : zS), zA S 1 = (pre ++ (d ++ r)).map sb ++ jk → pre.length + d.length ≤ 1400 → d.length < n → (∀ b ∈ d, isG b = true) → zI S 4 = Int32.ofNat (pre.length + d.length) → zI S 2 = 2 → ∃ S', rQ_next_115 N n (Int32.ofNat pre.length) S = some ((), S') ∧ S'.2 = S.2 ∧ (∀ i, i ≠ 5 → zI S' i = zI S i) ∧ zI S' 5 = gW (zI S 5) d
  | [], pre, r, 0, _, _, _, h, _, _, _ => by simp at h
  | [], pre, r, n + 1, S, h1, h2, _, _, h4, h5 => by
    refine ⟨S, ?_, rfl, fun _ _ => rfl, rfl⟩
    rw [rQ_next_115, h4, if_pos (by simp)]
  | b :: d, pre, r, 0, _, _, _, h, _, _, _ => by simp at h
  | b :: d, pre, r, n + 1, S, h1, h2, h3, hb, h4, h5 => by
    simp only [List.length_cons] at h2 h3 h4
    have e1 := yi_nat (i := pre.length) (by omega)
    have e2 := yi_nat (i := pre.length + (d.length + 1)) (by omega)
    have hg : gI (zA S 1) (Int32.ofNat pre.length) = some b := by
      have hG := hb b (by simp)
      simp only [isG, Bool.and_eq_true, decide_eq_true_eq] at hG
      rw [h1, List.cons_append, gI_sb (by omega), (sb_eq (b := b) (c := b) (by omega) (by omega)).mpr rfl]
    obtain ⟨S', q1, q2, q3, q4⟩ := rL_val (N := N) (jk := jk) d (pre ++ [b]) r n (zsI S 5 (((10 * (zI S 5)) + b) - 48)) (by rw [za_I, h1]; simp) (by simp; omega) (by omega) (fun c hc => hb c (by simp [hc])) (by rw [zi_I, if_neg (by decide), h4, List.length_append, List.length_cons, List.length_nil]; congr 1; omega) (by rw [zi_I, if_neg (by decide), h5])
    simp only [List.length_append, List.length_cons, List.length_nil] at q1
    refine ⟨S', ?_, q2, fun i h5 => by rw [q3 i h5, zi_I, if_neg h5], by rw [q4, zi_I, if_pos rfl, gW]⟩
    rw [rQ_next_115, h4, if_neg (by rw [e1, e2]; omega), h5, if_neg (by decide), hg, zgs, yi_add1]
    exact q1
theorem rL_noval {N n : Nat} {S : zS} {l : Int32} (hn : 0 < n) (h : zI S 2 ≠ 2) : rQ_next_115 N n l S = some ((), S) := by
  obtain ⟨n, rfl⟩ : ∃ k, n = k + 1 := ⟨n - 1, by omega⟩
  rw [rQ_next_115]
  split
  · rfl
  · first | rfl | rw [if_pos h]
theorem rL_num {N : Nat} {jk t : List Int32} {f : Nat} (hN : 1400 < N) (ht : t.length ≤ 1400) (hd : f ≤ t.length) : ∀ (r pre : List Int32) (n : Nat) (S : zS), t = pre ++ r → f + nG (t.drop f) = pre.length + nG r → f ≤ pre.length → zI S 0 = Int32.ofNat t.length → zA S 1 = t.map sb ++ jk → r.length < n → (∀ b ∈ r, 0 ≤ b.toInt ∧ b.toInt ≤ 255) → zI S 3 = Int32.ofNat f → zI S 4 = Int32.ofNat pre.length → ∃ S', rQ_next_84 N n S = some ((), S') ∧ S'.2 = S.2 ∧ (∀ i, i ≠ 2 → i ≠ 4 → i ≠ 5 → zI S' i = zI S i) ∧ zI S' 4 = Int32.ofNat (pre.length + nG r) ∧ (zI S' 2 = if nG (t.drop f) ≤ 6 then 2 else 4) ∧ (nG (t.drop f) ≤ 6 → zI S' 5 = gW 0 ((t.drop f).take (nG (t.drop f))))
  | r, pre, 0, _, _, _, _, _, _, h, _, _, _ => by simp at h
  | r, pre, n + 1, S, ht2, hf, hfp, h0, h1, h3, hb, h5, h4 => by
    have hlen : t.length = pre.length + r.length := by rw [ht2, List.length_append]
    have stop : nG r = 0 → ∃ S', (if ((zI S 4) - (zI S 3)).toInt ≤ 6 then rQ_next_115 N N (zI S 3) (zsI (zsI S 2 2) 5 0) else rQ_next_115 N N (zI S 3) (zsI (zsI S 2 4) 5 0)) = some ((), S') ∧ S'.2 = S.2 ∧ (∀ i, i ≠ 2 → i ≠ 4 → i ≠ 5 → zI S' i = zI S i) ∧ zI S' 4 = Int32.ofNat (pre.length + nG r) ∧ (zI S' 2 = if nG (t.drop f) ≤ 6 then 2 else 4) ∧ (nG (t.drop f) ≤ 6 → zI S' 5 = gW 0 ((t.drop f).take (nG (t.drop f)))) := by
      intro hz
      rw [hz, Nat.add_zero] at hf
      have hw := nG_le (t.drop f)
      rw [List.length_drop] at hw
      rw [h4, h5, ← hf, yi_dif (by omega), hz, Nat.add_zero]
      by_cases h6 : nG (t.drop f) ≤ 6
      · rw [if_pos (by omega), if_pos h6]
        have htk : ((t.drop f).take (nG (t.drop f))).length = nG (t.drop f) := by rw [List.length_take, List.length_drop]; omega
        obtain ⟨S', q1, q2, q3, q4⟩ := rL_val (N := N) (jk := jk) ((t.drop f).take (nG (t.drop f))) (t.take f) ((t.drop f).drop (nG (t.drop f))) N (zsI (zsI S 2 2) 5 0) (by rw [za_I, za_I, List.take_append_drop, List.take_append_drop, h1]) (by rw [htk, List.length_take]; omega) (by rw [htk]; omega) (nG_all _) (by rw [zi_I, if_neg (by decide), zi_I, if_neg (by decide), h4, htk, List.length_take, Nat.min_eq_left hd, hf]) (by rw [zi_I, if_neg (by decide), zi_I, if_pos rfl])
        rw [List.length_take, Nat.min_eq_left hd] at q1
        refine ⟨S', q1, q2, fun i h2 h4 h5 => by rw [q3 i h5, zi_I, if_neg h5, zi_I, if_neg h2], by rw [q3 4 (by decide), zi_I, if_neg (by decide), zi_I, if_neg (by decide), h4, hf], by rw [q3 2 (by decide), zi_I, if_neg (by decide), zi_I, if_pos rfl], fun _ => by rw [q4, zi_I, if_pos rfl]⟩
      · rw [if_neg (by omega), if_neg h6, rL_noval (by omega) (by rw [zi_I, if_neg (by decide), zi_I, if_pos rfl]; decide)]
        exact ⟨_, rfl, rfl, fun i h2 h4 h5 => by rw [zi_I, if_neg h5, zi_I, if_neg h2], by rw [zi_I, if_neg (by decide), zi_I, if_neg (by decide), h4, hf], by rw [zi_I, if_neg (by decide), zi_I, if_pos rfl], fun h => absurd h h6⟩
    cases r with
    | nil =>
      have ha : rQ_at N (zI S 4) S = some (0, S) := by
        rw [h4]
        exact rQ_at_out (by rw [h0, hlen]; rfl)
      rw [rQ_next_84, ha, zbs, rQ_isDigit_eq, zbs, show (if isG 0 = true then (1 : Int32) else 0) = 0 by decide, if_pos rfl]
      exact stop rfl
    | cons b r =>
      have hb1 := hb b (by simp)
      simp only [List.length_cons] at hlen h3
      have ha : rQ_at N (zI S 4) S = some (sb b, S) := by
        rw [h4]
        exact rQ_at_in (r := r) (jk := jk) (by rw [h0, hlen]) (by rw [h1, ht2]) (by omega)
      rw [rQ_next_84, ha, zbs, rQ_isDigit_eq, zbs, sb_G hb1]
      by_cases hG : isG b = true
      · have hn : nG (b :: r) = nG r + 1 := by rw [nG, if_pos hG]
        rw [if_pos hG, if_neg (by decide), h4, yi_add1, hn]
        obtain ⟨S', q1, q2, q3, q4, q5, q6⟩ := rL_num hN ht hd r (pre ++ [b]) n (zsI S 4 (Int32.ofNat (pre.length + 1))) (by rw [ht2]; simp) (by rw [hf, hn]; simp; omega) (by simp; omega) (by rw [zi_I, if_neg (by decide), h0]) (by rw [za_I, h1]) (by omega) (fun c hc => hb c (by simp [hc])) (by rw [zi_I, if_neg (by decide), h5]) (by rw [zi_I, if_pos rfl]; simp)
        refine ⟨S', q1, q2, fun i h2 h4 h5 => by rw [q3 i h2 h4 h5, zi_I, if_neg h4], ?_, q5, q6⟩
        rw [q4, List.length_append, List.length_cons, List.length_nil]
        congr 1
        omega
      · have hn : nG (b :: r) = 0 := by rw [nG, if_neg hG]
        rw [if_neg hG, if_pos rfl]
        exact stop hn
