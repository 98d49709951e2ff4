/-! WHAT THE REFERENCE ASKS OF A TOKEN -/
theorem zwsg_k : ∀ x ∈ zwsg, x ≠ 0 ∧ x ≠ 1 ∧ x ≠ 2 ∧ x ≠ 3 ∧ x.toInt < 128 := by decide
theorem kW_range {w : List Int32} (hw : ∀ b ∈ w, isLG b) (lw : w.length ≤ 8) : kW (wV 0 w) = 3 ∨ ∃ i, i < 36 ∧ kW (wV 0 w) = Int32.ofNat (200 + i) := by
  rcases kW_spec hw lw with ⟨i, h1, _, h2⟩ | ⟨_, h⟩
  · exact Or.inr ⟨i, h1, h2⟩
  · exact Or.inl h
/-- the kind of the token at a place -/
def kdAt (t : List Int32) (q : Nat) : Int32 := (lexK (t.drop q)).1
theorem gI_tape {t jk : List Int32} {S : zS} {q : Nat} {b : Int32} {r : List Int32} (h1 : zA S 1 = t.map sb ++ jk) (hd : t.drop q = b :: r) (hq : q < 2147483648) : gI (zA S 1) (Int32.ofNat q) = some (sb b) := by
  have htq : t = t.take q ++ b :: r := by rw [← hd, List.take_append_drop]
  have hql : q ≤ t.length := by
    have := congrArg List.length hd
    rw [List.length_drop, List.length_cons] at this
    omega
  have hql2 : (t.take q).length = q := by rw [List.length_take]; omega
  have := gI_sb (pre := t.take q) (r := r) (jk := jk) (b := b) (by omega)
  rw [hql2, ← htq] at this
  rw [h1]; exact this
theorem rQ_isSign_ok {N : Nat} {t : List Int32} {S : zS} {q : Nat} {c : Int32} (hT : refTape t S) (hK : refTok t S q) (hc : c ∈ zwsg) : rQ_isSign N c S = some (if kdAt t q = c then 1 else 0, S) := by
  obtain ⟨h0, hl, hb, jk, h1⟩ := hT
  obtain ⟨hq, k3, k4, k2⟩ := hK
  obtain ⟨c0, c1, c2, c3, c4⟩ := zwsg_k c hc
  unfold rQ_isSign kdAt
  cases hd : t.drop q with
  | nil =>
    rw [hd] at k2
    rw [if_pos (by rw [show zI S 2 = 0 from k2]; decide), if_neg (by exact Ne.symm c0)]
  | cons b r =>
    rw [hd] at k2
    dsimp only at k2
    by_cases hL : isL b = true
    · rw [if_pos hL] at k2
      rw [if_pos (by rw [k2]; split <;> decide), lexK_w hL, if_neg]
      dsimp only
      split
      · rcases kW_range (nW_lg (b :: r)) (by rw [List.length_take]; omega) with h | ⟨i, hi, h⟩
        · rw [h]; exact Ne.symm c3
        · rw [h, xi32_eq, yi_nat (by omega)]; omega
      · exact Ne.symm c1
    · rw [if_neg hL] at k2
      by_cases hG : isG b = true
      · rw [if_pos hG] at k2
        rw [if_pos (by rw [k2.1]; split <;> decide), lexK_g hL hG, if_neg]
        dsimp only
        split
        · exact Ne.symm c2
        · exact Ne.symm c1
      · rw [if_neg hG] at k2
        rw [lexK_s hL hG]
        dsimp only
        have hb1 := hb b (List.mem_of_mem_drop (hd ▸ List.mem_cons_self))
        by_cases hs : b ∈ zwsg
        · rw [if_pos hs] at k2 ⊢
          have hz := zwsg_in c hc
          rw [k2, if_neg (by decide), k3, gI_tape h1 hd (by omega), zgs]
          by_cases hbc : b = c
          · rw [if_pos hbc, if_neg (fun h => h ((sb_eq hb1 ⟨by omega, hz.2.1⟩).mpr hbc))]
          · rw [if_neg hbc, if_pos (fun h => hbc ((sb_eq hb1 ⟨by omega, hz.2.1⟩).mp h))]
        · rw [if_neg hs] at k2 ⊢
          rw [if_pos (by rw [k2]; decide), if_neg (Ne.symm c1)]
theorem zand {x : Int32} (h : 0 ≤ x.toInt ∧ x.toInt ≤ 255) : x &&& 255 = x := by
  obtain ⟨m, hm, rfl, hm2⟩ := yi_of h.1
  have h3 : m < 256 := by omega
  apply Int32.toBitVec_inj.mp
  rw [Int32.toBitVec_and, Int32.toBitVec_ofNat', Int32.toBitVec_ofNat]
  apply BitVec.eq_of_toNat_eq
  have a1 : m % 2 ^ 32 = m := Nat.mod_eq_of_lt (by omega)
  have a2 : m &&& 255 = m % 256 := Nat.and_two_pow_sub_one_eq_mod m 8
  rw [BitVec.toNat_and, BitVec.toNat_ofNat, a1, show (255 : BitVec 32).toNat = 255 from rfl, a2]
  omega
theorem rS_length_eq {bs : List Int32} {N : Nat} {S : zS} : rS_length bs N S = some (Int32.ofNat bs.length, S) := by
  unfold rS_length
  congr 2
  rw [show ((0 : Int32) &&& 31) = 0 by decide]
  exact Int32.shiftRight_zero
theorem rS_char_eq {bs : List Int32} {N k : Nat} {S : zS} {x : Int32} (hk : bs[k]? = some x) (hl : bs.length ≤ 8) (hx : 97 ≤ x.toInt ∧ x.toInt ≤ 122) : rS_charAt_4_sk bs N (Int32.ofNat k) S = some (x, S) := by
  have hkl := (List.getElem?_eq_some_iff.mp hk).1
  have z := zu16 (b := x) (by omega)
  rw [rS_charAt_4_sk, rS_charAt, if_pos (by rw [yi_nat (by omega), yi_nat (by omega)]; omega), gI_nat (by omega), hk, zgs, zbs, zand (by omega), z, if_pos z]
theorem rS_loop {bs w : List Int32} {N : Nat} {S : zS} (hl : bs.length ≤ 8) (hw : w.length = bs.length) (hb : ∀ x ∈ bs, 97 ≤ x.toInt ∧ x.toInt ≤ 122) (hg : ∀ k x, w[k]? = some x → gI (zA S 1) (zI S 3 + Int32.ofNat k) = some x) : ∀ (m n k : Nat), k + m = bs.length → m < n → rS_isWord_16 bs N n (Int32.ofNat k) S = some (if w.drop k = bs.drop k then 1 else 0, S)
  | m, 0, _, _, h => by omega
  | 0, n + 1, k, hk, _ => by
    rw [rS_isWord_16, rS_length_eq, zbs, if_pos (by rw [yi_nat (by omega), yi_nat (by omega)]; omega), if_pos]
    rw [List.drop_eq_nil_of_le (by omega), List.drop_eq_nil_of_le (by omega)]
  | m + 1, n + 1, k, hk, hn => by
    obtain ⟨x, hx⟩ : ∃ x, bs[k]? = some x := ⟨_, List.getElem?_eq_getElem (by omega)⟩
    obtain ⟨y, hy⟩ : ∃ y, w[k]? = some y := ⟨_, List.getElem?_eq_getElem (by omega)⟩
    have hx2 := hb x (List.mem_of_getElem? hx)
    have dx : bs.drop k = x :: bs.drop (k + 1) := by
      obtain ⟨h1, h2⟩ := List.getElem?_eq_some_iff.mp hx
      rw [← h2]; exact (List.getElem_cons_drop h1).symm
    have dy : w.drop k = y :: w.drop (k + 1) := by
      obtain ⟨h1, h2⟩ := List.getElem?_eq_some_iff.mp hy
      rw [← h2]; exact (List.getElem_cons_drop h1).symm
    rw [rS_isWord_16, rS_length_eq, zbs, if_neg (by rw [yi_nat (by omega), yi_nat (by omega)]; omega), hg k y hy, zgs, rS_char_eq hx hl hx2, zbs, yi_add1, dx, dy]
    by_cases hxy : y = x
    · rw [if_pos hxy, rS_loop hl hw hb hg m n (k + 1) (by omega) (by omega)]
      simp [hxy]
    · rw [if_neg hxy, if_neg (by simp [hxy])]
theorem zwords_nd : zwords.Nodup := by decide +kernel
/-- the word at a token that is one -/
theorem tok_word {t jk : List Int32} {S : zS} {q : Nat} (hb : ∀ b ∈ t, 0 ≤ b.toInt ∧ b.toInt ≤ 255) (hl : t.length ≤ 1400) (h1 : zA S 1 = t.map sb ++ jk) (k3 : zI S 3 = Int32.ofNat q) : ∀ k x, ((t.drop q).take (nW (t.drop q)))[k]? = some x → gI (zA S 1) (zI S 3 + Int32.ofNat k) = some x := by
  intro k x hx
  have hlg := nW_lg (t.drop q) x (List.mem_of_getElem? hx)
  unfold isLG at hlg
  rw [List.getElem?_take] at hx
  split at hx
  · rw [List.getElem?_drop] at hx
    have hkl := (List.getElem?_eq_some_iff.mp hx).1
    rw [k3, yi_add, gI_nat (by omega), h1, List.getElem?_append_left (by rw [List.length_map]; exact hkl), List.getElem?_map, hx]
    show some (sb x) = some x
    rw [(sb_eq (b := x) (c := x) (by omega) (by omega)).mpr rfl]
  · cases hx
theorem rS_isWord_ok {N : Nat} {t : List Int32} {S : zS} {q i : Nat} {bs : List Int32} (hN : 1400 < N) (hT : refTape t S) (hK : refTok t S q) (hi : zwords[i]? = some bs) : rS_isWord bs N S = some (if kdAt t q = Int32.ofNat (200 + i) then 1 else 0, S) := by
  obtain ⟨h0, hl, hb, jk, h1⟩ := hT
  obtain ⟨hq, k3, k4, k2⟩ := hK
  have hi36 : i < 36 := (List.getElem?_eq_some_iff.mp hi).1
  obtain ⟨z1, z2, z3⟩ := zwords_lg bs (List.mem_of_getElem? hi)
  have eI := yi_nat (i := 200 + i) (by omega)
  unfold rS_isWord kdAt
  cases hd : t.drop q with
  | nil =>
    rw [hd] at k2
    rw [if_pos (by rw [show zI S 2 = 0 from k2]; decide), if_neg]
    intro h
    have := congrArg Int32.toInt h
    rw [eI] at this
    have h2 : ((lexK []).1).toInt = 0 := by decide
    omega
  | cons b r =>
    rw [hd] at k2
    dsimp only at k2
    by_cases hL : isL b = true
    · rw [if_pos hL] at k2
      rw [lexK_w hL]
      dsimp only
      by_cases h8 : nW (b :: r) ≤ 8
      · rw [if_pos h8] at k2 ⊢
        have wl := nW_le (b :: r)
        have wl2 := congrArg List.length hd
        rw [List.length_drop] at wl2
        rw [hd, lexK_w hL] at k4
        dsimp only at k4
        rw [if_neg (by rw [k2]; decide), rS_length_eq, zbs, k3, k4]
        have hw : ((b :: r).take (nW (b :: r))).length = nW (b :: r) := by rw [List.length_take]; omega
        have hlg := nW_lg (b :: r)
        have hex : (if (b :: r).take (nW (b :: r)) = bs then (1 : Int32) else 0) = if kW (wV 0 ((b :: r).take (nW (b :: r)))) = Int32.ofNat (200 + i) then 1 else 0 := by
          rcases kW_spec hlg (by omega) with ⟨i', g1, g2, g3⟩ | ⟨g1, g2⟩
          · rw [g3]
            by_cases hii : i' = i
            · subst hii
              rw [if_pos (Option.some.inj (g2.symm.trans hi)), if_pos rfl]
            · rw [if_neg, if_neg]
              · rw [xi32_eq, eI, yi_nat (by omega)]; omega
              · intro he
                rw [he, ← hi] at g2
                exact hii ((List.getElem?_inj (by exact g1) zwords_nd).mp g2)
          · rw [if_neg (show ¬ ((b :: r).take (nW (b :: r)) = bs) from fun he => g1 (he ▸ List.mem_of_getElem? hi)), if_neg]
            rw [g2, xi32_eq, eI, show (3 : Int32).toInt = 3 by decide]; omega
        rw [← hex]
        by_cases hn : nW (b :: r) = bs.length
        · rw [if_pos]
          · have := rS_loop (bs := bs) (w := (b :: r).take (nW (b :: r))) (N := N) (S := S) z2 (by omega) z1 (by have := tok_word (q := q) hb hl h1 k3; rw [hd] at this; exact this) bs.length N 0 (by omega) (by omega)
            exact this
          · rw [xi32_eq, yi_dif (by omega), yi_nat (by omega)]; omega
        · rw [if_neg, if_neg (fun h => hn (by rw [← h, hw]))]
          rw [xi32_eq, yi_dif (by omega), yi_nat (by omega)]
          omega
      · rw [if_neg h8] at k2 ⊢
        rw [if_pos (by rw [k2]; decide), if_neg]
        rw [xi32_eq, eI, show (1 : Int32).toInt = 1 by decide]; omega
    · rw [if_neg hL] at k2
      by_cases hG : isG b = true
      · rw [if_pos hG] at k2
        rw [if_pos (by rw [k2.1]; split <;> decide), lexK_g hL hG, if_neg]
        dsimp only
        rw [xi32_eq, eI]
        split
        · rw [show (2 : Int32).toInt = 2 by decide]; omega
        · rw [show (1 : Int32).toInt = 1 by decide]; omega
      · rw [if_neg hG] at k2
        rw [if_pos (by rw [k2]; split <;> decide), lexK_s hL hG, if_neg]
        dsimp only
        rw [xi32_eq, eI]
        split
        · have := zwsg_k b (by assumption); omega
        · rw [show (1 : Int32).toInt = 1 by decide]; omega
theorem rQ_isName_loop {N : Nat} {t : List Int32} {S : zS} {q : Nat} (hN : 1400 < N) (hT : refTape t S) (hK : refTok t S q) : ∀ (m n k : Nat), k + m = 36 → m < n → ∃ x : Int32, rQ_isName_8 N n (Int32.ofNat k) S = some (x, S) ∧ ((x = 1 ∧ ∀ i, k ≤ i → i < 36 → kdAt t q ≠ Int32.ofNat (200 + i)) ∨ (x = 0 ∧ ∃ i, i < 36 ∧ kdAt t q = Int32.ofNat (200 + i)))
  | m, 0, _, _, h => by omega
  | 0, n + 1, k, hk, _ => by
    refine ⟨1, ?_, Or.inl ⟨rfl, fun i h1 h2 => by omega⟩⟩
    rw [rQ_isName_8, if_pos (by rw [yi_nat (by omega)]; omega)]
  | m + 1, n + 1, k, hk, hn => by
    obtain ⟨bs, hbs⟩ : ∃ bs, zwords[k]? = some bs := ⟨_, List.getElem?_eq_getElem (show k < 36 by omega)⟩
    rw [rQ_isName_8, if_neg (by rw [yi_nat (by omega)]; omega), gI_nat (by omega), hbs, zgs, rS_isWord_ok hN hT hK hbs, zbs, yi_add1]
    by_cases hkd : kdAt t q = Int32.ofNat (200 + k)
    · refine ⟨0, ?_, Or.inr ⟨rfl, k, by omega, hkd⟩⟩
      rw [if_pos hkd, if_neg (by decide)]
    · obtain ⟨x, q1, q2⟩ := rQ_isName_loop hN hT hK m n (k + 1) (by omega) (by omega)
      refine ⟨x, by rw [if_neg hkd, if_pos rfl]; exact q1, ?_⟩
      rcases q2 with ⟨h1, h2⟩ | h
      · refine Or.inl ⟨h1, fun i g1 g2 => ?_⟩
        by_cases hik : i = k
        · rw [hik]; exact hkd
        · exact h2 i (by omega) g2
      · exact Or.inr h
theorem kd_word {t : List Int32} {S : zS} {q : Nat} (hK : refTok t S q) : (zI S 2 = 1 ↔ (kdAt t q = 3 ∨ ∃ i, i < 36 ∧ kdAt t q = Int32.ofNat (200 + i))) ∧ (zI S 2 = 2 ↔ kdAt t q = 2) ∧ (zI S 2 = 0 ↔ kdAt t q = 0) := by
  obtain ⟨hq, k3, k4, k2⟩ := hK
  have hno : ∀ x : Int32, x.toInt < 128 → x ≠ 3 → ¬ (x = 3 ∨ ∃ i, i < 36 ∧ x = Int32.ofNat (200 + i)) := by
    rintro x hx h3 (h | ⟨i, hi, h⟩)
    · exact h3 h
    · rw [h, yi_nat (by omega)] at hx; omega
  unfold kdAt
  cases hd : t.drop q with
  | nil =>
    rw [hd] at k2
    have k2 : zI S 2 = 0 := k2
    rw [k2]
    refine ⟨⟨fun h => absurd h (by decide), fun h => absurd h (hno _ (by decide) (by decide))⟩, by decide, by decide⟩
  | cons b r =>
    rw [hd] at k2
    dsimp only at k2
    by_cases hL : isL b = true
    · rw [if_pos hL] at k2
      rw [lexK_w hL]
      dsimp only
      by_cases h8 : nW (b :: r) ≤ 8
      · rw [if_pos h8] at k2 ⊢
        have hr := kW_range (nW_lg (b :: r)) (by rw [List.length_take]; omega)
        rw [k2]
        refine ⟨⟨fun _ => hr, fun _ => rfl⟩, ⟨fun h => absurd h (by decide), fun h => ?_⟩, ⟨fun h => absurd h (by decide), fun h => ?_⟩⟩
        · rw [h] at hr; exact absurd hr (hno 2 (by decide) (by decide))
        · rw [h] at hr; exact absurd hr (hno 0 (by decide) (by decide))
      · rw [if_neg h8] at k2 ⊢
        rw [k2]
        exact ⟨⟨fun h => absurd h (by decide), fun h => absurd h (hno _ (by decide) (by decide))⟩, by decide, by decide⟩
    · rw [if_neg hL] at k2
      by_cases hG : isG b = true
      · rw [if_pos hG] at k2
        rw [lexK_g hL hG, k2.1]
        dsimp only
        by_cases h6 : nG (b :: r) ≤ 6
        · rw [if_pos h6, if_pos h6]
          exact ⟨⟨fun h => absurd h (by decide), fun h => absurd h (hno _ (by decide) (by decide))⟩, by decide, by decide⟩
        · rw [if_neg h6, if_neg h6]
          exact ⟨⟨fun h => absurd h (by decide), fun h => absurd h (hno _ (by decide) (by decide))⟩, by decide, by decide⟩
      · rw [if_neg hG] at k2
        rw [lexK_s hL hG, k2]
        dsimp only
        by_cases hs : b ∈ zwsg
        · obtain ⟨c0, c1, c2, c3, c4⟩ := zwsg_k b hs
          rw [if_pos hs, if_pos hs]
          exact ⟨⟨fun h => absurd h (by decide), fun h => absurd h (hno _ c4 c3)⟩, ⟨fun h => absurd h (by decide), fun h => absurd h c2⟩, ⟨fun h => absurd h (by decide), fun h => absurd h c0⟩⟩
        · rw [if_neg hs, if_neg hs]
          exact ⟨⟨fun h => absurd h (by decide), fun h => absurd h (hno _ (by decide) (by decide))⟩, by decide, by decide⟩
theorem rQ_isName_ok {N : Nat} {t : List Int32} {S : zS} {q : Nat} (hN : 1400 < N) (hT : refTape t S) (hK : refTok t S q) : rQ_isName N S = some (if kdAt t q = 3 then 1 else 0, S) := by
  have hw := (kd_word hK).1
  unfold rQ_isName
  by_cases h1 : zI S 2 = 1
  · rw [if_pos h1]
    obtain ⟨x, q1, q2⟩ := rQ_isName_loop hN hT hK 36 N 0 (by omega) (by omega)
    rw [show rQ_isName_8 N N 0 S = some (x, S) from q1]
    rcases q2 with ⟨rfl, h⟩ | ⟨rfl, i, hi, h⟩
    · rcases hw.mp h1 with h3 | ⟨i, hi, h3⟩
      · rw [if_pos h3]
      · exact absurd h3 (h i (by omega) hi)
    · rw [if_neg]
      rw [h, xi32_eq, yi_nat (by omega), show (3 : Int32).toInt = 3 by decide]; omega
  · rw [if_neg h1, if_neg (fun h => h1 (hw.mpr (Or.inl h)))]
theorem rL_name {N : Nat} {S : zS} {w : List Int32} {q : Nat} (hq : q + w.length < 2147483648) (h4 : zI S 4 = Int32.ofNat (q + w.length)) : ∀ (m n k : Nat) (v : Int64), k + m = w.length → m < n → (∀ j x, w[j]? = some x → gI (zA S 1) (Int32.ofNat (q + j)) = some x) → rQ_name_5 N n v (Int32.ofNat (q + k)) S = some (wV v (w.drop k), S)
  | m, 0, _, _, _, h, _ => by omega
  | 0, n + 1, k, v, hk, _, _ => by
    rw [rQ_name_5, h4, if_pos (by rw [yi_nat (by omega), yi_nat (by omega)]; omega), List.drop_eq_nil_of_le (by omega)]
    rfl
  | m + 1, n + 1, k, v, hk, hn, hg => by
    obtain ⟨y, hy⟩ : ∃ y, w[k]? = some y := ⟨_, List.getElem?_eq_getElem (by omega)⟩
    have dy : w.drop k = y :: w.drop (k + 1) := by
      obtain ⟨h1, h2⟩ := List.getElem?_eq_some_iff.mp hy
      rw [← h2]; exact (List.getElem_cons_drop h1).symm
    rw [rQ_name_5, h4, if_neg (by rw [yi_nat (by omega), yi_nat (by omega)]; omega), hg k y hy, zgs, yi_add1, Nat.add_assoc, rL_name hq h4 m n (k + 1) _ (by omega) (by omega) hg, dy, wV]
theorem rQ_name_ok {N : Nat} {t : List Int32} {S : zS} {q : Nat} (hN : 1400 < N) (hT : refTape t S) (hK : refTok t S q) (h3 : kdAt t q = 3) : ∃ v, (lexK (t.drop q)).2.2 = some v ∧ rQ_name N S = some (v, S) := by
  have h1 := (kd_word hK).1.mpr (Or.inl h3)
  obtain ⟨h0, hl, hb, jk, hA⟩ := hT
  obtain ⟨hq, k3, k4, k2⟩ := hK
  cases hd : t.drop q with
  | nil =>
    rw [hd] at k2
    rw [show zI S 2 = 0 from k2] at h1
    exact absurd h1 (by decide)
  | cons b r =>
    rw [hd] at k2
    dsimp only at k2
    by_cases hL : isL b = true
    · have wl := nW_le (b :: r)
      have wl2 := congrArg List.length hd
      rw [List.length_drop] at wl2
      rw [hd, lexK_w hL] at k4
      dsimp only at k4
      rw [lexK_w hL]
      refine ⟨_, rfl, ?_⟩
      have hw : ((b :: r).take (nW (b :: r))).length = nW (b :: r) := by rw [List.length_take]; omega
      have htw := tok_word (q := q) hb hl hA k3
      rw [hd, k3] at htw
      have := rL_name (N := N) (S := S) (w := (b :: r).take (nW (b :: r))) (q := q) (by omega) (by rw [k4, hw]) (nW (b :: r)) N 0 0 (by omega) (by omega) (fun j x hj => by have := htw j x hj; rwa [yi_add] at this)
      rw [rQ_name, k3]
      exact this
    · rw [if_neg hL] at k2
      by_cases hG : isG b = true
      · rw [if_pos hG] at k2
        rw [k2.1] at h1
        split at h1 <;> exact absurd h1 (by decide)
      · rw [if_neg hG] at k2
        rw [k2] at h1
        split at h1 <;> exact absurd h1 (by decide)
