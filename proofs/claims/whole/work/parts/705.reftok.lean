/-! THE REFERENCE AT A TOKEN -/
/-- the reference stands at the token whose place is q -/
def refTok (t : List Int32) (S : zS) (q : Nat) : Prop := q ≤ t.length ∧ zI S 3 = Int32.ofNat q ∧ zI S 4 = Int32.ofNat (q + (lexK (t.drop q)).2.1) ∧ match t.drop q with
  | [] => zI S 2 = 0
  | b :: r => if isL b = true then zI S 2 = (if nW (b :: r) ≤ 8 then 1 else 4) else if isG b = true then (zI S 2 = (if nG (b :: r) ≤ 6 then 2 else 4) ∧ (nG (b :: r) ≤ 6 → zI S 5 = gW 0 ((b :: r).take (nG (b :: r))))) else zI S 2 = (if b ∈ zwsg then 3 else 4)
/-- the reference's tape -/
def refTape (t : List Int32) (S : zS) : Prop := zI S 0 = Int32.ofNat t.length ∧ t.length ≤ 1400 ∧ (∀ b ∈ t, 0 ≤ b.toInt ∧ b.toInt ≤ 255) ∧ ∃ jk, zA S 1 = t.map sb ++ jk
theorem zw_eq {b : Int32} (hb : 0 ≤ b.toInt ∧ b.toInt ≤ 255) : (sb b = 59 ∨ sb b = 123 ∨ sb b = 125 ∨ sb b = 40 ∨ sb b = 41 ∨ sb b = 91 ∨ sb b = 93 ∨ sb b = 44 ∨ sb b = 61 ∨ sb b = 60 ∨ sb b = 62 ∨ sb b = 43 ∨ sb b = 45 ∨ sb b = 42 ∨ sb b = 47 ∨ sb b = 37) ↔ b ∈ zwsg := by
  rw [← sb_sg hb]
  simp only [zwsg, List.mem_cons, List.not_mem_nil, or_false]
theorem rQ_signs {b : Int32} {x y : Option (Unit × zS)} : (if b = (59 : Int32) then x else (if b = (123 : Int32) then x else (if b = (125 : Int32) then x else (if b = (40 : Int32) then x else (if b = (41 : Int32) then x else (if b = (91 : Int32) then x else (if b = (93 : Int32) then x else (if b = (44 : Int32) then x else (if b = (61 : Int32) then x else (if b = (60 : Int32) then x else (if b = (62 : Int32) then x else (if b = (43 : Int32) then x else (if b = (45 : Int32) then x else (if b = (42 : Int32) then x else (if b = (47 : Int32) then x else (if b ≠ (37 : Int32) then y else x)))))))))))))))) = if (b = 59 ∨ b = 123 ∨ b = 125 ∨ b = 40 ∨ b = 41 ∨ b = 91 ∨ b = 93 ∨ b = 44 ∨ b = 61 ∨ b = 60 ∨ b = 62 ∨ b = 43 ∨ b = 45 ∨ b = 42 ∨ b = 47 ∨ b = 37) then x else y := by
  by_cases h : (b = 59 ∨ b = 123 ∨ b = 125 ∨ b = 40 ∨ b = 41 ∨ b = 91 ∨ b = 93 ∨ b = 44 ∨ b = 61 ∨ b = 60 ∨ b = 62 ∨ b = 43 ∨ b = 45 ∨ b = 42 ∨ b = 47 ∨ b = 37)
  · rw [if_pos h]
    rcases h with h | h | h | h | h | h | h | h | h | h | h | h | h | h | h | h <;> subst h <;> rfl
  · rw [if_neg h]
    simp only [not_or] at h
    obtain ⟨h1, h2, h3, h4, h5, h6, h7, h8, h9, h10, h11, h12, h13, h14, h15, h16⟩ := h
    rw [if_neg h1, if_neg h2, if_neg h3, if_neg h4, if_neg h5, if_neg h6, if_neg h7, if_neg h8, if_neg h9, if_neg h10, if_neg h11, if_neg h12, if_neg h13, if_neg h14, if_neg h15, if_pos h16]
theorem rQ_next_ok {N : Nat} {t : List Int32} {S : zS} {p : Nat} (hN : 1400 < N) (hT : refTape t S) (hp : p ≤ t.length) (h4 : zI S 4 = Int32.ofNat p) : ∃ S', rQ_next N S = some ((), S') ∧ S'.2 = S.2 ∧ (∀ i, i ≠ 2 → i ≠ 3 → i ≠ 4 → i ≠ 5 → zI S' i = zI S i) ∧ refTok t S' (p + nB (t.drop p)) := by
  obtain ⟨h0, hl, hb, jk, h1⟩ := hT
  have hpl : (t.take p).length = p := by rw [List.length_take]; omega
  have hdl : (t.drop p).length = t.length - p := List.length_drop
  have wB := nB_le (t.drop p)
  have hbl := rL_blanks (N := N) (S := S) (jk := jk) (t.drop p) (t.take p) N (by rw [h0, hpl, hdl]; congr 1; omega) (by rw [List.take_append_drop, h1]) (by omega) (by omega) (fun b hb' => hb b (List.mem_of_mem_drop hb'))
  rw [hpl] at hbl
  rw [rQ_next, h4, hbl]
  generalize hq : p + nB (t.drop p) = q
  have hql : q ≤ t.length := by omega
  have eq := yi_nat (i := q) (by omega)
  have et := yi_nat (i := t.length) (by omega)
  rw [rQ_next_21, h0]
  cases hd : t.drop q with
  | nil =>
    have hqt : q = t.length := by
      have := congrArg List.length hd
      rw [List.length_drop] at this
      simp at this
      omega
    rw [if_neg (fun h => h (by rw [hqt]))]
    refine ⟨_, rfl, rfl, fun i h2 h3 h4 h5 => by rw [zi_I, if_neg h2, zi_I, if_neg h4, zi_I, if_neg h3], hql, ?_, ?_, ?_⟩
    · rw [zi_I, if_neg (by decide), zi_I, if_neg (by decide), zi_I, if_pos rfl]
    · rw [hd, zi_I, if_neg (by decide), zi_I, if_pos rfl]; rfl
    · rw [hd]; rfl
  | cons b r =>
    have hlr : q + (r.length + 1) = t.length := by
      have := congrArg List.length hd
      rw [List.length_drop, List.length_cons] at this
      omega
    have htq : t = t.take q ++ b :: r := by rw [← hd, List.take_append_drop]
    have hql2 : (t.take q).length = q := by rw [List.length_take]; omega
    have hbr : ∀ c ∈ b :: r, 0 ≤ c.toInt ∧ c.toInt ≤ 255 := fun c hc => hb c (List.mem_of_mem_drop (hd ▸ hc))
    have hb1 := hbr b (by simp)
    have hg : gI (zA S 1) (Int32.ofNat q) = some (sb b) := by
      have := gI_sb (pre := t.take q) (r := r) (jk := jk) (b := b) (by omega)
      rw [hql2, ← htq] at this
      rw [h1]; exact this
    have htq2 : t.take q ++ [b] ++ r = t := by rw [List.append_assoc]; exact htq.symm
    have hl2 : (t.take q ++ [b]).length = q + 1 := by rw [List.length_append, hql2]; rfl
    rw [if_pos (by rw [Ne, xi32_eq, eq, et]; omega), hg, zgs, rQ_isLetter_eq, zbs, sb_L hb1, rQ_isDigit_eq, zbs, sb_G hb1, yi_add1, rQ_signs]
    generalize hS1 : zsI (zsI (zsI (zsI S 3 (Int32.ofNat q)) 4 (Int32.ofNat q)) 2 0) 4 (Int32.ofNat (q + 1)) = S1
    have i4 : zI S1 4 = Int32.ofNat (q + 1) := by rw [← hS1, zi_I, if_pos rfl]
    have i3 : zI S1 3 = Int32.ofNat q := by rw [← hS1, zi_I, if_neg (by decide), zi_I, if_neg (by decide), zi_I, if_neg (by decide), zi_I, if_pos rfl]
    have iI : ∀ i, i ≠ 2 → i ≠ 3 → i ≠ 4 → zI S1 i = zI S i := fun i h2 h3 h4 => by rw [← hS1, zi_I, if_neg h4, zi_I, if_neg h2, zi_I, if_neg h4, zi_I, if_neg h3]
    have i2 : S1.2 = S.2 := by rw [← hS1]; rfl
    have iA : zA S1 1 = t.map sb ++ jk := by rw [← hS1]; exact h1
    have i0 : zI S1 0 = Int32.ofNat t.length := by rw [iI 0 (by decide) (by decide) (by decide), h0]
    by_cases hL : isL b = true
    · rw [if_pos hL, if_neg (by decide)]
      obtain ⟨S', q1, q2, q3, q4, q5⟩ := rL_word (N := N) (jk := jk) r (t.take q ++ [b]) N S1 (by rw [i0, hl2]; congr 1; omega) (by rw [htq2, iA]) (by omega) (by omega) (fun c hc => hbr c (by simp [hc])) (by rw [i4, hl2])
      have hn : nW (b :: r) = nW r + 1 := by rw [nW, if_pos (Or.inl hL)]
      have wW := nW_le r
      rw [hl2] at q4 q5
      rw [i3, show q + 1 + nW r = q + nW (b :: r) by omega] at q5
      rw [yi_dif (by omega)] at q5
      refine ⟨S', q1, q2.trans i2, fun i h2 h3 h4 h5 => by rw [q3 i h2 h4, iI i h2 h3 h4], hql, by rw [q3 3 (by decide) (by decide), i3], ?_, ?_⟩
      · rw [q4, hd, lexK_w hL]
        congr 1
        dsimp only
        omega
      · rw [hd]
        dsimp only
        rw [if_pos hL, q5]
        by_cases h8 : nW (b :: r) ≤ 8
        · rw [if_pos (by omega), if_pos h8]
        · rw [if_neg (by omega), if_neg h8]
    · rw [if_neg hL, if_pos rfl]
      by_cases hG : isG b = true
      · rw [if_pos hG, if_neg (by decide)]
        have hn : nG (b :: r) = nG r + 1 := by rw [nG, if_pos hG]
        obtain ⟨S', q1, q2, q3, q4, q5, q6⟩ := rL_num (jk := jk) (t := t) (f := q) hN (by omega) hql r (t.take q ++ [b]) N S1 htq2.symm (by rw [hd, hl2, hn]; omega) (by omega) i0 iA (by omega) (fun c hc => hbr c (by simp [hc])) i3 (by rw [i4, hl2])
        refine ⟨S', q1, q2.trans i2, fun i h2 h3 h4 h5 => by rw [q3 i h2 h4 h5, iI i h2 h3 h4], hql, by rw [q3 3 (by decide) (by decide) (by decide), i3], ?_, ?_⟩
        · rw [q4, hd, lexK_g hL hG, hl2]
          congr 1
          dsimp only
          omega
        · rw [hd]
          dsimp only
          rw [if_neg hL, if_pos hG]
          rw [hd] at q5 q6
          exact ⟨q5, q6⟩
      · rw [if_neg hG, if_pos rfl]
        by_cases hs : b ∈ zwsg
        · rw [if_pos ((zw_eq hb1).mpr hs)]
          refine ⟨_, rfl, i2, fun i h2 h3 h4 h5 => by rw [zi_I, if_neg h2, iI i h2 h3 h4], hql, by rw [zi_I, if_neg (by decide), i3], ?_, ?_⟩
          · rw [zi_I, if_neg (by decide), i4, hd, lexK_s hL hG]
          · rw [hd]
            dsimp only
            rw [if_neg hL, if_neg hG, if_pos hs, zi_I, if_pos rfl]
        · rw [if_neg (fun h => hs ((zw_eq hb1).mp h))]
          refine ⟨_, rfl, i2, fun i h2 h3 h4 h5 => by rw [zi_I, if_neg h2, iI i h2 h3 h4], hql, by rw [zi_I, if_neg (by decide), i3], ?_, ?_⟩
          · rw [zi_I, if_neg (by decide), i4, hd, lexK_s hL hG]
          · rw [hd]
            dsimp only
            rw [if_neg hL, if_neg hG, if_neg hs, zi_I, if_pos rfl]
