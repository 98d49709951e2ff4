/-! SEARCH: a candidate as an answer -/
def cszP (P : yPt) : Nat := if P.1 = 5 then P.2.2.2.2.2.1.toInt.toNat else 1
def cvl (P : yPt) (c : Nat) : Int64 := if P.1 = 1 ∨ P.1 = 2 ∨ P.1 = 3 then (if c = 0 then P.2.2.2.1.toInt64 else P.2.2.2.2.1.toInt64) else Int64.ofNat c
/-- the answer that a candidate is -/
def cndP (P : yPt) (c : Nat) : yO := (sOf P.1, List.replicate (cszP P) (cvl P c), [])
theorem cszP_le {F : yF} (hok : yFok F) {p : Nat} {P : yPt} (hP : F.1[p]? = some P) : 1 ≤ cszP P ∧ cszP P ≤ 8 := by
  obtain ⟨fe, _, _, _, _, hl20, _, _, _, hok9⟩ := hok
  obtain ⟨_, _, _, _, _, _, _, _, h5, _, _, hw, _⟩ := hok9 p P hP
  unfold cszP
  split
  · rename_i h
    have := h5 h
    omega
  · omega
theorem kind5 {k : Int32} (h0 : 0 ≤ k.toInt) (h : k.toInt ≤ 5) : k = 0 ∨ k = 1 ∨ k = 2 ∨ k = 3 ∨ k = 4 ∨ k = 5 := by
  rcases (show k.toInt = 0 ∨ k.toInt = 1 ∨ k.toInt = 2 ∨ k.toInt = 3 ∨ k.toInt = 4 ∨ k.toInt = 5 by omega) with h | h | h | h | h | h
  · exact Or.inl (xi32_eq.mpr h)
  · exact Or.inr (Or.inl (xi32_eq.mpr h))
  · exact Or.inr (Or.inr (Or.inl (xi32_eq.mpr h)))
  · exact Or.inr (Or.inr (Or.inr (Or.inl (xi32_eq.mpr h))))
  · exact Or.inr (Or.inr (Or.inr (Or.inr (Or.inl (xi32_eq.mpr h)))))
  · exact Or.inr (Or.inr (Or.inr (Or.inr (Or.inr (xi32_eq.mpr h)))))
theorem sOf_5 {k : Int32} (h0 : 0 ≤ k.toInt) (h : k.toInt ≤ 5) : sOf k = if k = 0 ∨ k = 5 then 0 else if k = 2 then 2 else 1 := by
  rcases kind5 h0 h with rfl | rfl | rfl | rfl | rfl | rfl <;> decide
theorem cvl_01 {P : yPt} {c : Nat} (h : P.1 = 0 ∨ P.1 = 5) : cvl P c = Int64.ofNat c := by
  unfold cvl
  rw [if_neg]
  rcases h with h | h <;> rw [h] <;> decide
theorem mnP_01 {P : yPt} (h : P.1 = 0 ∨ P.1 = 5) : mnP P = 2 := by
  unfold mnP
  rw [if_neg (by rcases h with h | h <;> rw [h] <;> decide), if_neg (by rcases h with h | h <;> rw [h] <;> decide)]
theorem i64_r32 {x : Int32} : x.toInt64.toInt32.toInt64 = x.toInt64 := by rw [Int32.toInt32_toInt64]
theorem i64_n {c : Nat} (h : c < 2147483648) : (Int64.ofNat c).toInt32.toInt64 = Int64.ofNat c := by
  rw [← y3264 h, i64_r32]
/-- what a candidate is, is an answer -/
theorem cndP_ok {F : yF} {En : List (Int64 × Int32)} (hok : yFok F) {p c : Nat} {P : yPt} (hP : F.1[p]? = some P) (h5 : P.1.toInt ≤ 5) (hc : c < mnP P) : yOk En (cndP P c) := by
  have hk0 : 0 ≤ P.1.toInt := by
    obtain ⟨fe, _, _, _, _, hl20, _, _, _, hok9⟩ := id hok
    exact (hok9 p P hP).1.1
  have hs := sOf_5 hk0 h5
  have hsz := cszP_le hok hP
  have hm8 := (mnP_le hok hP).1
  have s2 : sOf P.1 ≤ 2 := by rw [hs]; split <;> (try split) <;> omega
  refine ⟨by show sOf P.1 ≤ 7; omega, fun h => absurd h (by show sOf P.1 ≠ 4; omega), fun _ => ⟨rfl, by show (List.replicate _ _).length ≤ 12; rw [List.length_replicate]; omega⟩, fun h => absurd h (by show sOf P.1 ≠ 7; omega), fun h => absurd h (by show sOf P.1 ≠ 5; omega), fun h => absurd h (by show sOf P.1 ≠ 6; omega), ?_, ?_, fun h => absurd h (by show sOf P.1 ≠ 3; omega)⟩
  · intro h v hv
    have h : sOf P.1 = 0 := h
    have hv := (List.mem_replicate.mp hv).2
    have h05 : P.1 = 0 ∨ P.1 = 5 := by
      rw [hs] at h
      by_cases e : P.1 = 0 ∨ P.1 = 5
      · exact e
      · rw [if_neg e] at h
        split at h <;> omega
    rw [cvl_01 h05] at hv
    rw [mnP_01 h05] at hc
    rcases (show c = 0 ∨ c = 1 by omega) with rfl | rfl
    · exact Or.inl hv
    · exact Or.inr hv
  · intro h v hv
    have hv := (List.mem_replicate.mp hv).2
    rw [hv]
    unfold cvl
    split
    · split
      · exact i64_r32
      · exact i64_r32
    · exact i64_n (by omega)
section CANDC
variable {gi : Nat → Int32} {ga : Nat → List Int32} {N : Nat} {F : yF} {S : zS}
theorem c_put {s : Nat} (hs : zI S 0 = Int32.ofNat s) (hs2 : s ≤ 2) {i : Int32} {v : Int64} (hi : zok (zB S 2) i) : cY_put gi ga N i v S = some ((), zsB S 2 (zs (zB S 2) i (putv s v))) := by
  rw [cY_put, hs]
  rcases (show s = 0 ∨ s = 1 ∨ s = 2 by omega) with rfl | rfl | rfl
  · rw [if_pos (show Int32.ofNat 0 = 0 from rfl)]
    unfold putv
    rw [if_pos rfl]
    by_cases hv : v = 0
    · rw [if_pos hv, if_pos hi, if_pos hv]
    · rw [if_neg hv, if_pos hi, if_neg hv]
  · rw [if_neg (by decide), if_pos (show Int32.ofNat 1 = 1 from rfl), if_pos hi]
    rfl
  · rw [if_neg (by decide), if_neg (by decide), if_neg (by decide), if_pos hi]
    rfl
theorem c_fill_12 {s z : Nat} {v : Int64} (hs2 : s ≤ 2) (hz : z ≤ 8) (hv : putv s v = v) : ∀ (m i n : Nat) (S : zS) (r : List Int64), i + m = z → m < n → m ≤ r.length → r.length ≤ 100 → zI S 0 = Int32.ofNat s → zI S 1 = Int32.ofNat z → zB S 2 = List.replicate i v ++ r → ∃ S', cY_fill_12 gi ga N n v (Int32.ofNat i) S = some ((), S') ∧ zB S' 2 = List.replicate z v ++ r.drop m ∧ ∀ j, zI S' j = zI S j
  | _, _, 0, _, _, _, hn, _, _, _, _, _ => by omega
  | 0, i, n + 1, S, r, hi, _, _, _, h0, h1, hB => by
    have e : i = z := by omega
    subst e
    refine ⟨S, ?_, hB, fun _ => rfl⟩
    rw [cY_fill_12, if_pos (by rw [h1]; exact Int.le_refl _)]
  | m + 1, i, n + 1, S, r, hi, hn, hr, hr2, h0, h1, hB => by
    cases r with
    | nil => rw [List.length_nil] at hr; omega
    | cons x r =>
      rw [List.length_cons] at hr hr2
      have ti := yi_nat (i := i) (by omega)
      have hl : (zB S 2).length = i + (r.length + 1) := by rw [hB, List.length_append, List.length_replicate, List.length_cons]
      rw [cY_fill_12, if_neg (by rw [h1, yi_nat (by omega), ti]; omega), if_neg (by rw [hl, yi_nat (by omega), ti]; omega), c_put h0 hs2 ⟨by rw [ti]; omega, by rw [ti, hl]; omega⟩, zb_s, hv, zs, yi_toNat (by omega), hB, yrep_set, yi_add1]
      obtain ⟨S', a1, a2, a3⟩ := c_fill_12 hs2 hz hv m (i + 1) n (zsB S 2 (List.replicate (i + 1) v ++ r)) r (by omega) (by omega) (by omega) (by omega) h0 h1 rfl
      exact ⟨S', a1, a2, a3⟩
theorem putv_c {P : yPt} {c : Nat} (hk0 : 0 ≤ P.1.toInt) (h5 : P.1.toInt ≤ 5) (hc : c < mnP P) (hm8 : mnP P ≤ 8) : putv (sOf P.1) (cvl P c) = cvl P c := by
  rw [sOf_5 hk0 h5]
  unfold putv
  by_cases e : P.1 = 0 ∨ P.1 = 5
  · rw [if_pos e, if_pos rfl, cvl_01 e]
    rw [mnP_01 e] at hc
    rcases (show c = 0 ∨ c = 1 by omega) with rfl | rfl
    · rfl
    · rfl
  · rw [if_neg e]
    by_cases e2 : P.1 = 2
    · rw [if_pos e2]; rfl
    · rw [if_neg e2, if_neg (by decide), if_pos rfl]
      unfold cvl
      split
      · split
        · exact i64_r32
        · exact i64_r32
      · exact i64_n (by omega)
/-- the class fills an object with a candidate -/
theorem C_fill (hF : fC2 F gi ga) (hok : yFok F) (hN : 8 < N) {p c : Nat} {P : yPt} (hP : F.1[p]? = some P) (h5 : P.1.toInt ≤ 5) (hc : c < mnP P) (h0 : zI S 0 = Int32.ofNat (sOf P.1)) (hl : (cszP P) ≤ (zB S 2).length) (hl2 : (zB S 2).length ≤ 100) : ∃ S', cY_fill gi ga N (Int32.ofNat p) (Int32.ofNat c) S = some ((), S') ∧ zI S' 0 = Int32.ofNat (sOf P.1) ∧ zI S' 1 = Int32.ofNat (cszP P) ∧ zB S' 2 = List.replicate (cszP P) (cvl P c) ++ (zB S 2).drop (cszP P) := by
  obtain ⟨fe, _, _, _, _, hl20, _, _, _, hok9⟩ := id hok
  have hp : p < F.1.length := (List.getElem?_eq_some_iff.mp hP).1
  have hq := hok9 p P hP
  have hk0 := hq.1.1
  have hw : 0 ≤ P.2.2.2.2.2.1.toInt := by
    obtain ⟨_, _, _, _, _, _, _, _, _, _, _, hw, _⟩ := hq
    exact hw.1
  have hm8 := (mnP_le hok hP).1
  have hsz := cszP_le hok hP
  have e1 : gI (ga 1) (Int32.ofNat p) = some P.1 := by rw [gI_nat (by omega)]; exact hF.1.2.2.1 p P hP
  have h11 : P.1 ≠ 11 := by
    intro h; rw [h] at h5; exact absurd h5 (by decide)
  obtain ⟨_, _, g3, _⟩ := hF.2.2.1 p P hP
  obtain ⟨g4, g5, g6⟩ := g3 h11
  have e4 : gI (ga 4) (Int32.ofNat p) = some P.2.2.2.1 := by rw [gI_nat (by omega)]; exact g4
  have e5 : gI (ga 5) (Int32.ofNat p) = some P.2.2.2.2.1 := by rw [gI_nat (by omega)]; exact g5
  have e6 : gI (ga 6) (Int32.ofNat p) = some P.2.2.2.2.2.1 := by rw [gI_nat (by omega)]; exact g6
  have es : cY_sizeOf gi ga N (Int32.ofNat p) S = some (Int32.ofNat (cszP P), S) := by
    rw [cY_sizeOf, e1, zg_s]
    unfold cszP
    by_cases k5 : P.1 = 5
    · rw [if_neg (fun h => h k5), e6, zg_s, if_pos k5, yi_id hw]
    · rw [if_pos k5, if_neg k5]; rfl
  have ec : ∀ S1 : zS, cY_candidate gi ga N (Int32.ofNat p) (Int32.ofNat c) S1 = some (cvl P c, S1) := by
    intro S1
    have e6' : cY_candidate_6 gi ga N (Int32.ofNat p) (Int32.ofNat c) S1 = some (if c = 0 then P.2.2.2.1.toInt64 else P.2.2.2.2.1.toInt64, S1) := by
      rw [cY_candidate_6]
      by_cases c0 : c = 0
      · subst c0
        rw [if_neg (fun h => h rfl), e4, zg_s, if_pos rfl]
      · rw [if_pos (by intro h; exact c0 (yi_inj (by omega) (by omega) h)), e5, zg_s, if_neg c0]
    rw [cY_candidate, e1, zg_s]
    unfold cvl
    by_cases k1 : P.1 = 1
    · rw [if_pos k1, e6', if_pos (Or.inl k1)]
    · rw [if_neg k1]
      by_cases k2 : P.1 = 2
      · rw [if_pos k2, e6', if_pos (Or.inr (Or.inl k2))]
      · rw [if_neg k2]
        by_cases k3 : P.1 = 3
        · rw [if_pos k3, e6', if_pos (Or.inr (Or.inr k3))]
        · rw [if_neg k3, if_neg (fun h => Or.elim h k1 (fun h => Or.elim h k2 k3)), y3264 (by omega)]
  have s2 : sOf P.1 ≤ 2 := by rw [sOf_5 hk0 h5]; split <;> (try split) <;> omega
  obtain ⟨S', a1, a2, a3⟩ := c_fill_12 (gi := gi) (ga := ga) (N := N) (s := sOf P.1) (z := cszP P) (v := cvl P c) s2 hsz.2 (putv_c hk0 h5 hc hm8) (cszP P) 0 N (zsI S 1 (Int32.ofNat (cszP P))) (zB S 2) (by omega) (by omega) hl hl2 h0 rfl rfl
  refine ⟨S', ?_, (a3 0).trans h0, a3 1, a2⟩
  rw [cY_fill, es, zb_s, ec, zb_s]
  exact a1
end CANDC
section CANDM
variable {gi : Nat → Int32} {ga : Nat → List Int32} {vl : List Int64} {ne : Int32} {sn : List Int32} {N : Nat} {F : yF} {S : zS}
theorem r_sortC {k : Int32} (h0 : 0 ≤ k.toInt) (h : k.toInt ≤ 5) : rC_sortOf gi ga ne sn N k S = some (Int32.ofNat (sOf k), S) := by
  rcases kind5 h0 h with rfl | rfl | rfl | rfl | rfl | rfl <;> rfl
theorem r_cand_22 {p c z : Nat} {P : yPt} (hc8 : c < 8) (hz : z ≤ 8) (h5 : P.1 = 1 ∨ P.1 = 2 ∨ P.1 = 3 → gI (ga 5) (Int32.ofNat p) = some P.2.2.2.1 ∧ gI (ga 6) (Int32.ofNat p) = some P.2.2.2.2.1) (h20 : P.1 = 2 → P.2.2.2.1 = 0) : ∀ (m i n : Nat) (S : zS) (r : List Int64), i + m = z → m < n → m ≤ r.length → zI S 1 = Int32.ofNat z → zB S 2 = List.replicate i (cvl P c) ++ r → ∃ S', rC_candidate_22 gi ga ne sn N n (Int32.ofNat p) (Int32.ofNat c) P.1 (Int32.ofNat i) S = some ((), S') ∧ zB S' 2 = List.replicate z (cvl P c) ++ r.drop m ∧ (∀ j, zI S' j = zI S j) ∧ ∀ j, zA S' j = zA S j
  | _, _, 0, _, _, _, hn, _, _, _ => by omega
  | 0, i, n + 1, S, r, hi, _, _, h1, hB => by
    have e : i = z := by omega
    subst e
    refine ⟨S, ?_, hB, fun _ => rfl, fun _ => rfl⟩
    rw [rC_candidate_22, if_pos (by rw [h1]; exact Int.le_refl _)]
  | m + 1, i, n + 1, S, r, hi, hn, hr, h1, hB => by
    cases r with
    | nil => rw [List.length_nil] at hr; omega
    | cons x r =>
      rw [List.length_cons] at hr
      have ti := yi_nat (i := i) (by omega)
      have hl : (zB S 2).length = i + (r.length + 1) := by rw [hB, List.length_append, List.length_replicate, List.length_cons]
      have hzo : zok (zB S 2) (Int32.ofNat i) := ⟨by rw [ti]; omega, by rw [ti, hl]; omega⟩
      obtain ⟨S', a1, a2, a3, a4⟩ := r_cand_22 hc8 hz h5 h20 m (i + 1) n (zsB S 2 (List.replicate (i + 1) (cvl P c) ++ r)) r (by omega) (by omega) (by omega) h1 rfl
      have hset : zs (zB S 2) (Int32.ofNat i) (cvl P c) = List.replicate (i + 1) (cvl P c) ++ r := by
        rw [zs, yi_toNat (by omega), hB, yrep_set]
      refine ⟨S', ?_, a2, a3, a4⟩
      rw [rC_candidate_22, if_neg (by rw [h1, yi_nat (by omega), ti]; omega), ← a1, yi_add1]
      have hc0 : c = 0 ∨ (c ≠ 0 ∧ Int32.ofNat c ≠ 0) := by
        by_cases c0 : c = 0
        · exact Or.inl c0
        · exact Or.inr ⟨c0, fun h => c0 (yi_inj (by omega) (by omega) h)⟩
      have hmid : (P.1 = 1 ∨ P.1 = 3) → rC_candidate_35 gi ga ne sn N (rC_candidate_22 gi ga ne sn N n) (Int32.ofNat p) (Int32.ofNat c) P.1 (Int32.ofNat i) (Int32.ofNat i) S = rC_candidate_22 gi ga ne sn N n (Int32.ofNat p) (Int32.ofNat c) P.1 (Int32.ofNat (i + 1)) (zsB S 2 (List.replicate (i + 1) (cvl P c) ++ r)) := by
        intro h13
        have h123 : P.1 = 1 ∨ P.1 = 2 ∨ P.1 = 3 := h13.elim Or.inl (fun h => Or.inr (Or.inr h))
        obtain ⟨g5, g6⟩ := h5 h123
        have hcv : cvl P c = if c = 0 then P.2.2.2.1.toInt64 else P.2.2.2.2.1.toInt64 := by unfold cvl; rw [if_pos h123]
        rw [rC_candidate_35, yi_add1]
        rcases hc0 with c0 | ⟨c0, c1⟩
        · have hcv : cvl P c = P.2.2.2.1.toInt64 := by rw [hcv, if_pos c0]
          rw [if_neg (by rw [c0]; exact fun h => h rfl), g5, zg_s, if_pos hzo, ← hcv, hset]
        · have hcv : cvl P c = P.2.2.2.2.1.toInt64 := by rw [hcv, if_neg c0]
          rw [if_pos c1, g6, zg_s, if_pos hzo, ← hcv, hset]
      by_cases k1 : P.1 = 1
      · rw [if_pos k1, hmid (Or.inl k1)]
      · rw [if_neg k1]
        by_cases k3 : P.1 = 3
        · rw [if_neg (fun h => h k3), hmid (Or.inr k3)]
        · rw [if_pos k3]
          by_cases k2 : P.1 = 2
          · obtain ⟨g5, g6⟩ := h5 (Or.inr (Or.inl k2))
            have hcv : cvl P c = if c = 0 then P.2.2.2.1.toInt64 else P.2.2.2.2.1.toInt64 := by unfold cvl; rw [if_pos (Or.inr (Or.inl k2))]
            rw [if_neg (fun h => h k2)]
            rcases hc0 with c0 | ⟨c0, c1⟩
            · have hcv : cvl P c = 0 := by rw [hcv, if_pos c0, h20 k2]; rfl
              rw [if_neg (by rw [c0]; exact fun h => h rfl), if_pos hzo, ← hset, hcv]
            · have hcv : cvl P c = P.2.2.2.2.1.toInt64 := by rw [hcv, if_neg c0]
              rw [if_pos c1, g6, zg_s, if_pos hzo, ← hset, hcv]
          · have hcv : cvl P c = Int64.ofNat c := by
              unfold cvl
              rw [if_neg (fun h => Or.elim h k1 (fun h => Or.elim h k2 k3))]
            rw [if_pos k2, if_pos hzo, ← hset, hcv, y3264 (by omega)]
/-- the reference makes a candidate -/
theorem M_cand (hF : fMr2 F gi ga vl) (hok : yFok F) (hN : 8 < N) {p c : Nat} {P : yPt} (hP : F.1[p]? = some P) (h5 : P.1.toInt ≤ 5) (hc : c < mnP P) (hB : (zB S 2).length = 12) (h3 : (zA S 3).length = 6) (h4 : (zA S 4).length = 36) : ∃ S', rC_candidate gi ga ne sn N (Int32.ofNat p) (Int32.ofNat c) S = some ((), S') ∧ thV S' (cndP P c) ∧ zI S' 5 = zI S 5 := by
  obtain ⟨fe, _, _, _, _, hl20, _, _, _, hok9⟩ := id hok
  have hp : p < F.1.length := (List.getElem?_eq_some_iff.mp hP).1
  obtain ⟨hk0, _, _, _, _, hk2, _⟩ := hok9 p P hP
  have hw : 0 ≤ P.2.2.2.2.2.1.toInt := by
    obtain ⟨_, _, _, _, _, _, _, _, _, _, _, hw, _⟩ := hok9 p P hP
    exact hw.1
  have hm8 := (mnP_le hok hP).1
  have hsz := cszP_le hok hP
  have e1 : gI (ga 2) (Int32.ofNat p) = some P.1 := by rw [gI_nat (by omega)]; exact hF.1.1 p P hP
  have g3 := (hF.2.2.2.1 p P hP).2.2.1
  have hg : P.1 = 1 ∨ P.1 = 2 ∨ P.1 = 3 → gI (ga 5) (Int32.ofNat p) = some P.2.2.2.1 ∧ gI (ga 6) (Int32.ofNat p) = some P.2.2.2.2.1 := by
    intro h
    obtain ⟨g5, g6, _⟩ := g3 (by rcases h with h | h | h <;> rw [h] <;> decide) (by rcases h with h | h | h <;> rw [h] <;> decide) (by rcases h with h | h | h <;> rw [h] <;> decide)
    exact ⟨by rw [gI_nat (by omega)]; exact g5, by rw [gI_nat (by omega)]; exact g6⟩
  obtain ⟨S', a1, a2, a3, a4⟩ := r_cand_22 (gi := gi) (ga := ga) (ne := ne) (sn := sn) (N := N) (p := p) (c := c) (z := cszP P) (P := P) (by omega) hsz.2 hg hk2 (cszP P) 0 N (zsI (zsI S 0 (Int32.ofNat (sOf P.1))) 1 (Int32.ofNat (cszP P))) (zB S 2) (by omega) (by omega) (by omega) rfl rfl
  have hoz : osz (cndP P c) = cszP P := by
    rw [osz_n4 (by show sOf P.1 ≠ 4; rw [sOf_5 hk0.1 h5]; split <;> (try split) <;> omega)]
    show (List.replicate _ _).length = _
    rw [List.length_replicate]
  refine ⟨S', ?_, ⟨a3 0, by rw [hoz]; exact a3 1, ⟨(zB S 2).drop (cszP P), a2, ?_⟩, by rw [a4]; exact h3, by rw [a4]; exact h4, (fun i r h => by cases h), (fun i l j x h => by cases h)⟩, a3 5⟩
  · rw [rC_candidate, e1, zg_s, r_sortC hk0.1 h5, zb_s]
    by_cases k5 : P.1 = 5
    · obtain ⟨_, _, g7⟩ := g3 (by rw [k5]; decide) (by rw [k5]; decide) (by rw [k5]; decide)
      have e7 : gI (ga 7) (Int32.ofNat p) = some P.2.2.2.2.2.1 := by rw [gI_nat (by omega)]; exact g7 (by rw [k5]; decide)
      have hcs : Int32.ofNat (cszP P) = P.2.2.2.2.2.1 := by unfold cszP; rw [if_pos k5, yi_id hw]
      rw [if_neg (fun h => h k5), e7, zg_s, ← hcs]
      exact a1
    · have hcs : Int32.ofNat (cszP P) = 1 := by unfold cszP; rw [if_neg k5]; rfl
      rw [if_pos k5, ← hcs]
      exact a1
  · show (List.replicate _ _).length + _ = 12
    rw [List.length_replicate, List.length_drop, hB]; omega
end CANDM
