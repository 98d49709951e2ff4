/-! SEARCH: the class begins one -/
section BEGC
variable {gi : Nat → Int32} {ga : Nat → List Int32} {N : Nat} {F : yF}
theorem plF_s {k p : Nat} {P : yPt} (hP : F.1[p]? = some P) : plF F (k + 1) p = (if P.1.toInt ≤ 5 then [p] else []) ++ plF F k (p + 1) := by
  rw [plF, hP]
theorem plF_ok : ∀ (k p : Nat), plOk F (plF F k p)
  | 0, _ => fun _ h => by cases h
  | k + 1, p => by
    intro q hq
    rw [plF] at hq
    rcases List.mem_append.mp hq with hq | hq
    · rcases hP : F.1[p]? with _ | P
      · rw [hP] at hq; cases hq
      · rw [hP] at hq
        have hq : q ∈ (if P.1.toInt ≤ 5 then [p] else []) := hq
        by_cases h5 : P.1.toInt ≤ 5
        · rw [if_pos h5] at hq
          have := List.mem_singleton.mp hq
          subst this
          exact ⟨P, hP, h5⟩
        · rw [if_neg h5] at hq; cases hq
    · exact plF_ok k (p + 1) q hq
theorem plF_len : ∀ (k p : Nat), (plF F k p).length ≤ k
  | 0, _ => Nat.le_refl _
  | k + 1, p => by
    rw [plF, List.length_append]
    have := plF_len k (p + 1)
    rcases hP : F.1[p]? with _ | P
    · show 0 + _ ≤ _
      omega
    · show (if P.1.toInt ≤ 5 then [p] else []).length + _ ≤ _
      split
      · rw [List.length_singleton]; omega
      · rw [List.length_nil]; omega
theorem c_cands (hF : fC2 F gi ga) (hl20 : F.1.length ≤ 20) : ∀ (k p n acc : Nat) (S : zS), p + k = F.1.length → k < n → cS_candidateParts_4 gi ga N n (Int32.ofNat acc) (Int32.ofNat p) S = some (Int32.ofNat (acc + (plF F k p).length), S)
  | _, _, 0, _, _, _, hn => by omega
  | 0, p, n + 1, acc, S, hp, _ => by
    rw [cS_candidateParts_4, if_pos (by rw [hF.2.1.1, yi_nat (by omega), yi_nat (by omega)]; omega)]
    rfl
  | k + 1, p, n + 1, acc, S, hp, hn => by
    obtain ⟨P, hP⟩ : ∃ P, F.1[p]? = some P := ⟨_, List.getElem?_eq_getElem (by omega)⟩
    have e1 : gI (ga 1) (Int32.ofNat p) = some P.1 := by rw [gI_nat (by omega)]; exact hF.1.2.2.1 p P hP
    rw [cS_candidateParts_4, if_neg (by rw [hF.2.1.1, yi_nat (by omega), yi_nat (by omega)]; omega), e1, zg_s, yi_add1, yi_add1, show Int32.ofNat acc + 0 = Int32.ofNat acc from Int32.add_zero _, plF_s hP]
    by_cases h5 : P.1.toInt ≤ 5
    · rw [if_neg (by omega), if_pos h5, c_cands hF hl20 k (p + 1) n (acc + 1) S (by omega) (by omega), List.length_append, List.length_singleton, Nat.add_assoc]
    · rw [if_pos (by omega), if_neg h5, c_cands hF hl20 k (p + 1) n acc S (by omega) (by omega), List.nil_append]
theorem c_fill {c : Nat} (hc : c < 100) : ∀ (m i n : Nat) (S : zS) (r : List Int32), i + m = c → m < n → r.length = m → zA S 8 = List.replicate i 0 ++ r → ∃ S', cS_fill_5 gi ga N n 0 (Int32.ofNat i) (Int32.ofNat c) S = some ((), S') ∧ zA S' 8 = List.replicate c 0 ∧ fr1 8 S S'
  | _, _, 0, _, _, _, hn, _, _ => by omega
  | 0, i, n + 1, S, r, hi, _, hr, h8 => by
    have e : i = c := by omega
    subst e
    have : r = [] := List.length_eq_zero_iff.mp hr
    subst this
    refine ⟨S, ?_, by rw [h8, List.append_nil], fr1.rf⟩
    rw [cS_fill_5, if_pos (Int.le_refl _)]
  | m + 1, i, n + 1, S, r, hi, hn, hr, h8 => by
    cases r with
    | nil => cases hr
    | cons x r =>
      have ti := yi_nat (i := i) (by omega)
      rw [cS_fill_5, if_neg (by rw [yi_nat (by omega), ti]; omega), if_pos ⟨by rw [ti]; omega, by rw [ti, h8, List.length_append, List.length_replicate, List.length_cons]; omega⟩, zs, yi_toNat (by omega), h8, yrep_set, yi_add1]
      obtain ⟨S', a1, a2, a3⟩ := c_fill hc m (i + 1) n (zsA S 8 (List.replicate (i + 1) 0 ++ r)) r (by omega) (by omega) (Nat.succ.inj hr) rfl
      exact ⟨S', a1, a2, fr1.st.tr a3⟩
theorem c_begin_end (hN : 9 < N) {S : zS} (l8 : (zA S 8).length = 9) : ∃ S', (zb (cS_fill gi ga N 0 S) fun _ S2 => some ((), (zsI S2 4 0))) = some ((), S') ∧ zA S' 8 = List.replicate 9 0 ∧ zI S' 4 = 0 ∧ (∀ j, j ≠ 4 → zI S' j = zI S j) ∧ ∀ j, j ≠ 8 → zA S' j = zA S j := by
  obtain ⟨S1, a1, a2, a3⟩ := c_fill (gi := gi) (ga := ga) (N := N) (c := 9) (by omega) 9 0 N S (zA S 8) (by omega) (by omega) l8 rfl
  refine ⟨zsI S1 4 0, ?_, a2, rfl, ?_, a3.2⟩
  · rw [cS_fill, l8]
    show (zb (cS_fill_5 gi ga N N 0 (Int32.ofNat 0) (Int32.ofNat 9) S) fun _ S2 => some ((), (zsI S2 4 0))) = _
    rw [a1, zb_s]
  · intro j hj
    show zup S1.1 4 _ j = S.1 j
    rw [zup_ne hj]
    exact a3.1 j
theorem c_begin_14 (hF : fC2 F gi ga) (hl20 : F.1.length ≤ 20) (hN : 9 < N) : ∀ (k p n : Nat) (S : zS) (pre : List Nat) (j5 : List Int32), p + k = F.1.length → k < n → (pre ++ plF F k p).length ≤ 8 → zI S 3 = Int32.ofNat pre.length → zA S 5 = pre.map Int32.ofNat ++ j5 → lnS S → ∃ S', cS_begin_14 gi ga N n (Int32.ofNat p) S = some ((), S') ∧ zI S' 3 = Int32.ofNat (pre ++ plF F k p).length ∧ (∃ j, zA S' 5 = (pre ++ plF F k p).map Int32.ofNat ++ j) ∧ lnS S' ∧ zA S' 8 = List.replicate 9 0 ∧ zI S' 4 = 0 ∧ (∀ j, j ≠ 3 → j ≠ 4 → zI S' j = zI S j)
  | _, _, 0, _, _, _, _, hn, _, _, _, _ => by omega
  | 0, p, n + 1, S, pre, j5, hp, _, h8, h3, h5, ⟨l5, l6, l7, l8⟩ => by
    obtain ⟨S', a1, a2, a3, a4, a5⟩ := c_begin_end (gi := gi) (ga := ga) hN l8
    rw [cS_begin_14, if_pos (by rw [hF.2.1.1, yi_nat (by omega), yi_nat (by omega)]; omega), show plF F 0 p = [] from rfl, List.append_nil]
    exact ⟨S', a1, (a4 3 (by omega)).trans h3, ⟨j5, (a5 5 (by omega)).trans h5⟩, ⟨by rw [a5 5 (by omega)]; exact l5, by rw [a5 6 (by omega)]; exact l6, by rw [a5 7 (by omega)]; exact l7, by rw [a2]; rfl⟩, a2, a3, fun j _ hj => a4 j hj⟩
  | k + 1, p, n + 1, S, pre, j5, hp, hn, h8, h3, h5, ⟨l5, l6, l7, l8⟩ => by
    obtain ⟨P, hP⟩ : ∃ P, F.1[p]? = some P := ⟨_, List.getElem?_eq_getElem (by omega)⟩
    have e1 : gI (ga 1) (Int32.ofNat p) = some P.1 := by rw [gI_nat (by omega)]; exact hF.1.2.2.1 p P hP
    have hpre : pre.length ≤ 8 := by rw [List.length_append] at h8; omega
    rw [cS_begin_14, if_neg (by rw [hF.2.1.1, yi_nat (by omega), yi_nat (by omega)]; omega), h3]
    have tpl := yi_nat (i := pre.length) (by omega)
    by_cases hb : 8 ≤ pre.length
    · rw [if_pos (by rw [tpl]; omega)]
      have hnil : plF F (k + 1) p = [] := List.length_eq_zero_iff.mp (by rw [List.length_append] at h8; omega)
      rw [hnil, List.append_nil]
      obtain ⟨S', a1, a2, a3, a4, a5⟩ := c_begin_end (gi := gi) (ga := ga) hN l8
      exact ⟨S', a1, (a4 3 (by omega)).trans h3, ⟨j5, (a5 5 (by omega)).trans h5⟩, ⟨by rw [a5 5 (by omega)]; exact l5, by rw [a5 6 (by omega)]; exact l6, by rw [a5 7 (by omega)]; exact l7, by rw [a2]; rfl⟩, a2, a3, fun j _ hj => a4 j hj⟩
    · rw [if_neg (by rw [tpl]; omega), e1, zg_s]
      rw [plF_s hP] at h8 ⊢
      by_cases hk5 : P.1.toInt ≤ 5
      · rw [if_pos hk5, ← List.append_assoc] at h8 ⊢
        have l5' := l5
        rw [h5, List.length_append, List.length_map] at l5'
        cases j5 with
        | nil => rw [List.length_nil] at l5'; omega
        | cons x j5 =>
          have tp := yi_nat (i := pre.length) (by omega)
          rw [if_neg (by omega), h5, if_pos ⟨by rw [tp]; omega, by rw [tp, List.length_append, List.length_map, List.length_cons]; omega⟩, zs, yi_toNat (by omega), List.set_append_right _ _ (by rw [List.length_map]; exact Nat.le_refl _), List.length_map, Nat.sub_self, List.set_cons_zero, yi_add1, yi_add1]
          have e5 : pre.map Int32.ofNat ++ Int32.ofNat p :: j5 = (pre ++ [p]).map Int32.ofNat ++ j5 := by rw [List.map_append, List.append_assoc]; rfl
          obtain ⟨S', a1, a2, a3, a4, a5, a6, a7⟩ := c_begin_14 hF hl20 hN k (p + 1) n (zsI (zsA S 5 (pre.map Int32.ofNat ++ Int32.ofNat p :: j5)) 3 (Int32.ofNat (pre.length + 1))) (pre ++ [p]) j5 (by omega) (by omega) h8 (by rw [List.length_append]; rfl) e5 ⟨by show (pre.map Int32.ofNat ++ Int32.ofNat p :: j5).length = 8; rw [List.length_append, List.length_map, List.length_cons]; rw [List.length_cons] at l5'; omega, l6, l7, l8⟩
          refine ⟨S', a1, a2, a3, a4, a5, a6, fun j h1 h2 => ?_⟩
          rw [a7 j h1 h2]
          exact zup_ne h1
      · rw [if_neg hk5, List.nil_append] at h8 ⊢
        rw [if_pos (by omega), yi_add1]
        obtain ⟨S', a1, a2, a3, a4, a5, a6, a7⟩ := c_begin_14 hF hl20 hN k (p + 1) n S pre j5 (by omega) (by omega) h8 h3 h5 ⟨l5, l6, l7, l8⟩
        exact ⟨S', a1, a2, a3, a4, a5, a6, a7⟩
/-- the class begins a search -/
theorem C_begin2 (hF : fC2 F gi ga) (hl20 : F.1.length ≤ 20) (hN : 20 < N) {S : zS} (h8 : (plF F F.1.length 0).length ≤ 8) (h3 : zI S 3 = 0) (hl : lnS S) : ∃ S', cS_begin gi ga N S = some ((), S') ∧ stC2 F S' (plF F F.1.length 0) [] [] ∧ zA S' 8 = List.replicate 9 0 ∧ ∀ j, j ≠ 3 → j ≠ 4 → zI S' j = zI S j := by
  obtain ⟨S', a1, a2, ⟨j, a3⟩, a4, a5, a6, a7⟩ := c_begin_14 (N := N) hF hl20 (by omega) F.1.length 0 N S [] (zA S 5) (by omega) (by omega) h8 h3 rfl hl
  exact ⟨S', a1, ⟨a2, a6, h8, a4, ⟨j, a3⟩, ⟨zA S' 6, rfl⟩, ⟨zA S' 7, rfl⟩, plF_ok _ _, trivial, trivial⟩, a5, a7⟩
end BEGC
