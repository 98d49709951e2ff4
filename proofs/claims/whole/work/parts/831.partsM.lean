/-! SEARCH: the parts with candidates; the reference -/
section PARTSM
variable {gi : Nat → Int32} {ga : Nat → List Int32} {vl : List Int64} {N : Nat} {F : yF} {S : zS}
theorem r_cands (hF : fMr2 F gi ga vl) (hok : yFok F) {p : Nat} {P : yPt} (hP : F.1[p]? = some P) : rT_candidates gi ga N (Int32.ofNat p) S = some (Int32.ofNat (if P.1.toInt ≤ 5 then mnP P else 0), S) := by
  obtain ⟨fe, _, _, _, _, hl20, _, _, _, hok9⟩ := hok
  have hp : p < F.1.length := (List.getElem?_eq_some_iff.mp hP).1
  obtain ⟨hk, _, _, _, hw4, _⟩ := hok9 p P hP
  have e1 : gI (ga 2) (Int32.ofNat p) = some P.1 := by rw [gI_nat (by omega)]; exact hF.1.1 p P hP
  have g3 := (hF.2.2.2.1 p P hP).2.2.1
  have mm : (P.1 = 1 ∨ P.1 = 3) → mnP P = (if P.2.2.2.1 = P.2.2.2.2.1 then 1 else 2) := by
    intro h; unfold mnP; rw [if_pos h]
  have m4 : P.1 = 4 → mnP P = P.2.2.2.2.2.1.toInt.toNat := by
    intro h
    unfold mnP
    rw [if_neg (by rw [h]; decide), if_pos h]
  have m2 : P.1 ≠ 1 → P.1 ≠ 3 → P.1 ≠ 4 → mnP P = 2 := by
    intro h1 h3 h4
    unfold mnP
    rw [if_neg (fun h => Or.elim h h1 h3), if_neg h4]
  have two : (P.1 = 1 ∨ P.1 = 3) → (zg (gI (ga 5) (Int32.ofNat p)) fun x2 => (zg (gI (ga 6) (Int32.ofNat p)) fun x3 => (if x2 ≠ x3 then some ((2 : Int32), S) else some (1, S)))) = some (Int32.ofNat (mnP P), S) := by
    intro h
    obtain ⟨g5, g6, _⟩ := g3 (by rcases h with h | h <;> rw [h] <;> decide) (by rcases h with h | h <;> rw [h] <;> decide) (by rcases h with h | h <;> rw [h] <;> decide)
    rw [show gI (ga 5) (Int32.ofNat p) = some P.2.2.2.1 by rw [gI_nat (by omega)]; exact g5, zg_s, show gI (ga 6) (Int32.ofNat p) = some P.2.2.2.2.1 by rw [gI_nat (by omega)]; exact g6, zg_s, mm h]
    by_cases e : P.2.2.2.1 = P.2.2.2.2.1
    · rw [if_neg (fun h => h e), if_pos e]; rfl
    · rw [if_pos e, if_neg e]; rfl
  rw [rT_candidates, e1, zg_s]
  by_cases k0 : P.1 = 0
  · rw [if_pos k0, if_pos (by rw [k0]; decide), m2 (by rw [k0]; decide) (by rw [k0]; decide) (by rw [k0]; decide)]; rfl
  rw [if_neg k0]
  by_cases k5 : P.1 = 5
  · rw [if_neg (fun h => h k5), if_pos (by rw [k5]; decide), m2 (by rw [k5]; decide) (by rw [k5]; decide) (by rw [k5]; decide)]; rfl
  rw [if_pos k5]
  by_cases k1 : P.1 = 1
  · rw [if_pos k1, two (Or.inl k1), if_pos (by rw [k1]; decide)]
  rw [if_neg k1]
  by_cases k3 : P.1 = 3
  · rw [if_neg (fun h => h k3), two (Or.inr k3), if_pos (by rw [k3]; decide)]
  rw [if_pos k3]
  by_cases k4 : P.1 = 4
  · obtain ⟨_, g6, _⟩ := g3 (by rw [k4]; decide) (by rw [k4]; decide) (by rw [k4]; decide)
    obtain ⟨_, hw⟩ := hw4 k4
    obtain ⟨_, _, _, _, _, _, _, _, _, _, _, hw0, _⟩ := hok9 p P hP
    rw [if_neg (fun h => h k4), show gI (ga 6) (Int32.ofNat p) = some P.2.2.2.2.1 by rw [gI_nat (by omega)]; exact g6, zg_s, if_pos (by rw [k4]; decide), m4 k4, yi_id hw0.1, hw]
  rw [if_pos k4]
  by_cases k2 : P.1 = 2
  · rw [if_neg (fun h => h k2), if_pos (by rw [k2]; decide), m2 k1 k3 k4]; rfl
  rw [if_pos k2, if_neg]
  · rfl
  · intro h5
    have hne : ∀ (c : Int32), P.1 ≠ c → P.1.toInt ≠ c.toInt := fun c hc h => hc (xi32_eq.mpr h)
    have z0 := hne 0 k0
    have z1 := hne 1 k1
    have z2 := hne 2 k2
    have z3 := hne 3 k3
    have z4 := hne 4 k4
    have z5 := hne 5 k5
    rw [show (0 : Int32).toInt = 0 from rfl] at z0
    rw [show (1 : Int32).toInt = 1 from rfl] at z1
    rw [show (2 : Int32).toInt = 2 from rfl] at z2
    rw [show (3 : Int32).toInt = 3 from rfl] at z3
    rw [show (4 : Int32).toInt = 4 from rfl] at z4
    rw [show (5 : Int32).toInt = 5 from rfl] at z5
    omega
theorem mnF_app {pre r : List Nat} {s : Nat} (h : s < pre.length) : mnF F (pre ++ r) s = mnF F pre s := by
  unfold mnF
  rw [List.getElem?_append_left h]
theorem r_pw (hF : fMr2 F gi ga vl) (hok : yFok F) (hl20 : F.1.length ≤ 20) : ∀ (k p n : Nat) (S : zS) (pre : List Nat) (j5 : List Int32), p + k = F.1.length → k < n → pre.length ≤ p → (zA S 5).length = 20 → (zA S 6).length = 20 → zA S 5 = pre.map Int32.ofNat ++ j5 → (∀ s, s < pre.length → (zA S 6)[s]? = some (Int32.ofNat (mnF F pre s))) → ∃ S', rT_partsWith_9 gi ga N n (Int32.ofNat pre.length) (Int32.ofNat p) S = some (Int32.ofNat (pre ++ plF F k p).length, S') ∧ plM F S' (pre ++ plF F k p) ∧ ((zA S' 5).length = 20 ∧ (zA S' 6).length = 20) ∧ (∀ j, zI S' j = zI S j) ∧ ∀ j, j ≠ 5 → j ≠ 6 → zA S' j = zA S j
  | _, _, 0, _, _, _, _, hn, _, _, _, _, _ => by omega
  | 0, p, n + 1, S, pre, j5, hp, _, _, l5, l6, h5, h6 => by
    rw [rT_partsWith_9, if_pos (by rw [hF.2.1.1, yi_nat (by omega), yi_nat (by omega)]; omega), show plF F 0 p = [] from rfl, List.append_nil]
    exact ⟨S, rfl, ⟨⟨j5, h5⟩, h6⟩, ⟨l5, l6⟩, fun _ => rfl, fun _ _ _ => rfl⟩
  | k + 1, p, n + 1, S, pre, j5, hp, hn, hpp, l5, l6, h5, h6 => by
    obtain ⟨P, hP⟩ : ∃ P, F.1[p]? = some P := ⟨_, List.getElem?_eq_getElem (by omega)⟩
    have hmp := mnP_le hok hP
    rw [rT_partsWith_9, if_neg (by rw [hF.2.1.1, yi_nat (by omega), yi_nat (by omega)]; omega), r_cands hF hok hP, zb_s, plF_s hP, yi_add1]
    by_cases hk5 : P.1.toInt ≤ 5
    · rw [if_pos hk5, if_pos hk5, ← List.append_assoc, if_neg (by rw [yi_nat (by omega)]; omega)]
      have l5' := l5
      rw [h5, List.length_append, List.length_map] at l5'
      cases j5 with
      | nil => rw [List.length_nil] at l5'; omega
      | cons x j5 =>
        have tp := yi_nat (i := pre.length) (by omega)
        have e5 : pre.map Int32.ofNat ++ Int32.ofNat p :: j5 = (pre ++ [p]).map Int32.ofNat ++ j5 := by rw [List.map_append, List.append_assoc]; rfl
        rw [if_pos ⟨by rw [tp]; omega, by rw [tp, l5]; omega⟩, if_pos ⟨by rw [tp]; omega, by rw [tp, l6]; omega⟩, zs, zs, yi_toNat (by omega), h5, List.set_append_right _ _ (by rw [List.length_map]; exact Nat.le_refl _), List.length_map, Nat.sub_self, List.set_cons_zero, yi_add1]
        have hlen1 : pre.length + 1 = (pre ++ [p]).length := by rw [List.length_append]; rfl
        obtain ⟨S', a1, a2, a3, a4, a5⟩ := r_pw hF hok hl20 k (p + 1) n (zsA (zsA S 5 (pre.map Int32.ofNat ++ Int32.ofNat p :: j5)) 6 ((zA S 6).set pre.length (Int32.ofNat (mnP P)))) (pre ++ [p]) j5 (by omega) (by omega) (by rw [← hlen1]; omega) (by show (pre.map Int32.ofNat ++ Int32.ofNat p :: j5).length = 20; rw [List.length_append, List.length_map, List.length_cons]; rw [List.length_cons] at l5'; omega) (by show ((zA S 6).set _ _).length = 20; rw [List.length_set]; exact l6) e5 (by
          intro s hs
          show ((zA S 6).set pre.length (Int32.ofNat (mnP P)))[s]? = _
          rw [← hlen1] at hs
          by_cases e : pre.length = s
          · subst e
            rw [List.getElem?_set_self (by omega), mnF, List.getElem?_append_right (Nat.le_refl _), Nat.sub_self]
            show some (Int32.ofNat (mnP P)) = some (Int32.ofNat (((F.1[p]?).map mnP).getD 0))
            rw [hP]
            rfl
          · rw [List.getElem?_set_ne e, mnF_app (by omega)]
            exact h6 s (by omega))
        rw [← hlen1] at a1
        refine ⟨S', a1, a2, a3, a4, fun j h1 h2 => ?_⟩
        rw [a5 j h1 h2]
        show zup (zup S.2.2.2.1 5 _) 6 _ j = S.2.2.2.1 j
        rw [zup_ne h2, zup_ne h1]
    · rw [if_neg hk5, if_neg hk5, List.nil_append, if_pos (by decide)]
      exact r_pw hF hok hl20 k (p + 1) n S pre j5 (by omega) (by omega) (by omega) l5 l6 h5 h6
/-- the reference finds the parts with candidates -/
theorem M_parts (hF : fMr2 F gi ga vl) (hok : yFok F) (hl20 : F.1.length ≤ 20) (hN : 20 < N) (hl : lnT S) : ∃ S', rT_partsWith gi ga N S = some (Int32.ofNat (plF F F.1.length 0).length, S') ∧ plM F S' (plF F F.1.length 0) ∧ lnT S' ∧ (∀ j, zI S' j = zI S j) ∧ ∀ j, j ≠ 5 → j ≠ 6 → zA S' j = zA S j := by
  obtain ⟨l5, l6, l7, l8, l9⟩ := hl
  obtain ⟨S', a1, a2, a3, a4, a5⟩ := r_pw (N := N) hF hok hl20 F.1.length 0 N S [] (zA S 5) (by omega) (by omega) (by simp) l5 l6 rfl (fun s hs => by rw [List.length_nil] at hs; omega)
  exact ⟨S', a1, a2, ⟨a3.1, a3.2, by rw [a5 7 (by omega) (by omega)]; exact l7, by rw [a5 8 (by omega) (by omega)]; exact l8, by rw [a5 9 (by omega) (by omega)]; exact l9⟩, a4, a5⟩
end PARTSM
