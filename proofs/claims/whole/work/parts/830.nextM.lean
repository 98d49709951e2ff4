/-! SEARCH: the next filling; the reference -/
theorem yi_inj {a b : Nat} (ha : a < 2147483648) (hb : b < 2147483648) (h : Int32.ofNat a = Int32.ofNat b) : a = b := by
  have := congrArg Int32.toInt h
  rw [yi_nat ha, yi_nat hb] at this
  omega
section NEXTM
variable {gi : Nat → Int32} {ga : Nat → List Int32} {N : Nat} {F : yF} {S : zS} {pl sr cr : List Nat}
/-- the choices go on, or all are 0 -/
theorem r_adv {mn : Nat → Nat} {pc : Nat} (hpc : pc ≤ 20) (hmn : ∀ s, mn s ≤ 8) (hmp : ∀ s, s < pc → 0 < mn s) : ∀ (ss cs : List Nat) (n : Nat) (S : zS) (t7 t8 : List Int32), ss.length < n → ss.length ≤ 20 → (∀ s ∈ ss, s < pc) → vlC mn ss cs → (∀ s, s < pc → (zA S 6)[s]? = some (Int32.ofNat (mn s))) → zA S 7 = arr ss t7 → zA S 8 = arr cs t8 → match advR mn ss cs with
    | some r => ∃ S', rT_isNext_5 gi ga N n (idx ss.length) S = some (1, S') ∧ zA S' 8 = arr r t8 ∧ fr1 8 S S'
    | none => ∃ S', rT_isNext_5 gi ga N n (idx ss.length) S = rT_isNext_28 gi ga N (idx 0) S' ∧ zA S' 8 = arr (List.replicate cs.length 0) t8 ∧ fr1 8 S S'
  | [], [], n, S, t7, t8, hn, _, _, _, _, _, h8 => by
    obtain ⟨k, rfl⟩ : ∃ k, n = k + 1 := ⟨n - 1, by rw [List.length_nil] at hn; omega⟩
    refine ⟨S, ?_, h8, fr1.rf⟩
    show rT_isNext_5 gi ga N (k + 1) (idx 0) S = _
    rw [rT_isNext_5, if_pos (by rw [idx_0]; decide)]
  | [], _ :: _, _, _, _, _, _, _, _, hv, _, _, _ => hv.elim
  | s :: ss, [], _, _, _, _, _, _, _, hv, _, _, _ => hv.elim
  | s :: ss, c :: cs, 0, _, _, _, hn, _, _, _, _, _, _ => by omega
  | s :: ss, c :: cs, n + 1, S, t7, t8, hn, h20, hs, ⟨hc, hv⟩, h6, h7, h8 => by
    rw [List.length_cons] at hn h20
    have hl := hv.len
    have hsl := hs s List.mem_cons_self
    have hm8 := hmn s
    have hm0 := hmp s hsl
    rw [arr_cons] at h7 h8
    have e8 : gI (zA S 8) (Int32.ofNat ss.length) = some (Int32.ofNat c) := by rw [h8, hl]; exact arr_get (by omega)
    have e7 : gI (zA S 7) (Int32.ofNat ss.length) = some (Int32.ofNat s) := by rw [h7]; exact arr_get (by omega)
    have e6 : gI (zA S 6) (Int32.ofNat s) = some (Int32.ofNat (mn s)) := by rw [gI_nat (by omega)]; exact h6 s hsl
    have hst : rT_isNext_5 gi ga N (n + 1) (Int32.ofNat ss.length) S = (if Int32.ofNat c ≠ (Int32.ofNat (mn s) - 1) then rT_isNext_28 gi ga N (Int32.ofNat ss.length) S else (if zok (zA S 8) (Int32.ofNat ss.length) then (rT_isNext_5 gi ga N n) (Int32.ofNat ss.length + (-1)) (zsA S 8 (zs (zA S 8) (Int32.ofNat ss.length) 0)) else none)) := by
      rw [rT_isNext_5, if_neg (by rw [yi_nat (by omega)]; omega), e8, zg_s, e7, zg_s, e6, zg_s]
    rw [List.length_cons, idx_s, hst, advR, show Int32.ofNat (mn s) - 1 = Int32.ofNat (mn s - 1) from yi_subn hm0]
    by_cases hlt : c + 1 < mn s
    · rw [if_pos hlt, if_pos (by intro h; have := yi_inj (by omega) (by omega) h; omega), rT_isNext_28, if_neg (by rw [yi_nat (by omega)]; omega), e8, zg_s, hl, h8, if_pos (arr_ok (by omega)), yi_add1, arr_put (by omega)]
      exact ⟨_, rfl, by rw [arr_cons]; rfl, fr1.st⟩
    · rw [if_neg hlt, if_neg (by intro h; exact h (by congr 1; omega)), hl, h8, if_pos (arr_ok (by omega)), arr_put (by omega), idx_p]
      have ih := r_adv hpc hmn hmp ss cs n (zsA S 8 (arr cs (0 :: t8))) (Int32.ofNat s :: t7) (0 :: t8) (by omega) (by omega) (fun s hs2 => hs s (List.mem_cons_of_mem _ hs2)) hv h6 h7 rfl
      rw [hl] at ih
      rcases hr : advR mn ss cs with _ | r
      · rw [hr] at ih
        obtain ⟨S', a1, a2, a3⟩ := ih
        refine ⟨S', a1, ?_, fr1.st.tr a3⟩
        rw [a2, List.length_cons, List.replicate_succ, arr_cons]
        rfl
      · rw [hr] at ih
        obtain ⟨S', a1, a2, a3⟩ := ih
        refine ⟨S', a1, ?_, fr1.st.tr a3⟩
        rw [a2]
        show arr r (0 :: t8) = arr (0 :: r) t8
        rw [arr_cons]
        rfl
/-- choices made 0 -/
theorem r_128 {m : Nat} (hm : m ≤ 20) : ∀ (t i n : Nat) (S : zS) (t8 : List Int32), i + t = m → t < n → t ≤ t8.length → zI S 3 = Int32.ofNat m → zA S 8 = arr (List.replicate i 0) t8 → ∃ S', rT_isNext_128 gi ga N n (Int32.ofNat i) S = some (1, S') ∧ zA S' 8 = arr (List.replicate m 0) (t8.drop t) ∧ fr1 8 S S'
  | _, _, 0, _, _, _, hn, _, _, _ => by omega
  | 0, i, n + 1, S, t8, hi, _, _, h3, h8 => by
    have e : i = m := by omega
    subst e
    refine ⟨S, ?_, h8, fr1.rf⟩
    rw [rT_isNext_128, if_pos (by rw [h3]; exact Int.le_refl _)]
  | t + 1, i, n + 1, S, t8, hi, hn, l8, h3, h8 => by
    obtain ⟨y, t8', rfl⟩ : ∃ x tl', t8 = x :: tl' := by
      cases t8 with
      | nil => rw [List.length_nil] at l8; omega
      | cons x tl' => exact ⟨x, tl', rfl⟩
    rw [List.length_cons] at l8
    have o8 := arr_ok (r := List.replicate i 0) (x := y) (t := t8') (by rw [List.length_replicate]; omega)
    have p8 := arr_put (r := List.replicate i 0) (x := y) (v := 0) (t := t8') (by rw [List.length_replicate]; omega)
    rw [List.length_replicate] at o8 p8
    rw [rT_isNext_128, if_neg (by rw [h3, yi_nat (by omega), yi_nat (by omega)]; omega), h8, if_pos o8, p8, yi_add1]
    obtain ⟨S', a1, a2, a3⟩ := r_128 hm t (i + 1) n (zsA S 8 (arr (List.replicate i 0) (0 :: t8'))) t8' (by omega) (by omega) (by omega) h3 (by rw [List.replicate_succ]; exact arr_cons.symm)
    exact ⟨S', a1, a2, fr1.st.tr a3⟩
/-- two rows may change -/
def fr2 (S S' : zS) : Prop := (∀ j, zI S' j = zI S j) ∧ ∀ j, j ≠ 7 → j ≠ 8 → zA S' j = zA S j
theorem r_108 {m : Nat} (hm : m ≤ 20) (hN : 20 < N) : ∀ (t : Nat) (l : List Nat) (n : Nat) (S : zS) (tl : List Int32), l ≠ [] → l.length + t = m → t < n → t ≤ tl.length → m ≤ (zA S 8).length → zI S 3 = Int32.ofNat m → zA S 7 = arr l tl → ∃ S', rT_isNext_108 gi ga N n (Int32.ofNat l.length) S = some (1, S') ∧ zA S' 7 = arr (extR l t) (tl.drop t) ∧ zA S' 8 = arr (List.replicate m 0) ((zA S 8).drop m) ∧ fr2 S S'
  | _, _, 0, _, _, _, _, hn, _, _, _, _ => by omega
  | 0, l, n + 1, S, tl, hne, hm2, _, _, l8, h3, h7 => by
    obtain ⟨S', a1, a2, a3⟩ := r_128 (gi := gi) (ga := ga) (N := N) hm m 0 N S (zA S 8) (by omega) (by omega) l8 h3 rfl
    refine ⟨S', ?_, (a3.2 7 (by omega)).trans h7, a2, a3.1, fun j _ h8 => a3.2 j h8⟩
    rw [rT_isNext_108, if_pos (by rw [h3, yi_nat (by omega), yi_nat (by omega)]; omega)]
    exact a1
  | t + 1, l, n + 1, S, tl, hne, hm2, hn, ht, l8, h3, h7 => by
    obtain ⟨x, tl', rfl⟩ : ∃ x tl', tl = x :: tl' := by
      cases tl with
      | nil => rw [List.length_nil] at ht; omega
      | cons x tl' => exact ⟨x, tl', rfl⟩
    obtain ⟨a, l', rfl⟩ : ∃ a l', l = a :: l' := by
      cases l with
      | nil => exact absurd rfl hne
      | cons a l' => exact ⟨a, l', rfl⟩
    have e1 : gI (zA S 7) (Int32.ofNat (a :: l').length - 1) = some (Int32.ofNat a) := by
      rw [h7, arr_cons, List.length_cons, yi_s1]
      exact arr_get (by rw [List.length_cons] at hm2; omega)
    rw [rT_isNext_108, if_neg (by rw [h3, yi_nat (by omega), yi_nat (by omega)]; omega), e1, zg_s, h7, if_pos (arr_ok (by omega)), arr_put (by omega), yi_add1, yi_add1]
    obtain ⟨S', a1, a2, a3, a4⟩ := r_108 hm hN t ((a + 1) :: a :: l') n (zsA S 7 (arr (a :: l') (Int32.ofNat (a + 1) :: tl'))) tl' (by simp) (by rw [List.length_cons]; omega) (by omega) (by rw [List.length_cons] at ht; omega) l8 h3 arr_cons.symm
    refine ⟨S', a1, a2, a3, a4.1, fun j h7 h8 => ?_⟩
    rw [a4.2 j h7 h8]
    exact zup_ne h7
/-- the next set, or none -/
theorem r_next {m pc : Nat} (hm8 : m ≤ pc) (hpc : pc ≤ 20) (hN : 20 < N) : ∀ (ss : List Nat) (t n : Nat) (S : zS) (tl : List Int32), ss.length + t = m → ss.length < n → t ≤ tl.length → vlS pc t ss → m ≤ (zA S 8).length → zI S 4 = Int32.ofNat pc → zI S 3 = Int32.ofNat m → zA S 7 = arr ss tl → match nxR pc t ss with
    | some r => ∃ S', rT_isNext_45 gi ga N n (idx ss.length) S = some (1, S') ∧ zA S' 7 = arr r (tl.drop t) ∧ zA S' 8 = arr (List.replicate m 0) ((zA S 8).drop m) ∧ fr2 S S'
    | none => rT_isNext_45 gi ga N n (idx ss.length) S = rT_isNext_61 gi ga N (idx 0) S
  | _, _, 0, _, _, _, hn, _, _, _, _, _, _ => by omega
  | [], t, n + 1, S, tl, hm, _, _, _, _, _, _, _ => by
    show rT_isNext_45 gi ga N (n + 1) (idx 0) S = _
    rw [rT_isNext_45, if_pos (by rw [idx_0]; decide)]
  | s :: ss, t, n + 1, S, tl, hm, hn, ht, ⟨v1, v2, v3⟩, l8, h4, h3, h7 => by
    rw [List.length_cons] at hm hn
    have h7' := h7
    rw [arr_cons] at h7'
    have e7 : gI (zA S 7) (Int32.ofNat ss.length) = some (Int32.ofNat s) := by rw [h7']; exact arr_get (by omega)
    have hlim : ((zI S 4 - zI S 3) + Int32.ofNat ss.length) = Int32.ofNat (pc - t - 1) := by
      rw [h3, h4, yi_subn hm8, ← Int32.ofNat_add]
      congr 1; omega
    rw [List.length_cons, idx_s, rT_isNext_45, if_neg (by rw [yi_nat (by omega)]; omega), e7, zg_s, hlim, nxR]
    by_cases hlt : s < pc - t - 1
    · rw [if_pos hlt, if_pos (by intro h; have := yi_inj (by omega) (by omega) h; omega), rT_isNext_61, if_pos (by rw [yi_nat (by omega)]; omega), e7, zg_s, h7', if_pos (arr_ok (by omega)), arr_put (by omega), yi_add1, yi_add1]
      obtain ⟨S', a1, a2, a3, a4⟩ := r_108 (gi := gi) (ga := ga) (N := N) (m := m) (by omega) hN t ((s + 1) :: ss) N (zsA S 7 (arr ss (Int32.ofNat (s + 1) :: tl))) tl (by simp) (by rw [List.length_cons]; omega) (by omega) ht l8 h3 arr_cons.symm
      refine ⟨S', a1, a2, a3, a4.1, fun j h7 h8 => ?_⟩
      rw [a4.2 j h7 h8]
      exact zup_ne h7
    · rw [if_neg hlt, if_neg (by intro h; exact h (by congr 1; omega)), idx_p]
      have ih := r_next hm8 hpc hN ss (t + 1) n S (Int32.ofNat s :: tl) (by omega) (by omega) (by rw [List.length_cons]; omega) v3 l8 h4 h3 h7'
      rcases hr : nxR pc (t + 1) ss with _ | r
      · rw [hr] at ih
        exact ih
      · rw [hr] at ih
        exact ih
theorem r_first {m : Nat} (hm : m ≤ 20) : ∀ (t i n : Nat) (S : zS) (t7 t8 : List Int32), i + t = m → t < n → t ≤ t7.length → t ≤ t8.length → zI S 3 = Int32.ofNat m → zA S 7 = arr (rgR i) t7 → zA S 8 = arr (List.replicate i 0) t8 → ∃ S', rT_isNext_78 gi ga N n (Int32.ofNat i) S = some (1, S') ∧ zA S' 7 = arr (rgR m) (t7.drop t) ∧ zA S' 8 = arr (List.replicate m 0) (t8.drop t) ∧ fr2 S S'
  | _, _, 0, _, _, _, _, hn, _, _, _, _, _ => by omega
  | 0, i, n + 1, S, t7, t8, hi, _, _, _, h3, h7, h8 => by
    have e : i = m := by omega
    subst e
    refine ⟨S, ?_, h7, h8, fun _ => rfl, fun _ _ _ => rfl⟩
    rw [rT_isNext_78, if_pos (by rw [h3]; exact Int.le_refl _)]
  | t + 1, i, n + 1, S, t7, t8, hi, hn, l7, l8, h3, h7, h8 => by
    obtain ⟨x, t7', rfl⟩ : ∃ x tl', t7 = x :: tl' := by
      cases t7 with
      | nil => rw [List.length_nil] at l7; omega
      | cons x tl' => exact ⟨x, tl', rfl⟩
    obtain ⟨y, t8', rfl⟩ : ∃ x tl', t8 = x :: tl' := by
      cases t8 with
      | nil => rw [List.length_nil] at l8; omega
      | cons x tl' => exact ⟨x, tl', rfl⟩
    rw [List.length_cons] at l7 l8
    have o6 := arr_ok (r := rgR i) (x := x) (t := t7') (by rw [rgR_len]; omega)
    have o7 := arr_ok (r := List.replicate i 0) (x := y) (t := t8') (by rw [List.length_replicate]; omega)
    have p6 := arr_put (r := rgR i) (x := x) (v := Int32.ofNat i) (t := t7') (by rw [rgR_len]; omega)
    have p7 := arr_put (r := List.replicate i 0) (x := y) (v := 0) (t := t8') (by rw [List.length_replicate]; omega)
    rw [rgR_len] at o6 p6
    rw [List.length_replicate] at o7 p7
    rw [rT_isNext_78, if_neg (by rw [h3, yi_nat (by omega), yi_nat (by omega)]; omega), h7, if_pos o6, h8, if_pos o7, p6, p7, yi_add1]
    obtain ⟨S', a1, a2, a3, a4⟩ := r_first hm t (i + 1) n (zsA (zsA S 7 (arr (rgR i) (Int32.ofNat i :: t7'))) 8 (arr (List.replicate i 0) (0 :: t8'))) t7' t8' (by omega) (by omega) (by omega) (by omega) h3 arr_cons.symm (by rw [List.replicate_succ]; exact arr_cons.symm)
    refine ⟨S', a1, a2, a3, a4.1, fun j hj6 hj7 => ?_⟩
    rw [a4.2 j hj6 hj7]
    show zup (zup S.2.2.2.1 7 _) 8 _ j = S.2.2.2.1 j
    rw [zup_ne hj7, zup_ne hj6]
/-- lengths of the reference's rows -/
def lnT (S : zS) : Prop := (zA S 5).length = 20 ∧ (zA S 6).length = 20 ∧ (zA S 7).length = 9 ∧ (zA S 8).length = 9 ∧ (zA S 9).length = 9
/-- the parts with candidates, in the reference -/
def plM (F : yF) (S : zS) (pl : List Nat) : Prop := (∃ j5, zA S 5 = pl.map Int32.ofNat ++ j5) ∧ ∀ s, s < pl.length → (zA S 6)[s]? = some (Int32.ofNat (mnF F pl s))
/-- where the reference's search stands -/
def stM2 (F : yF) (S : zS) (pl sr cr : List Nat) : Prop := zI S 4 = Int32.ofNat pl.length ∧ zI S 3 = Int32.ofNat sr.length ∧ pl.length ≤ 8 ∧ lnT S ∧ plM F S pl ∧ (∃ t7, zA S 7 = arr sr t7) ∧ (∃ t8, zA S 8 = arr cr t8) ∧ plOk F pl ∧ vlF (mnF F pl) pl.length sr cr
theorem M_next (hok : yFok F) (hN : 20 < N) (h : stM2 F S pl sr cr) : match advS (mnF F pl) pl.length sr cr with
    | some q => ∃ S', rT_isNext gi ga N S = some (1, S') ∧ stM2 F S' pl q.1 q.2 ∧ (∀ j, j ≠ 3 → zI S' j = zI S j) ∧ zA S' 9 = zA S 9
    | none => ∃ S', rT_isNext gi ga N S = some (0, S') ∧ lnT S' ∧ plM F S' pl ∧ (∀ j, j ≠ 3 → zI S' j = zI S j) ∧ zA S' 9 = zA S 9 := by
  obtain ⟨h4, h3, h8, ⟨l5, l6, l7, l8, l9⟩, ⟨⟨j5, h5⟩, h6⟩, ⟨t7, h7⟩, ⟨t8, h8a⟩, hpk, hv⟩ := h
  have hlen := hv.2.len
  have hle := hv.1.le (Nat.zero_le _)
  have hpos : ∀ s, s < pl.length → 0 < mnF F pl s := fun s hs => mnF_pos hok hpk hs
  have A := r_adv (gi := gi) (ga := ga) (N := N) (by omega) (mnF_le hok pl) hpos sr cr N S t7 t8 (by omega) (by omega) hv.1.lt hv.2 h6 h7 h8a
  have hadv := @vlF.adv (mnF F pl) pl.length sr cr
  unfold advS at hadv ⊢
  have hst0 : rT_isNext gi ga N S = rT_isNext_5 gi ga N N (idx sr.length) S := by rw [rT_isNext, h3]; rfl
  rw [hst0]
  have l7b := l7
  rw [h7, arr_len] at l7b
  have l8b := l8
  rw [h8a, arr_len] at l8b
  rcases h1 : advR (mnF F pl) sr cr with _ | c
  · rw [h1] at A hadv
    obtain ⟨S1, a1, a2, a3⟩ := A
    have ln8 : (zA S1 8).length = 9 := by rw [a2, arr_len, List.length_replicate]; omega
    have B := r_next (gi := gi) (ga := ga) (N := N) (m := sr.length) (pc := pl.length) (by omega) (by omega) hN sr 0 N S1 t7 (by omega) (by omega) (by omega) hv.1 (by omega) ((a3.1 4).trans h4) ((a3.1 3).trans h3) ((a3.2 7 (by omega)).trans h7)
    have hst1 : rT_isNext_28 gi ga N (idx 0) S1 = rT_isNext_45 gi ga N N (idx sr.length) S1 := by
      rw [rT_isNext_28, if_pos (by rw [idx_0]; decide), show zI S1 3 - 1 = idx sr.length by rw [a3.1 3, h3]; rfl]
    rcases h2 : nxR pl.length 0 sr with _ | s
    · rw [h2] at B hadv
      show match (if sr.length < pl.length then some (rgR (sr.length + 1), List.replicate (sr.length + 1) 0) else none) with
        | some q => _
        | none => _
      have B : rT_isNext_45 gi ga N N (idx sr.length) S1 = rT_isNext_61 gi ga N (idx 0) S1 := B
      have hst2 : rT_isNext_61 gi ga N (idx 0) S1 = (if ((zI S1 3) + 1).toInt ≤ (zI S1 4).toInt then rT_isNext_78 gi ga N N 0 (zsI S1 3 ((zI S1 3) + 1)) else some (0, (zsI S1 3 ((zI S1 3) + 1)))) := by
        rw [rT_isNext_61, if_neg (by rw [idx_0]; decide)]
      by_cases hlt : sr.length < pl.length
      · have hadv := hadv (s' := rgR (sr.length + 1)) (c' := List.replicate (sr.length + 1) 0) hpos hv (if_pos hlt)
        rw [if_pos hlt]
        rw [if_pos (by rw [a3.1 3, a3.1 4, h3, h4, yi_add1, yi_nat (by omega), yi_nat (by omega)]; omega)] at hst2
        have e7 : zA S1 7 = arr (rgR 0) (zA S1 7) := rfl
        have e8 : zA S1 8 = arr (List.replicate 0 0) (zA S1 8) := rfl
        have ln7 : (zA S1 7).length = 9 := by rw [a3.2 7 (by omega)]; exact l7
        obtain ⟨S', b1, b2, b3, b4⟩ := r_first (gi := gi) (ga := ga) (N := N) (m := sr.length + 1) (by omega) (sr.length + 1) 0 N (zsI S1 3 (zI S1 3 + 1)) (zA S1 7) (zA S1 8) (by omega) (by omega) (by omega) (by omega) (by show zI S1 3 + 1 = _; rw [a3.1 3, h3, yi_add1]) e7 e8
        refine ⟨S', by rw [a1, hst1, B, hst2]; exact b1, ?_, ?_, ?_⟩
        · refine ⟨?_, ?_, h8, ⟨?_, ?_, ?_, ?_, ?_⟩, ⟨⟨j5, ?_⟩, ?_⟩, ⟨_, b2⟩, ⟨_, b3⟩, hpk, hadv⟩
          · rw [b4.1 4]; exact (a3.1 4).trans h4
          · rw [b4.1 3, rgR_len]
            show zI S1 3 + 1 = _
            rw [a3.1 3, h3, yi_add1]
          · rw [b4.2 5 (by omega) (by omega)]; exact (congrArg List.length (a3.2 5 (by omega))).trans l5
          · rw [b4.2 6 (by omega) (by omega)]; exact (congrArg List.length (a3.2 6 (by omega))).trans l6
          · rw [b2, arr_len, rgR_len, List.length_drop]; omega
          · rw [b3, arr_len, List.length_replicate, List.length_drop]; omega
          · rw [b4.2 9 (by omega) (by omega)]; exact (congrArg List.length (a3.2 9 (by omega))).trans l9
          · rw [b4.2 5 (by omega) (by omega)]; exact (a3.2 5 (by omega)).trans h5
          · intro q hq
            rw [b4.2 6 (by omega) (by omega)]
            show (zA S1 6)[q]? = _
            rw [a3.2 6 (by omega)]
            exact h6 q hq
        · intro j hj
          rw [b4.1 j]
          show zup S1.1 3 _ j = S.1 j
          rw [zup_ne hj]
          exact a3.1 j
        · rw [b4.2 9 (by omega) (by omega)]; exact a3.2 9 (by omega)
      · rw [if_neg hlt]
        rw [if_neg (by rw [a3.1 3, a3.1 4, h3, h4, yi_add1, yi_nat (by omega), yi_nat (by omega)]; omega)] at hst2
        refine ⟨zsI S1 3 (zI S1 3 + 1), by rw [a1, hst1, B, hst2], ⟨?_, ?_, ?_, ln8, ?_⟩, ⟨⟨j5, (a3.2 5 (by omega)).trans h5⟩, ?_⟩, ?_, a3.2 9 (by omega)⟩
        · show (zA S1 5).length = 20
          rw [a3.2 5 (by omega)]; exact l5
        · show (zA S1 6).length = 20
          rw [a3.2 6 (by omega)]; exact l6
        · show (zA S1 7).length = 9
          rw [a3.2 7 (by omega)]; exact l7
        · show (zA S1 9).length = 9
          rw [a3.2 9 (by omega)]; exact l9
        · intro q hq
          show (zA S1 6)[q]? = _
          rw [a3.2 6 (by omega)]
          exact h6 q hq
        · intro j hj
          show zup S1.1 3 _ j = S.1 j
          rw [zup_ne hj]
          exact a3.1 j
    · rw [h2] at B hadv
      have hadv := hadv (s' := s) (c' := List.replicate sr.length 0) hpos hv rfl
      obtain ⟨S', b1, b2, b3, b4⟩ := B
      have hsl := nxR_len sr 0 s h2
      refine ⟨S', by rw [a1, hst1, b1], ?_, fun j _ => (b4.1 j).trans (a3.1 j), (b4.2 9 (by omega) (by omega)).trans (a3.2 9 (by omega))⟩
      refine ⟨?_, ?_, h8, ⟨?_, ?_, ?_, ?_, ?_⟩, ⟨⟨j5, ?_⟩, ?_⟩, ⟨_, b2⟩, ⟨_, b3⟩, hpk, hadv⟩
      · exact (b4.1 4).trans ((a3.1 4).trans h4)
      · show _ = Int32.ofNat s.length
        rw [b4.1 3, a3.1 3, h3, hsl]
        rfl
      · rw [b4.2 5 (by omega) (by omega), a3.2 5 (by omega)]; exact l5
      · rw [b4.2 6 (by omega) (by omega), a3.2 6 (by omega)]; exact l6
      · rw [b2, arr_len, List.length_drop, hsl]; omega
      · rw [b3, arr_len, List.length_replicate, List.length_drop, ln8]; omega
      · rw [b4.2 9 (by omega) (by omega), a3.2 9 (by omega)]; exact l9
      · rw [b4.2 5 (by omega) (by omega), a3.2 5 (by omega)]; exact h5
      · intro q hq
        rw [b4.2 6 (by omega) (by omega), a3.2 6 (by omega)]
        exact h6 q hq
  · rw [h1] at A hadv
    obtain ⟨S', a1, a2, a3⟩ := A
    have hadv := hadv (s' := sr) (c' := c) hpos hv rfl
    have hcl := advR_len sr cr c h1
    refine ⟨S', a1, ?_, fun j _ => a3.1 j, a3.2 9 (by omega)⟩
    refine ⟨(a3.1 4).trans h4, (a3.1 3).trans h3, h8, ⟨?_, ?_, ?_, ?_, ?_⟩, ⟨⟨j5, ?_⟩, ?_⟩, ⟨t7, ?_⟩, ⟨t8, a2⟩, hpk, hadv⟩
    · rw [a3.2 5 (by omega)]; exact l5
    · rw [a3.2 6 (by omega)]; exact l6
    · rw [a3.2 7 (by omega)]; exact l7
    · rw [a2, arr_len, hcl]; omega
    · rw [a3.2 9 (by omega)]; exact l9
    · rw [a3.2 5 (by omega)]; exact h5
    · intro q hq
      rw [a3.2 6 (by omega)]
      exact h6 q hq
    · rw [a3.2 7 (by omega)]; exact h7
end NEXTM
