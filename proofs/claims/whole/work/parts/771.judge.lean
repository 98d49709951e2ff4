/-! JUDGING AN ANSWER: what is found; the class -/
def jdRows (w : Int32) : List (Option (List Int32)) → Int32
  | [] => 0
  | none :: _ => 1
  | some l :: r => if (l.length : Int) < w.toInt then 3 else if w.toInt < l.length then 8 else jdRows w r
def jdText : List Int64 → Int32
  | [] => 0
  | v :: r => if v.toInt < 32 ∨ 126 < v.toInt then 8 else jdText r
def jdEnt : List Int64 → Int32
  | [] => 0
  | v :: r => if v = -1 then 1 else jdEnt r
/-- 0, or the kind of a finding; 1, 2, 3 are FAILURES -/
def jdOne (P : yPt) (y : yO) : Int32 :=
  if ¬ okS (if P.1 = 10 then 7 else sOf P.1) y then 2
  else if P.1 = 10 then 0
  else if P.1 = 5 then (if (osz y : Int) < P.2.2.2.2.2.1.toInt then 3 else if P.2.2.2.2.2.1.toInt < osz y then 8 else if (truN y.2.1 : Int) < P.2.2.2.1.toInt ∨ P.2.2.2.2.1.toInt < truN y.2.1 then 8 else 0)
  else if P.1 = 6 then (if osz y = 0 ∨ P.2.2.2.2.1.toInt < osz y then 8 else jdText y.2.1)
  else if P.1 = 7 then (if osz y = 0 ∨ P.2.2.2.2.1.toInt < osz y then 8 else jdRows P.2.2.2.2.2.1 y.2.2)
  else if P.1 = 8 ∨ P.1 = 9 then (if P.2.2.2.2.1.toInt < osz y then 8 else jdEnt y.2.1)
  else if osz y = 0 then 3 else if osz y ≠ 1 then 8 else if ((y.2.1[0]?).getD 0).toInt < P.2.2.2.1.toInt ∨ P.2.2.2.2.1.toInt < ((y.2.1[0]?).getD 0).toInt then 8 else 0
abbrev jdE (c : Int32) : Prop := c = 1 ∨ c = 2 ∨ c = 3
def stC (S : zS) (c : Int32) : zS := if jdE c then flC S c else S
theorem stC_n {S : zS} {c : Int32} (h : ¬ jdE c) : stC S c = S := if_neg h
theorem stC_y {S : zS} {c : Int32} (h : jdE c) : stC S c = flC S c := if_pos h
/-- the class's form, all of it -/
def fC2 (F : yF) (gi : Nat → Int32) (ga : Nat → List Int32) : Prop := fC F gi ga ∧ (gi 0 = Int32.ofNat F.1.length ∧ gi 10 = Int32.ofNat F.2.2.1.length) ∧ (∀ (i : Nat) (P : yPt), F.1[i]? = some P → (ga 2)[i]? = some P.2.1 ∧ (ga 3)[i]? = some P.2.2.1 ∧ (P.1 ≠ 11 → (ga 4)[i]? = some P.2.2.2.1 ∧ (ga 5)[i]? = some P.2.2.2.2.1 ∧ (ga 6)[i]? = some P.2.2.2.2.2.1) ∧ (ga 7)[i]? = some P.2.2.2.2.2.2.2) ∧ ∀ (i : Nat) m n w, F.2.2.1[i]? = some (m, n, w) → (ga 11)[i]? = some m ∧ (ga 12)[i]? = some w
section JUDGEC
variable {gi : Nat → Int32} {ga : Nat → List Int32} {As : List (Option zO)} {ne : Int32} {am : List Int64} {N : Nat} {S : zS} {En : List (Int64 × Int32)} {o : zO} {y : yO} {P : yPt} {p : Nat}
theorem failing_C {c : Int32} (h : jdE c) : cE_failing gi ga As ne am N c S = some (c, stC S c) := by
  rw [cE_failing, fail_C, zbs, stC_y h]
theorem failing_Z {c : Int32} (h : jdE c) : (zb (cE_failing gi ga As ne am N c S) fun x S1 => some (x, S1)) = some (c, stC S c) := by
  rw [failing_C h, zbs]
theorem c_holds (h : hC o y) (hk : yOk En y) {i : Int32} : cE_holds gi ga As ne am N o i S = some (if 0 ≤ i.toInt ∧ i.toInt < osz y then 1 else 0, S) := by
  have hn := h.n hk
  unfold cE_holds
  by_cases h1 : i.toInt < 0
  · rw [if_pos h1, if_neg (by omega)]
  · rw [if_neg h1]
    by_cases h2 : i.toInt < osz y
    · rw [if_neg (by omega), if_pos ⟨by omega, h2⟩]
    · rw [if_pos (by omega), if_neg (by omega)]
theorem c_truesO (hN : 1000 < N) (h : hC o y) (hk : yOk En y) (h4 : y.1 ≠ 4) (h5 : y.1 ≠ 5) (h6 : y.1 ≠ 6) : cE_trues gi ga As ne am N o S = some (Int32.ofNat (truN y.2.1), S) := by
  obtain ⟨jk, ej, hil⟩ := h.2.2.1
  have ec : cit y = y.2.1 := by unfold cit; rw [if_neg (by omega)]
  have ez : osz y = y.2.1.length := by unfold osz; rw [if_neg h4]
  have h12 := osz_12 hk
  rw [ec] at ej
  have := c_trues (gi := gi) (ga := ga) (As := As) (ne := ne) (am := am) (N := N) (S := S) (o := o) y.2.1 [] jk N 0 (by rw [h.2.1, ez]; simp) (by rw [ej]; simp) hil (by omega)
  rw [Nat.zero_add] at this
  exact this
theorem truN_le : ∀ (l : List Int64), truN l ≤ l.length
  | [] => Nat.le_refl _
  | x :: r => by
    have := truN_le r
    rw [truN, List.length_cons]
    split <;> omega
theorem c_text (h : hC o y) (hk : yOk En y) (h3 : y.1 = 3) : ∀ (r pre : List Int64) (n : Nat), y.2.1 = pre ++ r → r.length < n → cE_faultOfText_11 gi ga As ne am N n o (Int32.ofNat pre.length) S = some (jdText r, S)
  | _, _, 0, _, hn => by omega
  | [], pre, n + 1, hy, _ => by
    have hsz := h.n hk
    have ez : osz y = y.2.1.length := by unfold osz; rw [if_neg (by omega)]
    have h12 := osz_12 hk
    rw [List.append_nil] at hy
    rw [cE_faultOfText_11, if_pos (by rw [hsz, ez, hy, yi_nat (by rw [← hy]; omega)]; omega), jdText]
  | x :: r, pre, n + 1, hy, hn => by
    have hsz := h.n hk
    have ez : osz y = y.2.1.length := by unfold osz; rw [if_neg (by omega)]
    have h12 := osz_12 hk
    have hlen : y.2.1.length = pre.length + (r.length + 1) := by rw [hy, List.length_append, List.length_cons]
    rw [List.length_cons] at hn
    have hx : y.2.1[pre.length]? = some x := by rw [hy, List.getElem?_append_right (Nat.le_refl _), Nat.sub_self]; rfl
    have hc := cit_at h (by omega) hx
    rw [if_neg (by omega)] at hc
    have ih := c_text h hk h3 r (pre ++ [x]) n (by rw [hy]; simp) (by omega)
    rw [List.length_append, List.length_singleton] at ih
    rw [cE_faultOfText_11, if_neg (by rw [hsz, yi_nat (by omega)]; omega), gI_nat (by omega), hc, zgs, jdText]
    by_cases c1 : x.toInt < 32
    · rw [if_pos c1, if_pos (Or.inl c1)]
    · rw [if_neg c1, zgs]
      by_cases c2 : x.toInt ≤ 126
      · rw [if_pos c2, if_neg (by omega), yi_add1]
        exact ih
      · rw [if_neg c2, if_pos (by omega)]
theorem c_ents (hE : En.length ≤ 100) (h : hC o y) (hk : yOk En y) (h5 : y.1 = 5 ∨ y.1 = 6) : ∀ (r pre : List Int64) (n : Nat), y.2.1 = pre ++ r → r.length < n → cE_faultOfEntries_8 gi ga As ne am N n o (Int32.ofNat pre.length) S = some (jdEnt r, stC S (jdEnt r))
  | _, _, 0, _, hn => by omega
  | [], pre, n + 1, hy, _ => by
    have hsz := h.n hk
    have ez : osz y = y.2.1.length := by unfold osz; rw [if_neg (by omega)]
    have h12 := osz_12 hk
    rw [List.append_nil] at hy
    rw [cE_faultOfEntries_8, if_pos (by rw [hsz, ez, hy, yi_nat (by rw [← hy]; omega)]; omega), jdEnt, stC_n (by decide)]
  | x :: r, pre, n + 1, hy, hn => by
    have hsz := h.n hk
    have ez : osz y = y.2.1.length := by unfold osz; rw [if_neg (by omega)]
    have h12 := osz_12 hk
    have hlen : y.2.1.length = pre.length + (r.length + 1) := by rw [hy, List.length_append, List.length_cons]
    rw [List.length_cons] at hn
    have hx : y.2.1[pre.length]? = some x := by rw [hy, List.getElem?_append_right (Nat.le_refl _), Nat.sub_self]; rfl
    have hc := cit_at h (by omega) hx
    rw [if_pos h5] at hc
    have ih := c_ents hE h hk h5 r (pre ++ [x]) n (by rw [hy]; simp) (by omega)
    rw [List.length_append, List.length_singleton] at ih
    rw [cE_faultOfEntries_8, if_neg (by rw [hsz, yi_nat (by omega)]; omega), gI_nat (by omega), hc, zgs, jdEnt]
    by_cases c1 : x = -1
    · rw [if_pos c1, c1, show cnv (-1) = -9 from rfl, if_neg (nn rfl)]
      exact failing_Z (Or.inl rfl)
    · have hne : cnv x ≠ -9 := by
        unfold cnv
        rw [if_neg c1]
        rcases it_ent hk (by omega) hx with h | ⟨n, e, he, rfl⟩
        · exact absurd h c1
        · intro hh
          have := (List.getElem?_eq_some_iff.mp he).1
          rw [xi64_eq, yl_nat (by omega), l_m9] at hh
          omega
      rw [if_neg c1, if_pos hne, yi_add1]
      exact ih
theorem c_rows (h : hC o y) (hk : yOk En y) (h4 : y.1 = 4) (hw : (ga 6)[p]? = some P.2.2.2.2.2.1) (hp : p < 20) : ∀ (r pre : List (Option (List Int32))) (n : Nat), y.2.2 = pre ++ r → r.length < n → cE_faultOfTable_14 gi ga As ne am N n (Int32.ofNat p) o (Int32.ofNat pre.length) S = some (jdRows P.2.2.2.2.2.1 r, stC S (jdRows P.2.2.2.2.2.1 r))
  | _, _, 0, _, hn => by omega
  | [], pre, n + 1, hy, _ => by
    have hsz := h.n hk
    have ez : osz y = y.2.2.length := by unfold osz; rw [if_pos h4]
    have h12 := osz_12 hk
    rw [List.append_nil] at hy
    rw [cE_faultOfTable_14, if_pos (by rw [hsz, ez, hy, yi_nat (by rw [← hy]; omega)]; omega), jdRows, stC_n (by decide)]
  | x :: r, pre, n + 1, hy, hn => by
    have hsz := h.n hk
    have ez : osz y = y.2.2.length := by unfold osz; rw [if_pos h4]
    have h12 := osz_12 hk
    have hlen : y.2.2.length = pre.length + (r.length + 1) := by rw [hy, List.length_append, List.length_cons]
    rw [List.length_cons] at hn
    have hx : y.2.2[pre.length]? = some x := by rw [hy, List.getElem?_append_right (Nat.le_refl _), Nat.sub_self]; rfl
    have ih := c_rows h hk h4 hw hp r (pre ++ [x]) n (by rw [hy]; simp) (by omega)
    rw [List.length_append, List.length_singleton] at ih
    rw [cE_faultOfTable_14, if_neg (by rw [hsz, yi_nat (by omega)]; omega), gI_nat (by omega), h.2.2.2 h4, hx, zgs]
    rcases x with _ | l
    · exact failing_Z (gi := gi) (ga := ga) (As := As) (ne := ne) (am := am) (N := N) (c := 1) (Or.inl rfl)
    · have hl6 : l.length ≤ 6 := (hk.2.1 h4).2.2 l (List.mem_of_getElem? hx)
      have el := yi_nat (i := l.length) (by omega)
      show (zg (gI (ga 6) (Int32.ofNat p)) _) = some (if (l.length : Int) < P.2.2.2.2.2.1.toInt then 3 else if P.2.2.2.2.2.1.toInt < l.length then 8 else jdRows P.2.2.2.2.2.1 r, stC S (if (l.length : Int) < P.2.2.2.2.2.1.toInt then 3 else if P.2.2.2.2.2.1.toInt < l.length then 8 else jdRows P.2.2.2.2.2.1 r))
      rw [gI_nat (by omega), hw, zgs, zgs, el]
      by_cases c1 : (l.length : Int) < P.2.2.2.2.2.1.toInt
      · rw [if_neg (by omega), if_pos c1]
        exact failing_Z (Or.inr (Or.inr rfl))
      · rw [if_pos (by omega), if_neg c1]
        by_cases c2 : P.2.2.2.2.2.1.toInt < l.length
        · rw [if_neg (by omega), if_pos c2, stC_n (by decide)]
        · rw [if_pos (by omega), if_neg c2, yi_add1]
          exact ih
/-- what is found of an answer -/
theorem c_fault (hE : En.length ≤ 100) (hN : 1000 < N) {F : yF} (hF : fC2 F gi ga) (hp20 : F.1.length ≤ 20) (hP : F.1[p]? = some P) (hkd : 0 ≤ P.1.toInt ∧ P.1.toInt ≤ 10) (hb : BdOk P.1 P.2.2.2.1 P.2.2.2.2.1 P.2.2.2.2.2.1) (h : hC o y) (hk : yOk En y) : cE_faultOf gi ga As ne am N (Int32.ofNat p) (some o) S = some (jdOne P y, stC S (jdOne P y)) := by
  have hpl := (List.getElem?_eq_some_iff.mp hP).1
  have hne11 : P.1 ≠ 11 := fun hh => by rw [hh] at hkd; exact absurd hkd (by decide)
  obtain ⟨_, _, g4, _⟩ := hF.2.2.1 p P hP
  obtain ⟨g4, g5, g6⟩ := g4 hne11
  have g1 := hF.1.2.2.1 p P hP
  have hsz := h.n hk
  have h12 := osz_12 hk
  have x1 : gI (ga 1) (Int32.ofNat p) = some P.1 := by rw [gI_nat (by omega)]; exact g1
  have x4 : gI (ga 4) (Int32.ofNat p) = some P.2.2.2.1 := by rw [gI_nat (by omega)]; exact g4
  have x5 : gI (ga 5) (Int32.ofNat p) = some P.2.2.2.2.1 := by rw [gI_nat (by omega)]; exact g5
  have x6 : gI (ga 6) (Int32.ofNat p) = some P.2.2.2.2.2.1 := by rw [gI_nat (by omega)]; exact g6
  have hs7 : (if P.1 = 10 then 7 else sOf P.1) ≤ 7 := by
    have := sOf_le (k := P.1)
    split <;> omega
  have e26 : cE_faultOf gi ga As ne am N (Int32.ofNat p) (some o) S = cE_faultOf_26 gi ga As ne am N (Int32.ofNat p) o P.1 o (Int32.ofNat (if P.1 = 10 then 7 else sOf P.1)) S := by
    unfold cE_faultOf
    show (zg (gI (ga 1) (Int32.ofNat p)) _) = _
    rw [x1, zgs]
    by_cases h10 : P.1 = 10
    · rw [if_neg (nn h10), if_pos h10]
      rfl
    · rw [if_pos h10, if_neg h10, xas_at hkd, zgs]
  rw [e26, cE_faultOf_26, c_isOf hs7 h hk, zbs]
  unfold jdOne
  by_cases hs : okS (if P.1 = 10 then 7 else sOf P.1) y
  · rw [if_pos hs, if_pos (show (1 : Int32) ≠ 0 by decide), if_neg (nn hs)]
    have single : ∀ (hkk : P.1 ≠ 5) (h6 : P.1 ≠ 6) (h7 : P.1 ≠ 7) (h8 : P.1 ≠ 8) (h9 : P.1 ≠ 9) (h10 : P.1 ≠ 10), y.1 ≠ 4 ∧ y.1 ≠ 5 ∧ y.1 ≠ 6 := by
      intro a b c d e f
      rw [if_neg f] at hs
      have : sOf P.1 = 0 ∨ sOf P.1 = 1 ∨ sOf P.1 = 2 := by
        rcases kind_cases hkd with q | q | q | q | q | q | q | q | q | q | q <;> rw [q] at a b c d e f ⊢ <;> first | exact absurd rfl a | exact absurd rfl b | exact absurd rfl c | exact absurd rfl d | exact absurd rfl e | exact absurd rfl f | decide
      rcases hs with q | q <;> omega
    by_cases k10 : P.1 = 10
    · rw [if_neg (by rw [k10]; decide), if_neg (by rw [k10]; decide), if_neg (by rw [k10]; decide), if_neg (by rw [k10]; decide), if_neg (by rw [k10]; decide), if_pos k10, if_pos k10, stC_n (by decide)]
    rw [if_neg k10] at hs
    rw [if_neg (show ¬ P.1 = 10 from k10), if_neg (show ¬ P.1 = 10 from k10)]
    by_cases k5 : P.1 = 5
    · rw [if_pos k5, if_pos k5, zb_id, cE_faultOfMany, x6, zgs, c_holds h hk, zbs]
      have hy : y.1 = 0 := by
        rw [k5] at hs
        rcases hs with q | q
        · exact q
        · exact absurd q.2 (by decide)
      have hw1 := hb.2.2.2.2.2.1 k5
      have e1 : (1 : Int32).toInt = 1 := rfl
      have ew : (P.2.2.2.2.2.1 - 1).toInt = P.2.2.2.2.2.1.toInt - 1 := by
        have := hb.2.2.2.2.2.2.2.2
        rw [yi_sub (by omega) (by omega), e1]
      rw [ew]
      by_cases c1 : (osz y : Int) < P.2.2.2.2.2.1.toInt
      · rw [if_neg (show ¬ (0 ≤ P.2.2.2.2.2.1.toInt - 1 ∧ P.2.2.2.2.2.1.toInt - 1 < (osz y : Int)) by omega), if_neg (nn rfl), if_pos c1]
        exact failing_Z (Or.inr (Or.inr rfl))
      · rw [if_pos (show 0 ≤ P.2.2.2.2.2.1.toInt - 1 ∧ P.2.2.2.2.2.1.toInt - 1 < (osz y : Int) by omega), if_pos (show (1 : Int32) ≠ 0 by decide), if_neg c1, c_truesO hN h hk (by omega) (by omega) (by omega), zbs, hsz]
        have et : (Int32.ofNat (truN y.2.1)).toInt = truN y.2.1 := by
          have := truN_le y.2.1
          have ez : osz y = y.2.1.length := by unfold osz; rw [if_neg (by omega)]
          rw [yi_nat (by omega)]
        by_cases c2 : P.2.2.2.2.2.1.toInt < osz y
        · rw [if_pos c2, if_pos c2, stC_n (by decide)]
        · rw [if_neg c2, if_neg c2, x4, zgs, et]
          by_cases c3 : (truN y.2.1 : Int) < P.2.2.2.1.toInt
          · rw [if_pos c3, if_pos (Or.inl c3), stC_n (by decide)]
          · rw [if_neg c3, x5, zgs]
            by_cases c4 : (truN y.2.1 : Int) ≤ P.2.2.2.2.1.toInt
            · rw [if_pos c4, if_neg (by omega), stC_n (by decide)]
            · rw [if_neg c4, if_pos (by omega), stC_n (by decide)]
    rw [if_neg k5, if_neg k5]
    by_cases k6 : P.1 = 6
    · rw [if_pos k6, if_pos k6, x5, zgs, zb_id, cE_faultOfText, hsz]
      have hy : y.1 = 3 := by
        rw [k6] at hs
        rcases hs with q | q
        · exact q
        · exact absurd q.2 (by decide)
      have e0 : (o.2.1 = 0) ↔ osz y = 0 := by rw [xi32_eq, hsz, show (0 : Int32).toInt = 0 from rfl]; omega
      have ez : osz y = y.2.1.length := by unfold osz; rw [if_neg (by omega)]
      by_cases c1 : osz y = 0
      · rw [if_pos (e0.mpr c1), if_pos (Or.inl c1), stC_n (by decide)]
      · rw [if_neg (fun hh => c1 (e0.mp hh))]
        by_cases c2 : (osz y : Int) ≤ P.2.2.2.2.1.toInt
        · have ht := c_text (gi := gi) (ga := ga) (As := As) (ne := ne) (am := am) (N := N) (S := S) h hk hy y.2.1 [] N rfl (by omega)
          have ht : cE_faultOfText_11 gi ga As ne am N N o 0 S = some (jdText y.2.1, S) := ht
          rw [if_pos c2, ht, if_neg (by omega), stC_n]
          have : ∀ l : List Int64, ¬ jdE (jdText l) := by
            intro l
            induction l with
            | nil => decide
            | cons x r ih =>
              rw [jdText]
              split
              · decide
              · exact ih
          exact this _
        · rw [if_neg c2, if_pos (by omega), stC_n (by decide)]
    rw [if_neg k6, if_neg k6]
    by_cases k7 : P.1 = 7
    · rw [if_pos k7, if_pos k7, zb_id, cE_faultOfTable, hsz]
      have hy : y.1 = 4 := by
        rw [k7] at hs
        rcases hs with q | q
        · exact q
        · exact absurd q.2 (by decide)
      have e0 : (o.2.1 = 0) ↔ osz y = 0 := by rw [xi32_eq, hsz, show (0 : Int32).toInt = 0 from rfl]; omega
      have ez : osz y = y.2.2.length := by unfold osz; rw [if_pos hy]
      by_cases c1 : osz y = 0
      · rw [if_pos (e0.mpr c1), if_pos (Or.inl c1), stC_n (by decide)]
      · rw [if_neg (fun hh => c1 (e0.mp hh)), x5, zgs]
        by_cases c2 : (osz y : Int) ≤ P.2.2.2.2.1.toInt
        · rw [if_pos c2, if_neg (by omega)]
          exact c_rows h hk hy g6 (by omega) y.2.2 [] N rfl (by omega)
        · rw [if_neg c2, if_pos (by omega), stC_n (by decide)]
    rw [if_neg k7, if_neg k7]
    by_cases k89 : P.1 = 8 ∨ P.1 = 9
    · have hy : y.1 = 5 ∨ y.1 = 6 := by
        rcases k89 with q | q <;> rw [q] at hs
        · rcases hs with z | z
          · exact Or.inl z
          · exact Or.inr z.1
        · rcases hs with z | z
          · exact Or.inr z
          · exact absurd z.2 (by decide)
      have ez : osz y = y.2.1.length := by unfold osz; rw [if_neg (by omega)]
      have body : (zg (gI (ga 5) (Int32.ofNat p)) fun x20 => (zb (cE_faultOfEntries gi ga As ne am N o x20 S) fun x21 S22 => some (x21, S22))) = some (if P.2.2.2.2.1.toInt < (osz y : Int) then 8 else jdEnt y.2.1, stC S (if P.2.2.2.2.1.toInt < (osz y : Int) then 8 else jdEnt y.2.1)) := by
        rw [x5, zgs, zb_id, cE_faultOfEntries, hsz]
        by_cases c2 : (osz y : Int) ≤ P.2.2.2.2.1.toInt
        · rw [if_pos c2, if_neg (show ¬ P.2.2.2.2.1.toInt < (osz y : Int) by omega)]
          exact c_ents hE h hk hy y.2.1 [] N rfl (by omega)
        · rw [if_neg c2, if_pos (show P.2.2.2.2.1.toInt < (osz y : Int) by omega), stC_n (by decide)]
      rw [if_pos k89]
      by_cases k8 : P.1 = 8
      · rw [if_pos k8]; exact body
      · rw [if_neg k8, if_pos (k89.resolve_left k8)]; exact body
    have k8 : ¬ P.1 = 8 := fun q => k89 (Or.inl q)
    have k9 : ¬ P.1 = 9 := fun q => k89 (Or.inr q)
    rw [if_neg k8, if_neg k9, if_neg k89, zb_id, cE_faultOfSingle, c_holds h hk, zbs]
    obtain ⟨n4, n5, n6⟩ := single k5 k6 k7 k8 k9 k10
    have ez : osz y = y.2.1.length := by unfold osz; rw [if_neg n4]
    rw [show (0 : Int32).toInt = 0 from rfl]
    by_cases c1 : osz y = 0
    · rw [if_neg (show ¬ ((0 : Int) ≤ 0 ∧ (0 : Int) < (osz y : Int)) by omega), if_neg (nn rfl), if_pos c1]
      exact failing_Z (Or.inr (Or.inr rfl))
    · rw [if_pos (show (0 : Int) ≤ 0 ∧ (0 : Int) < (osz y : Int) by omega), if_pos (show (1 : Int32) ≠ 0 by decide), if_neg c1]
      have hv := List.getElem?_eq_getElem (l := y.2.1) (i := 0) (by omega)
      generalize hvv : y.2.1[0]'(by omega) = v at hv
      have hc := cit_at h n4 hv
      rw [if_neg (by omega)] at hc
      have x0 : gI o.2.2.1 0 = some v := by show gI o.2.2.1 (Int32.ofNat 0) = _; rw [gI_nat (by omega)]; exact hc
      have e1 : (o.2.1 = 1) ↔ osz y = 1 := by rw [xi32_eq, hsz, show (1 : Int32).toInt = 1 from rfl]; omega
      rw [x0, zgs, hv]
      by_cases c2 : osz y = 1
      · rw [if_neg (nn (e1.mpr c2)), if_neg (nn c2), x4, zgs, Int32.toInt_toInt64]
        show (if v.toInt < P.2.2.2.1.toInt then some (8, S) else _) = some (if v.toInt < P.2.2.2.1.toInt ∨ P.2.2.2.2.1.toInt < v.toInt then 8 else 0, stC S (if v.toInt < P.2.2.2.1.toInt ∨ P.2.2.2.2.1.toInt < v.toInt then 8 else 0))
        by_cases c3 : v.toInt < P.2.2.2.1.toInt
        · rw [if_pos c3, if_pos (Or.inl c3), stC_n (by decide)]
        · rw [if_neg c3, x5, zgs, Int32.toInt_toInt64]
          by_cases c4 : v.toInt ≤ P.2.2.2.2.1.toInt
          · rw [if_pos c4, if_neg (by omega), stC_n (by decide)]
          · rw [if_neg c4, if_pos (by omega), stC_n (by decide)]
      · rw [if_pos (fun hh => c2 (e1.mp hh)), if_pos c2, stC_n (by decide)]
  · rw [if_neg hs, if_neg (nn rfl), if_pos hs]
    exact failing_Z (Or.inr (Or.inl rfl))
end JUDGEC
