/-! JUDGING AN ANSWER: the reference -/
def stM (S : zS) (c : Int32) : zS := if jdE c then flM S c else S
theorem stM_n {S : zS} {c : Int32} (h : ¬ jdE c) : stM S c = S := if_neg h
theorem stM_y {S : zS} {c : Int32} (h : jdE c) : stM S c = flM S c := if_pos h
/-- the reference's form, all of it -/
def fMr2 (F : yF) (gi : Nat → Int32) (ga : Nat → List Int32) (vl : List Int64) : Prop := fMr F ga vl ∧ (gi 0 = Int32.ofNat F.1.length ∧ gi 12 = Int32.ofNat F.2.2.1.length) ∧ ((ga 5).length = 20 ∧ (ga 6).length = 20 ∧ (ga 7).length = 20) ∧ (∀ (i : Nat) (P : yPt), F.1[i]? = some P → (ga 3)[i]? = some P.2.1 ∧ (ga 4)[i]? = some P.2.2.1 ∧ (P.1 ≠ 0 → P.1 ≠ 10 → P.1 ≠ 11 → (ga 5)[i]? = some P.2.2.2.1 ∧ (ga 6)[i]? = some P.2.2.2.2.1 ∧ (P.1 ≠ 4 → (ga 7)[i]? = some P.2.2.2.2.2.1)) ∧ (ga 8)[i]? = some P.2.2.2.2.2.2.1) ∧ ∀ (i : Nat) m n w, F.2.2.1[i]? = some (m, n, w) → (ga 13)[i]? = some m ∧ (ga 14)[i]? = some n
def rowC (x : Option (List Int32)) (j : Int32) : Int64 ⊕ Int32 := match x with
  | none => .inr 1
  | some l => match gI l j with
    | none => .inr 3
    | some q => .inl q.toInt64
section JUDGEM
variable {gi : Nat → Int32} {ga : Nat → List Int32} {vl : List Int64} {Bs : List (Option zH)} {am : List Int64} {N : Nat} {S : zS} {En : List (Int64 × Int32)} {o : zH} {y : yO} {P : yPt} {p : Nat} {dr : Int32}
theorem r_text (h : hM o y) (hk : yOk En y) (h3 : y.1 = 3) : ∀ (r pre : List Int64) (n : Nat) (b : Int32), y.2.1 = pre ++ r → r.length + 1 < n → rF_judged_127 gi ga vl Bs am N n o b (Int32.ofNat pre.length) S = some (if b = 0 then 8 else jdText r, S)
  | _, _, 0, _, _, hn => by omega
  | [], pre, n + 1, b, hy, _ => by
    have hsz := h.n hk
    have ez : osz y = y.2.1.length := by unfold osz; rw [if_neg (by omega)]
    have h12 := osz_12 hk
    rw [List.append_nil] at hy
    rw [rF_judged_127, if_pos (by rw [hsz, ez, hy, yi_nat (by rw [← hy]; omega)]; omega), jdText]
    split <;> rfl
  | x :: r, pre, n + 1, b, hy, hn => by
    have hsz := h.n hk
    have ez : osz y = y.2.1.length := by unfold osz; rw [if_neg (by omega)]
    have h12 := osz_12 hk
    have hlen : y.2.1.length = pre.length + (r.length + 1) := by rw [hy, List.length_append, List.length_cons]
    rw [List.length_cons] at hn
    have hx : y.2.1[pre.length]? = some x := by rw [hy, List.getElem?_append_right (Nat.le_refl _), Nat.sub_self]; rfl
    obtain ⟨jk, ej⟩ := h.2.2.1
    have hc : o.2.2.1[pre.length]? = some x := by rw [ej, List.getElem?_append_left (by omega)]; exact hx
    have ih := fun b => r_text h hk h3 r (pre ++ [x]) n b (by rw [hy]; simp) (by omega)
    rw [List.length_append, List.length_singleton] at ih
    rw [rF_judged_127, if_neg (by rw [hsz, yi_nat (by omega)]; omega)]
    by_cases hb : b = 0
    · rw [if_pos hb, if_pos hb, if_pos hb]
    · rw [if_neg hb, if_neg hb, gI_nat (by omega), hc, zgs, r_in, zbs, yi_add1, ih, jdText, show (32 : Int64).toInt = 32 from rfl, show (126 : Int64).toInt = 126 by decide]
      by_cases c : x.toInt < 32 ∨ 126 < x.toInt
      · rw [if_neg (show ¬ (32 ≤ x.toInt ∧ x.toInt ≤ 126) by omega), if_pos rfl, if_pos c]
      · rw [if_pos (show 32 ≤ x.toInt ∧ x.toInt ≤ 126 by omega), if_neg (show ¬ (1 : Int32) = 0 by decide), if_neg c]
theorem r_ents (hE : eM En am) (h : hM o y) (hk : yOk En y) (h5 : y.1 = 5 ∨ y.1 = 6) (h2 : zI S 2 = 0) : ∀ (r pre : List Int64) (n : Nat), y.2.1 = pre ++ r → r.length + 1 < n → rF_judged_170 gi ga vl Bs am N n o (Int32.ofNat pre.length) S = some (jdEnt r, stM S (jdEnt r))
  | _, _, 0, _, hn => by omega
  | [], pre, n + 1, hy, _ => by
    have hsz := h.n hk
    have ez : osz y = y.2.1.length := by unfold osz; rw [if_neg (by omega)]
    have h12 := osz_12 hk
    rw [List.append_nil] at hy
    rw [rF_judged_170, if_pos (by rw [hsz, ez, hy, yi_nat (by rw [← hy]; omega)]; omega), jdEnt, stM_n (by decide), h2]
  | x :: r, pre, n + 1, hy, hn => by
    have hsz := h.n hk
    have ez : osz y = y.2.1.length := by unfold osz; rw [if_neg (by omega)]
    have h12 := osz_12 hk
    have hlen : y.2.1.length = pre.length + (r.length + 1) := by rw [hy, List.length_append, List.length_cons]
    rw [List.length_cons] at hn
    have hx : y.2.1[pre.length]? = some x := by rw [hy, List.getElem?_append_right (Nat.le_refl _), Nat.sub_self]; rfl
    have ih := r_ents hE h hk h5 h2 r (pre ++ [x]) n (by rw [hy]; simp) (by omega)
    rw [List.length_append, List.length_singleton] at ih
    have hw : wthR En y (Int32.ofNat pre.length) = if x = -1 then .inr 1 else .inl (amt En x) := by
      unfold wthR
      rw [if_neg (nn (by rw [yi_nat (by omega)]; omega)), if_neg (by omega), if_neg (by omega), gI_nat (by omega), hx]
      rfl
    have I := r_itemOf (gi := gi) (ga := ga) (vl := vl) (Bs := Bs) (N := N) (S := S) hE h hk (i := Int32.ofNat pre.length)
    rw [hw] at I
    rw [rF_judged_170, if_neg (by rw [hsz, yi_nat (by omega)]; omega), if_neg (nn h2), jdEnt]
    by_cases c1 : x = -1
    · rw [if_pos c1] at I ⊢
      obtain ⟨_, v, I⟩ := I
      rw [I, zbs, stM_y (Or.inl rfl)]
      obtain ⟨n, rfl⟩ : ∃ q, n = q + 1 := ⟨n - 1, by omega⟩
      rw [rF_judged_170]
      split
      · rfl
      · rw [if_pos (show zI (flM S 1) 2 ≠ 0 by show (1 : Int32) ≠ 0; decide)]
        rfl
    · rw [if_neg c1] at I ⊢
      replace I : rF_itemOf gi ga vl Bs am N o (Int32.ofNat pre.length).toInt64 S = some (amt En x, S) := I
      rw [I, zbs, yi_add1]
      exact ih
theorem r_rows (h : hM o y) (hk : yOk En y) (h4 : y.1 = 4) (h2 : zI S 2 = 0) {w : Int32} (hw : 1 ≤ w.toInt ∧ w.toInt ≤ 8) : ∀ (r pre : List (Option (List Int32))) (n : Nat), y.2.2 = pre ++ r → r.length < n → rF_judgedRows_12 gi ga vl Bs am N n o w (Int32.ofNat pre.length) S = some (jdRows w r, stM S (jdRows w r))
  | _, _, 0, _, hn => by omega
  | [], pre, n + 1, hy, _ => by
    have hsz := h.n hk
    have ez : osz y = y.2.2.length := by unfold osz; rw [if_pos h4]
    have h12 := osz_12 hk
    rw [List.append_nil] at hy
    rw [rF_judgedRows_12, if_pos (by rw [hsz, ez, hy, yi_nat (by rw [← hy]; omega)]; omega), jdRows, stM_n (by decide)]
  | x :: r, pre, n + 1, hy, hn => by
    have hsz := h.n hk
    have ez : osz y = y.2.2.length := by unfold osz; rw [if_pos h4]
    have h12 := osz_12 hk
    have hlen : y.2.2.length = pre.length + (r.length + 1) := by rw [hy, List.length_append, List.length_cons]
    rw [List.length_cons] at hn
    have hx : y.2.2[pre.length]? = some x := by rw [hy, List.getElem?_append_right (Nat.le_refl _), Nat.sub_self]; rfl
    have ih := r_rows h hk h4 h2 hw r (pre ++ [x]) n (by rw [hy]; simp) (by omega)
    rw [List.length_append, List.length_singleton] at ih
    have I := r_cellAt (gi := gi) (ga := ga) (vl := vl) (Bs := Bs) (am := am) (N := N) (S := S) h hk h4 (i := Int32.ofNat pre.length) (j := w - 1)
    have e1 : (1 : Int32).toInt = 1 := rfl
    have ew : (w - 1).toInt = w.toInt - 1 := by rw [yi_sub (by omega) (by omega), e1]
    rw [rF_judgedRows_12, if_neg (by rw [hsz, yi_nat (by omega)]; omega)]
    have hcel : celR y (Int32.ofNat pre.length) (w - 1) = rowC x (w - 1) := by
      unfold celR
      rw [if_neg (nn (by rw [yi_nat (by omega)]; omega)), gI_nat (by omega), hx]
      rfl
    rw [hcel] at I
    rcases x with _ | l
    · obtain ⟨_, v, I⟩ := I
      rw [I, zbs, if_neg (show ¬ zI (flM S 1) 2 = 0 by show ¬ (1 : Int32) = 0; decide)]
      show _ = some (1, stM S 1)
      rw [stM_y (Or.inl rfl)]
      rfl
    · have hl6 : l.length ≤ 6 := (hk.2.1 h4).2.2 l (List.mem_of_getElem? hx)
      have el := yi_nat (i := l.length) (by omega)
      show _ = some (if (l.length : Int) < w.toInt then 3 else if w.toInt < l.length then 8 else jdRows w r, stM S (if (l.length : Int) < w.toInt then 3 else if w.toInt < l.length then 8 else jdRows w r))
      by_cases c1 : (l.length : Int) < w.toInt
      · have g : gI l (w - 1) = none := by rw [gI, if_pos (by omega), List.getElem?_eq_none (by omega)]
        replace I : Km (match gI l (w - 1) with | none => (.inr 3 : Int64 ⊕ Int32) | some q => .inl q.toInt64) S (rF_cellAt gi ga vl Bs am N o (Int32.ofNat pre.length) (w - 1) S) := I
        rw [g] at I
        obtain ⟨_, v, I⟩ := I
        rw [I, zbs, if_neg (show ¬ zI (flM S 3) 2 = 0 by show ¬ (3 : Int32) = 0; decide), if_pos c1, stM_y (Or.inr (Or.inr rfl))]
        rfl
      · have g : gI l (w - 1) = some (l[(w - 1).toInt.toNat]'(by omega)) := by rw [gI, if_pos (by omega), List.getElem?_eq_getElem]
        replace I : Km (match gI l (w - 1) with | none => (.inr 3 : Int64 ⊕ Int32) | some q => .inl q.toInt64) S (rF_cellAt gi ga vl Bs am N o (Int32.ofNat pre.length) (w - 1) S) := I
        rw [g] at I
        replace I : rF_cellAt gi ga vl Bs am N o (Int32.ofNat pre.length) (w - 1) S = some (_, S) := I
        rw [I, zbs, if_pos h2, gI_nat (by omega), h.2.2.2.1 pre.length _ hx, zgs, if_neg c1]
        show (if (Int32.ofNat l.length).toInt ≤ w.toInt then _ else _) = _
        rw [el]
        by_cases c2 : w.toInt < l.length
        · rw [if_neg (by omega), if_pos c2, stM_n (by decide)]
        · rw [if_pos (by omega), if_neg c2, yi_add1]
          exact ih
theorem as_same {o o' : zH} {v2 : Int32} {S' : zS} (h : (zo (some o) ((zb (rF_fails gi ga vl Bs am N 1 S) fun x5 S6 => (if (zI S6 2) = (0 : Int32) then some (none, S6) else some (none, S6)))) fun o4 => (if o4.1 = v2 then (if (zI S 2) = (0 : Int32) then some ((some o4), S) else some (none, S)) else (if v2 ≠ (5 : Int32) then (zb (rF_fails gi ga vl Bs am N 2 S) fun x8 S9 => (if (zI S9 2) = (0 : Int32) then some ((some o4), S9) else some (none, S9))) else (if o4.1 = (6 : Int32) then (if (zI S 2) = (0 : Int32) then some ((some o4), S) else some (none, S)) else (zb (rF_fails gi ga vl Bs am N 2 S) fun x11 S12 => (if (zI S12 2) = (0 : Int32) then some ((some o4), S12) else some (none, S12))))))) = some (some o', S')) : o' = o := by
  replace h : (if o.1 = v2 then (if (zI S 2) = (0 : Int32) then some ((some o), S) else some (none, S)) else (if v2 ≠ (5 : Int32) then (zb (rF_fails gi ga vl Bs am N 2 S) fun x8 S9 => (if (zI S9 2) = (0 : Int32) then some ((some o), S9) else some (none, S9))) else (if o.1 = (6 : Int32) then (if (zI S 2) = (0 : Int32) then some ((some o), S) else some (none, S)) else (zb (rF_fails gi ga vl Bs am N 2 S) fun x11 S12 => (if (zI S12 2) = (0 : Int32) then some ((some o), S12) else some (none, S12)))))) = some (some o', S') := h
  have fin : ∀ S1, (if zI S1 2 = 0 then some (some o, S1) else some (none, S1)) = some (some o', S') → o' = o := by
    intro S1 h
    split at h
    · cases h; rfl
    · cases h
  split at h
  · exact fin _ h
  split at h
  · rw [fails_M, zbs] at h
    exact fin _ h
  split at h
  · exact fin _ h
  · rw [fails_M, zbs] at h
    exact fin _ h
theorem r_judged (hE : eM En am) (hN : 1000 < N) {F : yF} (hF : fMr2 F gi ga vl) (hp20 : F.1.length ≤ 20) (hP : F.1[p]? = some P) (hkd : 0 ≤ P.1.toInt ∧ P.1.toInt ≤ 10) (hb : BdOk P.1 P.2.2.2.1 P.2.2.2.2.1 P.2.2.2.2.2.1) (hd : zI S 1 = dr) (hz : gI Bs (20 * dr + Int32.ofNat p) = some (some o)) (h : hM o y) (hk : yOk En y) : rF_judged gi ga vl Bs am N (Int32.ofNat p) S = some (jdOne P y, stM (zsI S 2 0) (jdOne P y)) := by
  have hpl := (List.getElem?_eq_some_iff.mp hP).1
  have hne11 : P.1 ≠ 11 := fun hh => by rw [hh] at hkd; exact absurd hkd (by decide)
  obtain ⟨_, _, g4, _⟩ := hF.2.2.2.1 p P hP
  obtain ⟨l5, l6, l7⟩ := hF.2.2.1
  have g2 := hF.1.1 p P hP
  have hsz := h.n hk
  have h12 := osz_12 hk
  have x2 : gI (ga 2) (Int32.ofNat p) = some P.1 := by rw [gI_nat (by omega)]; exact g2
  obtain ⟨lo', x5⟩ : ∃ v, gI (ga 5) (Int32.ofNat p) = some v := ⟨_, by rw [gI_nat (by omega)]; exact List.getElem?_eq_getElem (by omega)⟩
  obtain ⟨hi', x6⟩ : ∃ v, gI (ga 6) (Int32.ofNat p) = some v := ⟨_, by rw [gI_nat (by omega)]; exact List.getElem?_eq_getElem (by omega)⟩
  have elo : P.1 ≠ 0 → P.1 ≠ 10 → lo' = P.2.2.2.1 ∧ hi' = P.2.2.2.2.1 := by
    intro a b
    obtain ⟨q1, q2, _⟩ := g4 a b hne11
    rw [gI_nat (by omega), q1] at x5
    rw [gI_nat (by omega), q2] at x6
    exact ⟨(Option.some.inj x5).symm, (Option.some.inj x6).symm⟩
  have x7 : P.1 ≠ 0 → P.1 ≠ 10 → P.1 ≠ 4 → gI (ga 7) (Int32.ofNat p) = some P.2.2.2.2.2.1 := by
    intro a b c
    rw [gI_nat (by omega)]
    exact (g4 a b hne11).2.2 c
  have hs7 : (if P.1 = 10 then 7 else sOf P.1) ≤ 7 := by
    have := sOf_le (k := P.1)
    split <;> omega
  generalize hS0 : zsI S 2 0 = S0
  have h20 : zI S0 2 = 0 := by rw [← hS0]; rfl
  have hd0 : zI S0 1 = dr := by rw [← hS0]; exact hd
  have e30 : rF_judged gi ga vl Bs am N (Int32.ofNat p) S = rF_judged_30 gi ga vl Bs am N (Int32.ofNat p) P.1 lo' hi' (Int32.ofNat p) (Int32.ofNat (if P.1 = 10 then 7 else sOf P.1)) S0 := by
    unfold rF_judged
    rw [x2, zgs, x5, zgs, x6, zgs, hS0]
    by_cases h10 : P.1 = 10
    · rw [if_neg (nn h10), if_pos h10]
      rfl
    · rw [if_pos h10, if_neg h10, r_sortOf hkd, zbs]
  rw [e30, rF_judged_30]
  have A := r_as (gi := gi) (ga := ga) (vl := vl) (am := am) (N := N) (En := En) (yy := some y) (s := if P.1 = 10 then 7 else sOf P.1) hs7 hd0 h20 hz ⟨h, hk⟩
  rw [asR_some] at A
  unfold jdOne
  by_cases hs : okS (if P.1 = 10 then 7 else sOf P.1) y
  · rw [if_pos hs] at A
    obtain ⟨o', A1, A2, A3, _⟩ := A
    -- the same object
    have hoo : o' = o := by
      unfold rF_as at A1
      rw [r_answer hd0 hz, zbs] at A1
      exact as_same (gi := gi) (ga := ga) (vl := vl) (Bs := Bs) (am := am) (N := N) A1
    subst hoo
    rw [A1, zbs, if_neg (nn hs)]
    show (if zI S0 2 ≠ 0 then some (zI S0 2, S0) else _) = _
    rw [if_neg (nn h20)]
    by_cases k10 : P.1 = 10
    · rw [if_neg (nn k10), if_pos k10, stM_n (by decide), h20]
    rw [if_neg k10] at hs
    rw [if_pos k10, if_neg k10]
    have e1 : (1 : Int32).toInt = 1 := rfl
    by_cases k5 : P.1 = 5
    · have hy : y.1 = 0 := by
        rw [k5] at hs
        rcases hs with q | q
        · exact q
        · exact absurd q.2 (by decide)
      obtain ⟨rfl, rfl⟩ := elo (by rw [k5]; decide) k10
      have x7' := x7 (by rw [k5]; decide) k10 (by rw [k5]; decide)
      have hw1 := hb.2.2.2.2.2.1 k5
      have hw8 := hb.2.2.2.2.2.2.2.2
      have ew : (P.2.2.2.2.2.1 - 1).toInt = P.2.2.2.2.2.1.toInt - 1 := by rw [yi_sub (by omega) (by omega), e1]
      rw [if_pos (by rw [k5]; decide), if_neg (nn k5), if_pos k5, x7', zgs]
      have I := r_itemOf (gi := gi) (ga := ga) (vl := vl) (Bs := Bs) (N := N) (S := S0) hE h hk (i := P.2.2.2.2.2.1 - 1)
      have ez : osz y = y.2.1.length := by unfold osz; rw [if_neg (by omega)]
      by_cases c1 : (osz y : Int) < P.2.2.2.2.2.1.toInt
      · have hw : wthR En y (P.2.2.2.2.2.1 - 1) = .inr 3 := by unfold wthR; rw [if_pos (by omega)]
        rw [hw] at I
        obtain ⟨_, v, I⟩ := I
        rw [I, zbs, if_neg (show ¬ zI (flM S0 3) 2 = 0 by show ¬ (3 : Int32) = 0; decide), if_pos c1, stM_y (Or.inr (Or.inr rfl))]
        rfl
      · have hw : ∃ v, wthR En y (P.2.2.2.2.2.1 - 1) = .inl v := by
          unfold wthR
          rw [if_neg (nn (by omega)), if_neg (by omega), if_pos (by omega)]
          exact ⟨_, rfl⟩
        obtain ⟨v, hw⟩ := hw
        rw [hw] at I
        replace I : rF_itemOf gi ga vl Bs am N o' (P.2.2.2.2.2.1 - 1).toInt64 S0 = some (v, S0) := I
        have et : (Int32.ofNat (truN y.2.1)).toInt64.toInt = truN y.2.1 := by
          have := truN_le y.2.1
          rw [Int32.toInt_toInt64, yi_nat (by omega)]
        obtain ⟨jk, ej⟩ := h.2.2.1
        have ht : rF_trueOf gi ga vl Bs am N o' S0 = some (Int32.ofNat (truN y.2.1), S0) := by
          have := r_trues (gi := gi) (ga := ga) (vl := vl) (Bs := Bs) (am := am) (N := N) (S := S0) (o := o') y.2.1 [] jk N 0 (by rw [h.2.1, ez]; simp) (by rw [ej]; simp) (by simp; omega) (by omega)
          rw [Nat.zero_add] at this
          exact this
        rw [I, zbs, if_pos h20, zgs, if_neg c1, hsz]
        by_cases c2 : P.2.2.2.2.2.1.toInt < osz y
        · rw [if_pos c2, if_pos c2, stM_n (by decide)]
        · rw [if_neg c2, if_neg c2, ht, zbs, r_in, zbs, et, Int32.toInt_toInt64, Int32.toInt_toInt64]
          by_cases c3 : (truN y.2.1 : Int) < P.2.2.2.1.toInt ∨ P.2.2.2.2.1.toInt < truN y.2.1
          · rw [if_neg (show ¬ (P.2.2.2.1.toInt ≤ (truN y.2.1 : Int) ∧ (truN y.2.1 : Int) ≤ P.2.2.2.2.1.toInt) by omega), if_neg (nn rfl), if_pos c3, stM_n (by decide)]
          · rw [if_pos (show P.2.2.2.1.toInt ≤ (truN y.2.1 : Int) ∧ (truN y.2.1 : Int) ≤ P.2.2.2.2.1.toInt by omega), if_pos (show (1 : Int32) ≠ 0 by decide), if_neg c3, stM_n (by decide)]
    rw [if_neg k5]
    by_cases k6 : P.1 = 6
    · have hy : y.1 = 3 := by
        rw [k6] at hs
        rcases hs with q | q
        · exact q
        · exact absurd q.2 (by decide)
      obtain ⟨rfl, rfl⟩ := elo (by rw [k6]; decide) k10
      have ez : osz y = y.2.1.length := by unfold osz; rw [if_neg (by omega)]
      rw [if_pos (by rw [k6]; decide), if_pos (by rw [k6]; decide), if_neg (nn k6), if_pos k6, r_in, zbs, Int32.toInt_toInt64, Int32.toInt_toInt64, hsz, show (1 : Int64).toInt = 1 from rfl]
      have ht := fun b => r_text (gi := gi) (ga := ga) (vl := vl) (Bs := Bs) (am := am) (N := N) (S := S0) h hk hy y.2.1 [] N b rfl (by omega)
      have nt : ∀ l : List Int64, ¬ jdE (jdText l) := by
        intro l
        induction l with
        | nil => decide
        | cons x r ih =>
          rw [jdText]
          split
          · decide
          · exact ih
      by_cases c1 : osz y = 0 ∨ P.2.2.2.2.1.toInt < osz y
      · have ht := ht 0
        rw [if_neg (show ¬ ((1 : Int) ≤ (osz y : Int) ∧ (osz y : Int) ≤ P.2.2.2.2.1.toInt) by omega), if_pos c1, stM_n (by decide)]
        exact ht
      · have ht := ht 1
        rw [if_pos (show (1 : Int) ≤ (osz y : Int) ∧ (osz y : Int) ≤ P.2.2.2.2.1.toInt by omega), if_neg c1, stM_n (nt _)]
        exact ht
    rw [if_neg k6]
    by_cases k7 : P.1 = 7
    · have hy : y.1 = 4 := by
        rw [k7] at hs
        rcases hs with q | q
        · exact q
        · exact absurd q.2 (by decide)
      obtain ⟨rfl, rfl⟩ := elo (by rw [k7]; decide) k10
      have x7' := x7 (by rw [k7]; decide) k10 (by rw [k7]; decide)
      have hw1 := hb.2.2.2.2.2.2.2.1 k7
      have hw8 := hb.2.2.2.2.2.2.2.2
      have ez : osz y = y.2.2.length := by unfold osz; rw [if_pos hy]
      rw [if_pos (by rw [k7]; decide), if_pos (by rw [k7]; decide), if_pos (by rw [k7]; decide), if_neg (nn k7), if_pos k7, x7', zgs, zb_id, rF_judgedRows, r_in, zbs, Int32.toInt_toInt64, Int32.toInt_toInt64, hsz, show (1 : Int64).toInt = 1 from rfl]
      by_cases c1 : osz y = 0 ∨ P.2.2.2.2.1.toInt < osz y
      · rw [if_neg (show ¬ ((1 : Int) ≤ (osz y : Int) ∧ (osz y : Int) ≤ P.2.2.2.2.1.toInt) by omega), if_neg (nn rfl), if_pos c1, stM_n (by decide)]
      · rw [if_pos (show (1 : Int) ≤ (osz y : Int) ∧ (osz y : Int) ≤ P.2.2.2.2.1.toInt by omega), if_pos (show (1 : Int32) ≠ 0 by decide), if_neg c1]
        exact r_rows h hk hy h20 ⟨hw1, hw8.2⟩ y.2.2 [] N rfl (by omega)
    rw [if_neg k7]
    by_cases k89 : P.1 = 8 ∨ P.1 = 9
    · have hy : y.1 = 5 ∨ y.1 = 6 := by
        rcases k89 with q | q <;> rw [q] at hs
        · rcases hs with z | z
          · exact Or.inl z
          · exact Or.inr z.1
        · rcases hs with z | z
          · exact Or.inr z
          · exact absurd z.2 (by decide)
      obtain ⟨rfl, rfl⟩ := elo (by rcases k89 with q | q <;> rw [q] <;> decide) k10
      have ez : osz y = y.2.1.length := by unfold osz; rw [if_neg (by omega)]
      rw [if_pos (by rcases k89 with q | q <;> rw [q] <;> decide), if_pos k5, if_pos k6, if_pos k7, if_pos k89, hsz]
      by_cases c1 : P.2.2.2.2.1.toInt < osz y
      · rw [if_neg (show ¬ (osz y : Int) ≤ P.2.2.2.2.1.toInt by omega), if_pos c1, stM_n (by decide)]
      · rw [if_pos (show (osz y : Int) ≤ P.2.2.2.2.1.toInt by omega), if_neg c1]
        exact r_ents hE h hk hy h20 y.2.1 [] N rfl (by omega)
    have k8 : ¬ P.1 = 8 := fun q => k89 (Or.inl q)
    have k9 : ¬ P.1 = 9 := fun q => k89 (Or.inr q)
    have hk4 : ¬ 4 < P.1.toInt ∧ (y.1 ≠ 4 ∧ y.1 ≠ 5 ∧ y.1 ≠ 6 ∧ (P.1 = 0 → y.1 = 0)) ∧ y.1 < 4 := by
      rcases kind_cases hkd with q | q | q | q | q | q | q | q | q | q | q
      · rw [q] at hs ⊢; rcases hs with z | z
        · exact ⟨by decide, ⟨by rw [z]; decide, by rw [z]; decide, by rw [z]; decide, fun _ => z⟩, by rw [z]; decide⟩
        · exact absurd z.2 (by decide)
      · rw [q] at hs ⊢; rcases hs with z | z
        · exact ⟨by decide, ⟨by rw [z]; decide, by rw [z]; decide, by rw [z]; decide, fun hh => absurd hh (by decide)⟩, by rw [z]; decide⟩
        · exact absurd z.2 (by decide)
      · rw [q] at hs ⊢; rcases hs with z | z
        · exact ⟨by decide, ⟨by rw [z]; decide, by rw [z]; decide, by rw [z]; decide, fun hh => absurd hh (by decide)⟩, by rw [z]; decide⟩
        · exact absurd z.2 (by decide)
      · rw [q] at hs ⊢; rcases hs with z | z
        · exact ⟨by decide, ⟨by rw [z]; decide, by rw [z]; decide, by rw [z]; decide, fun hh => absurd hh (by decide)⟩, by rw [z]; decide⟩
        · exact absurd z.2 (by decide)
      · rw [q] at hs ⊢; rcases hs with z | z
        · exact ⟨by decide, ⟨by rw [z]; decide, by rw [z]; decide, by rw [z]; decide, fun hh => absurd hh (by decide)⟩, by rw [z]; decide⟩
        · exact absurd z.2 (by decide)
      · exact absurd q k5
      · exact absurd q k6
      · exact absurd q k7
      · exact absurd q k8
      · exact absurd q k9
      · exact absurd q k10
    obtain ⟨k4, ⟨n4, n5, n6, n0⟩, n3⟩ := hk4
    have ez : osz y = y.2.1.length := by unfold osz; rw [if_neg n4]
    rw [if_neg k4, if_neg k89]
    have I := r_itemOf (gi := gi) (ga := ga) (vl := vl) (Bs := Bs) (N := N) (S := S0) hE h hk (i := 0)
    by_cases c1 : osz y = 0
    · have hw : wthR En y 0 = .inr 3 := by unfold wthR; rw [if_pos (by rw [c1]; decide)]
      rw [hw] at I
      obtain ⟨_, v, I⟩ := I
      replace I : rF_itemOf gi ga vl Bs am N o' 0 S0 = some (v, flM S0 3) := I
      rw [I, zbs, if_neg (show ¬ zI (flM S0 3) 2 = 0 by show ¬ (3 : Int32) = 0; decide), if_pos c1, stM_y (Or.inr (Or.inr rfl))]
      rfl
    · have hv := List.getElem?_eq_getElem (l := y.2.1) (i := 0) (by omega)
      generalize hvv : y.2.1[0]'(by omega) = v at hv
      have hw : wthR En y 0 = .inl v := by
        unfold wthR
        have g0 : gI y.2.1 0 = some v := by show gI y.2.1 (Int32.ofNat 0) = _; rw [gI_nat (by omega)]; exact hv
        rw [if_neg (nn ⟨by decide, by show (0 : Int) < _; omega⟩), if_neg n4, if_pos n3, g0]
        rfl
      rw [hw] at I
      replace I : rF_itemOf gi ga vl Bs am N o' 0 S0 = some (v, S0) := I
      have e1' : (o'.2.1 = 1) ↔ osz y = 1 := by rw [xi32_eq, hsz, e1]; omega
      rw [I, zbs, if_pos h20, if_neg c1, hv]
      by_cases c2 : osz y = 1
      · rw [if_neg (nn (e1'.mpr c2)), if_neg (nn c2)]
        show _ = some (if v.toInt < P.2.2.2.1.toInt ∨ P.2.2.2.2.1.toInt < v.toInt then 8 else 0, stM S0 (if v.toInt < P.2.2.2.1.toInt ∨ P.2.2.2.2.1.toInt < v.toInt then 8 else 0))
        by_cases k0 : P.1 = 0
        · obtain ⟨b1, b2⟩ := hb.1 k0
          have hv01 := hk.2.2.2.2.2.2.1 (n0 k0) v (List.mem_of_getElem? hv)
          have : ¬ (v.toInt < P.2.2.2.1.toInt ∨ P.2.2.2.2.1.toInt < v.toInt) := by
            rw [b1, b2]
            rcases hv01 with rfl | rfl <;> decide
          rw [if_pos k0, if_neg this, stM_n (by decide)]
        · obtain ⟨rfl, rfl⟩ := elo k0 k10
          rw [if_neg k0, r_in, zbs, Int32.toInt_toInt64, Int32.toInt_toInt64]
          by_cases c3 : v.toInt < P.2.2.2.1.toInt ∨ P.2.2.2.2.1.toInt < v.toInt
          · rw [if_neg (show ¬ (P.2.2.2.1.toInt ≤ v.toInt ∧ v.toInt ≤ P.2.2.2.2.1.toInt) by omega), if_neg (nn rfl), if_pos c3, stM_n (by decide)]
          · rw [if_pos (show P.2.2.2.1.toInt ≤ v.toInt ∧ v.toInt ≤ P.2.2.2.2.1.toInt by omega), if_pos (show (1 : Int32) ≠ 0 by decide), if_neg c3, stM_n (by decide)]
      · rw [if_pos (fun hh => c2 (e1'.mp hh)), if_pos c2, stM_n (by decide)]
  · rw [if_neg hs] at A
    obtain ⟨_, A1⟩ := A
    rw [A1, zbs, if_pos hs, stM_y (Or.inr (Or.inl rfl))]
    rfl
end JUDGEM
