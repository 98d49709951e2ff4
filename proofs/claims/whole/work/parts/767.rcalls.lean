/-! WORKING, THE REFERENCE: its small calls -/
/-- the reference's object -/
def hM (o : zH) (y : yO) : Prop := o.1 = Int32.ofNat y.1 ∧ o.2.1 = Int32.ofNat (osz y) ∧ (∃ jk, o.2.2.1 = y.2.1 ++ jk) ∧ (∀ (i : Nat) r, y.2.2[i]? = some r → o.2.2.2.1[i]? = some (rsz r)) ∧ ∀ (i : Nat) l (j : Nat) x, y.2.2[i]? = some (some l) → l[j]? = some x → o.2.2.2.2[6 * i + j]? = some x
def eM (En : List (Int64 × Int32)) (am : List Int64) : Prop := En.length ≤ 100 ∧ ∀ (i : Nat) e, En[i]? = some e → am[i]? = some e.1
/-- a FAILURE is told -/
def flM (S : zS) (k : Int32) : zS := zsI (zsI (zsI S 2 k) 3 (zI S 4)) 0 (zI S 0 + 1)
def Km (r : Int64 ⊕ Int32) (S : zS) (o : Option (Int64 × zS)) : Prop := match r with
  | .inl v => o = some (v, S)
  | .inr k => k ≠ 0 ∧ ∃ v, o = some (v, flM S k)
def aM (En : List (Int64 × Int32)) (z : Option zH) (y : Option yO) : Prop := match z, y with
  | none, none => True
  | some o, some y => hM o y ∧ yOk En y
  | _, _ => False
theorem yi_6 (i j : Nat) : 6 * Int32.ofNat i + Int32.ofNat j = Int32.ofNat (6 * i + j) := by
  rw [Int32.ofNat_add, Int32.ofNat_mul]; rfl
theorem rowS_add : ∀ (r : List Int32) (a : Int64), rowS r a = a + rowS r 0
  | [], a => by rw [rowS, rowS, Int64.add_zero]
  | x :: r, a => by rw [rowS, rowS, rowS_add r (a + x.toInt64), rowS_add r (0 + x.toInt64), Int64.zero_add, Int64.add_assoc]
section RCALLS
variable {gi : Nat → Int32} {ga : Nat → List Int32} {vl : List Int64} {Bs : List (Option zH)} {am : List Int64} {N : Nat} {S : zS} {En : List (Int64 × Int32)} {o : zH} {y : yO}
theorem hM.s (h : hM o y) (hk : yOk En y) : o.1.toInt = y.1 := by rw [h.1, yi_nat (by have := hk.1; omega)]
theorem hM.n (h : hM o y) (hk : yOk En y) : o.2.1.toInt = osz y := by rw [h.2.1, yi_nat (by have := osz_12 hk; omega)]
theorem hM.n1 (h : hM o y) (hk : yOk En y) : (o.2.1 - 1).toInt64.toInt = osz y - 1 := by
  have h1 := h.n hk
  have h12 := osz_12 hk
  have e1 : (1 : Int32).toInt = 1 := rfl
  rw [Int32.toInt_toInt64, yi_sub (by omega) (by omega), h1, e1]
theorem fails_M {k : Int32} : rF_fails gi ga vl Bs am N k S = some (0, flM S k) := rfl
theorem r_in {a b c : Int64} : rF_in gi ga vl Bs am N a b c S = some (if b.toInt ≤ a.toInt ∧ a.toInt ≤ c.toInt then 1 else 0, S) := by
  unfold rF_in
  by_cases h1 : a.toInt < b.toInt
  · rw [if_pos h1, if_neg (by omega)]
  · rw [if_neg h1]
    by_cases h2 : c.toInt < a.toInt
    · rw [if_pos h2, if_neg (by omega)]
    · rw [if_neg h2, if_pos (by omega)]
theorem r_itemOf (hE : eM En am) (h : hM o y) (hk : yOk En y) {i : Int32} : Km (wthR En y i) S (rF_itemOf gi ga vl Bs am N o i.toInt64 S) := by
  have hs := h.s hk
  have hn := h.n hk
  have h12 := osz_12 hk
  have h7 := hk.1
  have e0 : i.toInt64.toInt = i.toInt := Int32.toInt_toInt64 i
  have e32 : i.toInt64.toInt32 = i := by simp
  unfold rF_itemOf
  rw [r_in, zbs, h.n1 hk, e0, show (0 : Int64).toInt = 0 from rfl]
  unfold wthR
  by_cases hr : 0 ≤ i.toInt ∧ i.toInt < osz y
  · rw [if_pos (show 0 ≤ i.toInt ∧ i.toInt ≤ (osz y : Int) - 1 by omega), if_pos (show (1 : Int32) ≠ 0 by decide), if_neg (nn hr), e32]
    obtain ⟨m, hm, rfl, hm2⟩ := yi_of hr.1
    have hmo : m < osz y := by omega
    by_cases h4 : y.1 = 4
    · have hsz : osz y = y.2.2.length := by unfold osz; rw [if_pos h4]
      have hrow := List.getElem?_eq_getElem (l := y.2.2) (i := m) (by omega)
      have hrs := h.2.2.2.1 m _ hrow
      rw [if_neg (nn (show o.1 = 4 by rw [xi32_eq, hs, h4]; rfl)), if_pos h4, gI_nat hm, hrow, gI_nat hm, hrs, zgs, rF_itemOf_29, if_neg (by omega)]
      rcases hv : y.2.2[m]'(by omega) with _ | l
      · show Km (.inr 1) S (if 0 ≤ ((-1 : Int32).toInt64).toInt then _ else zb (rF_fails gi ga vl Bs am N 1 S) fun x7 S8 => some (x7, S8))
        rw [if_neg (by decide), fails_M, zbs]
        exact ⟨by decide, 0, rfl⟩
      · have hl6 : l.length ≤ 6 := (hk.2.1 h4).2.2 l (by rw [← hv]; exact List.getElem_mem _)
        show Km (.inl (Int32.ofNat l.length).toInt64) S (if 0 ≤ ((Int32.ofNat l.length).toInt64).toInt then (if o.1.toInt ≤ 4 then some ((Int32.ofNat l.length).toInt64, S) else _) else _)
        rw [if_pos (by rw [Int32.toInt_toInt64, yi_nat (by omega)]; omega), if_pos (by omega)]
        rfl
    · have hsz : osz y = y.2.1.length := by unfold osz; rw [if_neg h4]
      have hv := List.getElem?_eq_getElem (l := y.2.1) (i := m) (by omega)
      generalize hvv : y.2.1[m]'(by omega) = v at hv
      obtain ⟨jk, ej⟩ := h.2.2.1
      have gO : gI o.2.2.1 (Int32.ofNat m) = some v := by rw [gI_nat hm, ej, List.getElem?_append_left (by omega)]; exact hv
      have gY : gI y.2.1 (Int32.ofNat m) = some v := by rw [gI_nat hm]; exact hv
      rw [if_pos (show o.1 ≠ 4 by rw [Ne, xi32_eq, hs, show (4 : Int32).toInt = 4 from rfl]; omega), if_neg h4, gO, zgs, gY, rF_itemOf_29]
      by_cases hlt : y.1 < 4
      · rw [if_pos (show o.1.toInt ≤ 3 by omega), if_pos (show o.1.toInt ≤ 4 by omega), if_pos hlt]
        rfl
      · rw [if_neg (show ¬ o.1.toInt ≤ 3 by omega), if_neg hlt]
        show Km (if v = -1 then .inr 1 else .inl (amt En v)) S _
        rcases it_ent hk (by omega) hv with rfl | ⟨n, e, he, rfl⟩
        · rw [if_pos rfl, if_neg (by decide), fails_M, zbs]
          exact ⟨by decide, 0, rfl⟩
        · have hnl := (List.getElem?_eq_some_iff.mp he).1
          have h100 := hE.1
          have e1 := yl_nat (n := n) (by omega)
          have hne : ¬ Int64.ofNat n = -1 := by rw [xi64_eq, e1, l_m1]; omega
          have e3 : (Int64.ofNat n).toInt32 = Int32.ofNat n := i64_32
          rw [if_neg hne, if_pos (show 0 ≤ (Int64.ofNat n).toInt by omega), if_neg (show ¬ o.1.toInt ≤ 4 by omega), e3, gI_nat (by omega), hE.2 n e he, zgs]
          have : amt En (Int64.ofNat n) = e.1 := by
            unfold amt
            rw [e1, Int.toNat_natCast, List.getElem?_map, he]; rfl
          rw [this]
          rfl
  · rw [if_neg (show ¬ (0 ≤ i.toInt ∧ i.toInt ≤ (osz y : Int) - 1) by omega), if_neg (nn rfl), if_pos hr, fails_M, zbs]
    exact ⟨by decide, 0, rfl⟩
theorem r_cellAt (h : hM o y) (hk : yOk En y) (h4 : y.1 = 4) {i j : Int32} : Km (celR y i j) S (rF_cellAt gi ga vl Bs am N o i j S) := by
  have hn := h.n hk
  have h12 := osz_12 hk
  have hsz : osz y = y.2.2.length := by unfold osz; rw [if_pos h4]
  have h6 := (hk.2.1 h4).2.1
  unfold rF_cellAt celR
  rw [r_in, zbs, h.n1 hk, Int32.toInt_toInt64, show (0 : Int64).toInt = 0 from rfl]
  by_cases hr : 0 ≤ i.toInt ∧ i.toInt < osz y
  · rw [if_pos (show 0 ≤ i.toInt ∧ i.toInt ≤ (osz y : Int) - 1 by omega), if_pos (show (1 : Int32) ≠ 0 by decide), if_neg (nn hr)]
    obtain ⟨m, hm, rfl, hm2⟩ := yi_of hr.1
    have hrow := List.getElem?_eq_getElem (l := y.2.2) (i := m) (by omega)
    have hrs := h.2.2.2.1 m _ hrow
    have gR : gI o.2.2.2.1 (Int32.ofNat m) = some (rsz (y.2.2[m]'(by omega))) := by rw [gI_nat hm]; exact hrs
    have gY : gI y.2.2 (Int32.ofNat m) = some (y.2.2[m]'(by omega)) := by rw [gI_nat hm]; exact hrow
    rw [gR, zgs, gY]
    rcases hv : y.2.2[m]'(by omega) with _ | l
    · show Km (.inr 1) S (if 0 ≤ (-1 : Int32).toInt then _ else _)
      rw [if_neg (by decide), fails_M, zbs]
      exact ⟨by decide, 0, rfl⟩
    · have hl6 : l.length ≤ 6 := (hk.2.1 h4).2.2 l (by rw [← hv]; exact List.getElem_mem _)
      have hl2 := yi_nat (i := l.length) (by omega)
      have el1 : (Int32.ofNat l.length - 1).toInt64.toInt = l.length - 1 := by
        have e1 : (1 : Int32).toInt = 1 := rfl
        rw [Int32.toInt_toInt64, yi_sub (by omega) (by omega), hl2, e1]
      show Km (match gI l j with | none => .inr 3 | some x => .inl x.toInt64) S (if 0 ≤ (Int32.ofNat l.length).toInt then zg (some (Int32.ofNat l.length)) fun x5 => (zb (rF_in gi ga vl Bs am N j.toInt64 0 ((x5 - 1).toInt64) S) fun x6 S7 => (if x6 = (0 : Int32) then (zb (rF_fails gi ga vl Bs am N 3 S7) fun x9 S10 => some (x9, S10)) else (zg (gI o.2.2.2.2 ((6 * Int32.ofNat m) + j)) fun x12 => some (x12.toInt64, S7)))) else _)
      rw [if_pos (by omega), zgs, r_in, zbs, el1, Int32.toInt_toInt64, show (0 : Int64).toInt = 0 from rfl]
      by_cases hj : 0 ≤ j.toInt ∧ j.toInt < l.length
      · obtain ⟨q, hq, rfl, hq2⟩ := yi_of hj.1
        have hx := List.getElem?_eq_getElem (l := l) (i := q) (by omega)
        rw [if_pos (show 0 ≤ (Int32.ofNat q).toInt ∧ (Int32.ofNat q).toInt ≤ (l.length : Int) - 1 by omega), if_neg (show ¬ (1 : Int32) = 0 by decide), yi_6, gI_nat hq, hx, gI_nat (by omega), h.2.2.2.2 m l q _ (by rw [hrow, hv]) hx, zgs]
        rfl
      · rw [if_neg (show ¬ (0 ≤ j.toInt ∧ j.toInt ≤ (l.length : Int) - 1) by omega), if_pos rfl, fails_M, zbs]
        have : gI l j = none := by
          unfold gI
          split
          · exact List.getElem?_eq_none (by omega)
          · rfl
        rw [this]
        exact ⟨by decide, 0, rfl⟩
  · rw [if_neg (show ¬ (0 ≤ i.toInt ∧ i.toInt ≤ (osz y : Int) - 1) by omega), if_neg (nn rfl), if_pos hr, fails_M, zbs]
    exact ⟨by decide, 0, rfl⟩
theorem r_row (h : hM o y) (hk : yOk En y) (h4 : y.1 = 4) {k14 : Option zH → Int64 → Int32 → zS → Option (Int64 × zS)} {i : Nat} {l : List Int32} (hi : y.2.2[i]? = some (some l)) (hi6 : i < 12) : ∀ (r pre : List Int32) (n : Nat) (a : Int64), l = pre ++ r → r.length < n → rF_total_46 gi ga vl Bs am N k14 n o a (Int32.ofNat i) (Int32.ofNat pre.length) S = k14 (some o) (rowS r a) (Int32.ofNat (i + 1)) S
  | _, _, 0, _, _, hn => by omega
  | [], pre, n + 1, a, hl, _ => by
    have hl6 : l.length ≤ 6 := (hk.2.1 h4).2.2 l (List.mem_of_getElem? hi)
    rw [List.append_nil] at hl
    rw [rF_total_46, gI_nat (by omega), h.2.2.2.1 i _ hi, zgs, if_pos (by show (Int32.ofNat l.length).toInt ≤ _; rw [hl]; omega), yi_add1, rowS]
  | x :: r, pre, n + 1, a, hl, hn => by
    have hl6 : l.length ≤ 6 := (hk.2.1 h4).2.2 l (List.mem_of_getElem? hi)
    have hlen : l.length = pre.length + (r.length + 1) := by rw [hl, List.length_append, List.length_cons]
    have hx : l[pre.length]? = some x := by rw [hl, List.getElem?_append_right (Nat.le_refl _), Nat.sub_self]; rfl
    rw [List.length_cons] at hn
    have ih := r_row h hk h4 (k14 := k14) hi hi6 r (pre ++ [x]) n (a + x.toInt64) (by rw [hl]; simp) (by omega)
    rw [List.length_append, List.length_singleton] at ih
    rw [rF_total_46, gI_nat (by omega), h.2.2.2.1 i _ hi, zgs, if_neg (by show ¬ (Int32.ofNat l.length).toInt ≤ _; rw [yi_nat (by omega), yi_nat (by omega)]; omega), yi_6, gI_nat (by omega), h.2.2.2.2 i l pre.length x hi hx, zgs, yi_add1, rowS]
    exact ih
theorem r_total (hE : eM En am) (hN : 1000 < N) (h : hM o y) (hk : yOk En y) : ∀ (m i n : Nat) (a : Int64) (S : zS), zI S 2 = 0 → i + m = osz y → m + 1 < n → Km (sumR (if y.1 = 4 then rowR y else wthR En y) m i a) S (rF_total_14 gi ga vl Bs am N n (some o) a (Int32.ofNat i) S)
  | 0, i, 0, _, _, _, _, hn => by omega
  | m + 1, i, 0, _, _, _, _, hn => by omega
  | 0, i, n + 1, a, S, h0, hi, hn => by
    have hsz := h.n hk
    have h12 := osz_12 hk
    rw [rF_total_14]
    show Km (.inl a) S (if zI S 2 ≠ 0 then some (a, S) else (if o.2.1.toInt ≤ (Int32.ofNat i).toInt then some (a, S) else _))
    rw [if_neg (nn h0), if_pos (by rw [hsz, yi_nat (by omega)]; omega)]
    rfl
  | m + 1, i, n + 1, a, S, h0, hi, hn => by
    have hsz := h.n hk
    have hs := h.s hk
    have h12 := osz_12 hk
    have stop : ∀ (k : Int32) (b : Int64) (q : Int32), k ≠ 0 → Km (.inr k) S (rF_total_14 gi ga vl Bs am N n (some o) b q (flM S k)) := by
      intro k b q hk0
      obtain ⟨n, rfl⟩ : ∃ q, n = q + 1 := ⟨n - 1, by omega⟩
      refine ⟨hk0, b, ?_⟩
      rw [rF_total_14]
      show (if zI (flM S k) 2 ≠ 0 then some (b, flM S k) else _) = _
      rw [if_pos (show zI (flM S k) 2 ≠ 0 from hk0)]
    rw [rF_total_14, sumR]
    show Km _ S (if zI S 2 ≠ 0 then some (a, S) else (if o.2.1.toInt ≤ (Int32.ofNat i).toInt then some (a, S) else (if o.1 = (4 : Int32) then (zg (gI o.2.2.2.1 (Int32.ofNat i)) fun x9 => (if 0 ≤ x9.toInt then rF_total_46 gi ga vl Bs am N (rF_total_14 gi ga vl Bs am N n) N o a (Int32.ofNat i) 0 S else (zb (rF_fails gi ga vl Bs am N 1 S) fun x12 S13 => (rF_total_14 gi ga vl Bs am N n) (some o) a (Int32.ofNat i + 1) S13))) else (zb (rF_itemOf gi ga vl Bs am N o (Int32.ofNat i).toInt64 S) fun x15 S16 => (rF_total_14 gi ga vl Bs am N n) (some o) (a + x15) (Int32.ofNat i + 1) S16))))
    rw [if_neg (nn h0), if_neg (show ¬ o.2.1.toInt ≤ (Int32.ofNat i).toInt by rw [hsz, yi_nat (by omega)]; omega)]
    by_cases h4 : y.1 = 4
    · have hsz4 : osz y = y.2.2.length := by unfold osz; rw [if_pos h4]
      have il : i < y.2.2.length := by omega
      have hrow := List.getElem?_eq_getElem il
      rw [if_pos (show o.1 = 4 by rw [xi32_eq, hs, h4]; rfl), if_pos h4, gI_nat (by omega), h.2.2.2.1 i _ hrow, zgs]
      unfold rowR
      rw [gI_nat (by omega), hrow]
      rcases hv : y.2.2[i]'il with _ | l
      · show Km (.inr 1) S (if 0 ≤ (-1 : Int32).toInt then _ else _)
        rw [if_neg (by decide), fails_M, zbs]
        exact stop 1 _ _ (by decide)
      · have hl6 : l.length ≤ 6 := (hk.2.1 h4).2.2 l (by rw [← hv]; exact List.getElem_mem _)
        have e := r_row (gi := gi) (ga := ga) (vl := vl) (Bs := Bs) (am := am) (N := N) (S := S) (k14 := rF_total_14 gi ga vl Bs am N n) (l := l) h hk h4 (by rw [hrow, hv]) (by omega) l [] N a rfl (by omega)
        show Km (sumR (rowR y) m (i + 1) (a + rowS l 0)) S (if 0 ≤ (Int32.ofNat l.length).toInt then rF_total_46 gi ga vl Bs am N (rF_total_14 gi ga vl Bs am N n) N o a (Int32.ofNat i) (Int32.ofNat ([] : List Int32).length) S else _)
        rw [if_pos (by rw [yi_nat (by omega)]; omega), e, rowS_add l a]
        have ih := r_total hE hN h hk m (i + 1) n (a + rowS l 0) S h0 (by omega) (by omega)
        rw [if_pos h4] at ih
        exact ih
    · rw [if_neg (show ¬ o.1 = 4 by rw [xi32_eq, hs, show (4 : Int32).toInt = 4 from rfl]; omega), if_neg h4]
      have hc := r_itemOf (gi := gi) (ga := ga) (vl := vl) (Bs := Bs) (N := N) (S := S) hE h hk (i := Int32.ofNat i)
      rcases hr : wthR En y (Int32.ofNat i) with v | k
      · rw [hr] at hc
        replace hc : rF_itemOf gi ga vl Bs am N o (Int32.ofNat i).toInt64 S = some (v, S) := hc
        rw [hc, zbs, yi_add1]
        have ih := r_total hE hN h hk m (i + 1) n (a + v) S h0 (by omega) (by omega)
        rw [if_neg h4] at ih
        exact ih
      · rw [hr] at hc
        obtain ⟨hk0, v, hc⟩ := hc
        rw [hc, zbs]
        exact stop k _ _ hk0
theorem r_column (h : hM o y) (hk : yOk En y) (h4 : y.1 = 4) {j : Int32} : ∀ (m i n : Nat) (a : Int64) (S : zS), zI S 2 = 0 → i + m = osz y → m + 1 < n → Km (sumR (fun i => celR y i j) m i a) S (rF_column_9 gi ga vl Bs am N n j (some o) a (Int32.ofNat i) S)
  | 0, i, 0, _, _, _, _, hn => by omega
  | m + 1, i, 0, _, _, _, _, hn => by omega
  | 0, i, n + 1, a, S, h0, hi, hn => by
    have hsz := h.n hk
    have h12 := osz_12 hk
    rw [rF_column_9]
    show Km (.inl a) S (if zI S 2 ≠ 0 then some (a, S) else (if o.2.1.toInt ≤ (Int32.ofNat i).toInt then some (a, S) else _))
    rw [if_neg (nn h0), if_pos (by rw [hsz, yi_nat (by omega)]; omega)]
    rfl
  | m + 1, i, n + 1, a, S, h0, hi, hn => by
    have hsz := h.n hk
    have h12 := osz_12 hk
    rw [rF_column_9, sumR]
    show Km _ S (if zI S 2 ≠ 0 then some (a, S) else (if o.2.1.toInt ≤ (Int32.ofNat i).toInt then some (a, S) else (zb (rF_cellAt gi ga vl Bs am N o (Int32.ofNat i) j S) fun x5 S6 => (rF_column_9 gi ga vl Bs am N n) j (some o) (a + x5) (Int32.ofNat i + 1) S6)))
    rw [if_neg (nn h0), if_neg (show ¬ o.2.1.toInt ≤ (Int32.ofNat i).toInt by rw [hsz, yi_nat (by omega)]; omega)]
    have hc := r_cellAt (gi := gi) (ga := ga) (vl := vl) (Bs := Bs) (am := am) (N := N) (S := S) h hk h4 (i := Int32.ofNat i) (j := j)
    rcases hr : celR y (Int32.ofNat i) j with v | k
    · rw [hr] at hc
      replace hc : rF_cellAt gi ga vl Bs am N o (Int32.ofNat i) j S = some (v, S) := hc
      rw [hc, zbs, yi_add1]
      exact r_column h hk h4 m (i + 1) n (a + v) S h0 (by omega) (by omega)
    · rw [hr] at hc
      obtain ⟨hk0, v, hc⟩ := hc
      rw [hc, zbs]
      obtain ⟨n, rfl⟩ : ∃ q, n = q + 1 := ⟨n - 1, by omega⟩
      show Km (.inr k) S _
      refine ⟨hk0, a + v, ?_⟩
      rw [rF_column_9]
      show (if zI (flM S k) 2 ≠ 0 then some (a + v, flM S k) else _) = _
      rw [if_pos (show zI (flM S k) 2 ≠ 0 from hk0)]
theorem r_trues : ∀ (r pre : List Int64) (jk : List Int64) (n t : Nat), o.2.1 = Int32.ofNat (pre.length + r.length) → o.2.2.1 = pre ++ r ++ jk → pre.length + r.length ≤ 1000 → r.length < n → rF_trueOf_4 gi ga vl Bs am N n o (Int32.ofNat t) (Int32.ofNat pre.length) S = some (Int32.ofNat (t + truN r), S)
  | _, _, _, 0, _, _, _, _, h => by omega
  | [], pre, jk, n + 1, t, h1, h2, h3, _ => by
    rw [rF_trueOf_4, if_pos (by rw [h1]; simp), truN, Nat.add_zero]
  | x :: r, pre, jk, n + 1, t, h1, h2, hl, hn => by
    rw [List.length_cons] at h1 hn hl
    have e1 := yi_nat (i := pre.length) (by omega)
    have hx : o.2.2.1[pre.length]? = some x := by rw [h2, List.append_assoc, List.getElem?_append_right (Nat.le_refl _), Nat.sub_self]; rfl
    have ih := fun t => r_trues r (pre ++ [x]) jk n t (by rw [h1, List.length_append, List.length_singleton, Nat.add_right_comm, Nat.add_assoc]) (by rw [h2]; simp) (by simp; omega) (by omega)
    rw [List.length_append, List.length_singleton] at ih
    rw [rF_trueOf_4, if_neg (by rw [h1, yi_nat (by omega), e1]; omega), gI_nat (by omega), hx, zgs, truN]
    by_cases h0 : x = 0
    · rw [if_pos h0, if_pos h0, yi_add1, Int32.add_zero, Nat.zero_add]
      exact ih t
    · rw [if_neg h0, if_neg h0, yi_add1, yi_add1, show t + (1 + truN r) = t + 1 + truN r by omega]
      exact ih (t + 1)
end RCALLS
