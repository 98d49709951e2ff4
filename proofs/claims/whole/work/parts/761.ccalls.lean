/-! WORKING, THE CLASS: its small calls -/
theorem zsI_same {S : zS} {i : Nat} {v : Int32} (h : zI S i = v) : zsI S i v = S := by
  have : zup S.1 i v = S.1 := by
    funext j
    unfold zup
    split
    · rename_i hj; rw [hj]; exact h.symm
    · rfl
  show (zup S.1 i v, S.2) = S
  rw [this]
/-- the class's object -/
def hC (o : zO) (y : yO) : Prop := o.1 = Int32.ofNat y.1 ∧ o.2.1 = Int32.ofNat (osz y) ∧ (∃ jk, o.2.2.1 = cit y ++ jk ∧ o.2.2.1.length ≤ 1000) ∧ (y.1 = 4 → o.2.2.2 = y.2.2)
/-- the entries -/
def eC (En : List (Int64 × Int32)) (ne : Int32) (am : List Int64) : Prop := ne = Int32.ofNat En.length ∧ En.length ≤ 100 ∧ ∀ (i : Nat) e, En[i]? = some e → am[i]? = some e.1
/-- a value, or a FAILURE that is set -/
def Kc (r : Int64 ⊕ Int32) (S : zS) (o : Option (Int64 × zS)) : Prop := match r with
  | .inl v => o = some (v, S)
  | .inr k => k ≠ 0 ∧ ∃ v, o = some (v, zsI S 1 k)
theorem osz_12 {En : List (Int64 × Int32)} {y : yO} (h : yOk En y) : osz y ≤ 12 := by
  unfold osz
  split
  · have := (h.2.1 (by assumption)).2.1; omega
  · exact (h.2.2.1 (by assumption)).2
section CCALLS
variable {gi : Nat → Int32} {ga : Nat → List Int32} {As : List (Option zO)} {ne : Int32} {am : List Int64} {N : Nat} {S : zS} {En : List (Int64 × Int32)} {o : zO} {y : yO}
theorem hC.s (h : hC o y) (hk : yOk En y) : o.1.toInt = y.1 := by rw [h.1, yi_nat (by have := hk.1; omega)]
theorem hC.n (h : hC o y) (hk : yOk En y) : o.2.1.toInt = osz y := by rw [h.2.1, yi_nat (by have := osz_12 hk; omega)]
/-- an item of an object of entries -/
theorem it_ent (hk : yOk En y) (hy : 4 < y.1) {m : Nat} {v : Int64} (hm : y.2.1[m]? = some v) : v = -1 ∨ ∃ n e, En[n]? = some e ∧ v = Int64.ofNat n := by
  have h7 := hk.1
  have hv := List.mem_of_getElem? hm
  have h567 : y.1 = 5 ∨ y.1 = 6 ∨ y.1 = 7 := by omega
  rcases h567 with h5 | h5 | h5
  · rcases hk.2.2.2.2.1 h5 v hv with h | ⟨n, h1, h2⟩
    · exact Or.inl h
    · exact Or.inr ⟨n, _, List.getElem?_eq_getElem h1, h2⟩
  · rcases hk.2.2.2.2.2.1 h5 v hv with h | ⟨n, e, h1, _, h2⟩
    · exact Or.inl h
    · exact Or.inr ⟨n, e, h1, h2⟩
  · obtain ⟨n, h1, h2⟩ := hk.2.2.2.1 h5
    rw [h2] at hv
    rw [List.mem_singleton] at hv
    exact Or.inr ⟨n, _, List.getElem?_eq_getElem h1, hv⟩
theorem l_m1 : (-1 : Int64).toInt = -1 := by decide
theorem l_m9 : (-9 : Int64).toInt = -9 := by decide
theorem cit_at (h : hC o y) (hy : y.1 ≠ 4) {m : Nat} {v : Int64} (hm : y.2.1[m]? = some v) : o.2.2.1[m]? = some (if y.1 = 5 ∨ y.1 = 6 then cnv v else v) := by
  obtain ⟨jk, e, _⟩ := h.2.2.1
  rw [e]
  unfold cit
  have hl := (List.getElem?_eq_some_iff.mp hm).1
  split
  · rw [List.getElem?_append_left (by rw [List.length_map]; exact hl), List.getElem?_map, hm]; rfl
  · rw [List.getElem?_append_left hl]; exact hm
theorem c_worthAt (hE : eC En ne am) (h0 : zI S 1 = 0) (h : hC o y) (hk : yOk En y) {i : Int32} : Kc (wthR En y i) S (cE_worthAt gi ga As ne am N o i S) := by
  have hs := h.s hk
  have hn := h.n hk
  have h12 := osz_12 hk
  have h7 := hk.1
  unfold cE_worthAt wthR
  by_cases hr : 0 ≤ i.toInt ∧ i.toInt < osz y
  · rw [if_neg (show ¬ i.toInt < 0 by omega), if_pos (show i.toInt < o.2.1.toInt by omega), if_neg (nn hr)]
    obtain ⟨m, hm, rfl, hm2⟩ := yi_of hr.1
    have hmo : m < osz y := by omega
    by_cases h4 : y.1 = 4
    · have hrw := h.2.2.2 h4
      have hsz : osz y = y.2.2.length := by unfold osz; rw [if_pos h4]
      rw [if_pos (show 4 ≤ o.1.toInt by omega), if_neg (nn (show o.1 = 4 by rw [xi32_eq, hs, h4]; rfl)), if_pos h4, gI_nat hm, hrw, gI_nat hm, List.getElem?_eq_getElem (by omega), zgs]
      rcases hrow : y.2.2[m] with _ | l
      · show Kc (.inr 1) S (cE_worthAt_33 gi ga As ne am N o (Int32.ofNat m) 1 S)
        unfold cE_worthAt_33
        rw [hrw, gI_nat hm, List.getElem?_eq_getElem (by omega), zgs, hrow]
        exact ⟨by decide, 0, rfl⟩
      · show Kc (.inl _) S (cE_worthAt_33 gi ga As ne am N o (Int32.ofNat m) 0 S)
        unfold cE_worthAt_33
        rw [hrw, gI_nat hm, List.getElem?_eq_getElem (by omega), zgs, hrow]
        show some ((Int32.ofNat l.length).toInt64, zsI S 1 0) = some ((Int32.ofNat l.length).toInt64, S)
        rw [zsI_same h0]
    · have hsz : osz y = y.2.1.length := by unfold osz; rw [if_neg h4]
      have hv := List.getElem?_eq_getElem (l := y.2.1) (i := m) (by omega)
      have hc := cit_at h h4 hv
      generalize hvv : y.2.1[m] = v at hv hc
      have gO : gI o.2.2.1 (Int32.ofNat m) = some (if y.1 = 5 ∨ y.1 = 6 then cnv v else v) := by rw [gI_nat hm]; exact hc
      have gY : gI y.2.1 (Int32.ofNat m) = some v := by rw [gI_nat hm]; exact hv
      rw [if_neg h4]
      by_cases hlt : y.1 < 4
      · rw [if_neg (show ¬ 4 ≤ o.1.toInt by omega), if_pos hlt, gO, zgs, gY, if_neg (show ¬ (y.1 = 5 ∨ y.1 = 6) by omega)]
        rfl
      · rw [if_pos (show 4 ≤ o.1.toInt by omega), if_pos (show o.1 ≠ 4 by rw [Ne, xi32_eq, hs, show (4 : Int32).toInt = 4 from rfl]; omega), if_neg hlt, gO, zgs, gY]
        show Kc (if v = -1 then .inr 1 else .inl (amt En v)) S _
        rcases it_ent hk (by omega) hv with rfl | ⟨n, e, he, rfl⟩
        · rw [if_pos rfl]
          have h56 : y.1 = 5 ∨ y.1 = 6 := by
            have h567 : y.1 = 5 ∨ y.1 = 6 ∨ y.1 = 7 := by omega
            rcases h567 with h5 | h5 | h5
            · exact Or.inl h5
            · exact Or.inr h5
            · obtain ⟨n, h1, h2⟩ := hk.2.2.2.1 h5
              have := List.mem_of_getElem? hv
              rw [h2, List.mem_singleton, xi64_eq, l_m1, yl_nat (by have := hE.2.1; omega)] at this
              omega
          rw [if_pos h56, show cnv (-1) = -9 from rfl, if_pos (by decide)]
          exact ⟨by decide, 0, rfl⟩
        · have hnl := (List.getElem?_eq_some_iff.mp he).1
          have h100 := hE.2.1
          have e1 := yl_nat (n := n) (by omega)
          have hne : ¬ Int64.ofNat n = -1 := by rw [xi64_eq, e1, l_m1]; omega
          have ec : (if y.1 = 5 ∨ y.1 = 6 then cnv (Int64.ofNat n) else Int64.ofNat n) = Int64.ofNat n := by
            unfold cnv
            rw [if_neg hne]
            split <;> rfl
          have e2 : ne.toInt64.toInt = En.length := by
            rw [Int32.toInt_toInt64, hE.1, yi_nat (by omega)]
          have e3 : (Int64.ofNat n).toInt32 = Int32.ofNat n := i64_32
          rw [if_neg hne, ec, if_neg (show ¬ (Int64.ofNat n).toInt < 0 by omega), if_pos (show (Int64.ofNat n).toInt < ne.toInt64.toInt by omega), e3, gI_nat (by omega), hE.2.2 n e he, zgs]
          have : amt En (Int64.ofNat n) = e.1 := by
            unfold amt
            rw [e1, Int.toNat_natCast, List.getElem?_map, he]; rfl
          rw [this]
          rfl
  · rw [if_pos hr]
    by_cases hi : i.toInt < 0
    · rw [if_pos hi]
      exact ⟨by decide, 0, rfl⟩
    · rw [if_neg hi, if_neg (by omega)]
      exact ⟨by decide, 0, rfl⟩
theorem c_cellAt (h0 : zI S 1 = 0) (h : hC o y) (hk : yOk En y) (h4 : y.1 = 4) {i j : Int32} : Kc (celR y i j) S (cE_cellAt gi ga As ne am N o i j S) := by
  have hn := h.n hk
  have h12 := osz_12 hk
  unfold cE_cellAt celR
  have hrw := h.2.2.2 h4
  have hsz : osz y = y.2.2.length := by unfold osz; rw [if_pos h4]
  by_cases hr : 0 ≤ i.toInt ∧ i.toInt < osz y
  · rw [if_neg (show ¬ i.toInt < 0 by omega), if_pos (show i.toInt < o.2.1.toInt by omega), if_neg (nn hr)]
    obtain ⟨m, hm, rfl, hm2⟩ := yi_of hr.1
    rw [hrw, gI_nat hm, List.getElem?_eq_getElem (by omega), zgs]
    rcases hrow : y.2.2[m]'(by omega) with _ | l
    · exact ⟨by decide, 0, rfl⟩
    · have hl6 : l.length ≤ 6 := (hk.2.1 h4).2.2 l (by rw [← hrow]; exact List.getElem_mem _)
      have hl2 := yi_nat (i := l.length) (by omega)
      show Kc (match gI l j with | none => .inr 3 | some x => .inl x.toInt64) S (if j.toInt < 0 then _ else _)
      by_cases hj : j.toInt < 0
      · rw [if_pos hj, gI, if_neg (by omega)]
        exact ⟨by decide, 0, rfl⟩
      · rw [if_neg hj]
        by_cases hj2 : j.toInt < l.length
        · rw [if_pos (by rw [hl2]; exact hj2)]
          have : gI l j = some (l[j.toInt.toNat]'(by omega)) := by rw [gI, if_pos (by omega), List.getElem?_eq_getElem]
          rw [this, zgs]
          rfl
        · rw [if_neg (by rw [hl2]; exact hj2)]
          have : gI l j = none := by rw [gI, if_pos (by omega), List.getElem?_eq_none (by omega)]
          rw [this]
          exact ⟨by decide, 0, rfl⟩
  · rw [if_pos hr]
    by_cases hi : i.toInt < 0
    · rw [if_pos hi]
      exact ⟨by decide, 0, rfl⟩
    · rw [if_neg hi, if_neg (by omega)]
      exact ⟨by decide, 0, rfl⟩
/-- a sum: what comes of its loop -/
theorem c_sumOf : ∀ (r pre : List Int32) (n : Nat) (a : Int64), pre.length + r.length ≤ 1000 → r.length < n → cE_sumOf_4 gi ga As ne am N n (pre ++ r) a (Int32.ofNat pre.length) S = some (rowS r a, S)
  | _, _, 0, _, _, h => by omega
  | [], pre, n + 1, a, hl, _ => by
    rw [cE_sumOf_4, if_pos (by simp), rowS]
  | x :: r, pre, n + 1, a, hl, hn => by
    rw [List.length_cons] at hl hn
    have e1 := yi_nat (i := pre.length) (by omega)
    rw [cE_sumOf_4, if_neg (by rw [List.length_append, List.length_cons, yi_nat (by omega), e1]; omega), gI_nat (by omega)]
    rw [show (pre ++ x :: r)[pre.length]? = some x by rw [List.getElem?_append_right (Nat.le_refl _), Nat.sub_self]; rfl, zgs, yi_add1, rowS]
    have := c_sumOf r (pre ++ [x]) n (a + x.toInt64) (by simp; omega) (by omega)
    rw [List.length_append, List.length_singleton, List.append_assoc] at this
    exact this
theorem c_column (h : hC o y) (hk : yOk En y) (h4 : y.1 = 4) {j : Int32} : ∀ (m i n : Nat) (a : Int64) (S : zS), zI S 1 = 0 → i + m = osz y → m + 1 < n → Kc (sumR (fun i => celR y i j) m i a) S (cE_columnOf_4 gi ga As ne am N n o j a (Int32.ofNat i) S)
  | 0, i, 0, _, _, _, _, hn => by omega
  | m + 1, i, 0, _, _, _, _, hn => by omega
  | 0, i, n + 1, a, S, h0, hi, hn => by
    have hsz := h.n hk
    have h12 := osz_12 hk
    rw [cE_columnOf_4, if_pos (by rw [hsz, yi_nat (by omega)]; omega)]
    rfl
  | m + 1, i, n + 1, a, S, h0, hi, hn => by
    have hsz := h.n hk
    have h12 := osz_12 hk
    rw [cE_columnOf_4, if_neg (by rw [hsz, yi_nat (by omega)]; omega), if_neg (nn h0)]
    have hc := c_cellAt (gi := gi) (ga := ga) (As := As) (ne := ne) (am := am) (N := N) h0 h hk h4 (i := Int32.ofNat i) (j := j)
    rw [sumR]
    rcases hr : celR y (Int32.ofNat i) j with v | k
    · rw [hr] at hc
      replace hc : cE_cellAt gi ga As ne am N o (Int32.ofNat i) j S = some (v, S) := hc
      rw [hc, zbs, yi_add1]
      exact c_column h hk h4 m (i + 1) n (a + v) S h0 (by omega) (by omega)
    · rw [hr] at hc
      obtain ⟨hk0, v, hc⟩ := hc
      rw [hc, zbs, yi_add1]
      obtain ⟨n, rfl⟩ : ∃ q, n = q + 1 := ⟨n - 1, by omega⟩
      show Kc (.inr k) S _
      refine ⟨hk0, a + v, ?_⟩
      rw [cE_columnOf_4]
      split
      · rfl
      · rw [if_pos (show zI (zsI S 1 k) 1 ≠ 0 from hk0)]
theorem c_total (hE : eC En ne am) (hN : 1000 < N) (h : hC o y) (hk : yOk En y) : ∀ (m i n : Nat) (a : Int64) (S : zS), zI S 1 = 0 → i + m = osz y → m + 1 < n → Kc (sumR (if y.1 = 4 then rowR y else wthR En y) m i a) S (cE_totalOf_4 gi ga As ne am N n o a (Int32.ofNat i) S)
  | 0, i, 0, _, _, _, _, hn => by omega
  | m + 1, i, 0, _, _, _, _, hn => by omega
  | 0, i, n + 1, a, S, h0, hi, hn => by
    have hsz := h.n hk
    have h12 := osz_12 hk
    rw [cE_totalOf_4, if_pos (show o.2.1.toInt ≤ (Int32.ofNat i).toInt by rw [hsz, yi_nat (by omega)]; omega)]
    rfl
  | m + 1, i, n + 1, a, S, h0, hi, hn => by
    have hsz := h.n hk
    have hs := h.s hk
    have h12 := osz_12 hk
    have stop : ∀ (k : Int32) (b : Int64) (q : Int32), k ≠ 0 → Kc (.inr k) S (cE_totalOf_4 gi ga As ne am N n o b q (zsI S 1 k)) := by
      intro k b q hk0
      obtain ⟨n, rfl⟩ : ∃ q, n = q + 1 := ⟨n - 1, by omega⟩
      refine ⟨hk0, b, ?_⟩
      rw [cE_totalOf_4]
      split
      · rfl
      · rw [if_pos (show zI (zsI S 1 k) 1 ≠ 0 from hk0)]
    rw [cE_totalOf_4, if_neg (show ¬ o.2.1.toInt ≤ (Int32.ofNat i).toInt by rw [hsz, yi_nat (by omega)]; omega), if_neg (nn h0), sumR]
    by_cases h4 : y.1 = 4
    · have hrw := h.2.2.2 h4
      have hsz4 : osz y = y.2.2.length := by unfold osz; rw [if_pos h4]
      have il : i < y.2.2.length := by omega
      rw [if_pos (show o.1 = 4 by rw [xi32_eq, hs, h4]; rfl), if_pos h4, hrw, gI_nat (by omega), List.getElem?_eq_getElem il, zgs]
      unfold rowR
      rw [gI_nat (by omega), List.getElem?_eq_getElem il]
      rcases hrow : y.2.2[i]'il with _ | l
      · exact stop 1 _ _ (by decide)
      · have hl6 : l.length ≤ 6 := (hk.2.1 h4).2.2 l (by rw [← hrow]; exact List.getElem_mem _)
        have e := c_sumOf (gi := gi) (ga := ga) (As := As) (ne := ne) (am := am) (N := N) (S := S) l [] N 0 (by simp; omega) (by omega)
        have e : cE_sumOf gi ga As ne am N l S = some (rowS l 0, S) := e
        show Kc (sumR (rowR y) m (i + 1) (a + rowS l 0)) S (zb (cE_sumOf gi ga As ne am N l S) fun x3 S4 => cE_totalOf_4 gi ga As ne am N n o (a + x3) (Int32.ofNat i + 1) S4)
        rw [e, zbs, yi_add1]
        have ih := c_total hE hN h hk m (i + 1) n (a + rowS l 0) S h0 (by omega) (by omega)
        rw [if_pos h4] at ih
        exact ih
    · rw [if_neg (show ¬ o.1 = 4 by rw [xi32_eq, hs, show (4 : Int32).toInt = 4 from rfl]; omega), if_neg h4]
      have hc := c_worthAt (gi := gi) (ga := ga) (As := As) (N := N) hE h0 h hk (i := Int32.ofNat i)
      rcases hr : wthR En y (Int32.ofNat i) with v | k
      · rw [hr] at hc
        replace hc : cE_worthAt gi ga As ne am N o (Int32.ofNat i) S = some (v, S) := hc
        rw [hc, zbs, yi_add1]
        have ih := c_total hE hN h hk m (i + 1) n (a + v) S h0 (by omega) (by omega)
        rw [if_neg h4] at ih
        exact ih
      · rw [hr] at hc
        obtain ⟨hk0, v, hc⟩ := hc
        rw [hc, zbs]
        exact stop k _ _ hk0
theorem c_trues : ∀ (r pre : List Int64) (jk : List Int64) (n t : Nat), o.2.1 = Int32.ofNat (pre.length + r.length) → o.2.2.1 = pre ++ r ++ jk → o.2.2.1.length ≤ 1000 → r.length < n → cE_trues_4 gi ga As ne am N n o (Int32.ofNat t) (Int32.ofNat pre.length) S = some (Int32.ofNat (t + truN r), S)
  | _, _, _, 0, _, _, _, _, h => by omega
  | [], pre, jk, n + 1, t, h1, h2, h3, _ => by
    rw [cE_trues_4, if_pos (by rw [h1]; simp), truN, Nat.add_zero]
  | x :: r, pre, jk, n + 1, t, h1, h2, h3, hn => by
    have hl : pre.length + (r.length + 1) ≤ 1000 := by
      rw [h2, List.length_append, List.length_append, List.length_cons] at h3
      omega
    rw [List.length_cons] at h1 hn
    have e1 := yi_nat (i := pre.length) (by omega)
    have hx : o.2.2.1[pre.length]? = some x := by rw [h2, List.append_assoc, List.getElem?_append_right (Nat.le_refl _), Nat.sub_self]; rfl
    have hxl := (List.getElem?_eq_some_iff.mp hx).1
    have ih := fun t => c_trues r (pre ++ [x]) jk n t (by rw [h1, List.length_append, List.length_singleton, Nat.add_right_comm, Nat.add_assoc]) (by rw [h2]; simp) h3 (by omega)
    rw [List.length_append, List.length_singleton] at ih
    rw [cE_trues_4, if_neg (by rw [h1, yi_nat (by omega), e1]; omega), if_neg (by rw [yi_nat (by omega), e1]; omega), gI_nat (by omega), hx, zgs, truN]
    by_cases h0 : x = 0
    · rw [if_pos h0, if_pos h0, yi_add1, Int32.add_zero, Nat.zero_add]
      exact ih t
    · rw [if_neg h0, if_neg h0, yi_add1, yi_add1, show t + (1 + truN r) = t + 1 + truN r by omega]
      exact ih (t + 1)
end CCALLS
