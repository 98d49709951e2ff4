/-! WORKING, THE CLASS: what a name is asked for -/
/-- by what is done: 7 name, 8 len, 11 total, 12 item, 13 cell, 14 column -/
def askR (En : List (Int64 × Int32)) (d : Nat) (k : Int32) (z : Option yO) (i j : Int32) : Int64 ⊕ Int32 := if d = 8 then lenR k z else if d = 11 then totR En k z else if d = 12 then itemR En k z i else if d = 13 then cellR z i j else if d = 14 then colR z i else nameR En k z
/-- a FAILURE is told -/
def flC (S : zS) (k : Int32) : zS := zsI (zsI (zsI S 0 (zI S 0 + 1)) 1 k) 2 (zI S 3)
theorem flC_1 {S : zS} {k : Int32} : flC (zsI S 1 k) k = flC S k := by
  have : zup (zup (zup (zup S.1 1 k) 0 (zI S 0 + 1)) 1 k) 2 (zI S 3) = zup (zup (zup S.1 0 (zI S 0 + 1)) 1 k) 2 (zI S 3) := by
    funext j
    unfold zup
    by_cases h2 : j = 2
    · rw [if_pos h2, if_pos h2]
    · rw [if_neg h2, if_neg h2]
      by_cases h1 : j = 1
      · rw [if_pos h1, if_pos h1]
      · rw [if_neg h1, if_neg h1, if_neg h1]
  show (zup (zup (zup (zup S.1 1 k) 0 (zI S 0 + 1)) 1 k) 2 (zI S 3), S.2) = (zup (zup (zup S.1 0 (zI S 0 + 1)) 1 k) 2 (zI S 3), S.2)
  rw [this]
def Kf (r : Int64 ⊕ Int32) (S : zS) (o : Option (Int64 × zS)) : Prop := match r with
  | .inl v => o = some (v, S)
  | .inr k => k ≠ 0 ∧ ∃ v, o = some (v, flC S k)
def aC (En : List (Int64 × Int32)) (z : Option zO) (y : Option yO) : Prop := match z, y with
  | none, none => True
  | some o, some y => hC o y ∧ yOk En y
  | _, _ => False
section CASK
variable {gi : Nat → Int32} {ga : Nat → List Int32} {As : List (Option zO)} {ne : Int32} {am : List Int64} {N : Nat} {S : zS} {En : List (Int64 × Int32)} {o : zO} {y : yO}
theorem fail_C {k : Int32} : cE_fail gi ga As ne am N k S = some ((), flC S k) := rfl
theorem Kc.tell {r : Int64 ⊕ Int32} {q : Option (Int64 × zS)} (h0 : zI S 1 = 0) (h : Kc r S q) : Kf r S (zb q fun x S1 => if zI S1 1 = 0 then some (x, S1) else zb (cE_fail gi ga As ne am N (zI S1 1) S1) fun _ S2 => some (x, S2)) := by
  rcases r with v | k
  · replace h : q = some (v, S) := h
    rw [h, zbs, if_pos h0]
    rfl
  · obtain ⟨hk, v, h⟩ := h
    rw [h, zbs, if_neg (show ¬ zI (zsI S 1 k) 1 = 0 from hk), fail_C, zbs]
    exact ⟨hk, v, by rw [show zI (zsI S 1 k) 1 = k from rfl, flC_1]⟩
/-- kinds of parts that are asked -/
theorem kind_cases {k : Int32} (h : 0 ≤ k.toInt ∧ k.toInt ≤ 10) : k = 0 ∨ k = 1 ∨ k = 2 ∨ k = 3 ∨ k = 4 ∨ k = 5 ∨ k = 6 ∨ k = 7 ∨ k = 8 ∨ k = 9 ∨ k = 10 := by
  obtain ⟨m, hm, rfl, hm2⟩ := yi_of h.1
  have : m = 0 ∨ m = 1 ∨ m = 2 ∨ m = 3 ∨ m = 4 ∨ m = 5 ∨ m = 6 ∨ m = 7 ∨ m = 8 ∨ m = 9 ∨ m = 10 := by omega
  rcases this with rfl | rfl | rfl | rfl | rfl | rfl | rfl | rfl | rfl | rfl | rfl
  · exact Or.inl rfl
  · exact Or.inr (Or.inl rfl)
  · exact Or.inr (Or.inr (Or.inl rfl))
  · exact Or.inr (Or.inr (Or.inr (Or.inl rfl)))
  · exact Or.inr (Or.inr (Or.inr (Or.inr (Or.inl rfl))))
  · exact Or.inr (Or.inr (Or.inr (Or.inr (Or.inr (Or.inl rfl)))))
  · exact Or.inr (Or.inr (Or.inr (Or.inr (Or.inr (Or.inr (Or.inl rfl))))))
  · exact Or.inr (Or.inr (Or.inr (Or.inr (Or.inr (Or.inr (Or.inr (Or.inl rfl)))))))
  · exact Or.inr (Or.inr (Or.inr (Or.inr (Or.inr (Or.inr (Or.inr (Or.inr (Or.inl rfl))))))))
  · exact Or.inr (Or.inr (Or.inr (Or.inr (Or.inr (Or.inr (Or.inr (Or.inr (Or.inr (Or.inl rfl)))))))))
  · exact Or.inr (Or.inr (Or.inr (Or.inr (Or.inr (Or.inr (Or.inr (Or.inr (Or.inr (Or.inr rfl)))))))))
theorem xas_at {k : Int32} (h : 0 ≤ k.toInt ∧ k.toInt ≤ 10) : gI xas k = some (Int32.ofNat (sOf k)) := by
  rcases kind_cases h with rfl | rfl | rfl | rfl | rfl | rfl | rfl | rfl | rfl | rfl | rfl <;> rfl
theorem sOf_le {k : Int32} : sOf k ≤ 6 := by
  unfold sOf
  split
  · omega
  split
  · omega
  split
  · omega
  split
  · omega
  split
  · omega
  split
  · omega
  · omega
/-- the sort that is wanted -/
def wS (d : Nat) (k : Int32) : Nat := if d = 13 ∨ d = 14 then 4 else if d = 7 ∧ k = 10 then 7 else sOf k
theorem c_wanted {k : Int32} {d : Nat} (hd : d < 100) (h : 0 ≤ k.toInt ∧ k.toInt ≤ 10) : cE_wanted gi ga As ne am N (Int32.ofNat d) k S = some (Int32.ofNat (wS d k), S) := by
  have e : ∀ m : Nat, m < 100 → (Int32.ofNat d = Int32.ofNat m ↔ d = m) := by
    intro m hm
    rw [xi32_eq, yi_nat (by omega), yi_nat (by omega)]
    omega
  have e13 : Int32.ofNat d = 13 ↔ d = 13 := e 13 (by omega)
  have e14 : Int32.ofNat d = 14 ↔ d = 14 := e 14 (by omega)
  have e7 : Int32.ofNat d = 7 ↔ d = 7 := e 7 (by omega)
  unfold cE_wanted wS
  by_cases h13 : d = 13
  · rw [if_pos (e13.mpr h13), if_pos (Or.inl h13)]
    rfl
  · rw [if_neg (fun hh => h13 (e13.mp hh))]
    by_cases h14 : d = 14
    · rw [if_neg (nn (e14.mpr h14)), if_pos (Or.inr h14)]
      rfl
    · rw [if_pos (fun hh => h14 (e14.mp hh)), if_neg (show ¬ (d = 13 ∨ d = 14) by omega)]
      by_cases h7 : d = 7
      · rw [if_neg (nn (e7.mpr h7))]
        by_cases hk : k = 10
        · rw [if_neg (nn hk), if_pos ⟨h7, hk⟩]
          rfl
        · rw [if_pos hk, xas_at h, zgs, if_neg (fun hh => hk hh.2)]
      · rw [if_pos (fun hh => h7 (e7.mp hh)), xas_at h, zgs, if_neg (fun hh => h7 hh.1)]
theorem c_isOf {s : Nat} (hs : s ≤ 7) (h : hC o y) (hk : yOk En y) : cE_isOf gi ga As ne am N o (Int32.ofNat s) S = some (if y.1 = s ∨ (y.1 = 6 ∧ s = 5) then 1 else 0, S) := by
  have e := h.s hk
  have e1 : (o.1 = Int32.ofNat s) ↔ y.1 = s := by rw [xi32_eq, e, yi_nat (by omega)]; omega
  have e2 : (o.1 = 6) ↔ y.1 = 6 := by rw [xi32_eq, e, show (6 : Int32).toInt = 6 from rfl]; omega
  have e3 : (Int32.ofNat s = 5) ↔ s = 5 := by rw [xi32_eq, yi_nat (by omega), show (5 : Int32).toInt = 5 from rfl]; omega
  unfold cE_isOf
  by_cases h1 : y.1 = s
  · rw [if_pos (e1.mpr h1), if_pos (Or.inl h1)]
  · rw [if_neg (fun hh => h1 (e1.mp hh))]
    by_cases h2 : y.1 = 6
    · rw [if_neg (nn (e2.mpr h2))]
      by_cases h3 : s = 5
      · rw [if_neg (nn (e3.mpr h3)), if_pos (Or.inr ⟨h2, h3⟩)]
      · rw [if_pos (fun hh => h3 (e3.mp hh)), if_neg (fun hh => hh.elim h1 fun q => h3 q.2)]
    · rw [if_pos (fun hh => h2 (e2.mp hh)), if_neg (fun hh => hh.elim h1 fun q => h2 q.1)]
/-- an object of the sort that is wanted -/
abbrev okS (s : Nat) (y : yO) : Prop := y.1 = s ∨ (y.1 = 6 ∧ s = 5)
theorem asR_some {s : Nat} {y : yO} : asR (some y) s = (if okS s y then .inl y else .inr 2 : yO ⊕ Int32) := rfl
theorem c_nameOf (hE : eC En ne am) (hN : 1000 < N) (h0 : zI S 1 = 0) {k : Int32} (hk0 : 0 ≤ k.toInt ∧ k.toInt ≤ 10) (h : hC o y) (hk : yOk En y) (hs : okS (wS 7 k) y) : Kc (nameR En k (some y)) S (cE_nameOf gi ga As ne am N o k S) := by
  have hsz := h.2.1
  have e : nameR En k (some y) = if k = 5 then .inl (Int32.ofNat (truN y.2.1)).toInt64 else if k = 6 ∨ k = 7 ∨ k = 8 ∨ k = 9 then .inl (Int32.ofNat (osz y)).toInt64 else wthR En y 0 := by
    unfold nameR
    have : (if k = 10 then 7 else sOf k) = wS 7 k := by
      unfold wS
      rw [if_neg (show ¬ (7 = 13 ∨ 7 = 14) by omega)]
      by_cases h10 : k = 10
      · rw [if_pos h10, if_pos ⟨rfl, h10⟩]
      · rw [if_neg h10, if_neg (fun hh => h10 hh.2)]
    rw [this, asR_some, if_pos hs]
  rw [e]
  have wth : Kc (wthR En y 0) S (zb (cE_worthAt gi ga As ne am N o 0 S) fun x9 S10 => some (x9, S10)) := by
    have := c_worthAt (gi := gi) (ga := ga) (As := As) (N := N) hE h0 h hk (i := 0)
    rw [show (zb (cE_worthAt gi ga As ne am N o 0 S) fun x9 S10 => some (x9, S10)) = cE_worthAt gi ga As ne am N o 0 S from zb_id]
    exact this
  unfold cE_nameOf
  by_cases h5 : k = 5
  · subst h5
    rw [if_pos rfl, if_pos rfl]
    have hy : y.1 = 0 := by
      have hw : wS 7 5 = 0 := by decide
      rw [hw] at hs
      rcases hs with h | h <;> omega
    have h4 : y.1 ≠ 4 := by omega
    obtain ⟨jk, ej, hil⟩ := h.2.2.1
    have ec : cit y = y.2.1 := by unfold cit; rw [if_neg (by omega)]
    have ez : osz y = y.2.1.length := by unfold osz; rw [if_neg h4]
    have h12 := osz_12 hk
    rw [ec] at ej
    have ht : cE_trues gi ga As ne am N o S = some (Int32.ofNat (truN y.2.1), S) := by
      have := c_trues (gi := gi) (ga := ga) (As := As) (ne := ne) (am := am) (N := N) (S := S) (o := o) y.2.1 [] jk N 0 (by rw [hsz, ez]; simp) (by rw [ej]; simp) hil (by omega)
      rw [Nat.zero_add] at this
      exact this
    rw [ht, zbs]
    rfl
  rw [if_neg h5, if_neg h5]
  by_cases h6 : k = 6
  · rw [if_pos h6, if_pos (Or.inl h6), hsz]
    rfl
  rw [if_neg h6]
  by_cases h7 : k = 7
  · rw [if_pos h7, if_pos (Or.inr (Or.inl h7)), hsz]
    rfl
  rw [if_neg h7]
  by_cases h8 : k = 8
  · rw [if_pos h8, if_pos (Or.inr (Or.inr (Or.inl h8))), hsz]
    rfl
  rw [if_neg h8]
  by_cases h9 : k = 9
  · rw [if_pos h9, if_pos (Or.inr (Or.inr (Or.inr h9))), hsz]
    rfl
  rw [if_neg h9, if_neg (fun hh => by rcases hh with hh | hh | hh | hh; exact h6 hh; exact h7 hh; exact h8 hh; exact h9 hh)]
  exact wth
theorem c_ask17 (hE : eC En ne am) (hN : 1000 < N) (h0 : zI S 1 = 0) {d : Nat} (hd : d = 7 ∨ d = 8 ∨ d = 11 ∨ d = 12 ∨ d = 13 ∨ d = 14) {P k : Int32} (hkd : gI (ga 1) P = some k) (hk0 : 0 ≤ k.toInt ∧ k.toInt ≤ 10) {z : Option zO} {yy : Option yO} (hz : gI As P = some z) (hzy : aC En z yy) {i j : Int32} : Kf (askR En d k yy i j) S (cE_ask_17 gi ga As ne am N (Int32.ofNat d) P j i S) := by
  have e : ∀ m : Nat, m < 100 → (Int32.ofNat d = Int32.ofNat m ↔ d = m) := by
    intro m hm
    rw [xi32_eq, yi_nat (by omega), yi_nat (by omega)]
    omega
  have eN : ∀ m : Nat, m < 100 → d ≠ m → ¬ (Int32.ofNat d = Int32.ofNat m) := fun m hm h hh => h ((e m hm).mp hh)
  unfold cE_ask_17
  rw [hkd, zgs, hz, zgs]
  rcases z with _ | o
  · rcases yy with _ | y
    · show Kf (askR En d k none i j) S (zb (cE_fail gi ga As ne am N 1 (zsI S 1 1)) fun _ S4 => some (0, S4))
      have : askR En d k none i j = .inr 1 := by
        unfold askR
        rcases hd with rfl | rfl | rfl | rfl | rfl | rfl <;> rfl
      rw [this, fail_C, zbs, flC_1]
      exact ⟨by decide, 0, rfl⟩
    · exact absurd hzy id
  · rcases yy with _ | y
    · exact absurd hzy id
    · obtain ⟨hC1, hk⟩ := hzy
      have hw7 : wS d k ≤ 7 := by
        unfold wS
        have := sOf_le (k := k)
        split
        · omega
        split <;> omega
      show Kf _ S (zb (cE_wanted gi ga As ne am N (Int32.ofNat d) k S) _)
      rw [c_wanted (by omega) hk0, zbs, c_isOf hw7 hC1 hk, zbs]
      have sizeK : ∀ (x : Int32), Kf (.inl x.toInt64) S (if zI S 1 = 0 then some (x.toInt64, S) else zb (cE_fail gi ga As ne am N (zI S 1) S) fun _ S13 => some (x.toInt64, S13)) := by
        intro x
        rw [if_pos h0]
        rfl
      by_cases hs : okS (wS d k) y
      · rw [if_pos (show y.1 = wS d k ∨ (y.1 = 6 ∧ wS d k = 5) from hs), if_pos (by decide)]
        have as4 : d = 13 ∨ d = 14 → y.1 = 4 := by
          intro hh
          unfold wS at hs
          rw [if_pos hh] at hs
          rcases hs with h | h <;> omega
        have asS : d ≠ 13 → d ≠ 14 → d ≠ 7 → asR (some y) (sOf k) = .inl y := by
          intro h1 h2 h3
          unfold wS at hs
          rw [if_neg (by omega), if_neg (fun hh => h3 hh.1)] at hs
          rw [asR_some, if_pos hs]
        rcases hd with rfl | rfl | rfl | rfl | rfl | rfl
        · rw [if_neg (show ¬ Int32.ofNat 7 = 8 by decide), if_neg (show ¬ Int32.ofNat 7 = 11 by decide), if_neg (show ¬ Int32.ofNat 7 = 12 by decide), if_neg (show ¬ Int32.ofNat 7 = 13 by decide), if_neg (show ¬ Int32.ofNat 7 = 14 by decide)]
          exact Kc.tell h0 (c_nameOf hE hN h0 hk0 hC1 hk hs)
        · rw [if_pos (show Int32.ofNat 8 = 8 from rfl), hC1.2.1]
          have : askR En 8 k (some y) i j = .inl (Int32.ofNat (osz y)).toInt64 := by
            show lenR k (some y) = _
            unfold lenR
            rw [asS (by omega) (by omega) (by omega)]
          rw [this]
          exact sizeK _
        · rw [if_neg (show ¬ Int32.ofNat 11 = 8 by decide), if_pos (show Int32.ofNat 11 = 11 from rfl)]
          have : askR En 11 k (some y) i j = sumR (if y.1 = 4 then rowR y else wthR En y) (osz y) 0 0 := by
            show totR En k (some y) = _
            unfold totR
            rw [asS (by omega) (by omega) (by omega)]
          rw [this]
          have h12 := osz_12 hk
          exact Kc.tell h0 (c_total hE hN hC1 hk (osz y) 0 N 0 S h0 (by omega) (by omega))
        · rw [if_neg (show ¬ Int32.ofNat 12 = 8 by decide), if_neg (show ¬ Int32.ofNat 12 = 11 by decide), if_pos (show Int32.ofNat 12 = 12 from rfl)]
          have : askR En 12 k (some y) i j = wthR En y i := by
            show itemR En k (some y) i = _
            unfold itemR
            rw [asS (by omega) (by omega) (by omega)]
          rw [this]
          exact Kc.tell h0 (c_worthAt hE h0 hC1 hk)
        · rw [if_neg (show ¬ Int32.ofNat 13 = 8 by decide), if_neg (show ¬ Int32.ofNat 13 = 11 by decide), if_neg (show ¬ Int32.ofNat 13 = 12 by decide), if_pos (show Int32.ofNat 13 = 13 from rfl)]
          have h4 := as4 (Or.inl rfl)
          have : askR En 13 k (some y) i j = celR y i j := by
            show cellR (some y) i j = _
            unfold cellR
            rw [asR_some, if_pos (Or.inl h4)]
          rw [this]
          exact Kc.tell h0 (c_cellAt h0 hC1 hk h4)
        · rw [if_neg (show ¬ Int32.ofNat 14 = 8 by decide), if_neg (show ¬ Int32.ofNat 14 = 11 by decide), if_neg (show ¬ Int32.ofNat 14 = 12 by decide), if_neg (show ¬ Int32.ofNat 14 = 13 by decide), if_pos (show Int32.ofNat 14 = 14 from rfl)]
          have h4 := as4 (Or.inr rfl)
          have : askR En 14 k (some y) i j = sumR (fun q => celR y q i) (osz y) 0 0 := by
            show colR (some y) i = _
            unfold colR
            rw [asR_some, if_pos (Or.inl h4)]
          rw [this]
          have h12 := osz_12 hk
          exact Kc.tell h0 (c_column hC1 hk h4 (osz y) 0 N 0 S h0 (by omega) (by omega))
      · rw [if_neg (show ¬ (y.1 = wS d k ∨ (y.1 = 6 ∧ wS d k = 5)) from hs), if_neg (nn rfl), fail_C, zbs, flC_1]
        have : askR En d k (some y) i j = .inr 2 := by
          have asN : ∀ s, s = wS d k → asR (some y) s = .inr 2 := by
            rintro s rfl
            rw [asR_some, if_neg hs]
          rcases hd with rfl | rfl | rfl | rfl | rfl | rfl
          · show nameR En k (some y) = _
            unfold nameR
            rw [asN _ ?_]
            unfold wS
            rw [if_neg (show ¬ (7 = 13 ∨ 7 = 14) by omega)]
            by_cases h10 : k = 10
            · rw [if_pos h10, if_pos ⟨rfl, h10⟩]
            · rw [if_neg h10, if_neg (fun hh => h10 hh.2)]
          · show lenR k (some y) = _
            unfold lenR
            rw [asN (sOf k) (by unfold wS; rfl)]
          · show totR En k (some y) = _
            unfold totR
            rw [asN (sOf k) (by unfold wS; rfl)]
          · show itemR En k (some y) i = _
            unfold itemR
            rw [asN (sOf k) (by unfold wS; rfl)]
          · show cellR (some y) i j = _
            unfold cellR
            rw [asN (4) (by unfold wS; rfl)]
          · show colR (some y) i = _
            unfold colR
            rw [asN (4) (by unfold wS; rfl)]
        rw [this]
        exact ⟨by decide, 0, rfl⟩
end CASK
