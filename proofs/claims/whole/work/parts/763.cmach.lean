/-! WORKING, THE CLASS: its stack -/
/-- what a figure was worth, if it was worked -/
def mOne (S : zS) (i : Nat) : Option yR → Prop
  | none => (zA S 12)[i]? = some 0
  | some (.inl v) => (zA S 12)[i]? = some 1 ∧ (zB S 13)[i]? = some v ∧ (zA S 14)[i]? = some 0
  | some (.inr e) => (zA S 12)[i]? = some 1 ∧ (zA S 14)[i]? = some e.1 ∧ (zA S 15)[i]? = some e.2 ∧ e.1 ≠ 0
def mmC (S : zS) (m : List (Option yR)) : Prop := ((zA S 12).length = 12 ∧ (zB S 13).length = 12 ∧ (zA S 14).length = 12 ∧ (zA S 15).length = 12) ∧ m.length = 12 ∧ ∀ (i : Nat) x, m[i]? = some x → mOne S i x
/-- what working leaves as it was -/
def frC (R S : zS) : Prop := (zI S 16 = zI R 16 ∧ zI S 23 = zI R 23) ∧ (zA S 17 = zA R 17 ∧ zA S 18 = zA R 18 ∧ zA S 19 = zA R 19 ∧ zA S 20 = zA R 20 ∧ zA S 21 = zA R 21 ∧ zA S 22 = zA R 22) ∧ (zA S 24 = zA R 24 ∧ zA S 25 = zA R 25 ∧ zA S 26 = zA R 26 ∧ zA S 27 = zA R 27 ∧ zA S 28 = zA R 28 ∧ zA S 29 = zA R 29)
def cnC (R S : zS) (w : yW) (cur : Int32) (d : Nat) : Prop := zI S 0 = w.1 ∧ zI S 4 = w.2.1 ∧ zI S 5 + Int32.ofNat d = w.2.1 ∧ zI S 6 = w.2.2.1 ∧ zI S 3 = cur ∧ frC R S
def skC (S : zS) (stk : List Int64) : Prop := (zB S 9).length = 560 ∧ ∀ (i : Nat) x, stk[i]? = some x → (zB S 9)[i]? = some x
def trC (S : zS) (trs : List (Int32 × Nat)) : Prop := zI S 8 = Int32.ofNat trs.length ∧ ((zA S 10).length = 250 ∧ (zA S 11).length = 250) ∧ ∀ (i : Nat) u, trs[i]? = some u → (zA S 10)[i]? = some u.1 ∧ (zA S 11)[i]? = some (Int32.ofNat u.2)
def Wk (R S : zS) (w : yW) (cur : Int32) (d : Nat) (stk : List Int64) (trs : List (Int32 × Nat)) : Prop := cnC R S w cur d ∧ (zI S 7 = Int32.ofNat stk.length ∧ skC S stk) ∧ trC S trs ∧ mmC S w.2.2.2
/-- .. while a FAILURE is under way -/
def Wf (R S : zS) (w : yW) (cur : Int32) (d : Nat) (stk : List Int64) (trs : List (Int32 × Nat)) (k a : Int32) : Prop := cnC R S w cur d ∧ skC S stk ∧ trC S trs ∧ mmC S w.2.2.2 ∧ zI S 1 = k ∧ k ≠ 0 ∧ zI S 2 = a
section CMACH
variable {gi : Nat → Int32} {ga : Nat → List Int32} {As : List (Option zO)} {ne : Int32} {am : List Int64} {N : Nat} {R S : zS} {w : yW} {cur : Int32} {d : Nat} {stk : List Int64} {trs : List (Int32 × Nat)}
theorem Wf.of {l : List Int64} {k a : Int32} (h : Wk R S w cur d (stk ++ l) trs) (h1 : zI S 1 = k) (hk : k ≠ 0) (h2 : zI S 2 = a) : Wf R S w cur d stk trs k a := by
  obtain ⟨c1, ⟨_, c2, c3⟩, c4, c5⟩ := h
  refine ⟨c1, ⟨c2, fun i x hx => c3 i x ?_⟩, c4, c5, h1, hk, h2⟩
  rw [List.getElem?_append_left (List.getElem?_eq_some_iff.mp hx).1]; exact hx
theorem push_W {v : Int64} (h : Wk R S w cur d stk trs) (hl : stk.length < 560) : ∃ S', cE_push gi ga As ne am N v S = some ((), S') ∧ Wk R S' w cur d (stk ++ [v]) trs ∧ zI S' 1 = zI S 1 ∧ zI S' 2 = zI S 2 := by
  obtain ⟨c1, ⟨c2, c3, c4⟩, c5, c6⟩ := h
  have e := yi_nat (i := stk.length) (by omega)
  refine ⟨zsI (zsB S 9 ((zB S 9).set stk.length v)) 7 (Int32.ofNat (stk.length + 1)), ?_, ⟨c1, ⟨?_, ?_, ?_⟩, c5, c6⟩, rfl, rfl⟩
  · rw [cE_push, if_neg (by rw [c2, c3, e, yi_nat (by omega)]; omega), c2, if_pos (zok_nat (by omega) (by omega)), zs_nat (by omega), yi_add1]
  · rw [List.length_append]; rfl
  · show ((zB S 9).set stk.length v).length = 560
    rw [List.length_set]; exact c3
  · intro i x hx
    show ((zB S 9).set stk.length v)[i]? = some x
    by_cases hi : i < stk.length
    · rw [List.getElem?_append_left hi] at hx
      rw [List.getElem?_set_ne (by omega)]
      exact c4 i x hx
    · have hil := (List.getElem?_eq_some_iff.mp hx).1
      rw [List.length_append, List.length_singleton] at hil
      obtain rfl : i = stk.length := by omega
      rw [List.getElem?_append_right (Nat.le_refl _), Nat.sub_self] at hx
      rw [List.getElem?_set_self (by omega)]
      exact hx
theorem pop_W {v : Int64} (h : Wk R S w cur d (stk ++ [v]) trs) (hl : stk.length < 560) : ∃ S', cE_pop gi ga As ne am N S = some (v, S') ∧ Wk R S' w cur d stk trs ∧ zI S' 1 = zI S 1 ∧ zI S' 2 = zI S 2 := by
  obtain ⟨c1, ⟨c2, c3, c4⟩, c5, c6⟩ := h
  rw [List.length_append, List.length_singleton] at c2
  have e1 : zI S 7 - 1 = Int32.ofNat stk.length := by
    rw [c2, ← yi_add1, Int32.add_sub_cancel]
  refine ⟨zsI S 7 (Int32.ofNat stk.length), ?_, ⟨c1, ⟨rfl, c3, ?_⟩, c5, c6⟩, rfl, rfl⟩
  · rw [cE_pop, if_pos (by rw [c2, yi_nat (by omega)]; omega), e1, gI_nat (by omega), c4 stk.length v (by rw [List.getElem?_append_right (Nat.le_refl _), Nat.sub_self]; rfl), zgs]
  · intro i x hx
    exact c4 i x (by rw [List.getElem?_append_left (List.getElem?_eq_some_iff.mp hx).1]; exact hx)
theorem Wk.fl {k : Int32} (h : Wk R S w cur d stk trs) : Wk R (flC S k) (w.1 + 1, w.2) cur d stk trs ∧ zI (flC S k) 1 = k ∧ zI (flC S k) 2 = cur := by
  obtain ⟨⟨a1, a2, a3, a4, a5⟩, c2, c5, c6⟩ := h
  refine ⟨⟨⟨?_, a2, a3, a4, a5⟩, c2, c5, c6⟩, rfl, a5.1⟩
  show zI S 0 + 1 = w.1 + 1
  rw [a1]
/-- a value that is told, or a FAILURE: it is pushed -/
theorem push_K {r : Int64 ⊕ Int32} {q : Option (Int64 × zS)} (h : Wk R S w cur d stk trs) (h1 : zI S 1 = 0) (hl : stk.length < 560) (hq : Kf r S q) : match okR r cur w with
    | (.inl v, w') => ∃ S', (zb q fun x S1 => cE_push gi ga As ne am N x S1) = some ((), S') ∧ Wk R S' w' cur d (stk ++ [v]) trs ∧ zI S' 1 = 0
    | (.inr e, w') => ∃ S', (zb q fun x S1 => cE_push gi ga As ne am N x S1) = some ((), S') ∧ Wf R S' w' cur d stk trs e.1 e.2 := by
  rcases r with v | k
  · replace hq : q = some (v, S) := hq
    obtain ⟨S', p1, p2, p3, _⟩ := push_W (gi := gi) (ga := ga) (As := As) (ne := ne) (am := am) (N := N) (v := v) h hl
    exact ⟨S', by rw [hq, zbs, p1], p2, by rw [p3, h1]⟩
  · obtain ⟨hk, v, hq⟩ := hq
    obtain ⟨f1, f2, f3⟩ := h.fl (k := k)
    obtain ⟨S', p1, p2, p3, p4⟩ := push_W (gi := gi) (ga := ga) (As := As) (ne := ne) (am := am) (N := N) (v := v) f1 hl
    exact ⟨S', by rw [hq, zbs, p1], Wf.of p2 (by rw [p3, f2]) hk (by rw [p4, f3])⟩
end CMACH
/-- the class's form -/
def fC (F : yF) (gi : Nat → Int32) (ga : Nat → List Int32) : Prop := (gi 18 = Int32.ofNat F.2.2.2.2.2.length ∧ F.2.2.2.2.2.length ≤ 560) ∧ (∀ (i : Nat) x y, F.2.2.2.2.2[i]? = some (x, y) → (ga 16)[i]? = some x ∧ (ga 17)[i]? = some y) ∧ (∀ (i : Nat) P, F.1[i]? = some P → (ga 1)[i]? = some P.1) ∧ ∀ (i : Nat) n x, F.2.1[i]? = some (n, x) → (ga 9)[i]? = some x
/-- the answers -/
def aA (En : List (Int64 × Int32)) (F : yF) (A : List (Option yO)) (As : List (Option zO)) : Prop := ∀ (p : Nat) P, F.1[p]? = some P → ∃ z, gI As (Int32.ofNat p) = some z ∧ aC En z (anR A (Int32.ofNat p))
section CLOOP
variable {gi : Nat → Int32} {ga : Nat → List Int32} {As : List (Option zO)} {ne : Int32} {am : List Int64} {rc : Int32 → Int32 → zS → Option (Int64 × zS)} {N : Nat} {ins fl ot : Int32} {S : zS} {F : yF}
/-- the loop from a place on, after so many steps -/
def Lp (gi : Nat → Int32) (ga : Nat → List Int32) (As : List (Option zO)) (ne : Int32) (am : List Int64) (rc : Int32 → Int32 → zS → Option (Int64 × zS)) (N : Nat) (ins fl ot : Int32) (p st : Nat) (S : zS) : Option (Int64 × zS) := cE_work_15 gi ga As ne am rc N (N - st) ins fl ot (Int32.ofNat p) (Int32.ofNat st) S
/-- .. behind a step that FAILED -/
def Fq (gi : Nat → Int32) (ga : Nat → List Int32) (As : List (Option zO)) (ne : Int32) (am : List Int64) (rc : Int32 → Int32 → zS → Option (Int64 × zS)) (N : Nat) (ins fl ot : Int32) (st : Nat) (S : zS) : Option (Int64 × zS) := if zI S 8 ≠ ot then (zb (cE_takeElse gi ga As ne am N S) fun x S1 => cE_work_15 gi ga As ne am rc N (N - (st + 1)) ins fl ot x (Int32.ofNat (st + 1)) S1) else some (0, zsI S 7 fl)
theorem Lp_step (hF : fC F gi ga) {p st : Nat} {x y : Int32} (hN : 560 < N) (hst : st < 560) (hc : F.2.2.2.2.2[p]? = some (x, y)) (hx : x ≠ 0) : Lp gi ga As ne am rc N ins fl ot p st S = zb (cE_step gi ga As ne am rc N (Int32.ofNat p) ins S) fun q S1 => if zI S1 1 = 0 then cE_work_15 gi ga As ne am rc N (N - (st + 1)) ins fl ot q (Int32.ofNat (st + 1)) S1 else Fq gi ga As ne am rc N ins fl ot st S1 := by
  have hp := (List.getElem?_eq_some_iff.mp hc).1
  have h560 := hF.1.2
  obtain ⟨g1, g2⟩ := hF.2.1 p x y hc
  unfold Lp
  rw [show N - st = (N - (st + 1)) + 1 by omega, cE_work_15, if_neg (by rw [yi_nat (by omega)]; omega), if_neg (by rw [hF.1.1, yi_nat (by omega), yi_nat (by omega)]; omega), gI_nat (by omega), g1, zgs, if_neg hx, yi_add1]
  congr 1
  funext q S1
  unfold Fq
  by_cases h : zI S1 1 = 0
  · rw [if_pos h, if_pos h, if_pos h]
  · rw [if_neg h, if_neg h, if_neg h]
end CLOOP
