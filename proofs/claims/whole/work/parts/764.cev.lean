/-! WORKING, THE CLASS: the steps of an exp -/
theorem zb_assoc {α β γ : Type} {o : Option (α × zS)} {f : α → zS → Option (β × zS)} {g : β → zS → Option γ} : (zb o fun x S1 => zb (f x S1) g) = zb (zb o f) g := by
  rcases o with _ | ⟨x, S⟩ <;> rfl
theorem yRep.lt {F : yF} {j : Nat} : ∀ {k s e : Nat} {n : Int32}, yRep F j k s e n → s < e
  | 0, _, _, _, h => absurd h id
  | k + 1, s, e, n, h => by
    obtain ⟨_, op, one, two, val, _, h⟩ := h
    rcases h with ⟨_, h, _⟩ | ⟨_, h, _⟩ | ⟨_, h, _⟩ | ⟨_, h, _⟩ | ⟨_, h, _⟩ | ⟨_, h, _⟩ | ⟨_, h, _⟩ | ⟨_, h, _⟩ | ⟨_, h, _⟩ | ⟨_, h, _⟩ | ⟨_, m, _, h1, _, h2⟩ | ⟨_, h, _⟩ | ⟨_, h, _⟩ | ⟨_, _, h, _⟩
    all_goals first | omega | skip
    have a := yRep.lt h1
    have b := yRep.lt h2
    omega
theorem Wf.mono {R S : zS} {w : yW} {cur : Int32} {d : Nat} {stk l : List Int64} {trs : List (Int32 × Nat)} {k a : Int32} (h : Wf R S w cur d (stk ++ l) trs k a) : Wf R S w cur d stk trs k a := by
  obtain ⟨c1, ⟨c2, c3⟩, c4⟩ := h
  refine ⟨c1, ⟨c2, fun i x hx => c3 i x ?_⟩, c4⟩
  rw [List.getElem?_append_left (List.getElem?_eq_some_iff.mp hx).1]; exact hx
/-- is an answer of a sort -/
def isR (z : Option yO) (t : Nat) : Int64 := match z with
  | none => 0
  | some o => if o.1 = t ∨ (o.1 = 6 ∧ t = 5) then 1 else 0
/-- how an exp's steps end: at the place e with its value, or FAILED -/
def EvL (R : zS) (K : Nat → Nat → zS → Option (Int64 × zS)) (Q : Nat → zS → Option (Int64 × zS)) (s0 e : Nat) (cur : Int32) (d : Nat) (stk : List Int64) (trs : List (Int32 × Nat)) (o : Option (Int64 × zS)) (r : yR × yW) : Prop := match r with
  | (.inl v, w') => ∃ st' S', o = K e st' S' ∧ s0 + st' ≤ e ∧ Wk R S' w' cur d (stk ++ [v]) trs ∧ zI S' 1 = 0
  | (.inr x, w') => ∃ st' S', o = Q st' S' ∧ s0 + st' < e ∧ Wf R S' w' cur d stk trs x.1 x.2
section EVL
variable {R : zS} {K : Nat → Nat → zS → Option (Int64 × zS)} {Q : Nat → zS → Option (Int64 × zS)} {s0 m e : Nat} {cur : Int32} {d : Nat} {stk : List Int64} {trs : List (Int32 × Nat)} {o : Option (Int64 × zS)} {r1 r2 : yR × yW}
theorem EvL.seq {l : List Int64} (h : EvL R K Q s0 m cur d (stk ++ l) trs o r1) (hm : m ≤ e) (hv : ∀ v w' st1 S1, r1 = (.inl v, w') → s0 + st1 ≤ m → Wk R S1 w' cur d (stk ++ l ++ [v]) trs → zI S1 1 = 0 → EvL R K Q s0 e cur d stk trs (K m st1 S1) r2) (hf : ∀ x w', r1 = (.inr x, w') → r2 = (.inr x, w')) : EvL R K Q s0 e cur d stk trs o r2 := by
  obtain ⟨r, w'⟩ := r1
  rcases r with v | x
  · obtain ⟨st', S', q1, q2, q3, q4⟩ := h
    rw [q1]
    exact hv v w' st' S' rfl q2 q3 q4
  · obtain ⟨st', S', q1, q2, q3⟩ := h
    rw [hf x w' rfl]
    exact ⟨st', S', q1, by omega, q3.mono⟩
end EVL
section CLEAF
variable {gi : Nat → Int32} {ga : Nat → List Int32} {As : List (Option zO)} {ne : Int32} {am : List Int64} {rc : Int32 → Int32 → zS → Option (Int64 × zS)} {N : Nat} {ins fl ot : Int32} {R S S0 : zS} {F : yF} {w : yW} {cur : Int32} {d s0 st p : Nat} {stk : List Int64} {trs : List (Int32 × Nat)} {En : List (Int64 × Int32)}
theorem leaf_K {x y : Int32} {r : Int64 ⊕ Int32} {q : Option (Int64 × zS)} (hF : fC F gi ga) (hN : 560 < N) (hs : s0 + st ≤ p) (hc : F.2.2.2.2.2[p]? = some (x, y)) (hx : x ≠ 0) (hstep : cE_step gi ga As ne am rc N (Int32.ofNat p) ins S = zb q fun x S1 => zb (cE_push gi ga As ne am N x S1) fun _ S2 => some (Int32.ofNat p + 1, S2)) (hW : Wk R S0 w cur d stk trs) (h1 : zI S0 1 = 0) (hl : stk.length < 560) (hq : Kf r S0 q) : EvL R (Lp gi ga As ne am rc N ins fl ot) (Fq gi ga As ne am rc N ins fl ot) s0 (p + 1) cur d stk trs (Lp gi ga As ne am rc N ins fl ot p st S) (okR r cur w) := by
  have hp := (List.getElem?_eq_some_iff.mp hc).1
  have h560 := hF.1.2
  rw [Lp_step hF hN (by omega) hc hx, hstep, zb_assoc]
  have P := push_K (gi := gi) (ga := ga) (As := As) (ne := ne) (am := am) (N := N) hW h1 hl hq
  rcases hr : okR r cur w with ⟨v | e, w'⟩
  · rw [hr] at P
    obtain ⟨S', p1, p2, p3⟩ := P
    rw [p1, zbs, zbs, if_pos p3, yi_add1]
    exact ⟨st + 1, S', rfl, by omega, p2, p3⟩
  · rw [hr] at P
    obtain ⟨S', p1, p2⟩ := P
    rw [p1, zbs, zbs, if_neg (by rw [p2.2.2.2.2.1]; exact p2.2.2.2.2.2.1)]
    exact ⟨st, S', rfl, by omega, p2⟩
/-- of the class's step -/
theorem step_num {y : Int32} (hF : fC F gi ga) (hc : F.2.2.2.2.2[p]? = some (1, y)) : cE_step gi ga As ne am rc N (Int32.ofNat p) ins S = zb (some (y.toInt64, S)) fun x S1 => zb (cE_push gi ga As ne am N x S1) fun _ S2 => some (Int32.ofNat p + 1, S2) := by
  have hp := (List.getElem?_eq_some_iff.mp hc).1
  have h560 := hF.1.2
  obtain ⟨g1, g2⟩ := hF.2.1 p _ _ hc
  rw [cE_step, gI_nat (by omega), g1, zgs, gI_nat (by omega), g2, zgs, if_pos rfl, zbs]
theorem step_fig {y : Int32} (hF : fC F gi ga) (hc : F.2.2.2.2.2[p]? = some (2, y)) : cE_step gi ga As ne am rc N (Int32.ofNat p) ins S = zb (cE_worthOf gi ga As ne am rc N y ins S) fun x S1 => zb (cE_push gi ga As ne am N x S1) fun _ S2 => some (Int32.ofNat p + 1, S2) := by
  have hp := (List.getElem?_eq_some_iff.mp hc).1
  have h560 := hF.1.2
  obtain ⟨g1, g2⟩ := hF.2.1 p _ _ hc
  rw [cE_step, gI_nat (by omega), g1, zgs, gI_nat (by omega), g2, zgs, if_neg (by decide), if_pos rfl]
theorem step_or {x y : Int32} (hx : x = 3 ∨ x = 4) (hF : fC F gi ga) (hc : F.2.2.2.2.2[p]? = some (x, y)) : cE_step gi ga As ne am rc N (Int32.ofNat p) ins S = zb (cE_decide gi ga As ne am N (if x = 3 then 1 else 0) (Int32.ofNat p) y S) fun x14 S15 => some (x14, S15) := by
  have hp := (List.getElem?_eq_some_iff.mp hc).1
  have h560 := hF.1.2
  obtain ⟨g1, g2⟩ := hF.2.1 p _ _ hc
  rw [cE_step, gI_nat (by omega), g1, zgs, gI_nat (by omega), g2, zgs]
  rcases hx with rfl | rfl
  · rw [if_neg (by decide), if_neg (by decide), if_pos rfl, cE_step_32, if_neg (nn rfl), if_pos rfl]
  · rw [if_neg (by decide), if_neg (by decide), if_neg (by decide), if_pos rfl, cE_step_32, if_pos (by decide), if_neg (by decide)]
theorem step_try {y : Int32} (hF : fC F gi ga) (hc : F.2.2.2.2.2[p]? = some (5, y)) : cE_step gi ga As ne am rc N (Int32.ofNat p) ins S = zb (cE_beginTry gi ga As ne am N y S) fun _ S23 => some (Int32.ofNat p + 1, S23) := by
  have hp := (List.getElem?_eq_some_iff.mp hc).1
  have h560 := hF.1.2
  obtain ⟨g1, g2⟩ := hF.2.1 p _ _ hc
  rw [cE_step, gI_nat (by omega), g1, zgs, gI_nat (by omega), g2, zgs, if_neg (by decide), if_neg (by decide), if_neg (by decide), if_neg (by decide), if_pos rfl]
theorem step_tried {y : Int32} (hF : fC F gi ga) (hc : F.2.2.2.2.2[p]? = some (6, y)) : cE_step gi ga As ne am rc N (Int32.ofNat p) ins S = some (y, zsI S 8 (zI S 8 - 1)) := by
  have hp := (List.getElem?_eq_some_iff.mp hc).1
  have h560 := hF.1.2
  obtain ⟨g1, g2⟩ := hF.2.1 p _ _ hc
  rw [cE_step, gI_nat (by omega), g1, zgs, gI_nat (by omega), g2, zgs, if_neg (by decide), if_neg (by decide), if_neg (by decide), if_neg (by decide), if_neg (by decide), if_pos rfl]
theorem sh8 {p : Nat} (hp : p < 20) : (8 * Int32.ofNat p) >>> ((3 : Int32) &&& 31) = Int32.ofNat p := by
  have h : ∀ q : Fin 20, (8 * Int32.ofNat q.1) >>> ((3 : Int32) &&& 31) = Int32.ofNat q.1 := by decide +kernel
  exact h ⟨p, hp⟩
theorem sh8t {p t : Nat} (hp : p < 20) (ht : t < 8) : (8 * Int32.ofNat p + Int32.ofNat t) >>> ((3 : Int32) &&& 31) = Int32.ofNat p ∧ (8 * Int32.ofNat p + Int32.ofNat t) &&& 7 = Int32.ofNat t := by
  have h : ∀ (q : Fin 20) (r : Fin 8), (8 * Int32.ofNat q.1 + Int32.ofNat r.1) >>> ((3 : Int32) &&& 31) = Int32.ofNat q.1 ∧ (8 * Int32.ofNat q.1 + Int32.ofNat r.1) &&& 7 = Int32.ofNat r.1 := by decide +kernel
  exact h ⟨p, hp⟩ ⟨t, ht⟩
theorem step_has {P : Nat} {z : Option zO} (hP : P < 20) (hF : fC F gi ga) (hc : F.2.2.2.2.2[p]? = some (9, 8 * Int32.ofNat P)) (hz : gI As (Int32.ofNat P) = some z) : cE_step gi ga As ne am rc N (Int32.ofNat p) ins S = zb (some (if z.isSome then 1 else 0, S)) fun x S1 => zb (cE_push gi ga As ne am N x S1) fun _ S2 => some (Int32.ofNat p + 1, S2) := by
  have hp := (List.getElem?_eq_some_iff.mp hc).1
  have h560 := hF.1.2
  obtain ⟨g1, g2⟩ := hF.2.1 p _ _ hc
  rw [cE_step, gI_nat (by omega), g1, zgs, gI_nat (by omega), g2, zgs, if_neg (by decide), if_neg (by decide), if_neg (by decide), if_neg (by decide), if_neg (by decide), if_neg (by decide), if_pos rfl, sh8 hP, hz, zgs, zbs]
  rcases z with _ | o <;> rfl
theorem step_is {P t : Nat} {z : Option zO} {yy : Option yO} (hP : P < 20) (ht : t < 8) (hF : fC F gi ga) (hc : F.2.2.2.2.2[p]? = some (10, 8 * Int32.ofNat P + Int32.ofNat t)) (hz : gI As (Int32.ofNat P) = some z) (hzy : aC En z yy) : cE_step gi ga As ne am rc N (Int32.ofNat p) ins S = zb (some (isR yy t, S)) fun x S1 => zb (cE_push gi ga As ne am N x S1) fun _ S2 => some (Int32.ofNat p + 1, S2) := by
  have hp := (List.getElem?_eq_some_iff.mp hc).1
  have h560 := hF.1.2
  obtain ⟨g1, g2⟩ := hF.2.1 p _ _ hc
  rw [cE_step, gI_nat (by omega), g1, zgs, gI_nat (by omega), g2, zgs, if_neg (by decide), if_neg (by decide), if_neg (by decide), if_neg (by decide), if_neg (by decide), if_neg (by decide), if_neg (by decide), if_pos rfl, (sh8t hP ht).1, (sh8t hP ht).2, hz, zgs, zbs]
  rcases z with _ | o
  · rcases yy with _ | y
    · rfl
    · exact absurd hzy id
  · rcases yy with _ | y
    · exact absurd hzy id
    · obtain ⟨hC1, hk⟩ := hzy
      show (zb (cE_isOfSort gi ga As ne am N (some o) (Int32.ofNat t) S) _) = zb (cE_push gi ga As ne am N (if y.1 = t ∨ (y.1 = 6 ∧ t = 5) then 1 else 0) S) _
      have e : cE_isOfSort gi ga As ne am N (some o) (Int32.ofNat t) S = some (if y.1 = t ∨ (y.1 = 6 ∧ t = 5) then 1 else 0, S) := by
        show zb (cE_isOf gi ga As ne am N o (Int32.ofNat t) S) _ = _
        rw [c_isOf (by omega) hC1 hk, zbs]
        by_cases h : y.1 = t ∨ (y.1 = 6 ∧ t = 5)
        · rw [if_pos h, if_neg (by decide)]
        · rw [if_neg h, if_pos rfl]
      rw [e, zbs]
      by_cases h : y.1 = t ∨ (y.1 = 6 ∧ t = 5)
      · rw [if_pos h, if_pos h, if_neg (by decide)]
      · rw [if_neg h, if_neg h, if_pos rfl]
theorem step_ask {x y : Int32} (hx : x = 7 ∨ x = 8 ∨ x = 11 ∨ x = 12 ∨ x = 13 ∨ x = 14) (hF : fC F gi ga) (hc : F.2.2.2.2.2[p]? = some (x, y)) : cE_step gi ga As ne am rc N (Int32.ofNat p) ins S = zb (cE_ask gi ga As ne am N x (y >>> ((3 : Int32) &&& 31)) S) fun x S1 => zb (cE_push gi ga As ne am N x S1) fun _ S2 => some (Int32.ofNat p + 1, S2) := by
  have hp := (List.getElem?_eq_some_iff.mp hc).1
  have h560 := hF.1.2
  obtain ⟨g1, g2⟩ := hF.2.1 p _ _ hc
  rw [cE_step, gI_nat (by omega), g1, zgs, gI_nat (by omega), g2, zgs]
  rcases hx with rfl | rfl | rfl | rfl | rfl | rfl <;> rw [if_neg (by decide), if_neg (by decide), if_neg (by decide), if_neg (by decide), if_neg (by decide), if_neg (by decide), if_neg (by decide), if_neg (by decide), cE_step_94, if_neg (by decide)]
theorem step_reck {x y : Int32} (hx : 15 ≤ x.toInt) (hF : fC F gi ga) (hc : F.2.2.2.2.2[p]? = some (x, y)) : cE_step gi ga As ne am rc N (Int32.ofNat p) ins S = zb (cE_reckon gi ga As ne am N x S) fun x S1 => zb (cE_push gi ga As ne am N x S1) fun _ S2 => some (Int32.ofNat p + 1, S2) := by
  have hp := (List.getElem?_eq_some_iff.mp hc).1
  have h560 := hF.1.2
  obtain ⟨g1, g2⟩ := hF.2.1 p _ _ hc
  have ne' : ∀ q : Int32, q.toInt < 15 → ¬ x = q := fun q hq hh => by rw [hh] at hx; omega
  rw [cE_step, gI_nat (by omega), g1, zgs, gI_nat (by omega), g2, zgs, if_neg (ne' 1 (by decide)), if_neg (ne' 2 (by decide)), if_neg (ne' 3 (by decide)), if_neg (ne' 4 (by decide)), if_neg (ne' 5 (by decide)), if_neg (ne' 6 (by decide)), if_neg (ne' 9 (by decide)), if_neg (ne' 10 (by decide)), cE_step_94, if_pos hx]
/-- asks -/
theorem ask_0 {x P : Int32} (hx : x = 7 ∨ x = 8 ∨ x = 11) : cE_ask gi ga As ne am N x P S = cE_ask_17 gi ga As ne am N x P 0 0 S := by
  rcases hx with rfl | rfl | rfl <;> rw [cE_ask, if_pos (by decide), if_pos (by decide)]
theorem ask_1 {x P : Int32} {v : Int64} (hx : x = 12 ∨ x = 14) (h : Wk R S w cur d (stk ++ [v]) trs) (hl : stk.length < 560) : ∃ S0, cE_ask gi ga As ne am N x P S = cE_ask_17 gi ga As ne am N x P 0 v.toInt32 S0 ∧ Wk R S0 w cur d stk trs ∧ zI S0 1 = zI S 1 := by
  obtain ⟨S0, p1, p2, p3, _⟩ := pop_W (gi := gi) (ga := ga) (As := As) (ne := ne) (am := am) (N := N) h hl
  refine ⟨S0, ?_, p2, p3⟩
  rcases hx with rfl | rfl <;> rw [cE_ask, if_pos (by decide), if_neg (by decide), p1, zbs]
theorem ask_2 {P : Int32} {v u : Int64} (h : Wk R S w cur d (stk ++ [v] ++ [u]) trs) (hl : stk.length + 1 < 560) : ∃ S0, cE_ask gi ga As ne am N 13 P S = cE_ask_17 gi ga As ne am N 13 P u.toInt32 v.toInt32 S0 ∧ Wk R S0 w cur d stk trs ∧ zI S0 1 = zI S 1 := by
  obtain ⟨S0, p1, p2, p3, _⟩ := pop_W (gi := gi) (ga := ga) (As := As) (ne := ne) (am := am) (N := N) h (by rw [List.length_append]; exact hl)
  obtain ⟨S1, q1, q2, q3, _⟩ := pop_W (gi := gi) (ga := ga) (As := As) (ne := ne) (am := am) (N := N) p2 (by omega)
  refine ⟨S1, ?_, q2, by rw [q3, p3]⟩
  rw [cE_ask, if_neg (nn rfl), p1, zbs, if_neg (by decide), q1, zbs]
/-- reckoning -/
theorem reck_1 {x : Int32} {v : Int64} (hx : x = 15 ∨ x = 16 ∨ x = 17) (h : Wk R S w cur d (stk ++ [v]) trs) (hl : stk.length < 560) : ∃ S0, cE_reckon gi ga As ne am N x S = some (if x = 15 then (if v = 0 then 0 else 1) else if x = 16 then -v else if v = 0 then 1 else 0, S0) ∧ Wk R S0 w cur d stk trs ∧ zI S0 1 = zI S 1 := by
  obtain ⟨S0, p1, p2, p3, _⟩ := pop_W (gi := gi) (ga := ga) (As := As) (ne := ne) (am := am) (N := N) h hl
  refine ⟨S0, ?_, p2, p3⟩
  rw [cE_reckon, p1, zbs]
  rcases hx with rfl | rfl | rfl
  · rw [if_pos rfl, if_pos rfl]
    split <;> rfl
  · rw [if_neg (by decide), if_pos rfl, if_neg (by decide), if_pos rfl]
  · rw [if_neg (by decide), if_neg (by decide), if_pos rfl]
    by_cases h0 : v = 0
    · rw [if_neg (nn h0), if_neg (show ¬ (17 : Int32) = 15 by decide), if_neg (show ¬ (17 : Int32) = 16 by decide), if_pos h0]
    · rw [if_pos h0, if_neg (show ¬ (17 : Int32) = 15 by decide), if_neg (show ¬ (17 : Int32) = 16 by decide), if_neg h0]
theorem reck_2 {op : Int32} {v u : Int64} (h1 : 15 ≤ op.toInt) (h2 : op.toInt ≤ 22) (h : Wk R S w cur d (stk ++ [v] ++ [u]) trs) (hl : stk.length + 1 < 560) : ∃ S0, Kf (prR op v u) S0 (cE_reckon gi ga As ne am N (if op.toInt < 20 then op + 6 else op - 2) S) ∧ Wk R S0 w cur d stk trs ∧ zI S0 1 = zI S 1 := by
  obtain ⟨S0, p1, p2, p3, _⟩ := pop_W (gi := gi) (ga := ga) (As := As) (ne := ne) (am := am) (N := N) h (by rw [List.length_append]; exact hl)
  obtain ⟨S1, q1, q2, q3, _⟩ := pop_W (gi := gi) (ga := ga) (As := As) (ne := ne) (am := am) (N := N) p2 (by omega)
  refine ⟨S1, ?_, q2, by rw [q3, p3]⟩
  obtain ⟨m, hm, rfl, hm2⟩ := yi_of (x := op) (by omega)
  have : m = 15 ∨ m = 16 ∨ m = 17 ∨ m = 18 ∨ m = 19 ∨ m = 20 ∨ m = 21 ∨ m = 22 := by omega
  rcases this with rfl | rfl | rfl | rfl | rfl | rfl | rfl | rfl
  · have hq : cE_reckon gi ga As ne am N 21 S = some (v + u, S1) := by
      rw [cE_reckon, p1, zbs, if_neg (show ¬ (21 : Int32) = 15 by decide), if_neg (show ¬ (21 : Int32) = 16 by decide), if_neg (show ¬ (21 : Int32) = 17 by decide), q1, zbs, if_neg (show ¬ (21 : Int32) = 18 by decide), if_neg (show ¬ (21 : Int32) = 19 by decide), if_neg (show ¬ (21 : Int32) = 20 by decide), if_pos (show (21 : Int32) = 21 from rfl)]
    rw [show (if (Int32.ofNat 15).toInt < 20 then Int32.ofNat 15 + 6 else Int32.ofNat 15 - 2) = 21 by decide, hq]
    rfl
  · have hq : cE_reckon gi ga As ne am N 22 S = some (v - u, S1) := by
      rw [cE_reckon, p1, zbs, if_neg (show ¬ (22 : Int32) = 15 by decide), if_neg (show ¬ (22 : Int32) = 16 by decide), if_neg (show ¬ (22 : Int32) = 17 by decide), q1, zbs, if_neg (show ¬ (22 : Int32) = 18 by decide), if_neg (show ¬ (22 : Int32) = 19 by decide), if_neg (show ¬ (22 : Int32) = 20 by decide), if_neg (show ¬ (22 : Int32) = 21 by decide), if_pos (show (22 : Int32) = 22 from rfl)]
    rw [show (if (Int32.ofNat 16).toInt < 20 then Int32.ofNat 16 + 6 else Int32.ofNat 16 - 2) = 22 by decide, hq]
    rfl
  · have hq : cE_reckon gi ga As ne am N 23 S = some (v * u, S1) := by
      rw [cE_reckon, p1, zbs, if_neg (show ¬ (23 : Int32) = 15 by decide), if_neg (show ¬ (23 : Int32) = 16 by decide), if_neg (show ¬ (23 : Int32) = 17 by decide), q1, zbs, if_neg (show ¬ (23 : Int32) = 18 by decide), if_neg (show ¬ (23 : Int32) = 19 by decide), if_neg (show ¬ (23 : Int32) = 20 by decide), if_neg (show ¬ (23 : Int32) = 21 by decide), if_neg (show ¬ (23 : Int32) = 22 by decide), if_pos (show (23 : Int32) = 23 from rfl)]
    rw [show (if (Int32.ofNat 17).toInt < 20 then Int32.ofNat 17 + 6 else Int32.ofNat 17 - 2) = 23 by decide, hq]
    rfl
  · have hq : u ≠ 0 → cE_reckon gi ga As ne am N 24 S = some (v / u, S1) := by
      intro h0
      rw [cE_reckon, p1, zbs, if_neg (show ¬ (24 : Int32) = 15 by decide), if_neg (show ¬ (24 : Int32) = 16 by decide), if_neg (show ¬ (24 : Int32) = 17 by decide), q1, zbs, if_neg (show ¬ (24 : Int32) = 18 by decide), if_neg (show ¬ (24 : Int32) = 19 by decide), if_neg (show ¬ (24 : Int32) = 20 by decide), if_neg (show ¬ (24 : Int32) = 21 by decide), if_neg (show ¬ (24 : Int32) = 22 by decide), if_neg (show ¬ (24 : Int32) = 23 by decide)]
      rw [if_pos h0, if_neg (nn rfl), if_pos h0]
    have hz : u = 0 → cE_reckon gi ga As ne am N 24 S = some (0, flC S1 4) := by
      intro h0
      rw [cE_reckon, p1, zbs, if_neg (show ¬ (24 : Int32) = 15 by decide), if_neg (show ¬ (24 : Int32) = 16 by decide), if_neg (show ¬ (24 : Int32) = 17 by decide), q1, zbs, if_neg (show ¬ (24 : Int32) = 18 by decide), if_neg (show ¬ (24 : Int32) = 19 by decide), if_neg (show ¬ (24 : Int32) = 20 by decide), if_neg (show ¬ (24 : Int32) = 21 by decide), if_neg (show ¬ (24 : Int32) = 22 by decide), if_neg (show ¬ (24 : Int32) = 23 by decide)]
      rw [if_neg (nn h0), fail_C, zbs]
    rw [show (if (Int32.ofNat 18).toInt < 20 then Int32.ofNat 18 + 6 else Int32.ofNat 18 - 2) = 24 by decide]
    show Kf (if u = 0 then .inr 4 else .inl (v / u)) S1 _
    by_cases h0 : u = 0
    · rw [if_pos h0, hz h0]
      exact ⟨by decide, 0, rfl⟩
    · rw [if_neg h0, hq h0]
      rfl
  · have hq : u ≠ 0 → cE_reckon gi ga As ne am N 25 S = some (v - v / u * u, S1) := by
      intro h0
      rw [cE_reckon, p1, zbs, if_neg (show ¬ (25 : Int32) = 15 by decide), if_neg (show ¬ (25 : Int32) = 16 by decide), if_neg (show ¬ (25 : Int32) = 17 by decide), q1, zbs, if_neg (show ¬ (25 : Int32) = 18 by decide), if_neg (show ¬ (25 : Int32) = 19 by decide), if_neg (show ¬ (25 : Int32) = 20 by decide), if_neg (show ¬ (25 : Int32) = 21 by decide), if_neg (show ¬ (25 : Int32) = 22 by decide), if_neg (show ¬ (25 : Int32) = 23 by decide)]
      rw [if_pos h0, if_pos (show (25 : Int32) ≠ 24 by decide), if_pos h0]
    have hz : u = 0 → cE_reckon gi ga As ne am N 25 S = some (0, flC S1 4) := by
      intro h0
      rw [cE_reckon, p1, zbs, if_neg (show ¬ (25 : Int32) = 15 by decide), if_neg (show ¬ (25 : Int32) = 16 by decide), if_neg (show ¬ (25 : Int32) = 17 by decide), q1, zbs, if_neg (show ¬ (25 : Int32) = 18 by decide), if_neg (show ¬ (25 : Int32) = 19 by decide), if_neg (show ¬ (25 : Int32) = 20 by decide), if_neg (show ¬ (25 : Int32) = 21 by decide), if_neg (show ¬ (25 : Int32) = 22 by decide), if_neg (show ¬ (25 : Int32) = 23 by decide)]
      rw [if_neg (nn h0), fail_C, zbs]
    rw [show (if (Int32.ofNat 19).toInt < 20 then Int32.ofNat 19 + 6 else Int32.ofNat 19 - 2) = 25 by decide]
    show Kf (if u = 0 then .inr 4 else .inl (v - v / u * u)) S1 _
    by_cases h0 : u = 0
    · rw [if_pos h0, hz h0]
      exact ⟨by decide, 0, rfl⟩
    · rw [if_neg h0, hq h0]
      rfl
  · have hq : cE_reckon gi ga As ne am N 18 S = some (if v = u then 1 else 0, S1) := by
      rw [cE_reckon, p1, zbs, if_neg (show ¬ (18 : Int32) = 15 by decide), if_neg (show ¬ (18 : Int32) = 16 by decide), if_neg (show ¬ (18 : Int32) = 17 by decide), q1, zbs, if_pos (show (18 : Int32) = 18 from rfl)]
      by_cases h0 : v = u
      · rw [if_neg (nn h0), if_pos h0]
      · rw [if_pos h0, if_neg h0]
    rw [show (if (Int32.ofNat 20).toInt < 20 then Int32.ofNat 20 + 6 else Int32.ofNat 20 - 2) = 18 by decide, hq]
    rfl
  · have hq : cE_reckon gi ga As ne am N 19 S = some (if v < u then 1 else 0, S1) := by
      rw [cE_reckon, p1, zbs, if_neg (show ¬ (19 : Int32) = 15 by decide), if_neg (show ¬ (19 : Int32) = 16 by decide), if_neg (show ¬ (19 : Int32) = 17 by decide), q1, zbs, if_neg (show ¬ (19 : Int32) = 18 by decide), if_pos (show (19 : Int32) = 19 from rfl)]
      by_cases h0 : v < u
      · have := Int64.lt_iff_toInt_lt.mp h0
        rw [if_neg (show ¬ u.toInt ≤ v.toInt by omega), if_pos h0]
      · have : ¬ v.toInt < u.toInt := fun hh => h0 (Int64.lt_iff_toInt_lt.mpr hh)
        rw [if_pos (show u.toInt ≤ v.toInt by omega), if_neg h0]
    rw [show (if (Int32.ofNat 21).toInt < 20 then Int32.ofNat 21 + 6 else Int32.ofNat 21 - 2) = 19 by decide, hq]
    rfl
  · have hq : cE_reckon gi ga As ne am N 20 S = some (if u < v then 1 else 0, S1) := by
      rw [cE_reckon, p1, zbs, if_neg (show ¬ (20 : Int32) = 15 by decide), if_neg (show ¬ (20 : Int32) = 16 by decide), if_neg (show ¬ (20 : Int32) = 17 by decide), q1, zbs, if_neg (show ¬ (20 : Int32) = 18 by decide), if_neg (show ¬ (20 : Int32) = 19 by decide), if_pos (show (20 : Int32) = 20 from rfl)]
      by_cases h0 : u < v
      · have := Int64.lt_iff_toInt_lt.mp h0
        rw [if_neg (show ¬ v.toInt ≤ u.toInt by omega), if_pos h0]
      · have : ¬ u.toInt < v.toInt := fun hh => h0 (Int64.lt_iff_toInt_lt.mpr hh)
        rw [if_pos (show v.toInt ≤ u.toInt by omega), if_neg h0]
    rw [show (if (Int32.ofNat 22).toInt < 20 then Int32.ofNat 22 + 6 else Int32.ofNat 22 - 2) = 20 by decide, hq]
    rfl
end CLEAF
