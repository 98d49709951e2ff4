/-! WORKING, THE CLASS: an exp is worth what evx says -/
section EVX
variable {F : yF} {A : List (Option yO)} {En : List (Int64 × Int32)} {fg : Int32 → yW → yR × yW} {k : Nat} {cur n op one two : Int32} {val : Int64} {w : yW}
theorem evx_s (h : F.2.2.2.2.1[n.toInt.toNat]? = some (op, one, two, val)) : evx F A En fg (k + 1) cur n w =
      if op = 0 then (.inl val, w)
      else if op = 1 then okR (nameR En (knd F one) (anR A one)) cur w
      else if op = 2 then fg one w
      else if op = 3 then (match evx F A En fg k cur two w with
        | (.inr e, w1) => (.inr e, w1)
        | (.inl i, w1) => okR (itemR En (knd F one) (anR A one) i.toInt32) cur w1)
      else if op = 4 then (match evx F A En fg k cur two w with
        | (.inr e, w1) => (.inr e, w1)
        | (.inl i, w1) => match evx F A En fg k cur val.toInt32 w1 with
          | (.inr e, w2) => (.inr e, w2)
          | (.inl j, w2) => okR (cellR (anR A one) i.toInt32 j.toInt32) cur w2)
      else if op = 5 then okR (lenR (knd F one) (anR A one)) cur w
      else if op = 6 then (.inl (if (anR A one).isSome then 1 else 0), w)
      else if op = 7 then (.inl (match anR A one with
        | none => 0
        | some o => if o.1 = two.toInt.toNat ∨ (o.1 = 6 ∧ two.toInt.toNat = 5) then 1 else 0), w)
      else if op = 8 then okR (totR En (knd F one) (anR A one)) cur w
      else if op = 9 then (match evx F A En fg k cur two w with
        | (.inr e, w1) => (.inr e, w1)
        | (.inl j, w1) => okR (colR (anR A one) j.toInt32) cur w1)
      else if op = 10 then (match evx F A En fg k cur one w with
        | (.inl v, w1) => (.inl v, w1)
        | (.inr _, w1) => evx F A En fg k cur two (w1.1, w1.2.1, w1.2.2.1 + 1, w1.2.2.2))
      else if op = 13 then (match evx F A En fg k cur one w with
        | (.inr e, w1) => (.inr e, w1)
        | (.inl v, w1) => (.inl (if v = 0 then 1 else 0), w1))
      else if op = 14 then (match evx F A En fg k cur one w with
        | (.inr e, w1) => (.inr e, w1)
        | (.inl v, w1) => (.inl (-v), w1))
      else (match evx F A En fg k cur one w with
        | (.inr e, w1) => (.inr e, w1)
        | (.inl x, w1) =>
          if op = 11 ∧ x ≠ 0 then (.inl 1, w1) else if op = 12 ∧ x = 0 then (.inl 0, w1) else
          match evx F A En fg k cur two w1 with
          | (.inr e, w2) => (.inr e, w2)
          | (.inl y, w2) => if op = 11 ∨ op = 12 then (.inl (if y = 0 then 0 else 1), w2) else okR (prR op x y) cur w2) := by
  rw [evx, h]
  rfl
theorem evx_pair (hop : op = 11 ∨ op = 12 ∨ (15 ≤ op.toInt ∧ op.toInt ≤ 22)) (h : F.2.2.2.2.1[n.toInt.toNat]? = some (op, one, two, val)) : evx F A En fg (k + 1) cur n w = (match evx F A En fg k cur one w with
        | (.inr e, w1) => (.inr e, w1)
        | (.inl x, w1) =>
          if op = 11 ∧ x ≠ 0 then (.inl 1, w1) else if op = 12 ∧ x = 0 then (.inl 0, w1) else
          match evx F A En fg k cur two w1 with
          | (.inr e, w2) => (.inr e, w2)
          | (.inl y, w2) => if op = 11 ∨ op = 12 then (.inl (if y = 0 then 0 else 1), w2) else okR (prR op x y) cur w2) := by
  have hne : ∀ q : Int32, (q.toInt < 11 ∨ q.toInt = 13 ∨ q.toInt = 14) → ¬ op = q := by
    rintro q hq rfl
    rcases hop with h | h | h
    · rw [h] at hq; exact absurd hq (by decide)
    · rw [h] at hq; exact absurd hq (by decide)
    · omega
  rw [evx_s h, if_neg (hne 0 (by decide)), if_neg (hne 1 (by decide)), if_neg (hne 2 (by decide)), if_neg (hne 3 (by decide)), if_neg (hne 4 (by decide)), if_neg (hne 5 (by decide)), if_neg (hne 6 (by decide)), if_neg (hne 7 (by decide)), if_neg (hne 8 (by decide)), if_neg (hne 9 (by decide)), if_neg (hne 10 (by decide)), if_neg (hne 13 (by decide)), if_neg (hne 14 (by decide))]
end EVX
section CTRY
variable {gi : Nat → Int32} {ga : Nat → List Int32} {As : List (Option zO)} {ne : Int32} {am : List Int64} {N : Nat} {R S : zS} {w : yW} {cur : Int32} {d : Nat} {stk : List Int64} {trs : List (Int32 × Nat)}
theorem try_W {y : Int32} (h : Wk R S w cur d stk trs) (hl : trs.length < 250) : ∃ S', cE_beginTry gi ga As ne am N y S = some ((), S') ∧ Wk R S' w cur d stk (trs ++ [(y, stk.length)]) ∧ zI S' 1 = zI S 1 := by
  obtain ⟨c1, ⟨c2, c3⟩, ⟨c4, ⟨c5, c6⟩, c7⟩, c8⟩ := h
  refine ⟨zsI (zsA (zsA S 10 ((zA S 10).set trs.length y)) 11 ((zA S 11).set trs.length (zI S 7))) 8 (Int32.ofNat (trs.length + 1)), ?_, ⟨c1, ⟨c2, c3⟩, ⟨?_, ⟨?_, ?_⟩, ?_⟩, c8⟩, rfl⟩
  · rw [cE_beginTry, if_neg (by rw [c4, c5, yi_nat (by omega), yi_nat (by omega)]; omega), c4, if_pos (zok_nat (by omega) (by omega)), if_pos (zok_nat (by omega) (by omega)), zs_nat (by omega), zs_nat (by omega), yi_add1]
  · rw [List.length_append]; rfl
  · show ((zA S 10).set trs.length y).length = 250; rw [List.length_set]; exact c5
  · show ((zA S 11).set trs.length (zI S 7)).length = 250; rw [List.length_set]; exact c6
  · intro i u hu
    show ((zA S 10).set trs.length y)[i]? = _ ∧ ((zA S 11).set trs.length (zI S 7))[i]? = _
    by_cases hi : i < trs.length
    · rw [List.getElem?_append_left hi] at hu
      rw [List.getElem?_set_ne (by omega), List.getElem?_set_ne (by omega)]
      exact c7 i u hu
    · have hil := (List.getElem?_eq_some_iff.mp hu).1
      rw [List.length_append, List.length_singleton] at hil
      obtain rfl : i = trs.length := by omega
      rw [List.getElem?_append_right (Nat.le_refl _), Nat.sub_self] at hu
      cases hu
      rw [List.getElem?_set_self (by omega), List.getElem?_set_self (by omega), c2]
      exact ⟨rfl, rfl⟩
theorem else_W {y k a : Int32} (h : Wf R S w cur d stk (trs ++ [(y, stk.length)]) k a) (hl : trs.length < 250) : ∃ S', cE_takeElse gi ga As ne am N S = some (y, S') ∧ Wk R S' (w.1, w.2.1, w.2.2.1 + 1, w.2.2.2) cur d stk trs ∧ zI S' 1 = 0 := by
  obtain ⟨⟨a1, a2, a3, a4, a5⟩, c3, ⟨c4, ⟨c5, c6⟩, c7⟩, c8, _⟩ := h
  rw [List.length_append, List.length_singleton] at c4
  have e1 : zI S 8 - 1 = Int32.ofNat trs.length := by rw [c4, ← yi_add1, Int32.add_sub_cancel]
  obtain ⟨g1, g2⟩ := c7 trs.length (y, stk.length) (by rw [List.getElem?_append_right (Nat.le_refl _), Nat.sub_self]; rfl)
  refine ⟨zsI (zsI (zsI (zsI S 8 (Int32.ofNat trs.length)) 7 (Int32.ofNat stk.length)) 1 0) 6 (zI S 6 + 1), ?_, ⟨⟨a1, a2, a3, ?_, a5⟩, ⟨rfl, c3⟩, ⟨rfl, ⟨c5, c6⟩, fun i u hu => ?_⟩, c8⟩, rfl⟩
  · rw [cE_takeElse, e1, gI_nat (by omega), g2, zgs, gI_nat (by omega), g1, zgs]
  · show zI S 6 + 1 = _; rw [a4]
  · exact c7 i u (by rw [List.getElem?_append_left (List.getElem?_eq_some_iff.mp hu).1]; exact hu)
theorem tried_W {u : Int32 × Nat} (h : Wk R S w cur d stk (trs ++ [u])) : Wk R (zsI S 8 (zI S 8 - 1)) w cur d stk trs := by
  obtain ⟨c1, c2, ⟨c4, c5, c7⟩, c8⟩ := h
  rw [List.length_append, List.length_singleton] at c4
  refine ⟨c1, c2, ⟨?_, c5, fun i v hv => ?_⟩, c8⟩
  · show zI S 8 - 1 = _
    rw [c4, ← yi_add1, Int32.add_sub_cancel]
  · exact c7 i v (by rw [List.getElem?_append_left (List.getElem?_eq_some_iff.mp hv).1]; exact hv)
end CTRY
/-- what a figure is worth, as the class has it -/
def FgC (R : zS) (gi : Nat → Int32) (ga : Nat → List Int32) (As : List (Option zO)) (ne : Int32) (am : List Int64) (rc : Int32 → Int32 → zS → Option (Int64 × zS)) (N : Nat) (ins : Int32) (s0 j : Nat) (fg : Int32 → yW → yR × yW) : Prop := ∀ f, f < j → ∀ S w cur d stk trs, Wk R S w cur d stk trs → zI S 1 = 0 → stk.length + s0 ≤ 560 → 3 * trs.length + s0 ≤ 560 → match fg (Int32.ofNat f) w with
  | (.inl v, w') => ∃ S', cE_worthOf gi ga As ne am rc N (Int32.ofNat f) ins S = some (v, S') ∧ Wk R S' w' cur d stk trs ∧ zI S' 1 = 0
  | (.inr x, w') => ∃ v S', cE_worthOf gi ga As ne am rc N (Int32.ofNat f) ins S = some (v, S') ∧ Wk R S' w' cur d stk trs ∧ zI S' 1 = x.1 ∧ x.1 ≠ 0 ∧ zI S' 2 = x.2
section CEXP
variable {F : yF} {A : List (Option yO)} {En : List (Int64 × Int32)} {fg : Int32 → yW → yR × yW} {gi : Nat → Int32} {ga : Nat → List Int32} {As : List (Option zO)} {ne : Int32} {am : List Int64} {rc : Int32 → Int32 → zS → Option (Int64 × zS)} {N : Nat} {R : zS} {ins fl : Int32} {cur : Int32} {d s0 t0 j : Nat}
/-- a part that is asked: its kind, its answer -/
theorem ask_ok (hF : fC F gi ga) (hK : F.1.length ≤ 20 ∧ ∀ (i : Nat) P, F.1[i]? = some P → 0 ≤ P.1.toInt ∧ P.1.toInt ≤ 11) (hA : aA En F A As) {one : Int32} (h : yAsk F one) : ∃ P, P < 20 ∧ one = Int32.ofNat P ∧ gI (ga 1) one = some (knd F one) ∧ (0 ≤ (knd F one).toInt ∧ (knd F one).toInt ≤ 10) ∧ ∃ z, gI As one = some z ∧ aC En z (anR A one) := by
  obtain ⟨h0, Pt, h1, h2⟩ := h
  obtain ⟨P, hP, rfl, hP2⟩ := yi_of h0
  rw [hP2, Int.toNat_natCast] at h1
  have hl := (List.getElem?_eq_some_iff.mp h1).1
  have hk := hK.2 P Pt h1
  have e : knd F (Int32.ofNat P) = Pt.1 := by unfold knd; rw [gI_nat hP, h1]; rfl
  obtain ⟨z, z1, z2⟩ := hA P Pt h1
  refine ⟨P, by omega, rfl, by rw [gI_nat hP, e]; exact hF.2.2.1 P Pt h1, ?_, z, z1, z2⟩
  rw [e]
  have : Pt.1.toInt ≠ 11 := fun hh => h2 (by rw [xi32_eq, hh]; rfl)
  omega
theorem C_ev (hF : fC F gi ga) (hK : F.1.length ≤ 20 ∧ ∀ (i : Nat) P, F.1[i]? = some P → 0 ≤ P.1.toInt ∧ P.1.toInt ≤ 11) (hA : aA En F A As) (hE : eC En ne am) (hN : 1000 < N) (hfg : FgC R gi ga As ne am rc N ins s0 j fg) (hj : j ≤ 12) (ht0 : t0 < 2000) : ∀ (k s e : Nat) (n : Int32) (st : Nat) (S : zS) (w : yW) (stk : List Int64) (trs : List (Int32 × Nat)), yRep F j k s e n → Wk R S w cur d stk trs → zI S 1 = 0 → s0 + st ≤ s → stk.length + e ≤ 560 → 3 * trs.length + (e - s) + s0 ≤ 560 → t0 ≤ trs.length → EvL R (Lp gi ga As ne am rc N ins fl (Int32.ofNat t0)) (Fq gi ga As ne am rc N ins fl (Int32.ofNat t0)) s0 e cur d stk trs (Lp gi ga As ne am rc N ins fl (Int32.ofNat t0) s st S) (evx F A En fg k cur n w)
  | 0, _, _, _, _, _, _, _, _, h, _, _, _, _, _, _ => absurd h id
  | k + 1, s, e, n, st, S, w, stk, trs, h, hW, h1, hs, hb, ht, htt => by
    have hlt := h.lt
    obtain ⟨_, op, one, two, val, h3, h⟩ := h
    have ih := C_ev hF hK hA hE hN hfg hj ht0 k
    have hN5 : 560 < N := by omega
    have asks : ∀ (dd : Nat) (x : Int32) (i' j' : Int32) (S0 S1 : zS) (w0 : yW) (st1 p : Nat), x = Int32.ofNat dd → (dd = 7 ∨ dd = 8 ∨ dd = 11 ∨ dd = 12 ∨ dd = 13 ∨ dd = 14) → yAsk F one → F.2.2.2.2.2[p]? = some (x, 8 * one) → s0 + st1 ≤ p → p < e → cE_ask gi ga As ne am N x one S1 = cE_ask_17 gi ga As ne am N x one j' i' S0 → Wk R S0 w0 cur d stk trs → zI S0 1 = 0 → EvL R (Lp gi ga As ne am rc N ins fl (Int32.ofNat t0)) (Fq gi ga As ne am rc N ins fl (Int32.ofNat t0)) s0 (p + 1) cur d stk trs (Lp gi ga As ne am rc N ins fl (Int32.ofNat t0) p st1 S1) (okR (askR En dd (knd F one) (anR A one) i' j') cur w0) := by
      intro dd x i' j' S0 S1 w0 st1 p hx hd ha hc hsp hpe hask hW0 h10
      obtain ⟨P, hP, e1, e2, e3, z, z1, z2⟩ := ask_ok hF hK hA ha
      have hx6 : x = 7 ∨ x = 8 ∨ x = 11 ∨ x = 12 ∨ x = 13 ∨ x = 14 := by
        rw [hx]
        rcases hd with rfl | rfl | rfl | rfl | rfl | rfl
        · exact Or.inl rfl
        · exact Or.inr (Or.inl rfl)
        · exact Or.inr (Or.inr (Or.inl rfl))
        · exact Or.inr (Or.inr (Or.inr (Or.inl rfl)))
        · exact Or.inr (Or.inr (Or.inr (Or.inr (Or.inl rfl))))
        · exact Or.inr (Or.inr (Or.inr (Or.inr (Or.inr rfl))))
      have hst := step_ask (As := As) (ne := ne) (am := am) (rc := rc) (N := N) (ins := ins) (S := S1) hx6 hF hc
      have hsh : (8 * one) >>> ((3 : Int32) &&& 31) = one := by rw [e1]; exact sh8 hP
      rw [hsh, hask] at hst
      refine leaf_K hF hN5 hsp hc ?_ hst hW0 h10 (by omega) ?_
      · rcases hx6 with rfl | rfl | rfl | rfl | rfl | rfl <;> decide
      · rw [hx]
        exact c_ask17 hE hN h10 hd e2 e3 z1 z2
    rcases h with ⟨rfl, q1, v, q2, q3⟩ | ⟨rfl, q1, q2, q3⟩ | ⟨rfl, q1, q2, q3, q4⟩ | ⟨rfl, q1, q2, q3, q4⟩ | ⟨rfl, q1, m, q2, q3, q4, q5⟩ | ⟨rfl, q1, q2, q3⟩ | ⟨rfl, q1, q2, q3⟩ | ⟨rfl, q1, q2, q3, q4, q5⟩ | ⟨rfl, q1, q2, q3⟩ | ⟨rfl, q1, q2, q3, q4⟩ | ⟨rfl, m, q1, q2, q3, q4⟩ | ⟨q0, q1, m, q2, q3, q4, q5⟩ | ⟨q0, q1, q2, q3⟩ | ⟨q0, q0', q1, m, q2, q3, q4⟩
    · -- a number
      rw [evx_s h3, if_pos rfl, q1, q3]
      exact leaf_K (r := .inl v.toInt64) hF hN5 hs q2 (by decide) (step_num hF q2) hW h1 (by omega) rfl
    · -- a name
      rw [evx_s h3, if_neg (by decide), if_pos rfl, q1]
      exact asks 7 7 0 0 S S w st s rfl (by omega) q3 q2 hs (by omega) (ask_0 (Or.inl rfl)) hW h1
    · -- a figure
      rw [evx_s h3, if_neg (by decide), if_neg (by decide), if_pos rfl, q1]
      obtain ⟨f, hf, rfl, hf2⟩ := yi_of q3
      have hst := step_fig (As := As) (ne := ne) (am := am) (rc := rc) (N := N) (ins := ins) (S := S) hF q2
      have hp := (List.getElem?_eq_some_iff.mp q2).1
      have h560 := hF.1.2
      have G := hfg f (by omega) S w cur d stk trs hW h1 (by omega) (by omega)
      rw [Lp_step hF hN5 (by omega) q2 (by decide), hst]
      rcases hr : fg (Int32.ofNat f) w with ⟨v | x, w'⟩
      · rw [hr] at G
        obtain ⟨S1, g1, g2, g3⟩ := G
        obtain ⟨S2, p1, p2, p3, _⟩ := push_W (gi := gi) (ga := ga) (As := As) (ne := ne) (am := am) (N := N) (v := v) g2 (by omega)
        rw [g1, zbs, p1, zbs, zbs, if_pos (by rw [p3]; exact g3), yi_add1]
        exact ⟨st + 1, S2, rfl, by omega, p2, by rw [p3]; exact g3⟩
      · rw [hr] at G
        obtain ⟨v, S1, g1, g2, g3, g4, g5⟩ := G
        obtain ⟨S2, p1, p2, p3, p4⟩ := push_W (gi := gi) (ga := ga) (As := As) (ne := ne) (am := am) (N := N) (v := v) g2 (by omega)
        rw [g1, zbs, p1, zbs, zbs, if_neg (by rw [p3, g3]; exact g4)]
        exact ⟨st, S2, rfl, by omega, Wf.of p2 (by rw [p3, g3]) g4 (by rw [p4, g5])⟩
    · -- an item
      rw [evx_s h3, if_neg (by decide), if_neg (by decide), if_neg (by decide), if_pos rfl]
      have I := ih s (e - 1) two st S w stk trs q2 hW h1 hs (by omega) (by omega) htt
      have I' : EvL R (Lp gi ga As ne am rc N ins fl (Int32.ofNat t0)) (Fq gi ga As ne am rc N ins fl (Int32.ofNat t0)) s0 (e - 1) cur d (stk ++ []) trs (Lp gi ga As ne am rc N ins fl (Int32.ofNat t0) s st S) (evx F A En fg k cur two w) := by rw [List.append_nil]; exact I
      refine I'.seq (by omega) ?_ ?_
      · intro v w' st1 S1 hr a1 a2 a3
        rw [List.append_nil] at a2
        rw [hr]
        obtain ⟨S0, b1, b2, b3⟩ := ask_1 (gi := gi) (ga := ga) (As := As) (ne := ne) (am := am) (N := N) (x := 12) (P := one) (Or.inl rfl) a2 (by omega)
        have := asks 12 12 v.toInt32 0 S0 S1 w' st1 (e - 1) rfl (by omega) q4 q3 a1 (by omega) b1 b2 (by rw [b3]; exact a3)
        rw [show e - 1 + 1 = e by omega] at this
        exact this
      · intro x w' hr
        rw [hr]
    · -- a cell
      have l2 := q2.lt
      have l3 := q3.lt
      rw [evx_s h3, if_neg (by decide), if_neg (by decide), if_neg (by decide), if_neg (by decide), if_pos rfl]
      have I := ih s m two st S w stk trs q2 hW h1 hs (by omega) (by omega) htt
      have I' : EvL R (Lp gi ga As ne am rc N ins fl (Int32.ofNat t0)) (Fq gi ga As ne am rc N ins fl (Int32.ofNat t0)) s0 m cur d (stk ++ []) trs (Lp gi ga As ne am rc N ins fl (Int32.ofNat t0) s st S) (evx F A En fg k cur two w) := by rw [List.append_nil]; exact I
      refine I'.seq (by omega) ?_ ?_
      · intro v w' st1 S1 hr a1 a2 a3
        rw [List.append_nil] at a2
        rw [hr]
        have J := ih m (e - 1) val.toInt32 st1 S1 w' (stk ++ [v]) trs q3 a2 a3 a1 (by rw [List.length_append, List.length_singleton]; omega) (by omega) htt
        show EvL R _ _ s0 e cur d stk trs _ (match evx F A En fg k cur val.toInt32 w' with
          | (.inr e, w2) => (.inr e, w2)
          | (.inl j, w2) => okR (cellR (anR A one) v.toInt32 j.toInt32) cur w2)
        refine J.seq (by omega) ?_ ?_
        · intro u w2 st2 S2 hr2 c1 c2 c3
          rw [hr2]
          obtain ⟨S0, b1, b2, b3⟩ := ask_2 (gi := gi) (ga := ga) (As := As) (ne := ne) (am := am) (N := N) (P := one) c2 (by omega)
          have := asks 13 13 v.toInt32 u.toInt32 S0 S2 w2 st2 (e - 1) rfl (by omega) q5 q4 c1 (by omega) b1 b2 (by rw [b3]; exact c3)
          rw [show e - 1 + 1 = e by omega] at this
          exact this
        · intro x w2 hr2
          rw [hr2]
      · intro x w' hr
        rw [hr]
    · -- len
      rw [evx_s h3, if_neg (by decide), if_neg (by decide), if_neg (by decide), if_neg (by decide), if_neg (by decide), if_pos rfl, q1]
      exact asks 8 8 0 0 S S w st s rfl (by omega) q3 q2 hs (by omega) (ask_0 (Or.inr (Or.inl rfl))) hW h1
    · -- has
      rw [evx_s h3, if_neg (by decide), if_neg (by decide), if_neg (by decide), if_neg (by decide), if_neg (by decide), if_neg (by decide), if_pos rfl, q1]
      obtain ⟨P, hP, e1, e2, e3, z, z1, z2⟩ := ask_ok hF hK hA q3
      rw [e1] at q2 z1
      have hst := step_has (ne := ne) (am := am) (rc := rc) (N := N) (ins := ins) (S := S) hP hF q2 z1
      have ez : z.isSome = (anR A one).isSome := by
        rcases z with _ | o
        · rcases hy : anR A one with _ | y
          · rfl
          · rw [hy] at z2; exact absurd z2 id
        · rcases hy : anR A one with _ | y
          · rw [hy] at z2; exact absurd z2 id
          · rfl
      rw [ez] at hst
      exact leaf_K (r := .inl (if (anR A one).isSome then 1 else 0)) hF hN5 hs q2 (by decide) hst hW h1 (by omega) rfl
    · -- is
      rw [evx_s h3, if_neg (by decide), if_neg (by decide), if_neg (by decide), if_neg (by decide), if_neg (by decide), if_neg (by decide), if_neg (by decide), if_pos rfl, q1]
      obtain ⟨P, hP, e1, e2, e3, z, z1, z2⟩ := ask_ok hF hK hA q3
      obtain ⟨t, ht', rfl, ht2⟩ := yi_of q4
      rw [e1] at q2 z1
      have hst := step_is (ne := ne) (am := am) (rc := rc) (N := N) (ins := ins) (S := S) (t := t) hP (by omega) hF q2 z1 z2
      rw [ht2, Int.toNat_natCast]
      exact leaf_K (r := .inl (isR (anR A one) t)) hF hN5 hs q2 (by decide) hst hW h1 (by omega) rfl
    · -- total
      rw [evx_s h3, if_neg (by decide), if_neg (by decide), if_neg (by decide), if_neg (by decide), if_neg (by decide), if_neg (by decide), if_neg (by decide), if_neg (by decide), if_pos rfl, q1]
      exact asks 11 11 0 0 S S w st s rfl (by omega) q3 q2 hs (by omega) (ask_0 (Or.inr (Or.inr rfl))) hW h1
    · -- a column
      rw [evx_s h3, if_neg (by decide), if_neg (by decide), if_neg (by decide), if_neg (by decide), if_neg (by decide), if_neg (by decide), if_neg (by decide), if_neg (by decide), if_neg (by decide), if_pos rfl]
      have I := ih s (e - 1) two st S w stk trs q2 hW h1 hs (by omega) (by omega) htt
      have I' : EvL R (Lp gi ga As ne am rc N ins fl (Int32.ofNat t0)) (Fq gi ga As ne am rc N ins fl (Int32.ofNat t0)) s0 (e - 1) cur d (stk ++ []) trs (Lp gi ga As ne am rc N ins fl (Int32.ofNat t0) s st S) (evx F A En fg k cur two w) := by rw [List.append_nil]; exact I
      refine I'.seq (by omega) ?_ ?_
      · intro v w' st1 S1 hr a1 a2 a3
        rw [List.append_nil] at a2
        rw [hr]
        obtain ⟨S0, b1, b2, b3⟩ := ask_1 (gi := gi) (ga := ga) (As := As) (ne := ne) (am := am) (N := N) (x := 14) (P := one) (Or.inr rfl) a2 (by omega)
        have := asks 14 14 v.toInt32 0 S0 S1 w' st1 (e - 1) rfl (by omega) q4 q3 a1 (by omega) b1 b2 (by rw [b3]; exact a3)
        rw [show e - 1 + 1 = e by omega] at this
        exact this
      · intro x w' hr
        rw [hr]
    · -- try
      have l2 := q2.lt
      have l4 := q4.lt
      rw [evx_s h3, if_neg (by decide), if_neg (by decide), if_neg (by decide), if_neg (by decide), if_neg (by decide), if_neg (by decide), if_neg (by decide), if_neg (by decide), if_neg (by decide), if_neg (by decide), if_pos rfl]
      have hp := (List.getElem?_eq_some_iff.mp q1).1
      have h560 := hF.1.2
      obtain ⟨S1, t1, t2, t3⟩ := try_W (gi := gi) (ga := ga) (As := As) (ne := ne) (am := am) (N := N) (y := Int32.ofNat (m + 1)) hW (by omega)
      rw [Lp_step hF hN5 (by omega) q1 (by decide), step_try hF q1, t1, zbs, zbs, if_pos (by rw [t3]; exact h1), yi_add1]
      have I := ih (s + 1) m one (st + 1) S1 w stk (trs ++ [(Int32.ofNat (m + 1), stk.length)]) q2 t2 (by rw [t3]; exact h1) (by omega) (by omega) (by rw [List.length_append, List.length_singleton]; omega) (by rw [List.length_append]; omega)
      rcases hr : evx F A En fg k cur one w with ⟨v | x, w'⟩
      · rw [hr] at I
        obtain ⟨st', S', i1, i2, i3, i4⟩ := I
        have hpm := (List.getElem?_eq_some_iff.mp q3).1
        have i1' : cE_work_15 gi ga As ne am rc N (N - (st + 1)) ins fl (Int32.ofNat t0) (Int32.ofNat (s + 1)) (Int32.ofNat (st + 1)) S1 = Lp gi ga As ne am rc N ins fl (Int32.ofNat t0) m st' S' := i1
        rw [i1', Lp_step hF hN5 (by omega) q3 (by decide), step_tried hF q3, zbs, if_pos (show zI (zsI S' 8 (zI S' 8 - 1)) 1 = 0 from i4)]
        exact ⟨st' + 1, _, rfl, by omega, tried_W i3, i4⟩
      · rw [hr] at I
        obtain ⟨st', S', i1, i2, i3⟩ := I
        have i1' : cE_work_15 gi ga As ne am rc N (N - (st + 1)) ins fl (Int32.ofNat t0) (Int32.ofNat (s + 1)) (Int32.ofNat (st + 1)) S1 = Fq gi ga As ne am rc N ins fl (Int32.ofNat t0) st' S' := i1
        obtain ⟨S2, e1, e2, e3⟩ := else_W (gi := gi) (ga := ga) (As := As) (ne := ne) (am := am) (N := N) i3 (by omega)
        have hne : zI S' 8 ≠ Int32.ofNat t0 := by
          have := i3.2.2.1.1
          rw [List.length_append, List.length_singleton] at this
          rw [this, Ne, xi32_eq, yi_nat (by omega), yi_nat (by omega)]
          omega
        rw [i1', Fq, if_pos hne, e1, zbs]
        exact ih (m + 1) e two (st' + 1) S2 (w'.1, w'.2.1, w'.2.2.1 + 1, w'.2.2.2) stk trs q4 e2 e3 (by omega) (by omega) (by omega) htt
    · -- or, and
      have l2 := q2.lt
      have l4 := q4.lt
      rw [evx_pair (by rcases q0 with h | h; exact Or.inl h; exact Or.inr (Or.inl h)) h3]
      have I := ih s m one st S w stk trs q2 hW h1 hs (by omega) (by omega) htt
      have I' : EvL R (Lp gi ga As ne am rc N ins fl (Int32.ofNat t0)) (Fq gi ga As ne am rc N ins fl (Int32.ofNat t0)) s0 m cur d (stk ++ []) trs (Lp gi ga As ne am rc N ins fl (Int32.ofNat t0) s st S) (evx F A En fg k cur one w) := by rw [List.append_nil]; exact I
      refine I'.seq (by omega) ?_ ?_
      · intro v w' st1 S1 hr a1 a2 a3
        rw [List.append_nil] at a2
        rw [hr]
        obtain ⟨S2, p1, p2, p3, _⟩ := pop_W (gi := gi) (ga := ga) (As := As) (ne := ne) (am := am) (N := N) a2 (by omega)
        have hpm := (List.getElem?_eq_some_iff.mp q3).1
        have h560 := hF.1.2
        have hx3 : op - 8 = 3 ∨ op - 8 = 4 := by rcases q0 with rfl | rfl; exact Or.inl (by decide); exact Or.inr (by decide)
        have hst := step_or (As := As) (ne := ne) (am := am) (rc := rc) (N := N) (ins := ins) (S := S1) hx3 hF q3
        rw [Lp_step hF hN5 (by omega) q3 (by rcases hx3 with h | h <;> rw [h] <;> decide), hst, cE_decide, p1, zbs]
        -- on to the right one
        have right : ∀ (st2 : Nat) (S3 : zS), s0 + st2 ≤ m + 1 → Wk R S3 w' cur d stk trs → zI S3 1 = 0 → EvL R (Lp gi ga As ne am rc N ins fl (Int32.ofNat t0)) (Fq gi ga As ne am rc N ins fl (Int32.ofNat t0)) s0 e cur d stk trs (Lp gi ga As ne am rc N ins fl (Int32.ofNat t0) (m + 1) st2 S3) (match evx F A En fg k cur two w' with
            | (.inr e, w2) => (.inr e, w2)
            | (.inl y, w2) => (.inl (if y = 0 then 0 else 1), w2)) := by
          intro st2 S3 b1 b2 b3
          have J := ih (m + 1) (e - 1) two st2 S3 w' stk trs q4 b2 b3 b1 (by omega) (by omega) htt
          have J' : EvL R (Lp gi ga As ne am rc N ins fl (Int32.ofNat t0)) (Fq gi ga As ne am rc N ins fl (Int32.ofNat t0)) s0 (e - 1) cur d (stk ++ []) trs (Lp gi ga As ne am rc N ins fl (Int32.ofNat t0) (m + 1) st2 S3) (evx F A En fg k cur two w') := by rw [List.append_nil]; exact J
          refine J'.seq (by omega) ?_ ?_
          · intro u w2 st3 S4 hr2 c1 c2 c3
            rw [List.append_nil] at c2
            rw [hr2]
            obtain ⟨S0, r1, r2, r3⟩ := reck_1 (gi := gi) (ga := ga) (As := As) (ne := ne) (am := am) (N := N) (x := 15) (Or.inl rfl) c2 (by omega)
            have hst2 := step_reck (As := As) (ne := ne) (am := am) (rc := rc) (N := N) (ins := ins) (S := S4) (by decide) hF q5
            have := leaf_K (ot := Int32.ofNat t0) (fl := fl) (r := .inl (if u = 0 then 0 else 1)) hF hN5 c1 q5 (by decide) hst2 r2 (by rw [r3]; exact c3) (by omega) (by rw [r1, if_pos rfl]; rfl)
            rw [show e - 1 + 1 = e by omega] at this
            exact this
          · intro x w2 hr2
            rw [hr2]
        have jump : ∀ (x : Int64), EvL R (Lp gi ga As ne am rc N ins fl (Int32.ofNat t0)) (Fq gi ga As ne am rc N ins fl (Int32.ofNat t0)) s0 e cur d stk trs (zb (zb (cE_push gi ga As ne am N x S2) fun _ S5 => some (Int32.ofNat e, S5)) fun q S1 => if zI S1 1 = 0 then cE_work_15 gi ga As ne am rc N (N - (st1 + 1)) ins fl (Int32.ofNat t0) q (Int32.ofNat (st1 + 1)) S1 else Fq gi ga As ne am rc N ins fl (Int32.ofNat t0) st1 S1) (.inl x, w') := by
          intro x
          obtain ⟨S3, g1, g2, g3, _⟩ := push_W (gi := gi) (ga := ga) (As := As) (ne := ne) (am := am) (N := N) (v := x) p2 (by omega)
          rw [g1, zbs, zbs, if_pos (by rw [g3, p3]; exact a3)]
          exact ⟨st1 + 1, S3, rfl, by omega, g2, by rw [g3, p3]; exact a3⟩
        have go : EvL R (Lp gi ga As ne am rc N ins fl (Int32.ofNat t0)) (Fq gi ga As ne am rc N ins fl (Int32.ofNat t0)) s0 e cur d stk trs (zb (some (Int32.ofNat m + 1, S2)) fun q S1 => if zI S1 1 = 0 then cE_work_15 gi ga As ne am rc N (N - (st1 + 1)) ins fl (Int32.ofNat t0) q (Int32.ofNat (st1 + 1)) S1 else Fq gi ga As ne am rc N ins fl (Int32.ofNat t0) st1 S1) (match evx F A En fg k cur two w' with
            | (.inr e, w2) => (.inr e, w2)
            | (.inl y, w2) => (.inl (if y = 0 then 0 else 1), w2)) := by
          rw [zbs, if_pos (by rw [p3]; exact a3), yi_add1]
          exact right (st1 + 1) S2 (by omega) p2 (by rw [p3]; exact a3)
        rw [zb_id]
        rcases q0 with rfl | rfl
        · show EvL R _ _ s0 e cur d stk trs (zb (if v = 0 then cE_decide_8 gi ga As ne am N (if (11 : Int32) - 8 = 3 then 1 else 0) (Int32.ofNat m) (Int32.ofNat e) 0 S2 else cE_decide_8 gi ga As ne am N (if (11 : Int32) - 8 = 3 then 1 else 0) (Int32.ofNat m) (Int32.ofNat e) 1 S2) _) (if (11 : Int32) = 11 ∧ v ≠ 0 then (.inl 1, w') else if (11 : Int32) = 12 ∧ v = 0 then (.inl 0, w') else _)
          by_cases h0 : v = 0
          · rw [if_pos h0, if_pos (by decide), cE_decide_8, if_neg (by decide), if_neg (fun hh => hh.2 h0), if_neg (fun hh => absurd hh.1 (by decide))]
            rcases hr2 : evx F A En fg k cur two w' with ⟨y | x, w2⟩
            · rw [hr2] at go; exact go
            · rw [hr2] at go; exact go
          · rw [if_neg h0, if_pos (by decide), cE_decide_8, if_pos rfl, if_neg (by decide), if_pos ⟨rfl, h0⟩]
            exact jump 1
        · show EvL R _ _ s0 e cur d stk trs (zb (if v = 0 then cE_decide_8 gi ga As ne am N (if (12 : Int32) - 8 = 3 then 1 else 0) (Int32.ofNat m) (Int32.ofNat e) 0 S2 else cE_decide_8 gi ga As ne am N (if (12 : Int32) - 8 = 3 then 1 else 0) (Int32.ofNat m) (Int32.ofNat e) 1 S2) _) (if (12 : Int32) = 11 ∧ v ≠ 0 then (.inl 1, w') else if (12 : Int32) = 12 ∧ v = 0 then (.inl 0, w') else _)
          by_cases h0 : v = 0
          · rw [if_pos h0, if_neg (show ¬ (12 : Int32) - 8 = 3 by decide), cE_decide_8, if_pos rfl, if_pos rfl, if_neg (fun hh => absurd hh.1 (by decide)), if_pos ⟨rfl, h0⟩]
            exact jump 0
          · rw [if_neg h0, if_neg (show ¬ (12 : Int32) - 8 = 3 by decide), cE_decide_8, if_neg (by decide), if_neg (fun hh => absurd hh.1 (by decide)), if_neg (fun hh => h0 hh.2)]
            rcases hr2 : evx F A En fg k cur two w' with ⟨y | x, w2⟩
            · rw [hr2] at go; exact go
            · rw [hr2] at go; exact go
      · intro x w' hr
        rw [hr]
    · -- not, minus
      have I := ih s (e - 1) one st S w stk trs q2 hW h1 hs (by omega) (by omega) htt
      have I' : EvL R (Lp gi ga As ne am rc N ins fl (Int32.ofNat t0)) (Fq gi ga As ne am rc N ins fl (Int32.ofNat t0)) s0 (e - 1) cur d (stk ++ []) trs (Lp gi ga As ne am rc N ins fl (Int32.ofNat t0) s st S) (evx F A En fg k cur one w) := by rw [List.append_nil]; exact I
      have go : ∀ (x : Int32) (f : Int64 → Int64), (x = 16 ∨ x = 17) → F.2.2.2.2.2[e - 1]? = some (x, 0) → (∀ v : Int64, (if x = 15 then (if v = 0 then 0 else 1) else if x = 16 then -v else if v = 0 then 1 else 0) = f v) → EvL R (Lp gi ga As ne am rc N ins fl (Int32.ofNat t0)) (Fq gi ga As ne am rc N ins fl (Int32.ofNat t0)) s0 e cur d stk trs (Lp gi ga As ne am rc N ins fl (Int32.ofNat t0) s st S) (match evx F A En fg k cur one w with
          | (.inr e, w1) => (.inr e, w1)
          | (.inl v, w1) => (.inl (f v), w1)) := by
        intro x f hx hc hf
        refine I'.seq (by omega) ?_ ?_
        · intro v w' st1 S1 hr a1 a2 a3
          rw [List.append_nil] at a2
          rw [hr]
          obtain ⟨S0, r1, r2, r3⟩ := reck_1 (gi := gi) (ga := ga) (As := As) (ne := ne) (am := am) (N := N) (x := x) (Or.inr hx) a2 (by omega)
          have hst2 := step_reck (As := As) (ne := ne) (am := am) (rc := rc) (N := N) (ins := ins) (S := S1) (by rcases hx with rfl | rfl <;> decide) hF hc
          have := leaf_K (ot := Int32.ofNat t0) (fl := fl) (r := .inl (f v)) hF hN5 a1 hc (by rcases hx with rfl | rfl <;> decide) hst2 r2 (by rw [r3]; exact a3) (by omega) (by rw [r1, hf v]; rfl)
          rw [show e - 1 + 1 = e by omega] at this
          exact this
        · intro x w' hr
          rw [hr]
      rcases q0 with rfl | rfl
      · rw [evx_s h3, if_neg (by decide), if_neg (by decide), if_neg (by decide), if_neg (by decide), if_neg (by decide), if_neg (by decide), if_neg (by decide), if_neg (by decide), if_neg (by decide), if_neg (by decide), if_neg (by decide), if_pos rfl]
        exact go 17 (fun v => if v = 0 then 1 else 0) (Or.inr rfl) q3 (fun v => rfl)
      · rw [evx_s h3, if_neg (by decide), if_neg (by decide), if_neg (by decide), if_neg (by decide), if_neg (by decide), if_neg (by decide), if_neg (by decide), if_neg (by decide), if_neg (by decide), if_neg (by decide), if_neg (by decide), if_neg (by decide), if_pos rfl]
        exact go 16 (fun v => -v) (Or.inl rfl) q3 (fun v => rfl)
    · -- a pair
      have l2 := q2.lt
      have l3 := q3.lt
      have n11 : ¬ op = 11 := fun hh => by rw [hh] at q0; exact absurd q0 (by decide)
      have n12 : ¬ op = 12 := fun hh => by rw [hh] at q0; exact absurd q0 (by decide)
      rw [evx_pair (Or.inr (Or.inr ⟨q0, q0'⟩)) h3]
      have I := ih s m one st S w stk trs q2 hW h1 hs (by omega) (by omega) htt
      have I' : EvL R (Lp gi ga As ne am rc N ins fl (Int32.ofNat t0)) (Fq gi ga As ne am rc N ins fl (Int32.ofNat t0)) s0 m cur d (stk ++ []) trs (Lp gi ga As ne am rc N ins fl (Int32.ofNat t0) s st S) (evx F A En fg k cur one w) := by rw [List.append_nil]; exact I
      refine I'.seq (by omega) ?_ ?_
      · intro v w' st1 S1 hr a1 a2 a3
        rw [List.append_nil] at a2
        rw [hr]
        show EvL R _ _ s0 e cur d stk trs _ (if op = 11 ∧ v ≠ 0 then (.inl 1, w') else if op = 12 ∧ v = 0 then (.inl 0, w') else _)
        rw [if_neg (fun hh => n11 hh.1), if_neg (fun hh => n12 hh.1)]
        have J := ih m (e - 1) two st1 S1 w' (stk ++ [v]) trs q3 a2 a3 a1 (by rw [List.length_append, List.length_singleton]; omega) (by omega) htt
        refine J.seq (by omega) ?_ ?_
        · intro u w2 st2 S2 hr2 c1 c2 c3
          rw [hr2]
          show EvL R _ _ s0 e cur d stk trs _ (if op = 11 ∨ op = 12 then _ else okR (prR op v u) cur w2)
          rw [if_neg (fun hh => hh.elim n11 n12)]
          obtain ⟨S0, b1, b2, b3⟩ := reck_2 (gi := gi) (ga := ga) (As := As) (ne := ne) (am := am) (N := N) q0 q0' c2 (by omega)
          have hx15 : 15 ≤ (if op.toInt < 20 then op + 6 else op - 2).toInt := by
            have e6 : (6 : Int32).toInt = 6 := by decide
            have e2 : (2 : Int32).toInt = 2 := by decide
            split
            · rw [yi_plus (by omega) (by omega)]; omega
            · rw [yi_sub (by omega) (by omega)]; omega
          have hst2 := step_reck (As := As) (ne := ne) (am := am) (rc := rc) (N := N) (ins := ins) (S := S2) hx15 hF q4
          have := leaf_K (ot := Int32.ofNat t0) (fl := fl) hF hN5 c1 q4 (fun hh => by rw [hh] at hx15; exact absurd hx15 (by decide)) hst2 b2 (by rw [b3]; exact c3) (by omega) b1
          rw [show e - 1 + 1 = e by omega] at this
          exact this
        · intro x w2 hr2
          rw [hr2]
      · intro x w' hr
        rw [hr]
end CEXP
