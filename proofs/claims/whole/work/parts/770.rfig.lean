/-! WORKING, THE REFERENCE: figures, and exps that stand alone -/
section RFIG
variable {R : zS} {F : yF} {A : List (Option yO)} {En : List (Int64 × Int32)} {gi : Nat → Int32} {ga : Nat → List Int32} {vl : List Int64} {Bs : List (Option zH)} {am : List Int64} {N : Nat} {cur dr : Int32} {j : Nat} {rc : Int32 → zS → Option (Int64 × zS)}
theorem fval_new {f : Nat} {n : Int32} {S : zS} (hf : f < 12) (hl : (zA S 13).length = 12) (h13 : (zA S 13)[f]? = some 0) (hn : (ga 11)[f]? = some n) : rF_figureValue gi ga vl Bs am rc N (Int32.ofNat f) S = zb (rc n (zsI (zsA (zsI S 5 ((zI S 5) + 1)) 13 ((zA S 13).set f 1)) 4 (Int32.ofNat f))) fun x8 S9 => (if zok (zB S9 14) (Int32.ofNat f) then (if zok (zA S9 15) (Int32.ofNat f) then (if zok (zA S9 16) (Int32.ofNat f) then (zg (gI (zs (zB S9 14) (Int32.ofNat f) x8) (Int32.ofNat f)) fun x11 => some (x11, (zsA (zsA (zsI (zsB S9 14 (zs (zB S9 14) (Int32.ofNat f) x8)) 4 (zI S 4)) 15 (zs (zA S9 15) (Int32.ofNat f) (zI S9 2))) 16 (zs (zA S9 16) (Int32.ofNat f) (zI S9 3))))) else none) else none) else none) := by
  rw [rF_figureValue, gI_nat (by omega), h13, zgs, if_neg (nn rfl), if_pos (zok_nat (by omega) (by omega)), gI_nat (by omega), hn, zgs, zs_nat (by omega)]
theorem fval_hit {f : Nat} {k a : Int32} {v : Int64} {S : zS} (hf : f < 12) (h13 : (zA S 13)[f]? = some 1) (h14 : (zB S 14)[f]? = some v) (h15 : (zA S 15)[f]? = some k) (h16 : (zA S 16)[f]? = some a) : rF_figureValue gi ga vl Bs am rc N (Int32.ofNat f) S = some (v, if k = 0 then S else zsI (zsI S 2 k) 3 a) := by
  rw [rF_figureValue, gI_nat (by omega), h13, zgs, if_pos (by decide), gI_nat (by omega), h15, zgs]
  by_cases hk : k = 0
  · rw [if_pos hk, if_pos hk, gI_nat (by omega), h14, zgs]
  · rw [if_neg hk, if_neg hk, zgs, gI_nat (by omega), h16, zgs, gI_nat (by omega), h14, zgs]
theorem R_figs {K : Nat} (hKe : K = 300) (hF : fMr F ga vl) (hK : F.1.length ≤ 20 ∧ ∀ (i : Nat) P, F.1[i]? = some P → 0 ≤ P.1.toInt ∧ P.1.toInt ≤ 11) (hA : aB En F A Bs dr) (hE : eM En am) (hN : 1000 < N) {fe : Nat → Nat} (hfe : ∀ (i : Nat) (n q : Int32), F.2.1[i]? = some (n, q) → yExp F fe i q n (fe i)) (hfl : F.2.1.length ≤ 12) : ∀ (J s0 j : Nat), j ≤ J → j ≤ F.2.1.length → (∀ f, f < j → fe f < s0) → FgM R gi ga vl Bs am N dr s0 j (figx F A En K J)
  | 0, _, j, hj, _, _ => fun f hf => by omega
  | J + 1, s0, j, hj, hjl, hs0 => by
    intro f hf S w cur m hm hW h2
    have hf12 : f < 12 := by omega
    obtain ⟨⟨w1, w2, w3, w4, w5, w6⟩, ⟨l13, l14, l15, l16⟩, ml, mm⟩ := hW
    have hW : Rk R S w cur dr j := ⟨⟨w1, w2, w3, w4, w5, w6⟩, ⟨l13, l14, l15, l16⟩, ml, mm⟩
    obtain ⟨mv, hmv⟩ : ∃ mv, w.2.2.2[f]? = some mv := ⟨_, List.getElem?_eq_getElem (by omega)⟩
    have hmem : gI w.2.2.2 (Int32.ofNat f) = some mv := by rw [gI_nat (by omega)]; exact hmv
    have mf := mm f _ hf hmv
    rcases mv with _ | r
    · -- worked now
      have mf : (zA S 13)[f]? = some 0 := mf
      obtain ⟨nq, hnq⟩ : ∃ q, F.2.1[f]? = some q := ⟨_, List.getElem?_eq_getElem (by omega)⟩
      obtain ⟨n, q⟩ := nq
      obtain ⟨s, rfl, hse, hrep, hend, hbef⟩ := hfe f n q hnq
      have hfs := hs0 f hf
      rw [← hKe] at hrep
      rw [fval_new hf12 l13 mf (hF.2.1 f n _ hnq)]
      have hnode : ((gI F.2.1 (Int32.ofNat f)).map Prod.fst).getD 0 = n := by rw [gI_nat (by omega), hnq]; rfl
      generalize hS1 : zsI (zsA (zsI S 5 ((zI S 5) + 1)) 13 ((zA S 13).set f 1)) 4 (Int32.ofNat f) = S1
      have o13 : zA S1 13 = (zA S 13).set f 1 := by rw [← hS1]; rfl
      have o14 : zB S1 14 = zB S 14 := by rw [← hS1]; rfl
      have o15 : zA S1 15 = zA S 15 := by rw [← hS1]; rfl
      have o16 : zA S1 16 = zA S 16 := by rw [← hS1]; rfl
      have hW1 : Rk R S1 (w.1, w.2.1 + 1, w.2.2.1, w.2.2.2) (Int32.ofNat f) dr f := by
        refine ⟨⟨by rw [← hS1]; exact w1, ?_, by rw [← hS1]; exact w3, by rw [← hS1]; rfl, by rw [← hS1]; exact w5, by rw [← hS1]; exact w6⟩, ⟨by rw [o13, List.length_set]; exact l13, by rw [o14]; exact l14, by rw [o15]; exact l15, by rw [o16]; exact l16⟩, ml, ?_⟩
        · rw [← hS1]
          show zI S 5 + 1 = _
          rw [w2]
        · intro i x hi hx
          have o := mm i x (by omega) hx
          have t13 : (zA S1 13)[i]? = (zA S 13)[i]? := by rw [o13, List.getElem?_set_ne (by omega)]
          rcases x with _ | v | x
          · exact t13.trans o
          · exact ⟨t13.trans o.1, by rw [o14]; exact o.2.1, by rw [o15]; exact o.2.2⟩
          · exact ⟨t13.trans o.1, by rw [o15]; exact o.2.1, by rw [o16]; exact o.2.2.1, o.2.2.2⟩
      have h21 : zI S1 2 = 0 := by rw [← hS1]; exact h2
      have RR := R_ev (R := R) (cur := Int32.ofNat f) hF hK hA hE hN (R_figs hKe hF hK hA hE hN hfe hfl J s f (by omega) (by omega) hbef) (by omega) K s (fe f) n m S1 _ hrep hW1 h21 (by omega)
      -- the end of a figure
      have fin : ∀ (r : yR) (w9 : yW) (x8 : Int64) (S9 : zS), Rk R S9 w9 (Int32.ofNat f) dr f → kpM f S1 S9 (w.1, w.2.1 + 1, w.2.2.1, w.2.2.2) w9 → (match r with | .inl v => x8 = v ∧ zI S9 2 = 0 | .inr x => zI S9 2 = x.1 ∧ x.1 ≠ 0 ∧ zI S9 3 = x.2) → ∃ S', (if zok (zB S9 14) (Int32.ofNat f) then (if zok (zA S9 15) (Int32.ofNat f) then (if zok (zA S9 16) (Int32.ofNat f) then (zg (gI (zs (zB S9 14) (Int32.ofNat f) x8) (Int32.ofNat f)) fun x11 => some (x11, (zsA (zsA (zsI (zsB S9 14 (zs (zB S9 14) (Int32.ofNat f) x8)) 4 (zI S 4)) 15 (zs (zA S9 15) (Int32.ofNat f) (zI S9 2))) 16 (zs (zA S9 16) (Int32.ofNat f) (zI S9 3))))) else none) else none) else none) = some (x8, S') ∧ Rk R S' (w9.1, w9.2.1, w9.2.2.1, w9.2.2.2.set f (some r)) cur dr j ∧ kpM j S S' w (w9.1, w9.2.1, w9.2.2.1, w9.2.2.2.set f (some r)) ∧ zI S' 2 = zI S9 2 ∧ zI S' 3 = zI S9 3 := by
        intro r w9 x8 S9 k1 kp k2
        obtain ⟨⟨a1, a2, a3, a4, a5, a6⟩, ⟨m13, m14, m15, m16⟩, ml1, mm1⟩ := k1
        rw [if_pos (zok_nat (by omega) (by omega)), if_pos (zok_nat (by omega) (by omega)), if_pos (zok_nat (by omega) (by omega)), zs_nat (by omega), zs_nat (by omega), zs_nat (by omega), gI_nat (by omega), List.getElem?_set_self (by omega), zgs]
        -- arrays from f on
        have s13 : ∀ i, f < i → (zA S9 13)[i]? = (zA S 13)[i]? := fun i hi => by rw [(kp i (by omega)).2.1, o13, List.getElem?_set_ne (by omega)]
        have s14 : ∀ i, f < i → (zB S9 14)[i]? = (zB S 14)[i]? := fun i hi => by rw [(kp i (by omega)).2.2.1, o14]
        have s15 : ∀ i, f < i → (zA S9 15)[i]? = (zA S 15)[i]? := fun i hi => by rw [(kp i (by omega)).2.2.2.1, o15]
        have s16 : ∀ i, f < i → (zA S9 16)[i]? = (zA S 16)[i]? := fun i hi => by rw [(kp i (by omega)).2.2.2.2, o16]
        have t14 : ∀ i, f ≠ i → ((zB S9 14).set f x8)[i]? = (zB S9 14)[i]? := fun i hi => List.getElem?_set_ne hi
        have t15 : ∀ i, f ≠ i → ((zA S9 15).set f (zI S9 2))[i]? = (zA S9 15)[i]? := fun i hi => List.getElem?_set_ne hi
        have t16 : ∀ i, f ≠ i → ((zA S9 16).set f (zI S9 3))[i]? = (zA S9 16)[i]? := fun i hi => List.getElem?_set_ne hi
        refine ⟨_, rfl, ⟨⟨a1, a2, a3, w4, a5, a6⟩, ⟨m13, ?_, ?_, ?_⟩, ?_, ?_⟩, ?_, rfl, rfl⟩
        · show ((zB S9 14).set f x8).length = 12; rw [List.length_set]; exact m14
        · show ((zA S9 15).set f (zI S9 2)).length = 12; rw [List.length_set]; exact m15
        · show ((zA S9 16).set f (zI S9 3)).length = 12; rw [List.length_set]; exact m16
        · show (w9.2.2.2.set f (some r)).length = 12; rw [List.length_set]; exact ml1
        · intro i y hi hy
          have hy : (w9.2.2.2.set f (some r))[i]? = some y := hy
          by_cases hif : f = i
          · subst hif
            rw [List.getElem?_set_self (by omega)] at hy
            cases hy
            have e13 : (zA S9 13)[f]? = some 1 := by rw [(kp f (Nat.le_refl _)).2.1, o13, List.getElem?_set_self (by omega)]
            rcases r with v | x
            · refine ⟨e13, ?_, ?_⟩
              · show ((zB S9 14).set f x8)[f]? = _; rw [List.getElem?_set_self (by omega), k2.1]
              · show ((zA S9 15).set f (zI S9 2))[f]? = _; rw [List.getElem?_set_self (by omega), k2.2]
            · refine ⟨e13, ?_, ?_, k2.2.1⟩
              · show ((zA S9 15).set f (zI S9 2))[f]? = _; rw [List.getElem?_set_self (by omega), k2.1]
              · show ((zA S9 16).set f (zI S9 3))[f]? = _; rw [List.getElem?_set_self (by omega), k2.2.2]
          · rw [List.getElem?_set_ne hif] at hy
            by_cases hlt : i < f
            · have o := mm1 i y hlt hy
              rcases y with _ | v | x
              · exact o
              · exact ⟨o.1, (t14 i hif).trans o.2.1, (t15 i hif).trans o.2.2⟩
              · exact ⟨o.1, (t15 i hif).trans o.2.1, (t16 i hif).trans o.2.2.1, o.2.2.2⟩
            · rw [(kp i (by omega)).1] at hy
              have o := mm i y hi hy
              rcases y with _ | v | x
              · exact (s13 i (by omega)).trans o
              · exact ⟨(s13 i (by omega)).trans o.1, (t14 i hif).trans ((s14 i (by omega)).trans o.2.1), (t15 i hif).trans ((s15 i (by omega)).trans o.2.2)⟩
              · exact ⟨(s13 i (by omega)).trans o.1, (t15 i hif).trans ((s15 i (by omega)).trans o.2.1), (t16 i hif).trans ((s16 i (by omega)).trans o.2.2.1), o.2.2.2⟩
        · intro i hi
          refine ⟨?_, s13 i (by omega), (t14 i (by omega)).trans (s14 i (by omega)), (t15 i (by omega)).trans (s15 i (by omega)), (t16 i (by omega)).trans (s16 i (by omega))⟩
          show (w9.2.2.2.set f (some r))[i]? = _
          rw [List.getElem?_set_ne (by omega)]
          exact (kp i (by omega)).1
      rcases hv : evx F A En (figx F A En K J) K (Int32.ofNat f) n (w.1, w.2.1 + 1, w.2.2.1, w.2.2.2) with ⟨v | x, w9⟩
      · rw [hv] at RR
        obtain ⟨S9, r1, r2, r3, r4⟩ := RR
        obtain ⟨S', k1, k2, k3, k4, k5⟩ := fin (.inl v) w9 v S9 r2 r4 ⟨rfl, r3⟩
        rw [r1, zbs, figx_new hf12 hmem hnode hv]
        exact ⟨S', k1, k2, by rw [k4]; exact r3, k3⟩
      · rw [hv] at RR
        obtain ⟨v, S9, r1, r2, r3, r4⟩ := RR
        obtain ⟨S', k1, k2, k3, k4, k5⟩ := fin (.inr x) w9 v S9 r2 r4 r3
        rw [r1, zbs, figx_new hf12 hmem hnode hv]
        exact ⟨v, S', k1, k2, ⟨by rw [k4]; exact r3.1, r3.2.1, by rw [k5]; exact r3.2.2⟩, k3⟩
    · rw [figx_hit hmem]
      rcases r with v | x
      · obtain ⟨o1, o2, o3⟩ := mf
        rw [fval_hit hf12 o1 o2 o3 (List.getElem?_eq_getElem (by omega)), if_pos rfl]
        exact ⟨S, rfl, hW, h2, kpM.rf⟩
      · obtain ⟨o1, o2, o3, o4⟩ := mf
        rw [fval_hit hf12 o1 (List.getElem?_eq_getElem (by omega)) o2 o3, if_neg o4]
        exact ⟨_, _, rfl, hW, ⟨rfl, o4, rfl⟩, kpM.rf⟩
/-- an exp that stands alone -/
theorem R_work {K : Nat} (hKe : K = 300) (hF : fMr F ga vl) (hok : yFok F) (hA : aB En F A Bs dr) (hE : eM En am) (hN : 1000 < N) {m e : Nat} {fe : Nat → Nat} (hfe : ∀ (i : Nat) (n q : Int32), F.2.1[i]? = some (n, q) → yExp F fe i q n (fe i)) {at' n : Int32} (hj : j ≤ F.2.1.length) (hx : yExp F fe j at' n e) (hm : 560 ≤ m) {S : zS} {w : yW} (hW : Rk R S w cur dr 12) (h2 : zI S 2 = 0) : RvM R (evx F A En (figx F A En K 12) K cur n w) S w cur dr j (rF_fix gi ga vl Bs am N m n S) := by
  obtain ⟨s, rfl, hse, hrep, hend, hbef⟩ := hx
  obtain ⟨_, h560, _, _, _, hl20, hl12, _, _, hP⟩ := hok
  have heL := (List.getElem?_eq_some_iff.mp hend).1
  rw [← hKe] at hrep
  have hWj : Rk R S w cur dr j := ⟨hW.1, hW.2.1, hW.2.2.1, fun i x hi hx => hW.2.2.2 i x (by omega) hx⟩
  exact R_ev hF ⟨hl20, fun i P hp => (hP i P hp).1⟩ hA hE hN (R_figs (R := R) hKe hF ⟨hl20, fun i P hp => (hP i P hp).1⟩ hA hE hN hfe hl12 12 s j (by omega) hj hbef) (by omega) K s e n m S w hrep hWj h2 (by omega)
end RFIG
