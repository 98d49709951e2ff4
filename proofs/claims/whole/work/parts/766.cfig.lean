/-! WORKING, THE CLASS: figures, and exps that stand alone -/
/-- a call's end: a value, or a FAILURE that is set -/
def RvC (R : zS) (r : yR × yW) (cur : Int32) (d : Nat) (stk : List Int64) (trs : List (Int32 × Nat)) (o : Option (Int64 × zS)) : Prop := match r with
  | (.inl v, w') => ∃ S', o = some (v, S') ∧ Wk R S' w' cur d stk trs ∧ zI S' 1 = 0
  | (.inr x, w') => ∃ v S', o = some (v, S') ∧ Wk R S' w' cur d stk trs ∧ zI S' 1 = x.1 ∧ x.1 ≠ 0 ∧ zI S' 2 = x.2
section CFIG
variable {F : yF} {A : List (Option yO)} {En : List (Int64 × Int32)} {fg : Int32 → yW → yR × yW} {gi : Nat → Int32} {ga : Nat → List Int32} {As : List (Option zO)} {ne : Int32} {am : List Int64} {rc : Int32 → Int32 → zS → Option (Int64 × zS)} {N : Nat} {R : zS} {ins : Int32} {cur : Int32} {d j : Nat}
/-- an exp's loop, from its begin to its end -/
theorem C_run (hF : fC F gi ga) (hK : F.1.length ≤ 20 ∧ ∀ (i : Nat) P, F.1[i]? = some P → 0 ≤ P.1.toInt ∧ P.1.toInt ≤ 11) (hA : aA En F A As) (hE : eC En ne am) (hN : 1000 < N) {s e K : Nat} {n : Int32} {S : zS} {w : yW} {stk : List Int64} {trs : List (Int32 × Nat)} (hfg : FgC R gi ga As ne am rc N ins s j fg) (hj : j ≤ 12) (hr : yRep F j K s e n) (he : F.2.2.2.2.2[e]? = some (0, 0)) (hW : Wk R S w cur d stk trs) (h1 : zI S 1 = 0) (hb : stk.length + e ≤ 560) (ht : 3 * trs.length + e ≤ 560) : RvC R (evx F A En fg K cur n w) cur d stk trs (cE_work_15 gi ga As ne am rc N N ins (zI S 7) (zI S 8) (Int32.ofNat s) 0 S) := by
  have hlt := hr.lt
  have e7 := hW.2.1.1
  have e8 := hW.2.2.1.1
  have I := C_ev (fl := zI S 7) (t0 := trs.length) hF hK hA hE hN hfg hj (by omega) K s e n 0 S w stk trs hr hW h1 (by omega) hb (by omega) (Nat.le_refl _)
  have eL : cE_work_15 gi ga As ne am rc N N ins (zI S 7) (zI S 8) (Int32.ofNat s) 0 S = Lp gi ga As ne am rc N ins (zI S 7) (Int32.ofNat trs.length) s 0 S := by rw [e8]; rfl
  rw [eL]
  have hp := (List.getElem?_eq_some_iff.mp he).1
  have h560 := hF.1.2
  obtain ⟨g1, g2⟩ := hF.2.1 e _ _ he
  rcases hv : evx F A En fg K cur n w with ⟨v | x, w'⟩
  · rw [hv] at I
    obtain ⟨st', S', i1, i2, i3, i4⟩ := I
    obtain ⟨S2, p1, p2, p3, _⟩ := pop_W (gi := gi) (ga := ga) (As := As) (ne := ne) (am := am) (N := N) i3 (by omega)
    refine ⟨S2, ?_, p2, by rw [p3]; exact i4⟩
    rw [i1]
    unfold Lp
    rw [show N - st' = (N - (st' + 1)) + 1 by omega, cE_work_15, if_neg (by rw [yi_nat (by omega)]; omega), if_neg (by rw [hF.1.1, yi_nat (by omega), yi_nat (by omega)]; omega), gI_nat (by omega), g1, zgs, if_pos rfl, p1, zbs]
  · rw [hv] at I
    obtain ⟨st', S', i1, i2, i3⟩ := I
    refine ⟨0, zsI S' 7 (zI S 7), ?_, ⟨i3.1, ⟨e7, i3.2.1⟩, i3.2.2.1, i3.2.2.2.1⟩, i3.2.2.2.2.1, i3.2.2.2.2.2.1, i3.2.2.2.2.2.2⟩
    rw [i1, Fq, if_neg (nn i3.2.2.1.1)]
theorem figx_hit {K J : Nat} {f : Int32} {w : yW} {r : yR} (h : gI w.2.2.2 f = some (some r)) : figx F A En K (J + 1) f w = (r, w) := by
  rw [figx, h]
  rfl
theorem figx_new {K J f : Nat} {n : Int32} {w w1 : yW} {r : yR} (hf : f < 12) (h : gI w.2.2.2 (Int32.ofNat f) = some none) (hn : ((gI F.2.1 (Int32.ofNat f)).map Prod.fst).getD 0 = n) (hv : evx F A En (figx F A En K J) K (Int32.ofNat f) n (w.1, w.2.1 + 1, w.2.2.1, w.2.2.2) = (r, w1)) : figx F A En K (J + 1) (Int32.ofNat f) w = (r, (w1.1, w1.2.1, w1.2.2.1, w1.2.2.2.set f (some r))) := by
  have e : (Int32.ofNat f).toInt.toNat = f := by rw [yi_nat (by omega), Int.toNat_natCast]
  rw [figx, h, hn]
  show (match evx F A En (figx F A En K J) K (Int32.ofNat f) n (w.1, w.2.1 + 1, w.2.2.1, w.2.2.2) with | (r, w1) => (r, (w1.1, w1.2.1, w1.2.2.1, w1.2.2.2.set (Int32.ofNat f).toInt.toNat (some r)))) = _
  rw [hv, e]
theorem worth_new {f : Nat} {s : Int32} {in' : Nat} {S : zS} (hin : in' < 12) (hf : f < 12) (h12 : (zA S 12)[f]? = some 0) (hs : (ga 9)[f]? = some s) : cE_worthOf gi ga As ne am rc N (Int32.ofNat f) (Int32.ofNat in') S = zb (rc s (Int32.ofNat in' + 1) (zsI (zsI S 3 (Int32.ofNat f)) 4 ((zI S 4) + 1))) fun x6 S7 => (if zok (zB S7 13) (Int32.ofNat f) then (if zok (zA S7 12) (Int32.ofNat f) then (if zok (zA S7 14) (Int32.ofNat f) then (if zok (zA S7 15) (Int32.ofNat f) then (zg (gI (zs (zB S7 13) (Int32.ofNat f) x6) (Int32.ofNat f)) fun x9 => some (x9, (zsA (zsA (zsA (zsI (zsI (zsB S7 13 (zs (zB S7 13) (Int32.ofNat f) x6)) 5 ((zI S7 5) + 1)) 3 (zI S 3)) 12 (zs (zA S7 12) (Int32.ofNat f) 1)) 14 (zs (zA S7 14) (Int32.ofNat f) (zI S7 1))) 15 (zs (zA S7 15) (Int32.ofNat f) (zI S7 2))))) else none) else none) else none) else none) := by
  rw [cE_worthOf, gI_nat (by omega), h12, zgs, if_neg (nn rfl), if_pos (by rw [yi_nat (by omega)]; omega), gI_nat (by omega), hs, zgs]
theorem worth_hit {f : Nat} {in' : Nat} {S : zS} {k a : Int32} {v : Int64} (hf : f < 12) (h12 : (zA S 12)[f]? = some 1) (h14 : (zA S 14)[f]? = some k) (h15 : (zA S 15)[f]? = some a) (h13 : (zB S 13)[f]? = some v) : cE_worthOf gi ga As ne am rc N (Int32.ofNat f) (Int32.ofNat in') S = some (v, zsI (zsI S 1 k) 2 a) := by
  rw [cE_worthOf, gI_nat (by omega), h12, zgs, if_pos (by decide), cE_worthOf_8, gI_nat (by omega), h14, zgs, gI_nat (by omega), h15, zgs, gI_nat (by omega), h13, zgs]
theorem i32_swap {a b : Int32} : a + 1 + b = a + (b + 1) := by
  rw [Int32.add_assoc, Int32.add_comm 1 b]
/-- figures -/
theorem C_figs {K : Nat} (hKe : K = 300) (hF : fC F gi ga) (hK : F.1.length ≤ 20 ∧ ∀ (i : Nat) P, F.1[i]? = some P → 0 ≤ P.1.toInt ∧ P.1.toInt ≤ 11) (hA : aA En F A As) (hE : eC En ne am) (hN : 1000 < N) {fe : Nat → Nat} (hfe : ∀ (i : Nat) (n q : Int32), F.2.1[i]? = some (n, q) → yExp F fe i q n (fe i)) (hfl : F.2.1.length ≤ 12) : ∀ (J m in' s0 j : Nat), j ≤ J → J ≤ m → j ≤ F.2.1.length → (∀ f, f < j → fe f < s0) → in' + j ≤ 12 → FgC R gi ga As ne am (cE_fix gi ga As ne am N m) N (Int32.ofNat in') s0 j (figx F A En K J)
  | 0, _, _, _, j, hj, _, _, _, _ => fun f hf => by omega
  | J + 1, 0, _, _, _, _, hm, _, _, _ => by omega
  | J + 1, m + 1, in', s0, j, hj, hm, hjl, hs0, hin => by
    intro f hf S w cur d stk trs hW h1 hb ht
    have hf12 : f < 12 := by omega
    have hmm := hW.2.2.2
    obtain ⟨⟨l12, l13, l14, l15⟩, ml, mm⟩ := hmm
    show RvC R (figx F A En K (J + 1) (Int32.ofNat f) w) cur d stk trs (cE_worthOf gi ga As ne am (cE_fix gi ga As ne am N (m + 1)) N (Int32.ofNat f) (Int32.ofNat in') S)
    obtain ⟨mv, hmv⟩ : ∃ mv, w.2.2.2[f]? = some mv := ⟨_, List.getElem?_eq_getElem (by omega)⟩
    have hmem : gI w.2.2.2 (Int32.ofNat f) = some mv := by rw [gI_nat (by omega)]; exact hmv
    have mf := mm f _ hmv
    rcases mv with _ | r
    · -- worked now
      have mf : (zA S 12)[f]? = some 0 := mf
      obtain ⟨nq, hnq⟩ : ∃ q, F.2.1[f]? = some q := ⟨_, List.getElem?_eq_getElem (by omega)⟩
      obtain ⟨n, q⟩ := nq
      obtain ⟨s, rfl, hse, hrep, hend, hbef⟩ := hfe f n q hnq
      have hfs := hs0 f hf
      rw [← hKe] at hrep
      have heL := (List.getElem?_eq_some_iff.mp hend).1
      have h560 := hF.1.2
      rw [worth_new (by omega) hf12 mf (hF.2.2.2 f n _ hnq)]
      have hnode : ((gI F.2.1 (Int32.ofNat f)).map Prod.fst).getD 0 = n := by rw [gI_nat (by omega), hnq]; rfl
      have hW1 : Wk R (zsI (zsI S 3 (Int32.ofNat f)) 4 (zI S 4 + 1)) (w.1, w.2.1 + 1, w.2.2.1, w.2.2.2) (Int32.ofNat f) (d + 1) stk trs := by
        obtain ⟨⟨a1, a2, a3, a4, a5⟩, c2, c3, c4⟩ := hW
        refine ⟨⟨a1, ?_, ?_, a4, rfl, a5.2⟩, c2, c3, c4⟩
        · show zI S 4 + 1 = _; rw [a2]
        · show zI S 5 + Int32.ofNat (d + 1) = w.2.1 + 1
          rw [← yi_add1, ← Int32.add_assoc, a3]
      have RR := C_run (cur := Int32.ofNat f) (d := d + 1) hF hK hA hE hN (C_figs hKe hF hK hA hE hN hfe hfl J m (in' + 1) s f (by omega) (by omega) (by omega) hbef (by omega)) (by omega) hrep hend hW1 h1 (by omega) (by omega)
      have ework : cE_fix gi ga As ne am N (m + 1) (Int32.ofNat s) (Int32.ofNat in' + 1) (zsI (zsI S 3 (Int32.ofNat f)) 4 (zI S 4 + 1)) = cE_work_15 gi ga As ne am (cE_fix gi ga As ne am N m) N N (Int32.ofNat (in' + 1)) (zI (zsI (zsI S 3 (Int32.ofNat f)) 4 (zI S 4 + 1)) 7) (zI (zsI (zsI S 3 (Int32.ofNat f)) 4 (zI S 4 + 1)) 8) (Int32.ofNat s) 0 (zsI (zsI S 3 (Int32.ofNat f)) 4 (zI S 4 + 1)) := by
        show cE_work gi ga As ne am (cE_fix gi ga As ne am N m) N (Int32.ofNat s) (Int32.ofNat in' + 1) _ = _
        rw [cE_work, yi_add1, if_pos (by rw [Ne, xi32_eq, yi_nat (by omega), show (0 : Int32).toInt = 0 from rfl]; omega)]
      rw [← ework] at RR
      -- the end of a figure
      have fin : ∀ (r : yR) (w1 : yW) (x6 : Int64) (S7 : zS), Wk R S7 w1 (Int32.ofNat f) (d + 1) stk trs → (match r with | .inl v => x6 = v ∧ zI S7 1 = 0 | .inr x => zI S7 1 = x.1 ∧ x.1 ≠ 0 ∧ zI S7 2 = x.2) → ∃ S', (if zok (zB S7 13) (Int32.ofNat f) then (if zok (zA S7 12) (Int32.ofNat f) then (if zok (zA S7 14) (Int32.ofNat f) then (if zok (zA S7 15) (Int32.ofNat f) then (zg (gI (zs (zB S7 13) (Int32.ofNat f) x6) (Int32.ofNat f)) fun x9 => some (x9, (zsA (zsA (zsA (zsI (zsI (zsB S7 13 (zs (zB S7 13) (Int32.ofNat f) x6)) 5 ((zI S7 5) + 1)) 3 (zI S 3)) 12 (zs (zA S7 12) (Int32.ofNat f) 1)) 14 (zs (zA S7 14) (Int32.ofNat f) (zI S7 1))) 15 (zs (zA S7 15) (Int32.ofNat f) (zI S7 2))))) else none) else none) else none) else none) = some (x6, S') ∧ Wk R S' (w1.1, w1.2.1, w1.2.2.1, w1.2.2.2.set f (some r)) cur d stk trs ∧ zI S' 1 = zI S7 1 ∧ zI S' 2 = zI S7 2 := by
        intro r w1 x6 S7 k1 k2
        obtain ⟨⟨a1, a2, a3, a4, a5⟩, c2, c3, ⟨m12, m13, m14, m15⟩, ml1, mm1⟩ := k1
        rw [if_pos (zok_nat (by omega) (by omega)), if_pos (zok_nat (by omega) (by omega)), if_pos (zok_nat (by omega) (by omega)), if_pos (zok_nat (by omega) (by omega)), zs_nat (by omega), zs_nat (by omega), zs_nat (by omega), zs_nat (by omega), gI_nat (by omega), List.getElem?_set_self (by omega), zgs]
        refine ⟨_, rfl, ⟨⟨a1, a2, ?_, a4, hW.1.2.2.2.2.1, a5.2⟩, c2, c3, ⟨?_, ?_, ?_, ?_⟩, ?_, ?_⟩, rfl, rfl⟩
        · show zI S7 5 + 1 + Int32.ofNat d = w1.2.1
          rw [i32_swap, yi_add1]; exact a3
        · show ((zA S7 12).set f 1).length = 12; rw [List.length_set]; exact m12
        · show ((zB S7 13).set f x6).length = 12; rw [List.length_set]; exact m13
        · show ((zA S7 14).set f (zI S7 1)).length = 12; rw [List.length_set]; exact m14
        · show ((zA S7 15).set f (zI S7 2)).length = 12; rw [List.length_set]; exact m15
        · show (w1.2.2.2.set f (some r)).length = 12; rw [List.length_set]; exact ml1
        · intro i y hy
          have hy : (w1.2.2.2.set f (some r))[i]? = some y := hy
          by_cases hi : f = i
          · subst hi
            rw [List.getElem?_set_self (by omega)] at hy
            cases hy
            rcases r with v | x
            · refine ⟨?_, ?_, ?_⟩
              · show ((zA S7 12).set f 1)[f]? = _; rw [List.getElem?_set_self (by omega)]
              · show ((zB S7 13).set f x6)[f]? = _; rw [List.getElem?_set_self (by omega), k2.1]
              · show ((zA S7 14).set f (zI S7 1))[f]? = _; rw [List.getElem?_set_self (by omega), k2.2]
            · refine ⟨?_, ?_, ?_, k2.2.1⟩
              · show ((zA S7 12).set f 1)[f]? = _; rw [List.getElem?_set_self (by omega)]
              · show ((zA S7 14).set f (zI S7 1))[f]? = _; rw [List.getElem?_set_self (by omega), k2.1]
              · show ((zA S7 15).set f (zI S7 2))[f]? = _; rw [List.getElem?_set_self (by omega), k2.2.2]
          · rw [List.getElem?_set_ne hi] at hy
            have o := mm1 i y hy
            have t12 : ((zA S7 12).set f 1)[i]? = (zA S7 12)[i]? := List.getElem?_set_ne hi
            have t13 : ((zB S7 13).set f x6)[i]? = (zB S7 13)[i]? := List.getElem?_set_ne hi
            have t14 : ((zA S7 14).set f (zI S7 1))[i]? = (zA S7 14)[i]? := List.getElem?_set_ne hi
            have t15 : ((zA S7 15).set f (zI S7 2))[i]? = (zA S7 15)[i]? := List.getElem?_set_ne hi
            rcases y with _ | v | x
            · exact t12.trans o
            · exact ⟨t12.trans o.1, t13.trans o.2.1, t14.trans o.2.2⟩
            · exact ⟨t12.trans o.1, t14.trans o.2.1, t15.trans o.2.2.1, o.2.2.2⟩
      rcases hv : evx F A En (figx F A En K J) K (Int32.ofNat f) n (w.1, w.2.1 + 1, w.2.2.1, w.2.2.2) with ⟨v | x, w1⟩
      · rw [hv] at RR
        obtain ⟨S7, r1, r2, r3⟩ := RR
        obtain ⟨S', k1, k2, k3, k4⟩ := fin (.inl v) w1 v S7 r2 ⟨rfl, r3⟩
        rw [r1, zbs, figx_new hf12 hmem hnode hv]
        exact ⟨S', k1, k2, by rw [k3]; exact r3⟩
      · rw [hv] at RR
        obtain ⟨v, S7, r1, r2, r3, r4, r5⟩ := RR
        obtain ⟨S', k1, k2, k3, k4⟩ := fin (.inr x) w1 v S7 r2 ⟨r3, r4, r5⟩
        rw [r1, zbs, figx_new hf12 hmem hnode hv]
        exact ⟨v, S', k1, k2, by rw [k3]; exact r3, r4, by rw [k4]; exact r5⟩
    · rw [figx_hit hmem]
      rcases r with v | x
      · obtain ⟨o1, o2, o3⟩ := mf
        rw [worth_hit hf12 o1 o3 (List.getElem?_eq_getElem (by omega)) o2]
        exact ⟨_, rfl, hW, rfl⟩
      · obtain ⟨o1, o2, o3, o4⟩ := mf
        rw [worth_hit hf12 o1 o2 o3 (List.getElem?_eq_getElem (by omega))]
        exact ⟨_, _, rfl, hW, rfl, o4, rfl⟩
/-- an exp that stands alone -/
theorem C_work {K : Nat} (hKe : K = 300) (hF : fC F gi ga) (hok : yFok F) (hA : aA En F A As) (hE : eC En ne am) (hN : 1000 < N) {m e : Nat} {fe : Nat → Nat} (hfe : ∀ (i : Nat) (n q : Int32), F.2.1[i]? = some (n, q) → yExp F fe i q n (fe i)) {at' n : Int32} (hj : j ≤ F.2.1.length) (hx : yExp F fe j at' n e) (hm : 13 ≤ m) {S : zS} {w : yW} (hW : Wk R S w cur 0 [] []) : RvC R (evx F A En (figx F A En K 12) K cur n w) cur 0 [] [] (cE_fix gi ga As ne am N m at' 0 S) := by
  obtain ⟨s, rfl, hse, hrep, hend, hbef⟩ := hx
  obtain ⟨m, rfl⟩ : ∃ q, m = q + 1 := ⟨m - 1, by omega⟩
  obtain ⟨_, _, _, _, _, hl20, hl12, _, _, hP⟩ := hok
  have heL := (List.getElem?_eq_some_iff.mp hend).1
  have h560 := hF.1.2
  rw [← hKe] at hrep
  have hW1 : Wk R (zsI S 1 0) w cur 0 [] [] := hW
  have RR := C_run (cur := cur) (d := 0) hF ⟨hl20, fun i P hp => (hP i P hp).1⟩ hA hE hN (C_figs hKe hF ⟨hl20, fun i P hp => (hP i P hp).1⟩ hA hE hN hfe hl12 12 m 0 s j (by omega) (by omega) hj hbef (by omega)) (by omega) hrep hend hW1 rfl (by simp; omega) (by simp; omega)
  have ework : cE_fix gi ga As ne am N (m + 1) (Int32.ofNat s) 0 S = cE_work_15 gi ga As ne am (cE_fix gi ga As ne am N m) N N (Int32.ofNat 0) (zI (zsI S 1 0) 7) (zI (zsI S 1 0) 8) (Int32.ofNat s) 0 (zsI S 1 0) := by
    show cE_work gi ga As ne am (cE_fix gi ga As ne am N m) N (Int32.ofNat s) 0 S = _
    rw [cE_work, if_neg (nn rfl)]
    rfl
  rw [ework]
  exact RR
end CFIG
