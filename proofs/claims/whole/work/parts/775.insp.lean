/-! FINDINGS: the class -/
/-- the class, between exps -/
def W0 (S : zS) (w : yW) : Prop := ∃ R, Wk R S w (-9) 0 [] []
theorem frC.rf {S : zS} : frC S S := ⟨⟨rfl, rfl⟩, ⟨rfl, rfl, rfl, rfl, rfl, rfl⟩, rfl, rfl, rfl, rfl, rfl, rfl⟩
theorem W0.wk {S : zS} {w : yW} (h : W0 S w) : Wk S S w (-9) 0 [] [] := by
  obtain ⟨R, ⟨a1, a2, a3, a4, a5, _⟩, b⟩ := h
  exact ⟨⟨a1, a2, a3, a4, a5, frC.rf⟩, b⟩
theorem W0.same {S S' : zS} {w : yW} (e : zI S' 0 = zI S 0 ∧ zI S' 3 = zI S 3 ∧ zI S' 4 = zI S 4 ∧ zI S' 5 = zI S 5 ∧ zI S' 6 = zI S 6) (e2 : zI S' 7 = zI S 7 ∧ zI S' 8 = zI S 8) (e3 : zB S' 9 = zB S 9 ∧ zA S' 10 = zA S 10 ∧ zA S' 11 = zA S 11) (e4 : zA S' 12 = zA S 12 ∧ zB S' 13 = zB S 13 ∧ zA S' 14 = zA S 14 ∧ zA S' 15 = zA S 15) (h : W0 S w) : W0 S' w := by
  obtain ⟨R, ⟨a1, a2, a3, a4, a5, _⟩, ⟨b1, b2, b3⟩, ⟨c1, ⟨c2, c3⟩, c4⟩, ⟨d1, d2, d3, d4⟩, ml, mm⟩ := h
  obtain ⟨q0, q3, q4, q5, q6⟩ := e
  obtain ⟨q7, q8⟩ := e2
  obtain ⟨q9, q10, q11⟩ := e3
  obtain ⟨q12, q13, q14, q15⟩ := e4
  refine ⟨S', ⟨q0.trans a1, q4.trans a2, by rw [q5]; exact a3, q6.trans a4, q3.trans a5, frC.rf⟩, ⟨q7.trans b1, by rw [q9]; exact b2, by rw [q9]; exact b3⟩, ⟨q8.trans c1, ⟨by rw [q10]; exact c2, by rw [q11]; exact c3⟩, by rw [q10, q11]; exact c4⟩, ⟨by rw [q12]; exact d1, by rw [q13]; exact d2, by rw [q14]; exact d3, by rw [q15]; exact d4⟩, ml, ?_⟩
  intro i x hx
  have o := mm i x hx
  rcases x with _ | v | y
  · show (zA S' 12)[i]? = some 0
    rw [q12]; exact o
  · refine ⟨?_, ?_, ?_⟩
    · rw [q12]; exact o.1
    · rw [q13]; exact o.2.1
    · rw [q14]; exact o.2.2
  · refine ⟨?_, ?_, ?_, o.2.2.2⟩
    · rw [q12]; exact o.1
    · rw [q14]; exact o.2.1
    · rw [q15]; exact o.2.2.1
theorem W0.fl {S : zS} {w : yW} {c : Int32} (h : W0 S w) : W0 (flC S c) (w.1 + 1, w.2) := ⟨_, (h.wk.fl).1⟩
section INSP118
variable {gi : Nat → Int32} {ga : Nat → List Int32} {As : List (Option zO)} {ne : Int32} {am : List Int64} {N : Nat} {Q S : zS} {En : List (Int64 × Int32)} {F : yF} {A : List (Option yO)} {w : yW} {sh : List Bool} {fd : List yFd}
def insC118 (Q S : zS) (sh : List Bool) (fd : List yFd) : Prop := zI S 16 = Int32.ofNat fd.length ∧ ((zA S 17).length = 32 ∧ (zA S 18).length = 32 ∧ (zA S 19).length = 32 ∧ (zA S 20).length = 32 ∧ (zA S 21).length = 32 ∧ (zA S 22).length = 20) ∧ (∀ (i : Nat) f, fd[i]? = some f → (zA S 17)[i]? = some f.1 ∧ (zA S 18)[i]? = some f.2.1 ∧ (zA S 19)[i]? = some f.2.2.1 ∧ (zA S 20)[i]? = some f.2.2.2.1 ∧ (zA S 21)[i]? = some f.2.2.2.2) ∧ (∀ (i : Nat) b, sh[i]? = some b → (zA S 22)[i]? = some (if b then 1 else 0)) ∧ (zI S 23 = zI Q 23 ∧ zA S 24 = zA Q 24 ∧ zA S 25 = zA Q 25 ∧ zA S 26 = zA Q 26 ∧ zA S 27 = zA Q 27 ∧ zA S 28 = zA Q 28 ∧ zA S 29 = zA Q 29)
theorem insC118.fr {R : zS} (e : frC R S) (h : insC118 Q R sh fd) : insC118 Q S sh fd := by
  obtain ⟨⟨e1, e2⟩, ⟨a1, a2, a3, a4, a5, a6⟩, b1, b2, b3, b4, b5, b6⟩ := e
  unfold insC118 at h ⊢
  rw [e1, a1, a2, a3, a4, a5, a6, e2, b1, b2, b3, b4, b5, b6]
  exact h
theorem add_118 {v1 v2 v3 v4 v5 : Int32} (hW : W0 S w) (h : insC118 Q S sh fd) (hl : fd.length < 32) : ∃ S', cE_add gi ga As ne am N v1 v2 v3 v4 v5 S = some ((), S') ∧ W0 S' w ∧ insC118 Q S' sh (fd ++ [(v1, v2, v3, v4, v5)]) := by
  obtain ⟨h0, ⟨l1, l2, l3, l4, l5, l6⟩, h2, h3⟩ := h
  refine ⟨zsI (zsA (zsA (zsA (zsA (zsA S 17 ((zA S 17).set fd.length v1)) 18 ((zA S 18).set fd.length v2)) 19 ((zA S 19).set fd.length v3)) 20 ((zA S 20).set fd.length v4)) 21 ((zA S 21).set fd.length v5)) 16 (Int32.ofNat (fd.length + 1)), ?_, W0.same (S := S) ⟨rfl, rfl, rfl, rfl, rfl⟩ ⟨rfl, rfl⟩ ⟨rfl, rfl, rfl⟩ ⟨rfl, rfl, rfl, rfl⟩ hW, ⟨?_, ⟨?_, ?_, ?_, ?_, ?_, l6⟩, ?_, h3⟩⟩
  · rw [cE_add, if_neg (by rw [h0, l1, yi_nat (by omega), yi_nat (by omega)]; omega), h0, if_pos (zok_nat (by omega) (by omega)), if_pos (zok_nat (by omega) (by omega)), if_pos (zok_nat (by omega) (by omega)), if_pos (zok_nat (by omega) (by omega)), if_pos (zok_nat (by omega) (by omega)), zs_nat (by omega), zs_nat (by omega), zs_nat (by omega), zs_nat (by omega), zs_nat (by omega), yi_add1]
  · rw [List.length_append]; rfl
  · show ((zA S 17).set fd.length v1).length = 32; rw [List.length_set]; exact l1
  · show ((zA S 18).set fd.length v2).length = 32; rw [List.length_set]; exact l2
  · show ((zA S 19).set fd.length v3).length = 32; rw [List.length_set]; exact l3
  · show ((zA S 20).set fd.length v4).length = 32; rw [List.length_set]; exact l4
  · show ((zA S 21).set fd.length v5).length = 32; rw [List.length_set]; exact l5
  · intro i f hf
    show ((zA S 17).set fd.length v1)[i]? = _ ∧ ((zA S 18).set fd.length v2)[i]? = _ ∧ ((zA S 19).set fd.length v3)[i]? = _ ∧ ((zA S 20).set fd.length v4)[i]? = _ ∧ ((zA S 21).set fd.length v5)[i]? = _
    by_cases hi : i < fd.length
    · rw [List.getElem?_append_left hi] at hf
      rw [List.getElem?_set_ne (by omega), List.getElem?_set_ne (by omega), List.getElem?_set_ne (by omega), List.getElem?_set_ne (by omega), List.getElem?_set_ne (by omega)]
      exact h2 i f hf
    · have hil := (List.getElem?_eq_some_iff.mp hf).1
      rw [List.length_append, List.length_singleton] at hil
      obtain rfl : i = fd.length := by omega
      rw [List.getElem?_append_right (Nat.le_refl _), Nat.sub_self] at hf
      cases hf
      rw [List.getElem?_set_self (by omega), List.getElem?_set_self (by omega), List.getElem?_set_self (by omega), List.getElem?_set_self (by omega), List.getElem?_set_self (by omega)]
      exact ⟨rfl, rfl, rfl, rfl, rfl⟩
theorem addP_118 {c : Int32} {p : Nat} (hW : W0 S w) (h : insC118 Q S sh fd) (hl : fd.length < 32) : ∃ S', cE_addOfPart gi ga As ne am N c (Int32.ofNat p) S = some ((), S') ∧ W0 S' w ∧ insC118 Q S' sh (fdAdd c p fd) := by
  unfold fdAdd
  rw [cE_addOfPart]
  by_cases h0 : c = 0
  · rw [if_pos h0, if_pos h0]
    exact ⟨S, rfl, hW, h⟩
  · rw [if_neg h0, if_neg h0]
    obtain ⟨S', p1, p2, p3⟩ := add_118 (gi := gi) (ga := ga) (As := As) (ne := ne) (am := am) (N := N) (v1 := c) (v2 := Int32.ofNat p) (v3 := -9) (v4 := 0) (v5 := -9) hW h hl
    exact ⟨S', by rw [p1, zbs], p2, p3⟩
/-- what is shown of one more part -/
theorem sh_118 {p : Nat} {b : Bool} (hW : W0 S w) (h : insC118 Q S sh fd) (hp : sh.length = p) (hp20 : p < 20) : zok (zA S 22) (Int32.ofNat p) ∧ W0 (zsA S 22 (zs (zA S 22) (Int32.ofNat p) (if b then 1 else 0))) w ∧ insC118 Q (zsA S 22 (zs (zA S 22) (Int32.ofNat p) (if b then 1 else 0))) (sh ++ [b]) fd ∧ gI (zs (zA S 22) (Int32.ofNat p) (if b then 1 else 0)) (Int32.ofNat p) = some (if b then 1 else 0) := by
  obtain ⟨h0, ⟨l1, l2, l3, l4, l5, l6⟩, h2, h3⟩ := h
  rw [zs_nat (by omega)]
  refine ⟨zok_nat (by omega) (by omega), W0.same (S := S) ⟨rfl, rfl, rfl, rfl, rfl⟩ ⟨rfl, rfl⟩ ⟨rfl, rfl, rfl⟩ ⟨rfl, rfl, rfl, rfl⟩ hW, ⟨h0, ⟨l1, l2, l3, l4, l5, ?_⟩, h2, ?_, h3.2⟩, ?_⟩
  · show ((zA S 22).set p _).length = 20; rw [List.length_set]; exact l6
  · intro i x hx
    show ((zA S 22).set p _)[i]? = _
    by_cases hi : i < p
    · rw [List.getElem?_append_left (by omega)] at hx
      rw [List.getElem?_set_ne (by omega)]
      exact h3.1 i x hx
    · have hil := (List.getElem?_eq_some_iff.mp hx).1
      rw [List.length_append, List.length_singleton] at hil
      obtain rfl : i = p := by omega
      rw [List.getElem?_append_right (by omega), hp, Nat.sub_self] at hx
      cases hx
      rw [List.getElem?_set_self (by omega)]
  · rw [gI_nat (by omega), List.getElem?_set_self (by omega)]
theorem part_118 {K : Nat} (hKe : K = 300) (hF : fC2 F gi ga) (hok : yFok F) (hA : aA En F A As) (hE : eC En ne am) (hN : 1000 < N) {p n : Nat} {P : yPt} (hP : F.1[p]? = some P) (hW : W0 S w) (h : insC118 Q S sh fd) (hp : sh.length = p) (hfd : fd.length < 32) : ∃ S', cE_inspect_118_10 gi ga As ne am N (n + 1) (Int32.ofNat p) S = cE_inspect_118_10 gi ga As ne am N n (Int32.ofNat (p + 1)) S' ∧ W0 S' (ipPart F A En K p P (w, sh, fd)).1 ∧ insC118 Q S' (ipPart F A En K p P (w, sh, fd)).2.1 (ipPart F A En K p P (w, sh, fd)).2.2 := by
  have hpl := (List.getElem?_eq_some_iff.mp hP).1
  have hok' := hok
  obtain ⟨fe, _, _, hfe, _, hl20, hl12, _, _, hPs⟩ := hok'
  obtain ⟨k1, k2, k3, k4, k5, k6, k7, k8, k9, k10, k11, k12, kc⟩ := hPs p P hP
  obtain ⟨g2, g3, _, g7⟩ := hF.2.2.1 p P hP
  have g1 := hF.1.2.2.1 p P hP
  have x1 : gI (ga 1) (Int32.ofNat p) = some P.1 := by rw [gI_nat (by omega)]; exact g1
  have x2 : gI (ga 2) (Int32.ofNat p) = some P.2.1 := by rw [gI_nat (by omega)]; exact g2
  have x3 : gI (ga 3) (Int32.ofNat p) = some P.2.2.1 := by rw [gI_nat (by omega)]; exact g3
  have x7 : gI (ga 7) (Int32.ofNat p) = some P.2.2.2.2.2.2.2 := by rw [gI_nat (by omega)]; exact g7
  obtain ⟨z, hz1, hz2⟩ := hA p P hP
  have hW1 : W0 (zsI S 1 0) w := W0.same (S := S) ⟨rfl, rfl, rfl, rfl, rfl⟩ ⟨rfl, rfl⟩ ⟨rfl, rfl, rfl⟩ ⟨rfl, rfl, rfl, rfl⟩ hW
  have h1 : insC118 Q (zsI S 1 0) sh fd := h
  -- not shown
  have no : ∀ (S2 : zS) (w2 : yW), W0 S2 w2 → insC118 Q S2 sh fd → zI S2 1 = 0 → ∃ S', cE_inspect_118_71 gi ga As ne am N (cE_inspect_118_10 gi ga As ne am N n) (Int32.ofNat p) (Int32.ofNat p) 0 S2 = cE_inspect_118_10 gi ga As ne am N n (Int32.ofNat (p + 1)) S' ∧ W0 S' w2 ∧ insC118 Q S' (sh ++ [false]) fd := by
    intro S2 w2 a1 a2 a3
    obtain ⟨s1, s2, s3, s4⟩ := sh_118 (b := false) a1 a2 hp (by omega)
    refine ⟨_, ?_, s2, s3⟩
    have s1' : zok (zA S2 22) (Int32.ofNat p) ∧ ((0 : Int32) = 0 ∨ (0 : Int32) = 1) := ⟨s1, Or.inl rfl⟩
    have s4' : gI (zs (zA S2 22) (Int32.ofNat p) 0) (Int32.ofNat p) = some 0 := s4
    rw [cE_inspect_118_71, if_pos s1', if_pos a3, s4', zgs, if_pos rfl, yi_add1]
    rfl
  have sp : ∀ st : yI, ipPart F A En K p P st = if ¬ isOp P st.2.1 then (st.1, st.2.1 ++ [false], st.2.2) else match cdR F A En K P st.1 with
      | (.inr x, w') => (w', st.2.1 ++ [false], st.2.2 ++ [(x.1, Int32.ofNat p, -9, 0, -9)])
      | (.inl v, w') => if v = 0 then (w', st.2.1 ++ [false], st.2.2) else if P.1 = 11 then (w', st.2.1 ++ [true], st.2.2) else ((fdAns A p P w').2, st.2.1 ++ [true], fdAdd (fdAns A p P w').1 p st.2.2) := fun st => rfl
  have e35 : cE_inspect_118_10 gi ga As ne am N (n + 1) (Int32.ofNat p) S = cE_inspect_118_35 gi ga As ne am N (cE_inspect_118_10 gi ga As ne am N n) (Int32.ofNat p) (if isOp P sh then 1 else 0) (zsI S 1 0) := by
    rw [cE_inspect_118_10, if_neg (by rw [hF.2.1.1, yi_nat (by omega), yi_nat (by omega)]; omega), x2, zgs]
    by_cases hg : P.2.1 = -9
    · rw [if_pos hg, if_pos (show isOp P sh from Or.inl hg)]
    · rw [if_neg hg, zgs]
      obtain ⟨g, g1', g2'⟩ := k2.resolve_left hg
      have eg : P.2.1.toInt.toNat = g := by rw [g2', yi_nat (by omega), Int.toNat_natCast]
      obtain ⟨b, hb⟩ : ∃ b, sh[g]? = some b := ⟨_, List.getElem?_eq_getElem (by omega)⟩
      have hx := h.2.2.2.1 g b hb
      have hx' : gI (zA S 22) P.2.1 = some (if b then 1 else 0) := by rw [g2', gI_nat (by omega)]; exact hx
      rw [hx', zgs]
      cases b with
      | false =>
        rw [if_pos (show (if false = true then (1 : Int32) else 0) = 0 from rfl), if_neg (show ¬ isOp P sh from fun hh => hh.elim hg fun q => by rw [eg, hb] at q; cases q)]
      | true =>
        rw [if_neg (show ¬ (if true = true then (1 : Int32) else 0) = 0 by decide), if_pos (show isOp P sh from Or.inr (by rw [eg]; exact hb))]
  rw [e35, sp]
  by_cases hop : isOp P sh
  · rw [if_pos hop, if_neg (nn hop), cE_inspect_118_35, if_neg (show ¬ (1 : Int32) = 0 by decide), x7, zgs]
    -- behind the condition: its value
    have yes : ∀ (S2 : zS) (w2 : yW) (v : Int64), W0 S2 w2 → insC118 Q S2 sh fd → zI S2 1 = 0 → ∃ S', cE_inspect_118_54 gi ga As ne am N (cE_inspect_118_10 gi ga As ne am N n) (Int32.ofNat p) 1 v S2 = cE_inspect_118_10 gi ga As ne am N n (Int32.ofNat (p + 1)) S' ∧ W0 S' (if v = 0 then (w2, sh ++ [false], fd) else if P.1 = 11 then (w2, sh ++ [true], fd) else ((fdAns A p P w2).2, sh ++ [true], fdAdd (fdAns A p P w2).1 p fd) : yI).1 ∧ insC118 Q S' (if v = 0 then (w2, sh ++ [false], fd) else if P.1 = 11 then (w2, sh ++ [true], fd) else ((fdAns A p P w2).2, sh ++ [true], fdAdd (fdAns A p P w2).1 p fd) : yI).2.1 (if v = 0 then (w2, sh ++ [false], fd) else if P.1 = 11 then (w2, sh ++ [true], fd) else ((fdAns A p P w2).2, sh ++ [true], fdAdd (fdAns A p P w2).1 p fd) : yI).2.2 := by
      intro S2 w2 v a1 a2 a3
      rw [cE_inspect_118_54, if_neg (show ¬ (1 : Int32) = 0 by decide), if_neg (nn a3)]
      by_cases hv : v = 0
      · rw [if_pos hv, if_pos hv]
        exact no S2 w2 a1 a2 a3
      · rw [if_neg hv, if_neg hv]
        obtain ⟨s1, s2, s3, s4⟩ := sh_118 (b := true) a1 a2 hp (by omega)
        have s1' : zok (zA S2 22) (Int32.ofNat p) ∧ ((1 : Int32) = 0 ∨ (1 : Int32) = 1) := ⟨s1, Or.inr rfl⟩
        have s4' : gI (zs (zA S2 22) (Int32.ofNat p) 1) (Int32.ofNat p) = some 1 := s4
        rw [cE_inspect_118_71, if_pos s1', if_pos a3, s4', zgs, if_neg (show ¬ (1 : Int32) = 0 by decide), x1, zgs]
        by_cases k11' : P.1 = 11
        · rw [if_pos k11', if_pos k11', yi_add1]
          exact ⟨_, rfl, s2, s3⟩
        · rw [if_neg k11', if_neg k11', hz1, zgs]
          have hk10 : P.1.toInt ≤ 10 := by
            have : P.1.toInt ≠ 11 := fun hh => k11' (by rw [xi32_eq, hh]; rfl)
            omega
          rcases z with _ | o
          · rcases hy : anR A (Int32.ofNat p) with _ | y
            · have ef : fdAns A p P w2 = (if P.2.2.1 = 1 then 7 else 0, w2) := by unfold fdAns; rw [hy]
              rw [ef]
              show ∃ S', (zb (cE_faultOf gi ga As ne am N (Int32.ofNat p) none _) _) = _ ∧ _
              have e : cE_faultOf gi ga As ne am N (Int32.ofNat p) none (zsA S2 22 (zs (zA S2 22) (Int32.ofNat p) 1)) = some (if P.2.2.1 = 1 then 7 else 0, zsA S2 22 (zs (zA S2 22) (Int32.ofNat p) 1)) := by
                show (zg (gI (ga 3) (Int32.ofNat p)) _) = _
                rw [x3, zgs]
                by_cases hm : P.2.2.1 = 1
                · rw [if_neg (nn hm), if_pos hm]
                · rw [if_pos hm, if_neg hm]
              rw [e, zbs]
              obtain ⟨S3, p1, p2, p3⟩ := addP_118 (gi := gi) (ga := ga) (As := As) (ne := ne) (am := am) (N := N) (c := if P.2.2.1 = 1 then 7 else 0) (p := p) s2 s3 hfd
              have p1' : cE_addOfPart gi ga As ne am N (if P.2.2.1 = 1 then 7 else 0) (Int32.ofNat p) (zsA S2 22 (zs (zA S2 22) (Int32.ofNat p) 1)) = some ((), S3) := p1
              rw [p1', zbs, yi_add1]
              exact ⟨S3, rfl, p2, p3⟩
            · rw [hy] at hz2; exact absurd hz2 id
          · rcases hy : anR A (Int32.ofNat p) with _ | y
            · rw [hy] at hz2; exact absurd hz2 id
            · rw [hy] at hz2
              obtain ⟨hc1, hc2⟩ := hz2
              have ef : fdAns A p P w2 = (jdOne P y, if jdE (jdOne P y) then (w2.1 + 1, w2.2) else w2) := by unfold fdAns; rw [hy]
              rw [ef]
              show ∃ S', (zb (cE_faultOf gi ga As ne am N (Int32.ofNat p) (some o) _) _) = _ ∧ _
              have e : cE_faultOf gi ga As ne am N (Int32.ofNat p) (some o) (zsA S2 22 (zs (zA S2 22) (Int32.ofNat p) 1)) = some (jdOne P y, stC (zsA S2 22 (zs (zA S2 22) (Int32.ofNat p) 1)) (jdOne P y)) :=  c_fault (gi := gi) (ga := ga) (As := As) (ne := ne) (am := am) (N := N) (S := zsA S2 22 (zs (zA S2 22) (Int32.ofNat p) 1)) hE.2.1 hN hF hl20 hP ⟨k1.1, hk10⟩ ⟨k4, k5, k6, k7, k8, k9, k10, k11, k12⟩ hc1 hc2
              rw [e, zbs]
              have s2' : W0 (stC (zsA S2 22 (zs (zA S2 22) (Int32.ofNat p) 1)) (jdOne P y)) (if jdE (jdOne P y) then (w2.1 + 1, w2.2) else w2) := by
                unfold stC
                by_cases hj : jdE (jdOne P y)
                · rw [if_pos hj, if_pos hj]
                  exact W0.fl s2
                · rw [if_neg hj, if_neg hj]
                  exact s2
              have s3' : insC118 Q (stC (zsA S2 22 (zs (zA S2 22) (Int32.ofNat p) 1)) (jdOne P y)) (sh ++ [true]) fd := by
                unfold stC
                split
                · exact s3
                · exact s3
              obtain ⟨S3, p1, p2, p3⟩ := addP_118 (gi := gi) (ga := ga) (As := As) (ne := ne) (am := am) (N := N) (c := jdOne P y) (p := p) s2' s3' hfd
              rw [p1, zbs, yi_add1]
              exact ⟨S3, rfl, p2, p3⟩
    rcases kc with ⟨c1, c2⟩ | ⟨e, hx⟩
    · have ec : cdR F A En K P w = (.inl 1, w) := by unfold cdR; rw [if_pos c1]
      rw [if_pos c2, ec]
      exact yes (zsI S 1 0) w 1 hW1 h1 rfl
    · have hx' := hx
      obtain ⟨s, es, hse, hrep, hend, _⟩ := hx'
      have hends := (List.getElem?_eq_some_iff.mp hend).1
      have h560 := hF.1.1.2
      have hnc : ¬ P.2.2.2.2.2.2.2 = -9 := by rw [es, xi32_eq, yi_nat (by omega), y_m9]; omega
      have hnn : ¬ P.2.2.2.2.2.2.1 = -9 := by
        intro hh
        rw [hh] at hrep
        exact absurd hrep.1 (by decide)
      have ec : cdR F A En K P w = evx F A En (figx F A En K 12) K (-9) P.2.2.2.2.2.2.1 w := by unfold cdR; rw [if_neg hnn]
      rw [if_neg hnc, ec, zgs]
      have RR := C_work (cur := -9) (m := N / 16) hKe hF.1 hok hA hE hN hfe (Nat.zero_le _) hx (by omega) hW1.wk
      rcases hv : evx F A En (figx F A En K 12) K (-9) P.2.2.2.2.2.2.1 w with ⟨v | x, w'⟩
      · rw [hv] at RR
        obtain ⟨S2, r1, r2, r3⟩ := RR
        rw [r1, zbs]
        exact yes S2 w' v ⟨_, r2⟩ (insC118.fr r2.1.2.2.2.2.2 h1) r3
      · rw [hv] at RR
        obtain ⟨v, S2, r1, r2, r3, r4, r5⟩ := RR
        have i2 := insC118.fr r2.1.2.2.2.2.2 h1
        obtain ⟨s1, s2, s3, s4⟩ := sh_118 (b := false) (⟨_, r2⟩ : W0 S2 w') i2 hp (by omega)
        have s1' : zok (zA S2 22) (Int32.ofNat p) ∧ ((0 : Int32) = 0 ∨ (0 : Int32) = 1) := ⟨s1, Or.inl rfl⟩
        obtain ⟨S3, p1, p2, p3⟩ := addP_118 (gi := gi) (ga := ga) (As := As) (ne := ne) (am := am) (N := N) (c := zI S2 1) (p := p) s2 s3 hfd
        have p1' : cE_addOfPart gi ga As ne am N (zI S2 1) (Int32.ofNat p) (zsA S2 22 (zs (zA S2 22) (Int32.ofNat p) 0)) = some ((), S3) := p1
        have hne : zI S2 1 ≠ 0 := by rw [r3]; exact r4
        rw [r1, zbs, cE_inspect_118_54, if_neg (show ¬ (1 : Int32) = 0 by decide), if_pos hne, cE_inspect_118_71, if_pos s1', if_neg hne, p1', zbs, yi_add1]
        refine ⟨S3, rfl, p2, ?_⟩
        unfold fdAdd at p3
        rw [if_neg hne, r3] at p3
        exact p3
  · rw [if_neg hop, if_pos hop, cE_inspect_118_35, if_pos rfl, cE_inspect_118_54, if_pos rfl]
    exact no (zsI S 1 0) w hW1 h1 rfl
theorem parts_118 {K : Nat} (hKe : K = 300) (hF : fC2 F gi ga) (hok : yFok F) (hA : aA En F A As) (hE : eC En ne am) (hN : 1000 < N) : ∀ (r pre : List yPt) (n : Nat) (S : zS) (st : yI), F.1 = pre ++ r → r.length < n → W0 S st.1 → insC118 Q S st.2.1 st.2.2 → st.2.1.length = pre.length → st.2.2.length ≤ pre.length → ∃ S', cE_inspect_118_10 gi ga As ne am N n (Int32.ofNat pre.length) S = cE_inspect_118_108 gi ga As ne am N N 0 S' ∧ W0 S' (ipParts F A En K pre.length r st).1 ∧ insC118 Q S' (ipParts F A En K pre.length r st).2.1 (ipParts F A En K pre.length r st).2.2 ∧ (ipParts F A En K pre.length r st).2.2.length ≤ F.1.length
  | _, _, 0, _, _, _, hn, _, _, _, _ => by omega
  | [], pre, n + 1, S, st, hp, _, hW, h, _, hfl => by
    rw [List.append_nil] at hp
    rw [cE_inspect_118_10, if_pos (by rw [hF.2.1.1, hp]; omega), ipParts]
    exact ⟨S, rfl, hW, h, by rw [hp]; exact hfl⟩
  | P :: r, pre, n + 1, S, st, hp, hn, hW, h, hsl, hfl => by
    have hok' := hok
    obtain ⟨_, _, _, _, _, hl20, _⟩ := hok'
    have hlen : F.1.length = pre.length + (r.length + 1) := by rw [hp, List.length_append, List.length_cons]
    rw [List.length_cons] at hn
    have hP : F.1[pre.length]? = some P := by rw [hp, List.getElem?_append_right (Nat.le_refl _), Nat.sub_self]; rfl
    obtain ⟨S1, e1, e2, e3⟩ := part_118 (n := n) hKe hF hok hA hE hN hP hW h hsl (by omega)
    have hst : ((st.1, st.2.1, st.2.2) : yI) = st := rfl
    rw [hst] at e2 e3
    obtain ⟨L1, L2⟩ := ipPart_len (F := F) (A := A) (En := En) (K := K) (p := pre.length) (P := P) (st := st)
    obtain ⟨S', f1, f2, f3, f4⟩ := parts_118 hKe hF hok hA hE hN r (pre ++ [P]) n S1 (ipPart F A En K pre.length P st) (by rw [hp]; simp) (by omega) e2 e3 (by rw [L1, List.length_append, List.length_singleton, hsl]) (by rw [List.length_append, List.length_singleton]; omega)
    rw [List.length_append, List.length_singleton] at f1 f2 f3 f4
    refine ⟨S', ?_, ?_, ?_, ?_⟩
    · rw [e1, f1]
    · rw [ipParts]; exact f2
    · rw [ipParts]; exact f3
    · rw [ipParts]; exact f4
theorem chks_118 {K : Nat} (hKe : K = 300) (hF : fC2 F gi ga) (hok : yFok F) (hA : aA En F A As) (hE : eC En ne am) (hN : 1000 < N) : ∀ (r pre : List (Int32 × Int32 × Int32)) (n : Nat) (S : zS) (st : yI), F.2.2.1 = pre ++ r → r.length < n → W0 S st.1 → insC118 Q S st.2.1 st.2.2 → st.2.2.length ≤ F.1.length + pre.length → ∃ S', cE_inspect_118_108 gi ga As ne am N n (Int32.ofNat pre.length) S = some (Int32.ofNat (ipChks F A En K pre.length r st).2.2.length, S') ∧ W0 S' (ipChks F A En K pre.length r st).1 ∧ insC118 Q S' (ipChks F A En K pre.length r st).2.1 (ipChks F A En K pre.length r st).2.2 ∧ (ipChks F A En K pre.length r st).2.2.length ≤ 32
  | _, _, 0, _, _, _, hn, _, _, _ => by omega
  | [], pre, n + 1, S, st, hp, _, hW, h, hfl => by
    have hok' := hok
    obtain ⟨_, _, _, _, _, hl20, _, hc12, _⟩ := hok'
    rw [List.append_nil] at hp
    rw [cE_inspect_118_108, if_pos (by rw [hF.2.1.2, hp]; omega), ipChks, h.1]
    exact ⟨S, rfl, hW, h, by rw [hp] at hc12; omega⟩
  | c :: r, pre, n + 1, S, st, hp, hn, hW, h, hfl => by
    have hok' := hok
    obtain ⟨fe, _, _, hfe, hch, hl20, _, hc12, _⟩ := hok'
    have hlen : F.2.2.1.length = pre.length + (r.length + 1) := by rw [hp, List.length_append, List.length_cons]
    rw [List.length_cons] at hn
    obtain ⟨mg, nd, cd⟩ := c
    have hP : F.2.2.1[pre.length]? = some (mg, nd, cd) := by rw [hp, List.getElem?_append_right (Nat.le_refl _), Nat.sub_self]; rfl
    obtain ⟨g11, g12⟩ := hF.2.2.2 pre.length mg nd cd hP
    obtain ⟨j, e, hj, hx⟩ := hch pre.length mg nd cd hP
    have x11 : gI (ga 11) (Int32.ofNat pre.length) = some mg := by rw [gI_nat (by omega)]; exact g11
    have x12 : gI (ga 12) (Int32.ofNat pre.length) = some cd := by rw [gI_nat (by omega)]; exact g12
    rw [cE_inspect_118_108, if_neg (by rw [hF.2.1.2, yi_nat (by omega), yi_nat (by omega)]; omega), x12, zgs, ipChks]
    have RR := C_work (cur := -9) (m := N / 16) hKe hF.1 hok hA hE hN hfe hj hx (by omega) hW.wk
    have L := ipChk_len (F := F) (A := A) (En := En) (K := K) (i := pre.length) (c := (mg, nd, cd)) (st := st)
    have sp : ipChk F A En K pre.length (mg, nd, cd) st = match evx F A En (figx F A En K 12) K (-9) nd st.1 with
        | (.inr x, w') => (w', st.2.1, st.2.2 ++ [(x.1, -9, Int32.ofNat pre.length, mg, x.2)])
        | (.inl v, w') => (w', st.2.1, if v = 0 then st.2.2 ++ [(9, -9, Int32.ofNat pre.length, mg, -9)] else st.2.2) := rfl
    have go : ∀ (S1 : zS) (st1 : yI), W0 S1 st1.1 → insC118 Q S1 st1.2.1 st1.2.2 → st1.2.2.length ≤ st.2.2.length + 1 → ∃ S', cE_inspect_118_108 gi ga As ne am N n (Int32.ofNat pre.length + 1) S1 = some (Int32.ofNat (ipChks F A En K (pre.length + 1) r st1).2.2.length, S') ∧ W0 S' (ipChks F A En K (pre.length + 1) r st1).1 ∧ insC118 Q S' (ipChks F A En K (pre.length + 1) r st1).2.1 (ipChks F A En K (pre.length + 1) r st1).2.2 ∧ (ipChks F A En K (pre.length + 1) r st1).2.2.length ≤ 32 := by
      intro S1 st1 a1 a2 a3
      have := chks_118 hKe hF hok hA hE hN r (pre ++ [(mg, nd, cd)]) n S1 st1 (by rw [hp]; simp) (by omega) a1 a2 (by rw [List.length_append, List.length_singleton]; omega)
      rw [List.length_append, List.length_singleton] at this
      rw [yi_add1]
      exact this
    rw [sp]
    rcases hv : evx F A En (figx F A En K 12) K (-9) nd st.1 with ⟨v | x, w'⟩
    · rw [hv] at RR
      obtain ⟨S2, r1, r2, r3⟩ := RR
      have i2 := insC118.fr r2.1.2.2.2.2.2 h
      rw [r1, zbs, if_pos r3]
      by_cases h0 : v = 0
      · obtain ⟨S3, p1, p2, p3⟩ := add_118 (gi := gi) (ga := ga) (As := As) (ne := ne) (am := am) (N := N) (v1 := 9) (v2 := -9) (v3 := Int32.ofNat pre.length) (v4 := mg) (v5 := -9) (⟨_, r2⟩ : W0 S2 w') i2 (by omega)
        rw [if_neg (nn h0), x11, zgs, p1, zbs]
        show ∃ S', _ = some (Int32.ofNat (ipChks F A En K (pre.length + 1) r (w', st.2.1, if v = 0 then st.2.2 ++ [(9, -9, Int32.ofNat pre.length, mg, -9)] else st.2.2)).2.2.length, S') ∧ W0 S' (ipChks F A En K (pre.length + 1) r (w', st.2.1, if v = 0 then st.2.2 ++ [(9, -9, Int32.ofNat pre.length, mg, -9)] else st.2.2)).1 ∧ insC118 Q S' (ipChks F A En K (pre.length + 1) r (w', st.2.1, if v = 0 then st.2.2 ++ [(9, -9, Int32.ofNat pre.length, mg, -9)] else st.2.2)).2.1 (ipChks F A En K (pre.length + 1) r (w', st.2.1, if v = 0 then st.2.2 ++ [(9, -9, Int32.ofNat pre.length, mg, -9)] else st.2.2)).2.2 ∧ (ipChks F A En K (pre.length + 1) r (w', st.2.1, if v = 0 then st.2.2 ++ [(9, -9, Int32.ofNat pre.length, mg, -9)] else st.2.2)).2.2.length ≤ 32
        rw [if_pos h0]
        exact go S3 (w', st.2.1, st.2.2 ++ [(9, -9, Int32.ofNat pre.length, mg, -9)]) p2 p3 (by simp)
      · rw [if_pos h0]
        show ∃ S', _ = some (Int32.ofNat (ipChks F A En K (pre.length + 1) r (w', st.2.1, if v = 0 then st.2.2 ++ [(9, -9, Int32.ofNat pre.length, mg, -9)] else st.2.2)).2.2.length, S') ∧ W0 S' (ipChks F A En K (pre.length + 1) r (w', st.2.1, if v = 0 then st.2.2 ++ [(9, -9, Int32.ofNat pre.length, mg, -9)] else st.2.2)).1 ∧ insC118 Q S' (ipChks F A En K (pre.length + 1) r (w', st.2.1, if v = 0 then st.2.2 ++ [(9, -9, Int32.ofNat pre.length, mg, -9)] else st.2.2)).2.1 (ipChks F A En K (pre.length + 1) r (w', st.2.1, if v = 0 then st.2.2 ++ [(9, -9, Int32.ofNat pre.length, mg, -9)] else st.2.2)).2.2 ∧ (ipChks F A En K (pre.length + 1) r (w', st.2.1, if v = 0 then st.2.2 ++ [(9, -9, Int32.ofNat pre.length, mg, -9)] else st.2.2)).2.2.length ≤ 32
        rw [if_neg h0]
        exact go S2 (w', st.2.1, st.2.2) ⟨_, r2⟩ i2 (by simp)
    · rw [hv] at RR
      obtain ⟨v, S2, r1, r2, r3, r4, r5⟩ := RR
      have i2 := insC118.fr r2.1.2.2.2.2.2 h
      obtain ⟨S3, p1, p2, p3⟩ := add_118 (gi := gi) (ga := ga) (As := As) (ne := ne) (am := am) (N := N) (v1 := zI S2 1) (v2 := -9) (v3 := Int32.ofNat pre.length) (v4 := mg) (v5 := zI S2 2) (⟨_, r2⟩ : W0 S2 w') i2 (by omega)
      rw [r1, zbs, if_neg (by rw [r3]; exact r4), x11, zgs, p1, zbs]
      rw [r3, r5] at p3
      exact go S3 (w', st.2.1, st.2.2 ++ [(x.1, -9, Int32.ofNat pre.length, mg, x.2)]) p2 p3 (by simp)
end INSP118
