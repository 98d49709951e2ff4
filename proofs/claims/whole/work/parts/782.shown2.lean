/-! WHAT IS SHOWN: the class and the reference -/
section SHOWNC
variable {gi : Nat → Int32} {ga : Nat → List Int32} {As : List (Option zO)} {ne : Int32} {am : List Int64} {N : Nat} {S : zS} {En : List (Int64 × Int32)} {F : yF} {A : List (Option yO)} {w : yW} {K : Nat}
theorem pn_none (hok : yFok F) {p : Nat} {P : yPt} (hP : F.1[p]? = some P) (h : pnR F p = none) : P.2.1 = -9 := by
  unfold pnR at h
  rw [hP] at h
  have h : (if P.2.1 = -9 then none else some P.2.1.toInt.toNat) = none := h
  by_cases e : P.2.1 = -9
  · exact e
  · rw [if_neg e] at h; cases h
theorem c_around (hF : fC2 F gi ga) (hok : yFok F) {q : Nat} (hq : q < 20) : ∀ (k n p c : Nat) (S : zS), p < k → p + 2 ≤ n → p + c < 20 → p < F.1.length → cE_isAround_4 gi ga As ne am N n (Int32.ofNat q) (Int32.ofNat p) (Int32.ofNat c) S = some (if arR F q k p then 1 else 0, S)
  | 0, _, _, _, _, h, _, _, _ => by omega
  | _ + 1, 0, _, _, _, _, h, _, _ => by omega
  | k + 1, n + 1, p, c, S, hk, hn, hc, hp => by
    have hne9 : ¬ Int32.ofNat p = -9 := by rw [xi32_eq, yi_nat (by omega), y_m9]; omega
    obtain ⟨P, hP⟩ : ∃ P, F.1[p]? = some P := ⟨_, List.getElem?_eq_getElem hp⟩
    have x2 : gI (ga 2) (Int32.ofNat p) = some P.2.1 := by rw [gI_nat (by omega)]; exact (hF.2.2.1 p P hP).1
    rw [cE_isAround_4, if_neg (by rw [yi_nat (by omega)]; omega), if_neg hne9, arR]
    by_cases e : p = q
    · subst e
      rw [if_pos rfl, if_neg (nn rfl), if_pos rfl]
      rfl
    · have hne : ¬ Int32.ofNat p = Int32.ofNat q := by rw [xi32_eq, yi_nat (by omega), yi_nat (by omega)]; omega
      rw [if_neg hne, if_neg e, x2, zgs, yi_add1]
      rcases hg : pnR F p with _ | g
      · rw [pn_none hok hP hg]
        obtain ⟨n', rfl⟩ : ∃ n', n = n' + 1 := ⟨n - 1, by omega⟩
        have hq9 : (-9 : Int32) ≠ Int32.ofNat q := by
          intro hh
          have := congrArg Int32.toInt hh
          rw [yi_nat (by omega), y_m9] at this
          omega
        rw [cE_isAround_4]
        show (if _ then _ else _) = some ((if (false : Bool) = true then 1 else 0 : Int32), S)
        rw [if_neg (show ¬ (false : Bool) = true by decide), if_pos hq9]
        split
        · rfl
        · rw [if_pos rfl]
      · obtain ⟨h1, _, P', hP', e'⟩ := pn_lt hok hg
        rw [hP] at hP'
        cases hP'
        rw [e']
        exact c_around hF hok hq k n g (c + 1) S (by omega) (by omega) (by omega) (by omega)
def ShC (r : Bool × yW) (S : zS) (o : Option (Int32 × zS)) : Prop := ∃ S', o = some (if r.1 then 1 else 0, S') ∧ W0 S' r.2 ∧ frC S S'
theorem frC.tr {S1 S2 S3 : zS} (h : frC S1 S2) (g : frC S2 S3) : frC S1 S3 := by
  obtain ⟨⟨a1, a2⟩, ⟨b1, b2, b3, b4, b5, b6⟩, c1, c2, c3, c4, c5, c6⟩ := h
  obtain ⟨⟨d1, d2⟩, ⟨e1, e2, e3, e4, e5, e6⟩, f1, f2, f3, f4, f5, f6⟩ := g
  exact ⟨⟨d1.trans a1, d2.trans a2⟩, ⟨e1.trans b1, e2.trans b2, e3.trans b3, e4.trans b4, e5.trans b5, e6.trans b6⟩, f1.trans c1, f2.trans c2, f3.trans c3, f4.trans c4, f5.trans c5, f6.trans c6⟩
theorem c_shows (hKe : K = 300) (hF : fC2 F gi ga) (hok : yFok F) (hA : aA En F A As) (hE : eC En ne am) (hN : 1000 < N) {p : Nat} (hp : p < F.1.length) : ∀ (k n i : Nat) (S : zS) (w : yW), i + k = p + 1 → k < n → W0 S w → ShC (lpR F A En K p k i w) S (cE_showsAlone_7 gi ga As ne am N n (Int32.ofNat p) (Int32.ofNat i) S)
  | _, 0, _, _, _, _, h, _ => by omega
  | 0, n + 1, i, S, w, h, _, hW => by
    have hok' := hok
    obtain ⟨_, _, _, _, _, hl20, _⟩ := hok'
    rw [cE_showsAlone_7, if_pos (by rw [yi_nat (by omega), yi_nat (by omega)]; omega)]
    exact ⟨S, rfl, hW, frC.rf⟩
  | k + 1, n + 1, i, S, w, h, hn, hW => by
    have hok' := hok
    obtain ⟨fe, _, _, hfe, _, hl20, hl12, _, _, hPs⟩ := hok'
    obtain ⟨P, hP⟩ : ∃ P, F.1[i]? = some P := ⟨_, List.getElem?_eq_getElem (by omega)⟩
    obtain ⟨_, _, _, _, _, _, _, _, _, _, _, _, kc⟩ := hPs i P hP
    have x7 : gI (ga 7) (Int32.ofNat i) = some P.2.2.2.2.2.2.2 := by rw [gI_nat (by omega)]; exact (hF.2.2.1 i P hP).2.2.2
    rw [cE_showsAlone_7, if_neg (by rw [yi_nat (by omega), yi_nat (by omega)]; omega), x7, zgs, lpR, yi_add1]
    have next : ∀ (S1 : zS) (w1 : yW), W0 S1 w1 → frC S S1 → ShC (lpR F A En K p k (i + 1) w1) S (cE_showsAlone_7 gi ga As ne am N n (Int32.ofNat p) (Int32.ofNat (i + 1)) S1) := by
      intro S1 w1 a1 a2
      obtain ⟨S', b1, b2, b3⟩ := c_shows hKe hF hok hA hE hN hp k n (i + 1) S1 w1 (by omega) (by omega) a1
      exact ⟨S', b1, b2, frC.tr a2 b3⟩
    rcases kc with ⟨c1, c2⟩ | ⟨e, hx⟩
    · rw [if_pos c2]
      have eh : hdR F A En K i w = (true, w) := by
        unfold hdR
        rw [hP]
        show hd1 (cdR F A En K P w) = _
        have ec : cdR F A En K P w = (.inl 1, w) := by unfold cdR; rw [if_pos c1]
        rw [ec]
        rfl
      rw [eh]
      split
      · exact next S w hW frC.rf
      · exact next S w hW frC.rf
    · have hx' := hx
      obtain ⟨s, es, hse, hrep, hend, _⟩ := hx'
      have hends := (List.getElem?_eq_some_iff.mp hend).1
      have h560 := hF.1.1.2
      have hnc : ¬ P.2.2.2.2.2.2.2 = -9 := by rw [es, xi32_eq, yi_nat (by omega), y_m9]; omega
      have hnn : ¬ P.2.2.2.2.2.2.1 = -9 := by
        intro hh
        rw [hh] at hrep
        exact absurd hrep.1 (by decide)
      have ec : cdR F A En K P w = evx F A En (figx F A En K 12) K (-9) P.2.2.2.2.2.2.1 w := by unfold cdR; rw [if_neg hnn]
      have ar := c_around (As := As) (ne := ne) (am := am) (N := N) hF hok (q := i) (by omega) 20 N p 0 S (by omega) (by omega) (by omega) hp
      have ar : cE_isAround gi ga As ne am N (Int32.ofNat i) (Int32.ofNat p) S = _ := ar
      rw [if_neg hnc, ar, zbs]
      rcases ha : arR F i 20 p with _ | _
      · rw [if_neg (by decide), if_pos (by rfl)]
        exact next S w hW frC.rf
      · rw [if_pos rfl, if_neg (by decide), zgs]
        have eh : hdR F A En K i w = hd1 (evx F A En (figx F A En K 12) K (-9) P.2.2.2.2.2.2.1 w) := by
          unfold hdR
          rw [hP, ← ec]
        rw [eh]
        have RR := C_work (cur := -9) (N := N) (m := N / 16) hKe hF.1 hok hA hE hN hfe (Nat.zero_le _) hx (by omega) hW.wk
        rcases hv : evx F A En (figx F A En K 12) K (-9) P.2.2.2.2.2.2.1 w with ⟨v | x, w'⟩
        · rw [hv] at RR
          obtain ⟨S2, r1, r2, r3⟩ := RR
          rw [r1, zbs]
          by_cases h0 : v = 0
          · rw [if_pos h0]
            have : (decide (v ≠ 0)) = false := by rw [h0]; rfl
            show ShC (thR (decide (v ≠ 0), w') _) S _
            rw [this]
            exact ⟨S2, rfl, ⟨_, r2⟩, r2.1.2.2.2.2.2⟩
          · rw [if_neg h0, if_pos r3]
            have : (decide (v ≠ 0)) = true := decide_eq_true h0
            show ShC (thR (decide (v ≠ 0), w') _) S _
            rw [this]
            exact next S2 w' ⟨_, r2⟩ r2.1.2.2.2.2.2
        · rw [hv] at RR
          obtain ⟨v, S2, r1, r2, r3, r4, r5⟩ := RR
          have hne : zI S2 1 ≠ 0 := by rw [r3]; exact r4
          rw [r1, zbs, if_neg hne]
          refine ⟨S2, ?_, ⟨_, r2⟩, r2.1.2.2.2.2.2⟩
          split <;> rfl
/-- the class's showsAlone -/
theorem C_shows (hKe : K = 300) (hF : fC2 F gi ga) (hok : yFok F) (hA : aA En F A As) (hE : eC En ne am) (hN : 1000 < N) {p : Nat} (hp : p < F.1.length) (hW : W0 S w) : ShC (shR F A En K 20 p (w0R w.1)) S (cE_showsAlone gi ga As ne am N (Int32.ofNat p) S) := by
  have hok' := hok
  obtain ⟨_, _, _, _, _, hl20, _⟩ := hok'
  obtain ⟨S1, e1, e2, e3, _⟩ := C_begin (N := N) (by omega) hW
  obtain ⟨S2, f1, f2, f3⟩ := c_shows hKe hF hok hA hE hN hp (p + 1) N 0 S1 (w0R w.1) (by omega) (by omega) e2
  rw [lp_sh hok 20 p _ (by omega) (by omega)] at f1 f2
  rw [cE_showsAlone, e1, zbs]
  exact ⟨S2, f1, f2, frC.tr e3 f3⟩
end SHOWNC
section SHOWNM
variable {S : zS} {F : yF} {A : List (Option yO)} {En : List (Int64 × Int32)} {gi : Nat → Int32} {ga : Nat → List Int32} {vl : List Int64} {Bs : List (Option zH)} {am : List Int64} {N K : Nat} {dr : Int32} {w : yW}
def ShM (r : Bool × yW) (S : zS) (dr : Int32) (o : Option (Int32 × zS)) : Prop := ∃ S', o = some (if r.1 then 1 else 0, S') ∧ R0 S' r.2 dr ∧ frM S S'
theorem frM.tr {S1 S2 S3 : zS} (h : frM S1 S2) (g : frM S2 S3) : frM S1 S3 := by
  obtain ⟨⟨a1, a2, a3, a4, a5, a6⟩, b1, b2, b3⟩ := h
  obtain ⟨⟨c1, c2, c3, c4, c5, c6⟩, d1, d2, d3⟩ := g
  exact ⟨⟨c1.trans a1, c2.trans a2, c3.trans a3, c4.trans a4, c5.trans a5, c6.trans a6⟩, d1.trans b1, d2.trans b2, d3.trans b3⟩
theorem r_hd (hKe : K = 300) (hF : fMr2 F gi ga vl) (hok : yFok F) (hA : aB En F A Bs dr) (hE : eM En am) (hN : 2800 ≤ N) {p : Nat} {P : yPt} (hP : F.1[p]? = some P) (hW : R0 S w dr) : ∃ S', rF_holds gi ga vl Bs am N (Int32.ofNat p) S = some (if (hdR F A En K p w).1 then 1 else 0, S') ∧ R0 S' (hdR F A En K p w).2 dr ∧ frM S S' := by
  have HH := holds_M (K := K) (N := N) hKe hF hok hA hE hN hP hW
  have eh : hdR F A En K p w = hd1 (cdR F A En K P w) := by
    unfold hdR
    rw [hP]
  rw [eh]
  rcases hc : cdR F A En K P w with ⟨v | x, w'⟩
  · rw [hc] at HH
    obtain ⟨S1, e1, e2, e3, e4⟩ := HH
    refine ⟨S1, ?_, e2, e3⟩
    rw [e1]
    by_cases h0 : v = 0
    · rw [if_pos h0, h0]; rfl
    · rw [if_neg h0]
      have : (decide (v ≠ 0)) = true := decide_eq_true h0
      show _ = some ((if (decide (v ≠ 0)) = true then 1 else 0 : Int32), S1)
      rw [this]; rfl
  · rw [hc] at HH
    obtain ⟨S1, e1, e2, e3, _⟩ := HH
    exact ⟨S1, e1, e2, e3⟩
/-- the reference's isSeen -/
theorem r_seen (hKe : K = 300) (hF : fMr2 F gi ga vl) (hok : yFok F) (hA : aB En F A Bs dr) (hE : eM En am) (hN : 2800 ≤ N) : ∀ (k p : Nat) (S : zS) (w : yW), p < k → p < F.1.length → R0 S w dr → ShM (shR F A En K k p w) S dr (rF_sfix gi ga vl Bs am N k (Int32.ofNat p) S)
  | 0, _, _, _, h, _, _ => by omega
  | k + 1, p, S, w, hk, hp, hW => by
    have hok' := hok
    obtain ⟨_, _, _, _, _, hl20, _⟩ := hok'
    obtain ⟨P, hP⟩ : ∃ P, F.1[p]? = some P := ⟨_, List.getElem?_eq_getElem hp⟩
    have x3 : gI (ga 3) (Int32.ofNat p) = some P.2.1 := by rw [gI_nat (by omega)]; exact (hF.2.2.2.1 p P hP).1
    show ShM _ S dr (rF_isSeen gi ga vl Bs am (rF_sfix gi ga vl Bs am N k) N (Int32.ofNat p) S)
    rw [rF_isSeen, x3, zgs, shR]
    rcases hg : pnR F p with _ | g
    · rw [if_pos (pn_none hok hP hg)]
      obtain ⟨S1, e1, e2, e3⟩ := r_hd (K := K) (N := N) hKe hF hok hA hE hN hP hW
      refine ⟨S1, ?_, e2, e3⟩
      rw [e1, zbs]
      show _ = some ((if (hdR F A En K p w).1 = true then 1 else 0 : Int32), S1)
      rcases (hdR F A En K p w).1 <;> rfl
    · obtain ⟨h1, _, P', hP', e'⟩ := pn_lt hok hg
      rw [hP] at hP'
      cases hP'
      have hne : ¬ P.2.1 = -9 := by rw [e', xi32_eq, yi_nat (by omega), y_m9]; omega
      obtain ⟨S1, a1, a2, a3⟩ := r_seen hKe hF hok hA hE hN k g S w (by omega) (by omega) hW
      rw [if_neg hne, zgs, e', a1, zbs]
      show ShM (thR (shR F A En K k g w) (hdR F A En K p)) S dr _
      rcases hr : shR F A En K k g w with ⟨b, w'⟩
      rw [hr] at a2
      cases b
      · exact ⟨S1, rfl, a2, a3⟩
      · obtain ⟨S2, e1, e2, e3⟩ := r_hd (K := K) (N := N) hKe hF hok hA hE hN hP a2
        refine ⟨S2, ?_, e2, frM.tr a3 e3⟩
        have h10 : ¬ ((if ((true, w') : Bool × yW).1 = true then 1 else 0 : Int32)) = 0 := fun hh => absurd (show (1 : Int32) = 0 from hh) (by decide)
        rw [if_neg h10, e1, zbs]
        show _ = some ((if (hdR F A En K p w').1 = true then 1 else 0 : Int32), S2)
        rcases (hdR F A En K p w').1 <;> rfl
end SHOWNM
