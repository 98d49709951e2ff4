/-! THE REFERENCE READS FORMS: rules -/
section RRULES
variable {N : Nat} {t : List Int32} {tk : List zK} {s : zP} {S : zS} {G : zG}
theorem rule44_F {q : Nat} {x : Int64} (hN : 1400 < N) (h6 : N / 16 = 100) (h : QF q S) (hW : WH S) : ∃ S1, rQ_rule_44 N x S = some ((), S1) ∧ QF q S1 ∧ WH S1 := by
  obtain ⟨a, S1, w1, w2, w3⟩ := exp_FQ hN h6 h
  rw [rQ_rule_44, sign_F h, zbs, w1, zbs, sign_F w2, zbs, good_F w2, zbs, if_pos rfl]
  exact ⟨S1, rfl, w2, WH.eqY w3 hW⟩
theorem rule31_F {q : Nat} (hN : 1400 < N) (h6 : N / 16 = 100) (h : QF q S) (hW : WH S) : ∃ S1, rQ_rule_31 N S = some ((), S1) ∧ QF q S1 ∧ WH S1 := by
  rw [rQ_rule_31, good_F h, zbs, if_pos rfl, good_F h, zbs, if_pos rfl]
  exact rule44_F hN h6 h hW
theorem rule89_F {q : Nat} (hN : 1400 < N) (h6 : N / 16 = 100) (h : QF q S) (hW : WH S) : ∃ S1, rQ_rule_89 N S = some ((), S1) ∧ QF q S1 ∧ WH S1 := by
  obtain ⟨a, S1, w1, w2, w3⟩ := exp_FQ hN h6 h
  rw [rQ_rule_89, number_F h, zbs, w1, zbs, sign_F w2, zbs, good_F w2, zbs, if_pos rfl]
  exact ⟨S1, rfl, w2, WH.eqY w3 hW⟩
/-- behind the name of a figure -/
theorem Q_rule44 (hN : 1400 < N) (h6 : N / 16 = 100) (hT : tkT t tk) {nm : Int64} (h12 : G.2.1.length < 12) (hg : GM G S) (hW : WH S) (h : RQ t tk 0 s S) : match pb (pWant tk 61 s) fun s2 _ => pb (fExp tk G.2.1.length 0 s2) fun s3 w => pb (pWant tk 59 s3) fun s4 _ => (.inl (s4, nm, w.1, w.2) : zF (Int64 × Int32 × Int32)) with
    | .inl (s1, p) => ∃ S1, rQ_rule_44 N nm S = some ((), S1) ∧ RQ t tk 0 s1 S1 ∧ GM (gFig G p) S1 ∧ WH S1
    | .inr (some q) => ∃ S1, rQ_rule_44 N nm S = some ((), S1) ∧ QF (pl tk q) S1 ∧ WH S1
    | .inr none => True := by
  unfold rQ_rule_44
  have hA := Q_sign (N := N) (c := 61) hN hT (by decide) h
  rcases hpA : pWant tk 61 s with ⟨sA, _⟩ | _ | q
  · rw [hpA] at hA
    obtain ⟨_, SA, a1, a2, a3, _⟩ := hA
    have gA := GMn.eqY a3 hg
    have wA := WH.eqY a3 hW
    have hE := Q_exp (N := N) (fg := G.2.1.length) hN h6 hT (by omega) a2 gA.2.1.1
    rw [a1, zbs]
    show match pb (fExp tk G.2.1.length 0 sA) fun s3 w => pb (pWant tk 59 s3) fun s4 _ => (.inl (s4, nm, w.1, w.2) : zF (Int64 × Int32 × Int32)) with
      | .inl (s1, p) => _
      | .inr (some q) => _
      | .inr none => True
    rcases hpE : fExp tk G.2.1.length 0 sA with ⟨sE, w⟩ | _ | q
    · rw [hpE] at hE
      obtain ⟨a, SE, e1, e2, e3, rfl⟩ := hE
      have hB := Q_sign (N := N) (c := 59) hN hT (by decide) e2
      rw [e1, zbs]
      show match pb (pWant tk 59 sE) fun s4 _ => (.inl (s4, nm, w.1, w.2) : zF (Int64 × Int32 × Int32)) with
        | .inl (s1, p) => _
        | .inr (some q) => _
        | .inr none => True
      rcases hpB : pWant tk 59 sE with ⟨sB, _⟩ | _ | q
      · rw [hpB] at hB
        obtain ⟨_, SB, b1, b2, b3, _⟩ := hB
        have e := e3.trans b3
        have g3 := GMn.eqY e gA
        obtain ⟨w1, ⟨l24, l25, l27, l28⟩, w3, w4, w5⟩ := WH.eqY e wA
        rw [b1, zbs, good_G b2, zbs, if_neg i10, g3.2.1.1, if_pos (zok_nat (by omega) (by omega)), if_pos (zok_nat (by omega) (by omega)), yi_add1, zs_nat (by omega), zs_nat (by omega)]
        refine ⟨_, rfl, b2, ⟨g3.1, ⟨?_, ?_, ?_⟩, g3.2.2⟩, ⟨w1, ⟨?_, ?_, l27, l28⟩, w3, ⟨G.2.1.length + 1, by omega, rfl⟩, w5⟩⟩
        · show _ = Int32.ofNat (G.2.1 ++ [(nm, w.1, w.2)]).length; rw [List.length_append]; rfl
        · show (G.2.1 ++ [(nm, w.1, w.2)]).length ≤ 12; rw [List.length_append]; simp; omega
        · intro i u hu
          have hu : (G.2.1 ++ [(nm, w.1, w.2)])[i]? = some u := hu
          show ((zB SB 24).set _ _)[i]? = _ ∧ ((zA SB 25).set _ _)[i]? = _
          by_cases hi : i < G.2.1.length
          · rw [List.getElem?_append_left hi] at hu
            rw [List.getElem?_set_ne (by omega), List.getElem?_set_ne (by omega)]
            exact g3.2.1.2.2 i u hu
          · have hil := (List.getElem?_eq_some_iff.mp hu).1
            rw [List.length_append, List.length_singleton] at hil
            obtain rfl : i = G.2.1.length := by omega
            rw [List.getElem?_append_right (Nat.le_refl _), Nat.sub_self] at hu
            cases hu
            rw [List.getElem?_set_self (by omega), List.getElem?_set_self (by omega)]
            exact ⟨rfl, rfl⟩
        · show ((zB SB 24).set _ _).length = 12; rw [List.length_set, l24]
        · show ((zA SB 25).set _ _).length = 12; rw [List.length_set, l25]
      · trivial
      · rw [hpB] at hB
        obtain ⟨_, SB, b1, b2, b3, _⟩ := hB
        rw [b1, zbs, good_F b2, zbs, if_pos rfl]
        exact ⟨SB, rfl, b2, WH.eqY (e3.trans b3) wA⟩
    · trivial
    · rw [hpE] at hE
      obtain ⟨a, SE, e1, e2, e3, _⟩ := hE
      rw [e1, zbs, sign_F e2, zbs, good_F e2, zbs, if_pos rfl]
      exact ⟨SE, rfl, e2, WH.eqY e3 wA⟩
  · trivial
  · rw [hpA] at hA
    obtain ⟨_, SA, a1, a2, a3, _⟩ := hA
    obtain ⟨a, SE, e1, e2, e3⟩ := exp_FQ hN h6 a2
    rw [a1, zbs, e1, zbs, sign_F e2, zbs, good_F e2, zbs, if_pos rfl]
    exact ⟨SE, rfl, e2, WH.eqY (a3.trans e3) hW⟩
theorem Q_fig (hN : 1400 < N) (h6 : N / 16 = 100) (hT : tkT t tk) (hk : kd tk s.1 = 217) (hg : GM G S) (hW : WH S) (h : RQ t tk 0 s S) : match fFig tk G s with
    | .inl (s1, p) => ∃ S1, rQ_rule N S = some ((), S1) ∧ RQ t tk 0 s1 S1 ∧ GM (gFig G p) S1 ∧ WH S1
    | .inr (some q) => ∃ S1, rQ_rule N S = some ((), S1) ∧ QF (pl tk q) S1 ∧ WH S1
    | .inr none => True := by
  obtain ⟨S2, m1, m2, m3⟩ := next_Q hN hT h (by rw [hk]; decide) (by rw [hk]; decide)
  have hg2 : GM G S2 := GMn.eqY m3 hg
  have hW2 := WH.eqY m3 hW
  have f12 := hg2.2.1.2.1
  have p20 := hg2.1.2.1
  have e23 := hg2.2.1.1
  obtain ⟨S', n1, n2, n3⟩ := wrong_Q (N := N) hT m2
  obtain ⟨SF, y1, y2, y3⟩ := rule31_F (N := N) hN h6 n2 (WH.eqY n3 hW2)
  have i8 := nIx_none (x := va tk (sNx s).1) (G.1.map Prod.fst) 0 (by simp; omega)
  have i9 := nIx_none (x := va tk (sNx s).1) (G.2.1.map Prod.fst) 0 (by simp; omega)
  rw [rQ_rule, isWord_G (j := 17) hN hT rfl h, zbs, if_pos (show kd tk s.1 = Int32.ofNat (200 + 17) from hk), if_neg i10, m1, zbs, good_G m2, zbs, if_neg i10, isName_G hN hT m2, zbs]
  unfold fFig fNew
  by_cases k3 : kd tk (sNx s).1 = 3
  · rw [if_pos k3, if_neg i10, e23]
    by_cases h12 : G.2.1.length < 12
    · rw [if_neg (show ¬ Int32.ofNat G.2.1.length = 12 by rw [xi32_eq, yi_nat (by omega), show (12 : Int32).toInt = 12 by decide]; omega), name_G hN hT k3 m2, zbs, partOf_G hN hg2 rfl hW2, zbs]
      by_cases h8 : va tk (sNx s).1 ∈ G.1.map Prod.fst
      · rw [if_pos (fun hh => (i8.mp hh) h8), if_neg (fun hh => hh.2.2.1 h8), n1, zbs, y1]
        exact ⟨SF, rfl, y2, y3⟩
      · rw [if_neg (nn (i8.mpr h8)), name_G hN hT k3 m2, zbs, figureOf_G hN hg2 hW2, zbs]
        by_cases h9 : va tk (sNx s).1 ∈ G.2.1.map Prod.fst
        · rw [if_neg (fun hh => (i9.mp hh) h9), if_neg (fun hh => hh.2.2.2 h9), n1, zbs, y1]
          exact ⟨SF, rfl, y2, y3⟩
        · obtain ⟨S3, r1, r2, r3⟩ := next_Q hN hT m2 (by rw [k3]; decide) (by rw [k3]; decide)
          rw [if_pos (i9.mpr h9), if_pos ⟨k3, h12, h8, h9⟩, rQ_rule_31, good_G m2, zbs, if_neg i10, name_G hN hT k3 m2, zbs, good_G m2, zbs, if_neg i10, r1, zbs]
          exact Q_rule44 (nm := va tk (sNx s).1) hN h6 hT h12 (GMn.eqY r3 hg2) (WH.eqY r3 hW2) r2
    · rw [if_pos (show Int32.ofNat G.2.1.length = 12 by rw [xi32_eq, yi_nat (by omega), show (12 : Int32).toInt = 12 by decide]; omega), if_neg (fun hh => h12 hh.2.1), n1, zbs, y1]
      exact ⟨SF, rfl, y2, y3⟩
  · rw [if_neg k3, if_pos rfl, if_neg (fun hh => k3 hh.1), n1, zbs, y1]
    exact ⟨SF, rfl, y2, y3⟩
theorem Q_chk (hN : 1400 < N) (h6 : N / 16 = 100) (hT : tkT t tk) (hk : kd tk s.1 = 218) (hg : GM G S) (hW : WH S) (h : RQ t tk 0 s S) : match fChk tk G s with
    | .inl (s1, p) => ∃ S1, rQ_rule N S = some ((), S1) ∧ RQ t tk 0 s1 S1 ∧ GM (gChk G p) S1 ∧ WH S1
    | .inr (some q) => ∃ S1, rQ_rule N S = some ((), S1) ∧ QF (pl tk q) S1 ∧ WH S1
    | .inr none => True := by
  obtain ⟨S2, m1, m2, m3⟩ := next_Q hN hT h (by rw [hk]; decide) (by rw [hk]; decide)
  have hg2 : GM G S2 := GMn.eqY m3 hg
  have hW2 := WH.eqY m3 hW
  have c12 := hg2.2.2.1.2.1
  have e26 := hg2.2.2.1.1
  rw [rQ_rule, isWord_G (j := 17) hN hT rfl h, zbs, if_neg (show ¬ kd tk s.1 = Int32.ofNat (200 + 17) by rw [hk]; decide), if_pos rfl, m1, zbs, e26]
  unfold fChk
  by_cases h12 : G.2.2.1.length < 12
  · rw [if_pos h12, if_pos (show Int32.ofNat G.2.2.1.length ≠ 12 by rw [Ne, xi32_eq, yi_nat (by omega), show (12 : Int32).toInt = 12 by decide]; omega), rQ_rule_89]
    have hA := Q_number (N := N) (lo := 0) (hi := 999999) hN hT m2
    rcases hpA : fNum tk 0 999999 (sNx s) with ⟨sA, no⟩ | _ | q
    · rw [hpA] at hA
      obtain ⟨a, SA, a1, a2, a3, rfl⟩ := hA
      have gA := GMn.eqY a3 hg2
      have wA := WH.eqY a3 hW2
      have hE := Q_exp (N := N) (fg := G.2.1.length) hN h6 hT (by omega) a2 gA.2.1.1
      rw [a1, zbs]
      show match pb (fExp tk G.2.1.length 0 sA) fun s3 w => pb (pWant tk 59 s3) fun s4 _ => (.inl (s4, a, w.1, w.2) : zF (Int32 × Int32 × Int32)) with
        | .inl (s1, p) => _
        | .inr (some q) => _
        | .inr none => True
      rcases hpE : fExp tk G.2.1.length 0 sA with ⟨sE, w⟩ | _ | q
      · rw [hpE] at hE
        obtain ⟨a', SE, e1, e2, e3, rfl⟩ := hE
        have hB := Q_sign (N := N) (c := 59) hN hT (by decide) e2
        rw [e1, zbs]
        show match pb (pWant tk 59 sE) fun s4 _ => (.inl (s4, a, w.1, w.2) : zF (Int32 × Int32 × Int32)) with
          | .inl (s1, p) => _
          | .inr (some q) => _
          | .inr none => True
        rcases hpB : pWant tk 59 sE with ⟨sB, _⟩ | _ | q
        · rw [hpB] at hB
          obtain ⟨_, SB, b1, b2, b3, _⟩ := hB
          have e := e3.trans b3
          have g3 := GMn.eqY e gA
          obtain ⟨w1, ⟨l24, l25, l27, l28⟩, w3, w4, w5⟩ := WH.eqY e wA
          rw [b1, zbs, good_G b2, zbs, if_neg i10, g3.2.2.1.1, if_pos (zok_nat (by omega) (by omega)), if_pos (zok_nat (by omega) (by omega)), yi_add1, zs_nat (by omega), zs_nat (by omega)]
          refine ⟨_, rfl, b2, ⟨g3.1, g3.2.1, ⟨?_, ?_, ?_⟩, g3.2.2.2⟩, ⟨w1, ⟨l24, l25, ?_, ?_⟩, w3, w4, ⟨G.2.2.1.length + 1, by omega, rfl⟩⟩⟩
          · show _ = Int32.ofNat (G.2.2.1 ++ [(a, w.1, w.2)]).length; rw [List.length_append]; rfl
          · show (G.2.2.1 ++ [(a, w.1, w.2)]).length ≤ 12; rw [List.length_append]; simp; omega
          · intro i u hu
            have hu : (G.2.2.1 ++ [(a, w.1, w.2)])[i]? = some u := hu
            show ((zA SB 27).set _ _)[i]? = _ ∧ ((zA SB 28).set _ _)[i]? = _
            by_cases hi : i < G.2.2.1.length
            · rw [List.getElem?_append_left hi] at hu
              rw [List.getElem?_set_ne (by omega), List.getElem?_set_ne (by omega)]
              exact g3.2.2.1.2.2 i u hu
            · have hil := (List.getElem?_eq_some_iff.mp hu).1
              rw [List.length_append, List.length_singleton] at hil
              obtain rfl : i = G.2.2.1.length := by omega
              rw [List.getElem?_append_right (Nat.le_refl _), Nat.sub_self] at hu
              cases hu
              rw [List.getElem?_set_self (by omega), List.getElem?_set_self (by omega)]
              exact ⟨rfl, rfl⟩
          · show ((zA SB 27).set _ _).length = 12; rw [List.length_set, l27]
          · show ((zA SB 28).set _ _).length = 12; rw [List.length_set, l28]
        · trivial
        · rw [hpB] at hB
          obtain ⟨_, SB, b1, b2, b3, _⟩ := hB
          rw [b1, zbs, good_F b2, zbs, if_pos rfl]
          exact ⟨SB, rfl, b2, WH.eqY (e3.trans b3) wA⟩
      · trivial
      · rw [hpE] at hE
        obtain ⟨a', SE, e1, e2, e3, _⟩ := hE
        rw [e1, zbs, sign_F e2, zbs, good_F e2, zbs, if_pos rfl]
        exact ⟨SE, rfl, e2, WH.eqY e3 wA⟩
    · trivial
    · rw [hpA] at hA
      obtain ⟨a, SA, a1, a2, a3, _⟩ := hA
      obtain ⟨a', SE, e1, e2, e3⟩ := exp_FQ hN h6 a2
      rw [a1, zbs, e1, zbs, sign_F e2, zbs, good_F e2, zbs, if_pos rfl]
      exact ⟨SE, rfl, e2, WH.eqY (a3.trans e3) hW2⟩
  · obtain ⟨S', n1, n2, n3⟩ := wrong_Q (N := N) hT m2
    rw [if_neg h12, if_neg (nn (show Int32.ofNat G.2.2.1.length = 12 by rw [xi32_eq, yi_nat (by omega), show (12 : Int32).toInt = 12 by decide]; omega)), n1, zbs]
    exact rule89_F hN h6 n2 (WH.eqY n3 hW2)
end RRULES
