/-! THE REFERENCE READS FORMS: the parts -/
section RPARTS2
variable {N : Nat} {t : List Int32} {tk : List zK} {i : Nat} {s : zP} {S : zS} {G : zG} {nm : Int64} {k g m v19 v20 v21 : Int32} {rc : Int32 → zS → Option (Unit × zS)}
theorem whenFQ {x : Int32} {q : Nat} (h : QF q S) : rQ_when N x S = some ((), S) := by
  rw [rQ_when, good_F h, zbs, if_pos rfl]
theorem Q_when (hN : 1400 < N) (h6 : N / 16 = 100) (hT : tkT t tk) (hi : i ≤ 10) (h20 : G.1.length < 20) (h0 : G.2.1 = []) (hr : RQ t tk i s S) (hW : WH S) (hg : GMn G (G.1.length + 1) S) (ha : AT nm k g m v19 v20 v21 (-9) G.1.length S) : match fWhen tk i s with
    | .inl (s1, w) => ∃ S1, rQ_when N (Int32.ofNat G.1.length) S = some ((), S1) ∧ RQ t tk i s1 S1 ∧ WH S1 ∧ GMn G (G.1.length + 1) S1 ∧ AT nm k g m v19 v20 v21 w.1 G.1.length S1
    | .inr (some q) => ∃ S1, rQ_when N (Int32.ofNat G.1.length) S = some ((), S1) ∧ QF (pl tk q) S1 ∧ WH S1
    | .inr none => True := by
  unfold fWhen rQ_when
  rw [good_G hr, zbs, if_neg i10, isWord_G (j := 4) hN hT rfl hr, zbs]
  by_cases hk : kd tk s.1 = 204
  · rw [if_pos hk, if_pos (show kd tk s.1 = Int32.ofNat (200 + 4) from hk), if_neg i10]
    obtain ⟨S0, m1, m2, m3⟩ := next_Q hN hT hr (by rw [hk]; decide) (by rw [hk]; decide)
    rw [m1, zbs]
    have hfg : zI S0 23 = Int32.ofNat 0 := by
      have := (GMn.eqY m3 hg).2.1.1
      rw [h0] at this
      exact this
    have hR := Q_exp (N := N) (fg := 0) hN h6 hT hi m2 hfg
    rcases hp1 : fExp tk 0 i (sNx s) with ⟨s1, w⟩ | _ | q
    · rw [hp1] at hR
      obtain ⟨a, S1, q1, q2, q3, rfl⟩ := hR
      have e := m3.trans q3
      obtain ⟨z1, z2, z3, z4, z5, z6, z7⟩ := setH22 (t := t) (tk := tk) (G := G) (x := w.1) h20 (WH.eqY e hW)
      rw [q1, zbs, if_pos z1]
      exact ⟨_, rfl, z4 _ _ q2, z2, z5 _ rfl (GMn.eqY e hg), z6 _ _ _ _ _ _ _ _ (AT.eqY e ha)⟩
    · trivial
    · rw [hp1] at hR
      obtain ⟨a, S1, q1, q2, q3, _⟩ := hR
      have e := m3.trans q3
      obtain ⟨z1, z2, z3, z4, z5, z6, z7⟩ := setH22 (t := t) (tk := tk) (G := G) (x := a) h20 (WH.eqY e hW)
      rw [q1, zbs, if_pos z1]
      exact ⟨_, rfl, z3 _ q2, z2⟩
  · rw [if_neg hk, if_neg (show ¬ kd tk s.1 = Int32.ofNat (200 + 4) from hk), if_pos rfl]
    exact ⟨S, rfl, hr, hW, hg, ha⟩
theorem b20_F {lo hi : Int32} {n q : Nat} (hn : n < 20) (h : QF q S) (hW : WH S) : ∃ S2, (zb (rQ_number N lo hi S) fun x8 S9 => (if zok (zA S9 20) (Int32.ofNat n) then some ((), (zsA S9 20 (zs (zA S9 20) (Int32.ofNat n) x8))) else none)) = some ((), S2) ∧ QF q S2 ∧ WH S2 := by
  rw [number_F h, zbs]
  exact w20_F hn h hW
theorem b14b_F {s0 : Int32} {n q : Nat} (hn : n < 20) (h : QF q S) (hW : WH S) : ∃ S2, rQ_bounds_14 N (Int32.ofNat n) s0 S = some ((), S2) ∧ QF q S2 ∧ WH S2 := by
  rw [rQ_bounds_14, number_F h, zbs]
  exact b14_F hn h hW
theorem bounds_F {n q : Nat} (hn : n < 20) (h : QF q S) (hW : WH S) (hkk : k = 0 ∨ k = 1 ∨ k = 2 ∨ k = 3 ∨ k = 4 ∨ k = 5 ∨ k = 6 ∨ k = 7 ∨ k = 8 ∨ k = 9 ∨ k = 10) : ∃ S2, rQ_bounds N (Int32.ofNat n) k S = some ((), S2) ∧ QF q S2 ∧ WH S2 := by
  rcases hkk with rfl | rfl | rfl | rfl | rfl | rfl | rfl | rfl | rfl | rfl | rfl
  · exact ⟨S, rfl, h, hW⟩
  · exact b14b_F hn h hW
  · exact b20_F hn h hW
  · exact b14b_F hn h hW
  · show ∃ S2, (zb (rQ_number N 2 8 S) fun x35 S36 => (if zok (zA S36 20) (Int32.ofNat n) then some ((), (zsA S36 20 (zs (zA S36 20) (Int32.ofNat n) (x35 - 1)))) else none)) = some ((), S2) ∧ QF q S2 ∧ WH S2
    rw [number_F h, zbs]
    exact w20_F hn h hW
  · show ∃ S2, (zb (rQ_number N 1 8 S) fun x23 S24 => (if zok (zA S24 21) (Int32.ofNat n) then (zg (gI (zs (zA S24 21) (Int32.ofNat n) x23) (Int32.ofNat n)) fun x26 => (zb (rQ_number N 0 x26 (zsA S24 21 (zs (zA S24 21) (Int32.ofNat n) x23))) fun x27 S28 => (if zok (zA S28 19) (Int32.ofNat n) then (zg (gI (zs (zA S28 19) (Int32.ofNat n) x27) (Int32.ofNat n)) fun x30 => (zg (gI (zA S28 21) (Int32.ofNat n)) fun x31 => (zb (rQ_number N x30 x31 (zsA S28 19 (zs (zA S28 19) (Int32.ofNat n) x27))) fun x32 S33 => (if zok (zA S33 20) (Int32.ofNat n) then some ((), (zsA S33 20 (zs (zA S33 20) (Int32.ofNat n) x32))) else none)))) else none))) else none)) = some ((), S2) ∧ QF q S2 ∧ WH S2
    obtain ⟨z1, z2, z3, z4, z5, z6, z7⟩ := setH21 (t := []) (tk := []) (G := ([], [], [], 0, 0)) (x := 1) hn hW
    obtain ⟨y1, y2, y3, y4, y5, y6, y7⟩ := setH19 (t := []) (tk := []) (G := ([], [], [], 0, 0)) (x := 0) hn z2
    have l21 := z2.1.2.2.2.2.2.2.1
    rw [number_F h, zbs, if_pos z1, z7, zgs, number_F (z3 _ h), zbs, if_pos y1, y7, zgs, gI_nat (by omega), List.getElem?_eq_getElem (by omega), zgs, number_F (y3 _ (z3 _ h)), zbs]
    exact w20_F hn (y3 _ (z3 _ h)) y2
  · exact b20_F hn h hW
  · show ∃ S2, (zb (rQ_number N 1 4 S) fun x14 S15 => (if zok (zA S15 21) (Int32.ofNat n) then (zb (rQ_number N 1 6 (zsA S15 21 (zs (zA S15 21) (Int32.ofNat n) x14))) fun x17 S18 => (if zok (zA S18 20) (Int32.ofNat n) then some ((), (zsA S18 20 (zs (zA S18 20) (Int32.ofNat n) x17))) else none)) else none)) = some ((), S2) ∧ QF q S2 ∧ WH S2
    obtain ⟨z1, z2, z3, z4, z5, z6, z7⟩ := setH21 (t := []) (tk := []) (G := ([], [], [], 0, 0)) (x := 1) hn hW
    rw [number_F h, zbs, if_pos z1, number_F (z3 _ h), zbs]
    exact w20_F hn (z3 _ h) z2
  · exact b20_F hn h hW
  · exact b20_F hn h hW
  · exact ⟨S, rfl, h, hW⟩
theorem kinds {c : Int32} (h : isKd c) : (c - 206 = 0 ∨ c - 206 = 1 ∨ c - 206 = 2 ∨ c - 206 = 3 ∨ c - 206 = 4 ∨ c - 206 = 5 ∨ c - 206 = 6 ∨ c - 206 = 7 ∨ c - 206 = 8 ∨ c - 206 = 9 ∨ c - 206 = 10) := by
  have hlt := c.toInt_lt
  have e : (c - 206).toInt = c.toInt - 206 := by
    rw [yi_sub (by rw [show (206 : Int32).toInt = 206 by decide]; have := h.1; omega) (by rw [show (206 : Int32).toInt = 206 by decide]; have := h.1; omega), show (206 : Int32).toInt = 206 by decide]
  obtain ⟨h1, h2⟩ := h
  simp only [xi32_eq, e, show (0 : Int32).toInt = 0 by decide, show (1 : Int32).toInt = 1 by decide, show (2 : Int32).toInt = 2 by decide, show (3 : Int32).toInt = 3 by decide, show (4 : Int32).toInt = 4 by decide, show (5 : Int32).toInt = 5 by decide, show (6 : Int32).toInt = 6 by decide, show (7 : Int32).toInt = 7 by decide, show (8 : Int32).toInt = 8 by decide, show (9 : Int32).toInt = 9 by decide, show (10 : Int32).toInt = 10 by decide]
  omega
theorem Q_plain (hN : 1400 < N) (h6 : N / 16 = 100) (hT : tkT t tk) (hi : i ≤ 10) {must : Int32} (hm : must = 0 ∨ must = 1) (h0 : G.2.1 = []) (hg : GM G S) (hW : WH S) (h : RQ t tk i s S) : match fPlain tk i g must G s with
    | .inl (s1, p) => ∃ S1, rQ_part_59 rc N g must S = some ((), S1) ∧ RQ t tk i s1 S1 ∧ GM (gAdd G p) S1 ∧ WH S1
    | .inr (some q) => ∃ S1, rQ_part_59 rc N g must S = some ((), S1) ∧ QF (pl tk q) S1 ∧ WH S1
    | .inr none => True := by
  unfold rQ_part_59 fPlain
  rw [kind_G hN hT h, zbs]
  by_cases hk : isKd (kd tk s.1)
  · have hkk := kinds hk
    have hne : kd tk s.1 - 206 ≠ -9 := by
      rcases hkk with e | e | e | e | e | e | e | e | e | e | e <;> rw [e] <;> decide
    have tlF : ∀ (n q : Nat) (S3 : zS), n < 20 → QF q S3 → WH S3 → ∃ S4, (if zok (zA S3 16) (Int32.ofNat n) then (if zok (zA S3 17) (Int32.ofNat n) then (if zok (zA S3 18) (Int32.ofNat n) ∧ (must = 0 ∨ must = 1) then (zb (rQ_bounds N (Int32.ofNat n) (kd tk s.1 - 206) (zsA (zsA (zsA S3 16 (zs (zA S3 16) (Int32.ofNat n) (kd tk s.1 - 206))) 17 (zs (zA S3 17) (Int32.ofNat n) g)) 18 (zs (zA S3 18) (Int32.ofNat n) must))) fun _ S17 => (zb (rQ_when N (Int32.ofNat n) S17) fun _ S20 => (zb (rQ_sign N 59 S20) fun _ S23 => some ((), S23)))) else none) else none) else none) = some ((), S4) ∧ QF q S4 ∧ WH S4 := by
      intro n q S3 hn hq hw
      obtain ⟨z1, z2, z3, z4, z5, z6, z7⟩ := setH16 (t := []) (tk := []) (G := ([], [], [], 0, 0)) (x := kd tk s.1 - 206) hn hw
      obtain ⟨y1, y2, y3, y4, y5, y6, y7⟩ := setH17 (t := []) (tk := []) (G := ([], [], [], 0, 0)) (x := g) hn z2
      obtain ⟨x1, x2, x3, x4, x5, x6, x7⟩ := setH18 (t := []) (tk := []) (G := ([], [], [], 0, 0)) (x := must) hn y2
      obtain ⟨S5, b1, b2, b3⟩ := bounds_F (N := N) hn (x3 _ (y3 _ (z3 _ hq))) x2 hkk
      rw [if_pos z1, if_pos (show zok (zA S3 17) (Int32.ofNat n) from y1), if_pos ⟨(show zok (zA S3 18) (Int32.ofNat n) from x1), hm⟩]
      rw [show rQ_bounds N (Int32.ofNat n) (kd tk s.1 - 206) (zsA (zsA (zsA S3 16 (zs (zA S3 16) (Int32.ofNat n) (kd tk s.1 - 206))) 17 (zs (zA S3 17) (Int32.ofNat n) g)) 18 (zs (zA S3 18) (Int32.ofNat n) must)) = _ from b1, zbs, whenFQ b2, zbs, sign_F b2, zbs]
      exact ⟨S5, rfl, b2, b3⟩
    rw [if_pos (show 206 ≤ (kd tk s.1).toInt ∧ (kd tk s.1).toInt ≤ 216 from hk), if_pos hk, if_pos hne]
    have hk2 : kd tk s.1 ≠ 0 ∧ kd tk s.1 ≠ 1 := by
      refine ⟨fun hh => ?_, fun hh => ?_⟩
      · rw [hh] at hk; exact absurd hk (by decide)
      · rw [hh] at hk; exact absurd hk (by decide)
    obtain ⟨S0, m1, m2, m3⟩ := next_Q hN hT h hk2.1 hk2.2
    rw [m1, zbs]
    have hP := Q_fresh (N := N) hN hT (GMn.eqY m3 hg) (WH.eqY m3 hW) m2
    rcases hp1 : fNew tk G (G.1.length < 20) (sNx s) with ⟨s1, nm⟩ | _ | q
    · rw [hp1] at hP
      obtain ⟨S1, q1, q2, q3, q4, h20, a, b, c, q5⟩ := hP
      rw [q1, zbs]
      obtain ⟨z1, z2, z3, z4, z5, z6, z7⟩ := setH16 (t := t) (tk := tk) (G := G) (x := kd tk s.1 - 206) h20 q3
      obtain ⟨y1, y2, y3, y4, y5, y6, y7⟩ := setH17 (t := t) (tk := tk) (G := G) (x := g) h20 z2
      obtain ⟨x1, x2, x3, x4, x5, x6, x7⟩ := setH18 (t := t) (tk := tk) (G := G) (x := must) h20 y2
      rw [if_pos z1, if_pos (show zok (zA S1 17) (Int32.ofNat G.1.length) from y1), if_pos ⟨(show zok (zA S1 18) (Int32.ofNat G.1.length) from x1), hm⟩]
      have hst : ST t tk G nm (kd tk s.1 - 206) g must i s1 (zsA (zsA (zsA S1 16 (zs (zA S1 16) (Int32.ofNat G.1.length) (kd tk s.1 - 206))) 17 (zs (zA S1 17) (Int32.ofNat G.1.length) g)) 18 (zs (zA S1 18) (Int32.ofNat G.1.length) must)) 0 0 0 := ⟨x4 _ _ (y4 _ _ (z4 _ _ q2)), x2, x5 _ rfl (y5 _ rfl (z5 _ rfl q4)), x6 _ _ _ _ _ _ _ _ (y6 _ _ _ _ _ _ _ _ (z6 _ _ _ _ _ _ _ _ q5))⟩
      have hB := Q_bounds (N := N) hN hT h20 hst hkk
      show match pb (fBounds tk (kd tk s.1 - 206) s1) fun s2 b => pb (fWhen tk i s2) fun s3 w => pb (pWant tk 59 s3) fun s4 _ => (.inl (s4, nm, kd tk s.1 - 206, g, must, b.1, b.2.1, b.2.2, w.1, w.2) : zF (Int64 × yPt)) with
        | .inl (s1, p) => _
        | .inr (some q) => _
        | .inr none => True
      rcases hp2 : fBounds tk (kd tk s.1 - 206) s1 with ⟨s2, b⟩ | _ | q
      · rw [hp2] at hB
        obtain ⟨S2, v19, v20, v21, b1, ⟨b2, b3, b4, b5⟩, b6⟩ := hB
        rw [b1, zbs]
        have hw := Q_when (N := N) hN h6 hT hi h20 h0 b2 b3 b4 b5
        show match pb (fWhen tk i s2) fun s3 w => pb (pWant tk 59 s3) fun s4 _ => (.inl (s4, nm, kd tk s.1 - 206, g, must, b.1, b.2.1, b.2.2, w.1, w.2) : zF (Int64 × yPt)) with
          | .inl (s1, p) => _
          | .inr (some q) => _
          | .inr none => True
        rcases hp3 : fWhen tk i s2 with ⟨s3, w⟩ | _ | q
        · rw [hp3] at hw
          obtain ⟨S4, e1, e2, e3, e4, e5⟩ := hw
          rw [e1, zbs]
          have hwt := Q_sign (N := N) (c := 59) hN hT (by decide) e2
          show match pb (pWant tk 59 s3) fun s4 _ => (.inl (s4, nm, kd tk s.1 - 206, g, must, b.1, b.2.1, b.2.2, w.1, w.2) : zF (Int64 × yPt)) with
            | .inl (s1, p) => _
            | .inr (some q) => _
            | .inr none => True
          rcases hp4 : pWant tk 59 s3 with ⟨s4, _⟩ | _ | q
          · rw [hp4] at hwt
            obtain ⟨_, S5, f1, f2, f3, _⟩ := hwt
            rw [f1, zbs]
            exact ⟨S5, rfl, f2, GMn.add (GMn.eqY f3 e4) (AT.eqY f3 e5) (fun hh0 hh10 _ => b6 hh0 hh10), WH.eqY f3 e3⟩
          · trivial
          · rw [hp4] at hwt
            obtain ⟨_, S5, f1, f2, f3, _⟩ := hwt
            rw [f1, zbs]
            exact ⟨S5, rfl, f2, WH.eqY f3 e3⟩
        · trivial
        · rw [hp3] at hw
          obtain ⟨S4, e1, e2, e3⟩ := hw
          rw [e1, zbs, sign_F e2, zbs]
          exact ⟨S4, rfl, e2, e3⟩
      · trivial
      · rw [hp2] at hB
        obtain ⟨S2, b1, b2, b3⟩ := hB
        rw [b1, zbs, whenFQ b2, zbs, sign_F b2, zbs]
        exact ⟨S2, rfl, b2, b3⟩
    · trivial
    · rw [hp1] at hP
      obtain ⟨S1, q1, q2, q3⟩ := hP
      rw [q1, zbs]
      exact tlF 0 _ S1 (by omega) q2 q3
  · obtain ⟨S', n1, n2, n3⟩ := wrong_Q (N := N) hT h
    rw [if_neg (show ¬ (206 ≤ (kd tk s.1).toInt ∧ (kd tk s.1).toInt ≤ 216) from hk), if_neg hk, if_neg (nn rfl), n1, zbs]
    exact ⟨S', rfl, n2, WH.eqY n3 hW⟩
end RPARTS2
