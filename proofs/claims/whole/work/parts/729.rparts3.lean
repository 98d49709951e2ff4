/-! THE REFERENCE READS FORMS: groups, rules -/
section RPARTS3
variable {N : Nat} {t : List Int32} {tk : List zK} {i : Nat} {s : zP} {S : zS} {G : zG} {g : Int32} {rc : Int32 → zS → Option (Unit × zS)}
theorem part11_F {q : Nat} (hrc : ∀ x S2, QF q S2 → rc x S2 = some ((), S2)) (h : QF q S) (hW : WH S) : ∃ S1, rQ_part_11 rc N g S = some ((), S1) ∧ QF q S1 ∧ WH S1 := by
  obtain ⟨z1, z2, z3, z4, z5, z6, z7⟩ := setH16 (t := []) (tk := []) (G := ([], [], [], 0, 0)) (n := 0) (x := 11) (by omega) hW
  obtain ⟨y1, y2, y3, y4, y5, y6, y7⟩ := setH17 (t := []) (tk := []) (G := ([], [], [], 0, 0)) (n := 0) (x := g) (by omega) z2
  obtain ⟨x1, x2, x3, x4, x5, x6, x7⟩ := setH18 (t := []) (tk := []) (G := ([], [], [], 0, 0)) (n := 0) (x := 0) (by omega) y2
  have hq := x3 _ (y3 _ (z3 _ h))
  rw [rQ_part_11, fresh_F h, zbs, if_pos (show zok (zA S 16) 0 from z1), if_pos (show zok (zA S 17) 0 from y1), if_pos (show zok (zA S 18) 0 from x1)]
  generalize hS3 : (zsA (zsA (zsA S 16 (zs (zA S 16) 0 11)) 17 (zs (zA S 17) 0 g)) 18 (zs (zA S 18) 0 0)) = S3
  have hq3 : QF q S3 := by rw [← hS3]; exact hq
  have hw3 : WH S3 := by rw [← hS3]; exact x2
  rw [whenFQ hq3, zbs, sign_F hq3, zbs, hrc _ _ hq3, zbs, sign_F hq3, zbs]
  exact ⟨_, rfl, (shallow_F hq3).1, hw3⟩
theorem Q_group (hN : 1400 < N) (h6 : N / 16 = 100) (hT : tkT t tk) (hi : i ≤ 10) (hrc : ∀ q x S2, QF q S2 → rc x S2 = some ((), S2)) (h0 : G.2.1 = []) (hk : kd tk s.1 = 205) (hg : GM G S) (hW : WH S) (h : RQ t tk i s S) : match fGroup tk i g G s with
    | .inl (s1, p) => ∃ S1, rQ_part rc N g S = (zb (rc (Int32.ofNat G.1.length) S1) fun _ S47 => (zb (rQ_sign N 125 S47) fun _ S50 => some ((), (zsI S50 7 ((zI S50 7) - 1))))) ∧ RQ t tk (i + 1) s1 S1 ∧ GM (gAdd G p) S1 ∧ WH S1
    | .inr (some q) => ∃ S1, rQ_part rc N g S = some ((), S1) ∧ QF (pl tk q) S1 ∧ WH S1
    | .inr none => True := by
  rw [rQ_part, isWord_G (j := 5) hN hT rfl h, zbs, if_pos (show kd tk s.1 = Int32.ofNat (200 + 5) from hk), if_neg i10]
  unfold fGroup
  have hD := Q_deeper (N := N) hT hi h
  rcases hp0 : pEnter i s with ⟨s0, _⟩ | _ | q
  · rw [hp0] at hD
    obtain ⟨hi10, rfl⟩ := pEnter_inl hp0
    obtain ⟨_, SA, z1, z2, z3, _⟩ := hD
    obtain ⟨SB, m1, m2, m3⟩ := next_Q hN hT z2 (by rw [hk]; decide) (by rw [hk]; decide)
    rw [z1, zbs, good_G z2, zbs, if_neg i10, m1, zbs]
    have e := z3.trans m3
    have hP := Q_fresh (N := N) hN hT (GMn.eqY e hg) (WH.eqY e hW) m2
    unfold rQ_part_11
    show match pb (fNew tk G (G.1.length < 20) (sNx s0)) fun s1 nm => pb (fWhen tk (i + 1) s1) fun s3 w => pb (pWant tk 123 s3) fun s4 _ => (.inl (s4, nm, 11, g, 0, 0, 0, 0, w.1, w.2) : zF (Int64 × yPt)) with
      | .inl (s1, p) => _
      | .inr (some q) => _
      | .inr none => True
    rcases hp1 : fNew tk G (G.1.length < 20) (sNx s0) with ⟨s1, nm⟩ | _ | q
    · rw [hp1] at hP
      obtain ⟨S1, q1, q2, q3, q4, h20, a, b, c, q5⟩ := hP
      rw [q1, zbs]
      obtain ⟨z1, z2, z3, z4, z5, z6, z7⟩ := setH16 (t := t) (tk := tk) (G := G) (x := 11) h20 q3
      obtain ⟨y1, y2, y3, y4, y5, y6, y7⟩ := setH17 (t := t) (tk := tk) (G := G) (x := g) h20 z2
      obtain ⟨x1, x2, x3, x4, x5, x6, x7⟩ := setH18 (t := t) (tk := tk) (G := G) (x := 0) h20 y2
      rw [if_pos z1, if_pos (show zok (zA S1 17) (Int32.ofNat G.1.length) from y1), if_pos (show zok (zA S1 18) (Int32.ofNat G.1.length) from x1)]
      generalize hS3 : (zsA (zsA (zsA S1 16 (zs (zA S1 16) (Int32.ofNat G.1.length) 11)) 17 (zs (zA S1 17) (Int32.ofNat G.1.length) g)) 18 (zs (zA S1 18) (Int32.ofNat G.1.length) 0)) = S3
      have r3 : RQ t tk (i + 1) s1 S3 := by rw [← hS3]; exact x4 _ _ (y4 _ _ (z4 _ _ q2))
      have w3 : WH S3 := by rw [← hS3]; exact x2
      have g3 : GMn G (G.1.length + 1) S3 := by rw [← hS3]; exact x5 _ rfl (y5 _ rfl (z5 _ rfl q4))
      have a3 : AT nm 11 g 0 0 0 0 (-9) G.1.length S3 := by rw [← hS3]; exact x6 _ _ _ _ _ _ _ _ (y6 _ _ _ _ _ _ _ _ (z6 _ _ _ _ _ _ _ _ q5))
      have hw := Q_when (N := N) (i := i + 1) hN h6 hT (by omega) h20 h0 r3 w3 g3 a3
      show match pb (fWhen tk (i + 1) s1) fun s3 w => pb (pWant tk 123 s3) fun s4 _ => (.inl (s4, nm, 11, g, 0, 0, 0, 0, w.1, w.2) : zF (Int64 × yPt)) with
        | .inl (s1, p) => _
        | .inr (some q) => _
        | .inr none => True
      rcases hp3 : fWhen tk (i + 1) s1 with ⟨s3, w⟩ | _ | q
      · rw [hp3] at hw
        obtain ⟨S4, e1, e2, e3, e4, e5⟩ := hw
        rw [e1, zbs]
        have hwt := Q_sign (N := N) (c := 123) hN hT (by decide) e2
        show match pb (pWant tk 123 s3) fun s4 _ => (.inl (s4, nm, 11, g, 0, 0, 0, 0, w.1, w.2) : zF (Int64 × yPt)) with
          | .inl (s1, p) => _
          | .inr (some q) => _
          | .inr none => True
        rcases hp4 : pWant tk 123 s3 with ⟨s4, _⟩ | _ | q
        · rw [hp4] at hwt
          obtain ⟨_, S5, f1, f2, f3, _⟩ := hwt
          rw [f1, zbs]
          exact ⟨S5, rfl, f2, GMn.add (GMn.eqY f3 e4) (AT.eqY f3 e5) (fun _ _ h11 => absurd rfl h11), WH.eqY f3 e3⟩
        · trivial
        · rw [hp4] at hwt
          obtain ⟨_, S5, f1, f2, f3, _⟩ := hwt
          rw [f1, zbs, hrc _ _ _ f2, zbs, sign_F f2, zbs]
          have w5 := WH.eqY f3 e3
          exact ⟨_, rfl, (shallow_F f2).1, w5⟩
      · trivial
      · rw [hp3] at hw
        obtain ⟨S4, e1, e2, e3⟩ := hw
        rw [e1, zbs, sign_F e2, zbs, hrc _ _ _ e2, zbs, sign_F e2, zbs]
        exact ⟨_, rfl, (shallow_F e2).1, e3⟩
    · trivial
    · rw [hp1] at hP
      obtain ⟨S1, q1, q2, q3⟩ := hP
      obtain ⟨S2, k1, k2, k3⟩ := part11_F (N := N) (g := g) (fun x S2 => hrc _ x S2) q2 q3
      rw [rQ_part_11, fresh_F q2, zbs] at k1
      rw [q1, zbs]
      exact ⟨S2, k1, k2, k3⟩
  · trivial
  · rw [hp0] at hD
    obtain ⟨_, SA, z1, z2, z3, _⟩ := hD
    rw [z1, zbs, good_F z2, zbs, if_pos rfl]
    exact part11_F (fun x S2 => hrc _ x S2) z2 (WH.eqY z3 hW)
theorem parts0_F {n : Nat} {q : Nat} (hn : 0 < n) (h : QF q S) : rQ_parts_0 rc N n g S = some ((), S) := by
  obtain ⟨n, rfl⟩ : ∃ k, n = k + 1 := ⟨n - 1, by omega⟩
  rw [rQ_parts_0, good_F h, zbs, if_pos rfl]
theorem pfix_F {n : Nat} (hn : 0 < n) (q : Nat) (x : Int32) (S2 : zS) (h : QF q S2) : rQ_pfix N n x S2 = some ((), S2) := by
  obtain ⟨n, rfl⟩ : ∃ k, n = k + 1 := ⟨n - 1, by omega⟩
  show rQ_parts (rQ_pfix N n) N x S2 = _
  rw [rQ_parts, good_F h, zbs, if_pos rfl]
theorem isKind_G (hN : 1400 < N) (hT : tkT t tk) (h : RQ t tk i s S) : rQ_isKind N S = some (if isKd (kd tk s.1) then 1 else 0, S) := by
  rw [rQ_isKind, kind_G hN hT h, zbs]
  by_cases hk : isKd (kd tk s.1)
  · have hkk := kinds hk
    have hne : kd tk s.1 - 206 ≠ -9 := by
      rcases hkk with e | e | e | e | e | e | e | e | e | e | e <;> rw [e] <;> decide
    rw [if_pos hk, if_neg hne, if_pos hk]
  · rw [if_neg hk, if_pos rfl, if_neg hk]
/-- one turn of the loop over parts -/
theorem parts0_G (hN : 1400 < N) (hT : tkT t tk) {n : Nat} (h : RQ t tk i s S) : rQ_parts_0 rc N (n + 1) g S = if isPt (kd tk s.1) then (zb (rQ_part rc N g S) fun _ S17 => rQ_parts_0 rc N n g S17) else some ((), S) := by
  rw [rQ_parts_0, good_G h, zbs, if_neg i10, isWord_G (j := 3) hN hT rfl h, zbs, isWord_G (j := 5) hN hT rfl h, zbs, isKind_G hN hT h, zbs]
  by_cases h3 : kd tk s.1 = 203
  · rw [if_pos (show kd tk s.1 = Int32.ofNat (200 + 3) from h3), if_pos i11, if_pos (show isPt (kd tk s.1) from Or.inl h3)]
  · rw [if_neg (show ¬ kd tk s.1 = Int32.ofNat (200 + 3) from h3), if_neg i00]
    by_cases h5 : kd tk s.1 = 205
    · rw [if_pos (show kd tk s.1 = Int32.ofNat (200 + 5) from h5), if_pos i11, if_pos (show isPt (kd tk s.1) from Or.inr (Or.inl h5))]
    · rw [if_neg (show ¬ kd tk s.1 = Int32.ofNat (200 + 5) from h5), if_neg i00]
      by_cases hk : isKd (kd tk s.1)
      · rw [if_pos hk, if_neg i10, if_pos (show isPt (kd tk s.1) from Or.inr (Or.inr hk))]
      · rw [if_neg hk, if_pos rfl, if_neg (show ¬ isPt (kd tk s.1) by rintro (hh | hh | hh); exact h3 hh; exact h5 hh; exact hk hh)]
theorem Q_parts (hN : 1400 < N) (h6 : N / 16 = 100) (hT : tkT t tk) : ∀ (m i : Nat) (g : Int32) (G : zG) (s : zP) (S : zS) (n f : Nat), i ≤ 10 → G.2.1 = [] → 11 ≤ n + i → m < f → m ≤ N → GM G S → WH S → RQ t tk i s S → match fParts tk m i g G s with
    | .inl (G', s', _) => ∃ S', rQ_parts_0 (rQ_pfix N n) N f g S = some ((), S') ∧ RQ t tk i s' S' ∧ GM G' S' ∧ WH S' ∧ G'.2 = G.2
    | .inr (some q) => ∃ S', rQ_parts_0 (rQ_pfix N n) N f g S = some ((), S') ∧ QF (pl tk q) S' ∧ WH S'
    | .inr none => True
  | 0, _, _, _, _, _, _, _, _, _, _, _, _, _, _, _ => trivial
  | m + 1, i, g, G, s, S, n, f, hi, h0, hn, hf, hm, hg, hW, h => by
    obtain ⟨f, rfl⟩ : ∃ k, f = k + 1 := ⟨f - 1, by omega⟩
    have hrc : ∀ (q : Nat) (x : Int32) (S2 : zS), QF q S2 → rQ_pfix N n x S2 = some ((), S2) := fun q x S2 hq => pfix_F (by omega) q x S2 hq
    rw [parts0_G hN hT h, fParts]
    by_cases k5 : kd tk s.1 = 205
    · rw [if_pos k5, if_pos (show isPt (kd tk s.1) from Or.inr (Or.inl k5))]
      have hG := Q_group (N := N) (g := g) (rc := rQ_pfix N n) hN h6 hT hi hrc h0 k5 hg hW h
      rcases hp : fGroup tk i g G s with ⟨s1, p⟩ | _ | q
      · rw [hp] at hG
        obtain ⟨hi10, hpg⟩ := fGroup_inl hp
        obtain ⟨S1, q1, q2, q3, q4⟩ := hG
        rw [q1]
        obtain ⟨n, rfl⟩ : ∃ k, n = k + 1 := ⟨n - 1, by omega⟩
        have ih := Q_parts hN h6 hT m (i + 1) (Int32.ofNat G.1.length) (gAdd G p) s1 S1 n (N + 1) (by omega) h0 (by omega) (by omega) (by omega) q3 q4 q2
        have hrw : rQ_pfix N (n + 1) (Int32.ofNat G.1.length) S1 = rQ_parts_0 (rQ_pfix N n) N (N + 1) (Int32.ofNat G.1.length) S1 := rfl
        rw [← hrw] at ih
        show match pb2 (fParts tk m (i + 1) (Int32.ofNat G.1.length) (gAdd G p) s1) fun G2 s2 _ => pu (pWant tk 125 s2) fun s3 _ => fParts tk m i g G2 s3 with
          | .inl (G', s', _) => _
          | .inr (some q) => _
          | .inr none => True
        rcases hp2 : fParts tk m (i + 1) (Int32.ofNat G.1.length) (gAdd G p) s1 with ⟨G2, s2, _⟩ | _ | q
        · rw [hp2] at ih
          obtain ⟨S2, w1, w2, w3, w4, w5⟩ := ih
          rw [w1, zbs]
          have hwt := Q_sign (N := N) (c := 125) hN hT (by decide) w2
          show match pu (pWant tk 125 s2) fun s3 _ => fParts tk m i g G2 s3 with
            | .inl (G', s', _) => _
            | .inr (some q) => _
            | .inr none => True
          rcases hp4 : pWant tk 125 s2 with ⟨s4, _⟩ | _ | q
          · rw [hp4] at hwt
            obtain ⟨_, S5, f1, f2, f3, _⟩ := hwt
            obtain ⟨sh1, sh2⟩ := shallow_Q hi f2
            rw [f1, zbs, zbs]
            show match fParts tk m i g G2 s4 with
              | .inl (G', s', _) => _
              | .inr (some q) => _
              | .inr none => True
            have ih2 := Q_parts hN h6 hT m i g G2 s4 (zsI S5 7 (zI S5 7 - 1)) (n + 1) f hi (by rw [w5]; exact h0) (by omega) (by omega) (by omega) (GMn.eqY sh2 (GMn.eqY f3 w3)) (WH.eqY sh2 (WH.eqY f3 w4)) sh1
            rcases hp3 : fParts tk m i g G2 s4 with ⟨G3, s3, _⟩ | _ | q
            · rw [hp3] at ih2
              obtain ⟨S3, y1, y2, y3, y4, y5⟩ := ih2
              exact ⟨S3, y1, y2, y3, y4, by rw [y5, w5]; rfl⟩
            · trivial
            · rw [hp3] at ih2
              exact ih2
          · trivial
          · rw [hp4] at hwt
            obtain ⟨_, S5, f1, f2, f3, _⟩ := hwt
            have w6 : WH S5 := WH.eqY f3 w4
            rw [f1, zbs, zbs, parts0_F (by omega) (shallow_F f2).1]
            exact ⟨_, rfl, (shallow_F f2).1, w6⟩
        · trivial
        · rw [hp2] at ih
          obtain ⟨S2, w1, w2, w3⟩ := ih
          rw [w1, zbs, sign_F w2, zbs, zbs, parts0_F (by omega) (shallow_F w2).1]
          exact ⟨_, rfl, (shallow_F w2).1, w3⟩
      · trivial
      · rw [hp] at hG
        obtain ⟨S1, q1, q2, q3⟩ := hG
        rw [q1, zbs, parts0_F (by omega) q2]
        exact ⟨S1, rfl, q2, q3⟩
    · rw [if_neg k5]
      have fin : ∀ (must : Int32) (s1 : zP) (S1 : zS), must = 0 ∨ must = 1 → GM G S1 → WH S1 → RQ t tk i s1 S1 → match pu (fPlain tk i g must G s1) fun s1 p => fParts tk m i g (gAdd G p) s1 with
          | .inl (G', s', _) => ∃ S', (zb (rQ_part_59 (rQ_pfix N n) N g must S1) fun _ S17 => rQ_parts_0 (rQ_pfix N n) N f g S17) = some ((), S') ∧ RQ t tk i s' S' ∧ GM G' S' ∧ WH S' ∧ G'.2 = G.2
          | .inr (some q) => ∃ S', (zb (rQ_part_59 (rQ_pfix N n) N g must S1) fun _ S17 => rQ_parts_0 (rQ_pfix N n) N f g S17) = some ((), S') ∧ QF (pl tk q) S' ∧ WH S'
          | .inr none => True := by
        intro must s1 S1 hmu hg1 hW1 h1
        have hG := Q_plain (N := N) (g := g) (must := must) (rc := rQ_pfix N n) hN h6 hT hi hmu h0 hg1 hW1 h1
        rcases hp : fPlain tk i g must G s1 with ⟨s2, p⟩ | _ | q
        · rw [hp] at hG
          obtain ⟨S2, q1, q2, q3, q4⟩ := hG
          rw [q1, zbs]
          show match fParts tk m i g (gAdd G p) s2 with
            | .inl (G', s', _) => _
            | .inr (some q) => _
            | .inr none => True
          have ih := Q_parts hN h6 hT m i g (gAdd G p) s2 S2 n f hi h0 (by omega) (by omega) (by omega) q3 q4 q2
          rcases hp2 : fParts tk m i g (gAdd G p) s2 with ⟨G3, s3, _⟩ | _ | q
          · rw [hp2] at ih
            obtain ⟨S3, y1, y2, y3, y4, y5⟩ := ih
            exact ⟨S3, y1, y2, y3, y4, by rw [y5]; rfl⟩
          · trivial
          · rw [hp2] at ih
            exact ih
        · trivial
        · rw [hp] at hG
          obtain ⟨S2, q1, q2, q3⟩ := hG
          rw [q1, zbs, parts0_F (by omega) q2]
          exact ⟨S2, rfl, q2, q3⟩
      have hpart : rQ_part (rQ_pfix N n) N g S = (zb (rS_isWord zs_12 N S) fun x4 S5 => (if x4 = (0 : Int32) then rQ_part_59 (rQ_pfix N n) N g x4 S5 else (zb (rQ_next N  S5) fun _ S29 => rQ_part_59 (rQ_pfix N n) N g x4 S29))) := by
        rw [rQ_part, isWord_G (j := 5) hN hT rfl h, zbs, if_neg (show ¬ kd tk s.1 = Int32.ofNat (200 + 5) from k5), if_pos rfl]
      by_cases k3 : kd tk s.1 = 203
      · obtain ⟨S2, m1, m2, m3⟩ := next_Q hN hT h (by rw [k3]; decide) (by rw [k3]; decide)
        rw [if_pos k3, if_pos (show isPt (kd tk s.1) from Or.inl k3), hpart, isWord_G (j := 3) hN hT rfl h, zbs, if_pos (show kd tk s.1 = Int32.ofNat (200 + 3) from k3), if_neg i10, m1, zbs]
        exact fin 1 (sNx s) S2 (Or.inr rfl) (GMn.eqY m3 hg) (WH.eqY m3 hW) m2
      · rw [if_neg k3]
        by_cases hkd : isKd (kd tk s.1)
        · rw [if_pos (show 206 ≤ (kd tk s.1).toInt ∧ (kd tk s.1).toInt ≤ 216 from hkd), if_pos (show isPt (kd tk s.1) from Or.inr (Or.inr hkd)), hpart, isWord_G (j := 3) hN hT rfl h, zbs, if_neg (show ¬ kd tk s.1 = Int32.ofNat (200 + 3) from k3), if_pos rfl]
          exact fin 0 s S (Or.inl rfl) hg hW h
        · rw [if_neg (show ¬ (206 ≤ (kd tk s.1).toInt ∧ (kd tk s.1).toInt ≤ 216) from hkd), if_neg (show ¬ isPt (kd tk s.1) by rintro (hh | hh | hh); exact k3 hh; exact k5 hh; exact hkd hh)]
          exact ⟨S, rfl, h, hg, hW, rfl⟩
end RPARTS3
