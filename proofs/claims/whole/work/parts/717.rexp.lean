/-! THE REFERENCE READS EXPS -/
theorem i10 : ¬ (1 : Int32) = 0 := by decide
theorem i00 : ¬ (0 : Int32) ≠ 0 := by decide
theorem i11 : (1 : Int32) ≠ 0 := by decide
section REXP
variable {N : Nat} {t : List Int32} {tk : List zK} {fg : Nat} {i : Nat} {rl : Nat → Nat → zP → zF Nat} {ro : Nat → zP → zF Nat} {r1 r2 : zS → Option (Int32 × zS)} {s : zP} {S : zS}
theorem refer8_F {n a : Int32} {p : Nat} (h : QF p S) : ∃ S', rQ_refer_8 N n a S = some ((), S') ∧ QF p S' ∧ eqY S S' := by
  obtain ⟨S1, q1, q2, q3⟩ := counts_F (N := N) h
  rw [rQ_refer_8, q1, zbs, good_F q2, zbs, if_pos rfl]
  exact ⟨S1, rfl, q2, q3⟩
theorem Q_refer (hN : 1400 < N) (hT : tkT t tk) {n told : Nat} {al : Int32} (hal : (al = 0 ∧ told = 0) ∨ (al = 1 ∧ told = fg)) (h : RQ t tk i s S) (hg : zI S 23 = Int32.ofNat fg) : Rq t tk i S TT T1 (pb (sNo s) fun s _ => pUse tk told n s) (rQ_refer N (Int32.ofNat n) al S) := by
  rw [rQ_refer, good_G h, zbs, if_neg i10, isName_G hN hT h, zbs]
  by_cases hk : kd tk s.1 = 3
  · rw [if_pos hk, if_pos i11, rQ_refer_8]
    refine Rq.bind (Q_counts hT h) ?_ ?_
    · intro s1 _ _ S1 hp1 h1 x1 _
      have hs1 : s1.1 = s.1 := by obtain ⟨_, rfl⟩ := sNo_inl hp1; rfl
      have hk1 : kd tk s1.1 = 3 := by rw [hs1]; exact hk
      obtain ⟨τ, g1, g2, g3, g4, g5⟩ := h1.kdp hT
      obtain ⟨v, hv1, hv2⟩ := rQ_name_ok (N := N) hN h1.2.2.1 g4 (by rw [← g2]; exact hk1)
      have hva : va tk s1.1 = v := by
        obtain ⟨⟨_, _, _, c4, _⟩, _⟩ := hT _ _ g1
        rw [va, g1]; show (τ.2.2.2).getD 0 = v; rw [c4, hv1]; rfl
      rw [good_G h1, zbs, if_neg i10, hv2, zbs, pUse, if_pos hk1]
      unfold sUs
      split
      · rename_i hlt
        obtain ⟨⟨a1, ⟨a5, a6, a7, a8⟩, a9⟩, r2, r3, r4, r5, r6, r7, ⟨r8, r8', r8''⟩⟩ := h1
        have g23 : zI S1 23 = Int32.ofNat fg := x1.fg hg
        rw [r8, if_pos (zok_nat (by omega) (by omega)), if_pos (zok_nat (by omega) (by omega)), if_pos (zok_nat (by omega) (by omega)), g4.2.1, g23, yi_add1, zs_nat (by omega), zs_nat (by omega), zs_nat (by omega), zs_nat (by omega), zs_nat (by omega)]
        have key : ∀ tv : Int32, tv = Int32.ofNat told → RQ t tk i (s1.1, s1.2.1, s1.2.2.1, s1.2.2.2.1, s1.2.2.2.2 ++ [(pl tk s1.1, va tk s1.1, told, none, n)]) (zsI (zsA (zsA (zsA (zsB S1 10 ((zB S1 10).set s1.2.2.2.2.length v)) 11 ((zA S1 11).set s1.2.2.2.2.length (Int32.ofNat τ.2.1))) 12 ((zA S1 12).set s1.2.2.2.2.length (Int32.ofNat n))) 13 ((zA S1 13).set s1.2.2.2.2.length tv)) 9 (Int32.ofNat (s1.2.2.2.2.length + 1))) ∧ eqY S1 (zsI (zsA (zsA (zsA (zsB S1 10 ((zB S1 10).set s1.2.2.2.2.length v)) 11 ((zA S1 11).set s1.2.2.2.2.length (Int32.ofNat τ.2.1))) 12 ((zA S1 12).set s1.2.2.2.2.length (Int32.ofNat n))) 13 ((zA S1 13).set s1.2.2.2.2.length tv)) 9 (Int32.ofNat (s1.2.2.2.2.length + 1))) := by
          intro tv htv
          have e : eqY S1 (zsI (zsA (zsA (zsA (zsB S1 10 ((zB S1 10).set s1.2.2.2.2.length v)) 11 ((zA S1 11).set s1.2.2.2.2.length (Int32.ofNat τ.2.1))) 12 ((zA S1 12).set s1.2.2.2.2.length (Int32.ofNat n))) 13 ((zA S1 13).set s1.2.2.2.2.length tv)) 9 (Int32.ofNat (s1.2.2.2.2.length + 1))) := ⟨fun j _ _ _ _ _ _ h9 _ _ => by rw [zi_I, if_neg h9]; rfl, fun j h11 h12 h13 _ _ _ => by rw [za_I, za_A, if_neg h13, za_A, if_neg h12, za_A, if_neg h11, za_B], fun j h10 _ => by rw [zb_I, zb_A, zb_A, zb_A, zb_B, if_neg h10]⟩
          refine ⟨⟨⟨a1, ⟨?_, ?_, ?_, ?_⟩, a9⟩, r2, e.tape r3, r4, r5, r6, r7, ⟨?_, ?_, ?_⟩⟩, e⟩
          · show ((zB S1 10).set _ _).length = 252; rw [List.length_set, a5]
          · show ((zA S1 11).set _ _).length = 252; rw [List.length_set, a6]
          · show ((zA S1 12).set _ _).length = 252; rw [List.length_set, a7]
          · show ((zA S1 13).set _ _).length = 252; rw [List.length_set, a8]
          · show _ = Int32.ofNat (s1.2.2.2.2 ++ [_]).length; rw [List.length_append]; rfl
          · show (s1.2.2.2.2 ++ [_]).length ≤ 250; rw [List.length_append]; simp; omega
          · intro j u hu
            have hu : (s1.2.2.2.2 ++ [(pl tk s1.1, va tk s1.1, told, none, n)])[j]? = some u := hu
            show ((zB S1 10).set _ _)[j]? = _ ∧ ((zA S1 11).set _ _)[j]? = _ ∧ ((zA S1 12).set _ _)[j]? = _ ∧ ((zA S1 13).set _ _)[j]? = _
            by_cases hj : j < s1.2.2.2.2.length
            · rw [List.getElem?_append_left hj] at hu
              rw [List.getElem?_set_ne (by omega), List.getElem?_set_ne (by omega), List.getElem?_set_ne (by omega), List.getElem?_set_ne (by omega)]
              exact r8'' j u hu
            · have hil := (List.getElem?_eq_some_iff.mp hu).1
              rw [List.length_append] at hil
              simp at hil
              obtain rfl : j = s1.2.2.2.2.length := by omega
              rw [List.getElem?_append_right (Nat.le_refl _), Nat.sub_self] at hu
              cases hu
              rw [List.getElem?_set_self (by omega), List.getElem?_set_self (by omega), List.getElem?_set_self (by omega), List.getElem?_set_self (by omega)]
              exact ⟨by rw [hva], by rw [g3], rfl, by rw [htv]⟩
        rcases hal with ⟨rfl, ht⟩ | ⟨rfl, ht⟩
        · obtain ⟨k1, k2⟩ := key 0 (by rw [ht]; rfl)
          obtain ⟨S', n1, n2, n3⟩ := next_Q hN hT k1 (by show kd tk s1.1 ≠ 0; rw [hk1]; decide) (by show kd tk s1.1 ≠ 1; rw [hk1]; decide)
          rw [if_pos rfl, if_pos (zok_nat (by omega) (by omega)), n1, zbs]
          exact ⟨(), S', rfl, n2, k2.trans n3, trivial⟩
        · obtain ⟨k1, k2⟩ := key (Int32.ofNat fg) (by rw [ht])
          obtain ⟨S', n1, n2, n3⟩ := next_Q hN hT k1 (by show kd tk s1.1 ≠ 0; rw [hk1]; decide) (by show kd tk s1.1 ≠ 1; rw [hk1]; decide)
          rw [if_neg i10, if_pos (zok_nat (by omega) (by omega)), n1, zbs]
          exact ⟨(), S', rfl, n2, k2.trans n3, trivial⟩
      · trivial
    · intro _ _ q S1 hq
      rw [good_F hq, zbs, if_pos rfl]
      exact ⟨(), S1, rfl, hq, eqY.refl, trivial⟩
  · obtain ⟨S1, q1, q2, q3⟩ := wrong_Q (N := N) hT h
    obtain ⟨S2, w1, w2, w3⟩ := refer8_F (N := N) (n := Int32.ofNat n) (a := al) q2
    rw [if_neg hk, if_neg i00, q1, zbs, w1]
    have : (pb (sNo s) fun s _ => pUse tk told n s) = .inr (some s.1) := by
      unfold sNo
      split
      · show pUse tk told n _ = _
        unfold pUse
        rw [if_neg (show ¬ kd tk s.1 = 3 from hk)]
      · rfl
    rw [this]
    exact ⟨(), S2, rfl, w2, q3.trans w3, trivial⟩
theorem Q_end {d w : Int32} {u : Nat} {a : Nat} {b : Int64} {c : Nat} {o o' : Option Nat} {n n' : Nat} (hn' : n' < 300) (h : RQ t tk i s S) (hu : s.2.2.2.2[u]? = some (a, b, c, o, n)) : Rq t tk i S VN T1 (pEnd d w u (a, b, c, o', n) n' s) (some (Int32.ofNat n', S)) := by
  unfold pEnd sEm
  split
  · exact ⟨_, S, rfl, su_Q (s := (s.1, s.2.1, s.2.2.1 ++ [(d, w)], s.2.2.2)) h hu, eqY.refl, rfl, hn'⟩
  · trivial
theorem pb_assoc {α β γ : Type} {r : zF α} {f : zP → α → zF β} {g : zP → β → zF γ} : pb (pb r f) g = pb r (fun s a => pb (f s a) g) := by
  rcases r with ⟨s, a⟩ | k <;> rfl
theorem Q_named (hN : 1400 < N) (hT : tkT t tk) (hi : i ≤ 10) (hl : i < 10 → ∀ s S, RQ t tk (i + 1) s S → zI S 23 = Int32.ofNat fg → Rq t tk (i + 1) S VN T1 (rl 0 (i + 1) s) (r1 S)) (el : ExtL rl) (f1 : FQ r1) (hk : kd tk s.1 = 3) (h : RQ t tk i s S) (hg : zI S 23 = Int32.ofNat fg) : Rq t tk i S VN T1 (pNamed tk fg rl i s) (rQ_named r1 r2 N S) := by
  have shF : ∀ {q : Nat} {S1 : zS} {n : Nat}, QF q S1 → ∃ (c : Int32) (S2 : zS), (zb (rQ_sign N 93 S1) fun _ S26 => some (Int32.ofNat n, (zsI S26 7 ((zI S26 7) - 1)))) = some (c, S2) ∧ QF q S2 ∧ eqY S1 S2 ∧ T1 c := by
    intro q S1 n hq
    obtain ⟨w1, w2⟩ := shallow_F (x := zI S1 7 - 1) hq
    rw [sign_F hq, zbs]
    exact ⟨_, _, rfl, w1, w2, trivial⟩
  unfold rQ_named pNamed
  refine Rq.bind (Q_node h) ?_ ?_
  · rintro s1 n x S1 hp1 h1 x1 ⟨rfl, hn⟩
    have hs1 : s1.1 = s.1 ∧ s1.2.2.2.1[n]? = some (1, 0, 0, 0) := by
      obtain ⟨_, rfl, rfl⟩ := sNd_inl hp1
      exact ⟨rfl, by simp⟩
    have hz9 : zI S1 9 = Int32.ofNat s1.2.2.2.2.length := h1.2.2.2.2.2.2.2.1
    rw [hz9]
    have g1 := x1.fg hg
    have hb := Q_refer (N := N) (n := n) (told := fg) (al := 1) hN hT (Or.inr ⟨rfl, rfl⟩) h1 g1
    rw [show (pb (sNo s1) fun s _ => pb (pUse tk fg n s) fun s1 u => if kd tk s1.1 = 91 then pb (pBetween rl i (sSn (sSu s1 u (pl tk s.1, va tk s.1, 0, none, n)) n (3, 0, 0, 0))) fun s2 a =>
    if kd tk s2.1 = 44 then pb (rl 0 (i + 1) (sNx (sSn s2 n (3, 0, Int32.ofNat a, 0)))) fun s3 b => pb (pWant tk 93 (sSn s3 n (4, 0, Int32.ofNat a, Int64.ofNat b))) fun s4 _ => pEnd 13 0 u (pl tk s.1, va tk s.1, 0, none, n) n s4
    else pb (pWant tk 93 (sSn s2 n (3, 0, Int32.ofNat a, 0))) fun s4 _ => pEnd 12 0 u (pl tk s.1, va tk s.1, 0, none, n) n s4
  else pEnd 7 0 u (pl tk s.1, va tk s.1, fg, none, n) n s1) = pb (pb (sNo s1) fun s _ => pUse tk fg n s) fun s1' u => if kd tk s1'.1 = 91 then pb (pBetween rl i (sSn (sSu s1' u (pl tk s.1, va tk s.1, 0, none, n)) n (3, 0, 0, 0))) fun s2 a =>
    if kd tk s2.1 = 44 then pb (rl 0 (i + 1) (sNx (sSn s2 n (3, 0, Int32.ofNat a, 0)))) fun s3 b => pb (pWant tk 93 (sSn s3 n (4, 0, Int32.ofNat a, Int64.ofNat b))) fun s4 _ => pEnd 13 0 u (pl tk s.1, va tk s.1, 0, none, n) n s4
    else pb (pWant tk 93 (sSn s2 n (3, 0, Int32.ofNat a, 0))) fun s4 _ => pEnd 12 0 u (pl tk s.1, va tk s.1, 0, none, n) n s4
  else pEnd 7 0 u (pl tk s.1, va tk s.1, fg, none, n) n s1' by
      rw [pb_assoc]
      unfold sNo
      split
      · show pb (pUse tk fg n _) _ = pb (pUse tk fg n _) _
        rw [show (s1.1, s1.2.1 + 1, s1.2.2).1 = s.1 from hs1.1]
      · rfl]
    refine Rq.bind hb ?_ ?_
    · intro s3 u _ S3 hp3 h3 x3 _
      have hu3 : s3.2.2.2.2[u]? = some (pl tk s.1, va tk s.1, fg, none, n) ∧ u = s1.2.2.2.2.length ∧ s3.2.2.2.1[n]? = some (1, 0, 0, 0) := by
        obtain ⟨s2, _, q1, q2⟩ := pb_inl hp3
        obtain ⟨_, rfl⟩ := sNo_inl q1
        obtain ⟨_, _, rfl, rfl⟩ := pUse_inl q2
        refine ⟨?_, rfl, hs1.2⟩
        simp [sNx, hs1.1]
      obtain ⟨hu3, hul, hn3⟩ := hu3
      rw [good_G h3, zbs, if_neg i10, isSign_G hT (by decide) h3, zbs, ← hul]
      by_cases hb : kd tk s3.1 = 91
      · obtain ⟨z1, z2, z3⟩ := ahead_Q h3 hu3
        rw [if_pos hb, if_pos hb, if_neg i10, if_pos z1]
        refine Rq.base z3 ?_
        unfold pBetween
        rw [pb_assoc]
        have hD := Q_deeper (N := N) hT hi z2
        have hpE : pEnter i (sSn (sSu s3 u (pl tk s.1, va tk s.1, 0, none, n)) n (3, 0, 0, 0)) = if i < 10 then .inl (sSn (sSu s3 u (pl tk s.1, va tk s.1, 0, none, n)) n (3, 0, 0, 0), ()) else .inr (some s3.1) := rfl
        have hpE2 : pEnter i (sSu s3 u (pl tk s.1, va tk s.1, 0, none, n)) = if i < 10 then .inl (sSu s3 u (pl tk s.1, va tk s.1, 0, none, n), ()) else .inr (some s3.1) := rfl
        rw [hpE]
        rw [hpE2] at hD
        by_cases hi10 : i < 10
        · rw [if_pos hi10] at hD ⊢
          obtain ⟨_, S4, q1, q2, q3, _⟩ := hD
          obtain ⟨S5, w1, w2, w3⟩ := step_Q hN hT q2 (by show kd tk s3.1 ≠ 0; rw [hb]; decide) (by show kd tk s3.1 ≠ 1; rw [hb]; decide)
          have hn5 : (sNx (sSu s3 u (pl tk s.1, va tk s.1, 0, none, n))).2.2.2.1[n]? = some (1, 0, 0, 0) := hn3
          obtain ⟨y1, y2, y3⟩ := op_Q (x := 3) w2 hn5
          rw [q1, zbs, w1, zbs, if_pos y1]
          refine Rq.base ((q3.trans w3).trans y3) ?_
          have e5 := ((((x3.trans z3).trans q3).trans w3).trans y3).fg g1
          show Rq t tk i _ VN T1 (pb (rl 0 (i + 1) (sSn (sNx (sSu s3 u (pl tk s.1, va tk s.1, 0, none, n))) n (3, 0, 0, 0))) _) _
          refine Rq.bind (hl hi10 _ _ y2 e5) ?_ ?_
          · rintro s6 a xa S6 hp6 h6 x6 ⟨rfl, ha⟩
            have ex6 := el _ _ _ _ _ hp6
            have hu5 : (sSn (sNx (sSu s3 u (pl tk s.1, va tk s.1, 0, none, n))) n (3, 0, 0, 0)).2.2.2.2[u]? = some (pl tk s.1, va tk s.1, 0, none, n) := List.getElem?_set_self (List.getElem?_eq_some_iff.mp hu3).1
            have hu6 : s6.2.2.2.2[u]? = some (pl tk s.1, va tk s.1, 0, none, n) := by rw [ex6.2.2.2.1 u (List.getElem?_eq_some_iff.mp hu5).1]; exact hu5
            have hn5' : (sSn (sNx (sSu s3 u (pl tk s.1, va tk s.1, 0, none, n))) n (3, 0, 0, 0)).2.2.2.1[n]? = some (3, 0, 0, 0) := List.getElem?_set_self (List.getElem?_eq_some_iff.mp hn3).1
            have hn6 : s6.2.2.2.1[n]? = some (3, 0, 0, 0) := by rw [ex6.2.2.1 n (List.getElem?_eq_some_iff.mp hn5').1]; exact hn5'
            obtain ⟨t1, t2, t3⟩ := two_Q (x := Int32.ofNat a) h6 hn6
            rw [if_pos t1, good_G t2, zbs, if_neg i10, isSign_G hT (by decide) t2, zbs]
            refine Rq.base t3 ?_
            by_cases hc : kd tk s6.1 = 44
            · rw [if_pos hc, if_pos (show kd tk (sSn s6 n (3, 0, Int32.ofNat a, 0)).1 = 44 from hc), if_neg i10]
              obtain ⟨S7, v1, v2, v3⟩ := step_Q hN hT t2 (by show kd tk s6.1 ≠ 0; rw [hc]; decide) (by show kd tk s6.1 ≠ 1; rw [hc]; decide)
              rw [v1, zbs]
              refine Rq.base v3 (Rq.bind (hl hi10 _ _ v2 (((x6.trans t3).trans v3).fg e5)) ?_ ?_)
              · rintro s8 b xb S8 hp8 h8 x8 ⟨rfl, hb8⟩
                have ex8 := el _ _ _ _ _ hp8
                have hn7 : (sNx (sSn s6 n (3, 0, Int32.ofNat a, 0))).2.2.2.1[n]? = some (3, 0, Int32.ofNat a, 0) := List.getElem?_set_self (List.getElem?_eq_some_iff.mp hn6).1
                have hn8 : s8.2.2.2.1[n]? = some (3, 0, Int32.ofNat a, 0) := by rw [ex8.2.2.1 n (List.getElem?_eq_some_iff.mp hn7).1]; exact hn7
                have hu8 : s8.2.2.2.2[u]? = some (pl tk s.1, va tk s.1, 0, none, n) := by rw [ex8.2.2.2.1 u (List.getElem?_eq_some_iff.mp hu6).1]; exact hu6
                obtain ⟨o1, o2, o3⟩ := op_Q (x := 4) h8 hn8
                have hn9 : (sSn s8 n (4, 0, Int32.ofNat a, 0)).2.2.2.1[n]? = some (4, 0, Int32.ofNat a, 0) := List.getElem?_set_self (List.getElem?_eq_some_iff.mp hn8).1
                obtain ⟨p1, p2, p3⟩ := val_Q (x := (Int32.ofNat b).toInt64) o2 hn9
                have hss : sSn (sSn s8 n (4, 0, Int32.ofNat a, 0)) n (4, 0, Int32.ofNat a, (Int32.ofNat b).toInt64) = sSn s8 n (4, 0, Int32.ofNat a, Int64.ofNat b) := by
                  unfold sSn
                  rw [List.set_set, y3264 (by omega)]
                rw [hss] at p2
                rw [if_pos o1, if_pos (show zok (zB S8 34) (Int32.ofNat n) from p1)]
                refine Rq.base (o3.trans p3) (Rq.bind (Q_sign hN hT (by decide) p2) ?_ ?_)
                · intro s10 _ _ S10 hp10 h10 x10 _
                  obtain ⟨_, rfl⟩ := pWant_inl hp10
                  obtain ⟨sh1, sh2⟩ := shallow_Q hi h10
                  exact Rq.base sh2 (Q_end (o' := none) hn sh1 hu8)
                · intro _ _ q S10 hq
                  obtain ⟨w1, w2⟩ := shallow_F (x := zI S10 7 - 1) hq
                  exact ⟨_, _, rfl, w1, w2, trivial⟩
              · intro _ _ q S8 hq
                obtain ⟨o1, o2, o3⟩ := op_W (S := S8) (n := n) (x := 4) hq.1 hn
                obtain ⟨p1, p2, p3⟩ := val_W (S := zsA S8 33 (zs (zA S8 33) (Int32.ofNat n) 4)) (n := n) (x := Int32.toInt64 _) o2 hn
                rw [if_pos o1, if_pos (show zok (zB S8 34) (Int32.ofNat n) from p1)]
                obtain ⟨c, S2, k1, k2, k3, k4⟩ := shF (n := n) (q := q) (S1 := zsB (zsA S8 33 (zs (zA S8 33) (Int32.ofNat n) 4)) 34 (zs (zB (zsA S8 33 (zs (zA S8 33) (Int32.ofNat n) 4)) 34) (Int32.ofNat n) (Int32.toInt64 _))) ⟨p2, hq.2.1, hq.2.2⟩
                exact ⟨c, S2, k1, k2, (o3.trans p3).trans k3, k4⟩
            · rw [if_neg hc, if_neg (show ¬ kd tk (sSn s6 n (3, 0, Int32.ofNat a, 0)).1 = 44 from hc), if_pos rfl]
              refine Rq.bind (Q_sign hN hT (by decide) t2) ?_ ?_
              · intro s10 _ _ S10 hp10 h10 x10 _
                obtain ⟨_, rfl⟩ := pWant_inl hp10
                obtain ⟨sh1, sh2⟩ := shallow_Q hi h10
                exact Rq.base sh2 (Q_end (o' := none) hn sh1 hu6)
              · intro _ _ q S10 hq
                obtain ⟨w1, w2⟩ := shallow_F (x := zI S10 7 - 1) hq
                exact ⟨_, _, rfl, w1, w2, trivial⟩
          · intro xa _ q S6 hq
            obtain ⟨p1, p2, p3⟩ := two_W (S := S6) (n := n) (x := xa) hq.1 hn
            have hq2 : QF q (zsA S6 36 (zs (zA S6 36) (Int32.ofNat n) xa)) := ⟨p2, hq.2.1, hq.2.2⟩
            rw [if_pos p1, good_F hq2, zbs, if_pos rfl]
            obtain ⟨c, S2, k1, k2, k3, k4⟩ := shF (n := n) hq2
            exact ⟨c, S2, k1, k2, p3.trans k3, k4⟩
        · rw [if_neg hi10] at hD ⊢
          obtain ⟨_, S4, q1, q2, q3, _⟩ := hD
          obtain ⟨p1, p2, p3⟩ := op_W (S := S4) (n := n) (x := 3) q2.1 hn
          have hq2 : QF (pl tk s3.1) (zsA S4 33 (zs (zA S4 33) (Int32.ofNat n) 3)) := ⟨p2, q2.2.1, q2.2.2⟩
          obtain ⟨xa, S6, w1, w2, w3⟩ := f1 _ _ hq2
          obtain ⟨y1, y2, y3⟩ := two_W (S := S6) (n := n) (x := xa) w2.1 hn
          have hq3 : QF (pl tk s3.1) (zsA S6 36 (zs (zA S6 36) (Int32.ofNat n) xa)) := ⟨y2, w2.2.1, w2.2.2⟩
          obtain ⟨c, S2, k1, k2, k3, k4⟩ := shF (n := n) hq3
          rw [q1, zbs, step_F q2, zbs, if_pos p1, w1, zbs, if_pos y1, good_F hq3, zbs, if_pos rfl, k1]
          exact ⟨c, S2, rfl, k2, (((q3.trans p3).trans w3).trans y3).trans k3, k4⟩
      · rw [if_neg hb, if_neg hb, if_pos rfl]
        exact Q_end (o' := none) hn h3 hu3
    · intro _ _ q S3 hq
      rw [good_F hq, zbs, if_pos rfl]
      exact ⟨_, S3, rfl, hq, eqY.refl, trivial⟩
  · intro _ hF; exact absurd hF id
end REXP
