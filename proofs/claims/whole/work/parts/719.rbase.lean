/-! THE REFERENCE READS EXPS: bases and ones -/
section RBASE
variable {N : Nat} {t : List Int32} {tk : List zK} {fg : Nat} {i : Nat} {rl : Nat → Nat → zP → zF Nat} {ro : Nat → zP → zF Nat} {r1 r2 : zS → Option (Int32 × zS)} {s : zP} {S : zS}
theorem Rq.em {γ δ : Type} {W : γ → δ → Prop} {G : γ → Prop} {i' : Nat} {d w : Int32} {f : zP → Nat → zF δ} {o : Option (γ × zS)} (hg : ∀ c s', sEm s d w = .inl (s', c) → s' = (s.1, s.2.1, s.2.2.1 ++ [(d, w)], s.2.2.2) → Rq t tk i' S W G (f s' c) o) : Rq t tk i' S W G (pb (sEm s d w) f) o := by
  rcases sEm_or (s := s) (d := d) (w := w) with h | ⟨c, h⟩
  · rw [h]; trivial
  · rw [h]; exact hg c _ h rfl
theorem RQ.cd {c : List (Int32 × Int32)} (h : RQ t tk i s S) : RQ t tk i (s.1, s.2.1, c, s.2.2.2) S := h
theorem node1_F {op a b : Int32} {q : Nat} (h : QF q S) : ∃ (c : Int32) (S2 : zS), (zb (rQ_node N op a b S) fun x S1 => some (x, S1)) = some (c, S2) ∧ QF q S2 ∧ eqY S S2 ∧ T1 c := by
  obtain ⟨n, S', _, q1, q2, q3⟩ := node_FQ (N := N) (op := op) (a := a) (b := b) h
  rw [q1, zbs]
  exact ⟨_, S', rfl, q2, q3, trivial⟩
theorem node1_Q {op a b : Int32} (h : RQ t tk i s S) : Rq t tk i S VN T1 (sNd s (op, a, b, 0)) (zb (rQ_node N op a b S) fun x S1 => some (x, S1)) := by
  have hn := Q_node (N := N) (op := op) (a := a) (b := b) h
  rcases sNd_or (s := s) (n := (op, a, b, 0)) with e | ⟨s4, n, e⟩
  · rw [e]; trivial
  · rw [e] at hn ⊢
    obtain ⟨x, S', q1, q2, q3, q4⟩ := hn
    rw [q1, zbs]
    exact ⟨x, S', rfl, q2, q3, q4⟩
theorem Q_total (hN : 1400 < N) (hT : tkT t tk) (hi : i ≤ 10) (hl : i < 10 → ∀ s S, RQ t tk (i + 1) s S → zI S 23 = Int32.ofNat fg → Rq t tk (i + 1) S VN T1 (rl 0 (i + 1) s) (r1 S)) (el : ExtL rl) (f1 : FQ r1) (hk : kd tk s.1 = 225) (h : RQ t tk i s S) (hg : zI S 23 = Int32.ofNat fg) : Rq t tk i S VN T1 (pAsked tk rl 11 i s) (zb (rQ_node N 8 0 0 S) fun x52 S53 => (zb (rQ_counts N  S53) fun _ S56 => (zb (rQ_step N  S56) fun _ S59 => (zb (rQ_refer N x52 0 S59) fun _ S62 => (zb (rQ_good N  S62) fun x64 S65 => (if x64 = (0 : Int32) then some (x52, S65) else (zb (rQ_isSign N 91 S65) fun x67 S68 => (if x67 = (0 : Int32) then some (x52, S68) else (zb (rQ_deeper N  S68) fun _ S71 => (zb (rQ_step N  S71) fun _ S74 => (zb (r1 S74) fun x76 S77 => (if zok (zA S77 33) x52 then (if zok (zA S77 36) x52 then (zb (rQ_sign N 93 (zsA (zsA S77 33 (zs (zA S77 33) x52 9)) 36 (zs (zA S77 36) x52 x76))) fun _ S80 => some (x52, (zsI S80 7 ((zI S80 7) - 1)))) else none) else none)))))))))))) := by
  unfold pAsked
  rw [show Int32.ofNat (11 - 3) = 8 from rfl]
  refine Rq.bind (Q_node h) ?_ ?_
  · rintro s1 n x S1 hp1 h1 x1 ⟨rfl, hn⟩
    have hs1 : s1.1 = s.1 ∧ s1.2.2.2.1[n]? = some (8, 0, 0, 0) := by
      obtain ⟨_, rfl, rfl⟩ := sNd_inl hp1
      exact ⟨rfl, by simp⟩
    refine Rq.bind (Q_counts hT h1) ?_ ?_
    · intro s2 _ _ S2 hp2 h2 x2 _
      obtain ⟨_, rfl⟩ := sNo_inl hp2
      obtain ⟨S3, q1, q2, q3⟩ := step_Q hN hT h2 (by show kd tk s1.1 ≠ 0; rw [hs1.1, hk]; decide) (by show kd tk s1.1 ≠ 1; rw [hs1.1, hk]; decide)
      rw [if_neg (by decide), q1, zbs]
      show Rq t tk i S2 VN T1 (pAsked2 tk rl 11 i 0 n (sSn (sNx (s1.1, s1.2.1 + 1, s1.2.2)) n (8, 0, Int32.ofNat 0, 0))) _
      rw [sSn_same (show (sNx (s1.1, s1.2.1 + 1, s1.2.2)).2.2.2.1[n]? = some (8, 0, Int32.ofNat 0, 0) from hs1.2)]
      refine Rq.base q3 ?_
      have g3 := ((x1.trans x2).trans q3).fg hg
      generalize hsx : sNx (s1.1, s1.2.1 + 1, s1.2.2) = sx at q2 ⊢
      have hnx : sx.2.2.2.1[n]? = some (8, 0, 0, 0) := by rw [← hsx]; exact hs1.2
      unfold pAsked2
      have hb := Q_refer (N := N) (n := n) (told := 0) (al := 0) hN hT (Or.inl ⟨rfl, rfl⟩) q2 g3
      have e : (pb (sNo sx) fun s_1 _ => pb (pUse tk 0 n s_1) fun s1 u => if 11 = 11 ∧ kd tk s1.1 = 91 then pb (pBetween rl i s1) fun s2 a => pb (pWant tk 93 (sSn s2 n (9, 0, Int32.ofNat a, 0))) fun s3 _ => pEnd 14 0 u (pl tk s_1.1, va tk s_1.1, 0, none, n) n s3 else pEnd (Int32.ofNat 11) (Int32.ofNat 0) u (pl tk s_1.1, va tk s_1.1, 0, none, n) n s1) = pb (pb (sNo sx) fun s _ => pUse tk 0 n s) fun s1 u => if kd tk s1.1 = 91 then pb (pBetween rl i s1) fun s2 a => pb (pWant tk 93 (sSn s2 n (9, 0, Int32.ofNat a, 0))) fun s3 _ => pEnd 14 0 u (pl tk sx.1, va tk sx.1, 0, none, n) n s3 else pEnd (Int32.ofNat 11) (Int32.ofNat 0) u (pl tk sx.1, va tk sx.1, 0, none, n) n s1 := by
        rw [pb_assoc]
        unfold sNo
        split
        · show pb (pUse tk 0 n _) _ = pb (pUse tk 0 n _) _
          congr 1
          funext s1 u
          by_cases h91 : kd tk s1.1 = 91
          · rw [if_pos ⟨rfl, h91⟩, if_pos h91]
          · rw [if_neg (fun hh => h91 hh.2), if_neg h91]
        · rfl
      rw [e]
      refine Rq.bind hb ?_ ?_
      · intro s3 u _ S4 hp3 h3 x3 _
        have hu3 : s3.2.2.2.2[u]? = some (pl tk sx.1, va tk sx.1, 0, none, n) ∧ s3.2.2.2.1[n]? = some (8, 0, 0, 0) := by
          obtain ⟨s2, _, q1, q2⟩ := pb_inl hp3
          obtain ⟨_, rfl⟩ := sNo_inl q1
          obtain ⟨_, _, rfl, rfl⟩ := pUse_inl q2
          exact ⟨by simp [sNx], hnx⟩
        obtain ⟨hu3, hn3⟩ := hu3
        rw [good_G h3, zbs, if_neg i10, isSign_G hT (by decide) h3, zbs]
        by_cases hb : kd tk s3.1 = 91
        · rw [if_pos hb, if_pos hb, if_neg i10]
          unfold pBetween
          rw [pb_assoc]
          have hD := Q_deeper (N := N) hT hi h3
          unfold pEnter at hD ⊢
          by_cases hi10 : i < 10
          · rw [if_pos hi10] at hD ⊢
            obtain ⟨_, S5, w1, w2, w3, _⟩ := hD
            obtain ⟨S6, y1, y2, y3⟩ := step_Q hN hT w2 (by rw [hb]; decide) (by rw [hb]; decide)
            rw [w1, zbs, y1, zbs]
            refine Rq.base (w3.trans y3) ?_
            show Rq t tk i S6 VN T1 (pb (rl 0 (i + 1) (sNx s3)) _) _
            refine Rq.bind (hl hi10 _ _ y2 (((x3.trans w3).trans y3).fg g3)) ?_ ?_
            · rintro s6 a xa S7 hp6 h6 x6 ⟨rfl, ha⟩
              have ex6 := el _ _ _ _ _ hp6
              have hu6 : s6.2.2.2.2[u]? = some (pl tk sx.1, va tk sx.1, 0, none, n) := by rw [ex6.2.2.2.1 u (List.getElem?_eq_some_iff.mp hu3).1]; exact hu3
              have hn6 : s6.2.2.2.1[n]? = some (8, 0, 0, 0) := by rw [ex6.2.2.1 n (List.getElem?_eq_some_iff.mp hn3).1]; exact hn3
              obtain ⟨o1, o2, o3⟩ := op_Q (x := 9) h6 hn6
              have hn7 : (sSn s6 n (9, 0, 0, 0)).2.2.2.1[n]? = some (9, 0, 0, 0) := List.getElem?_set_self (List.getElem?_eq_some_iff.mp hn6).1
              obtain ⟨p1, p2, p3⟩ := two_Q (x := Int32.ofNat a) o2 hn7
              have hss : sSn (sSn s6 n (9, 0, 0, 0)) n (9, 0, Int32.ofNat a, 0) = sSn s6 n (9, 0, Int32.ofNat a, 0) := by
                unfold sSn
                rw [List.set_set]
              rw [hss] at p2
              rw [if_pos o1, if_pos (show zok (zA S7 36) (Int32.ofNat n) from p1)]
              refine Rq.base (o3.trans p3) (Rq.bind (Q_sign hN hT (by decide) p2) ?_ ?_)
              · intro s10 _ _ S10 hp10 h10 x10 _
                obtain ⟨_, rfl⟩ := pWant_inl hp10
                obtain ⟨sh1, sh2⟩ := shallow_Q hi h10
                exact Rq.base sh2 (Q_end (o' := none) hn sh1 hu6)
              · intro _ _ q S10 hq
                obtain ⟨w1, w2⟩ := shallow_F (x := zI S10 7 - 1) hq
                exact ⟨_, _, rfl, w1, w2, trivial⟩
            · intro xa _ q S7 hq
              obtain ⟨o1, o2, o3⟩ := op_W (S := S7) (n := n) (x := 9) hq.1 hn
              obtain ⟨p1, p2, p3⟩ := two_W (S := zsA S7 33 (zs (zA S7 33) (Int32.ofNat n) 9)) (n := n) (x := xa) o2 hn
              have hq2 : QF q (zsA (zsA S7 33 (zs (zA S7 33) (Int32.ofNat n) 9)) 36 (zs (zA S7 36) (Int32.ofNat n) xa)) := ⟨p2, hq.2.1, hq.2.2⟩
              rw [if_pos o1, if_pos (show zok (zA S7 36) (Int32.ofNat n) from p1), sign_F hq2, zbs]
              exact ⟨_, _, rfl, (shallow_F hq2).1, (o3.trans p3).trans (shallow_F hq2).2, trivial⟩
          · rw [if_neg hi10] at hD ⊢
            obtain ⟨_, S5, w1, w2, w3, _⟩ := hD
            obtain ⟨xa, S7, v1, v2, v3⟩ := f1 _ _ w2
            obtain ⟨o1, o2, o3⟩ := op_W (S := S7) (n := n) (x := 9) v2.1 hn
            obtain ⟨p1, p2, p3⟩ := two_W (S := zsA S7 33 (zs (zA S7 33) (Int32.ofNat n) 9)) (n := n) (x := xa) o2 hn
            have hq2 : QF (pl tk s3.1) (zsA (zsA S7 33 (zs (zA S7 33) (Int32.ofNat n) 9)) 36 (zs (zA S7 36) (Int32.ofNat n) xa)) := ⟨p2, v2.2.1, v2.2.2⟩
            rw [w1, zbs, step_F w2, zbs, v1, zbs, if_pos o1, if_pos (show zok (zA S7 36) (Int32.ofNat n) from p1), sign_F hq2, zbs]
            exact ⟨_, _, rfl, (shallow_F hq2).1, (((w3.trans v3).trans o3).trans p3).trans (shallow_F hq2).2, trivial⟩
        · rw [if_neg hb, if_neg hb, if_pos rfl]
          exact Q_end (o' := none) hn h3 hu3
      · intro _ _ q S3 hq
        rw [good_F hq, zbs, if_pos rfl]
        exact ⟨_, S3, rfl, hq, eqY.refl, trivial⟩
    · intro _ _ q S2 hq
      obtain ⟨S3, w1, w2, w3⟩ := refer_F (N := N) (n := Int32.ofNat n) (a := 0) hq
      rw [step_F hq, zbs, w1, zbs, good_F w2, zbs, if_pos rfl]
      exact ⟨_, S3, rfl, w2, w3, trivial⟩
  · intro _ hF; exact absurd hF id
theorem Q_paren (hN : 1400 < N) (hT : tkT t tk) (hi : i ≤ 10) (hl : i < 10 → ∀ s S, RQ t tk (i + 1) s S → zI S 23 = Int32.ofNat fg → Rq t tk (i + 1) S VN T1 (rl 0 (i + 1) s) (r1 S)) (f1 : FQ r1) (hk : kd tk s.1 = 40) (h : RQ t tk i s S) (hg : zI S 23 = Int32.ofNat fg) : Rq t tk i S VN T1 (pb (pBetween rl i s) fun s n => pb (pWant tk 41 s) fun s _ => .inl (s, n)) (zb (rQ_deeper N  S) fun _ S107 => (zb (rQ_step N  S107) fun _ S110 => (zb (r1  S110) fun x112 S113 => (zb (rQ_sign N 41 S113) fun _ S116 => some (x112, (zsI S116 7 ((zI S116 7) - 1))))))) := by
  have tlF : ∀ (x : Int32) (q : Nat) (S3 : zS), QF q S3 → ∃ (c : Int32) (S4 : zS), (zb (rQ_sign N 41 S3) fun _ S116 => some (x, (zsI S116 7 ((zI S116 7) - 1)))) = some (c, S4) ∧ QF q S4 ∧ eqY S3 S4 ∧ T1 c := by
    intro x q S3 hq
    rw [sign_F hq, zbs]
    exact ⟨_, _, rfl, (shallow_F hq).1, (shallow_F hq).2, trivial⟩
  unfold pBetween
  rw [pb_assoc]
  refine Rq.bind (Q_deeper hT hi h) ?_ ?_
  · intro s1 _ _ S1 hp1 h1 x1 _
    obtain ⟨hi10, rfl⟩ := pEnter_inl hp1
    obtain ⟨S2, y1, y2, y3⟩ := step_Q hN hT h1 (by rw [hk]; decide) (by rw [hk]; decide)
    rw [y1, zbs]
    refine Rq.base y3 (Rq.bind (hl hi10 _ _ y2 ((x1.trans y3).fg hg)) ?_ ?_)
    · rintro s2 n xa S3 hp2 h2 x2 ⟨rfl, hn⟩
      refine Rq.bind (Q_sign hN hT (by decide) h2) ?_ ?_
      · intro s3 _ _ S4 _ h3 _ _
        obtain ⟨sh1, sh2⟩ := shallow_Q hi h3
        exact ⟨_, _, rfl, sh1, sh2, rfl, hn⟩
      · intro _ _ q S4 hq
        exact ⟨_, _, rfl, (shallow_F hq).1, (shallow_F hq).2, trivial⟩
    · intro xa _ q S3 hq
      exact tlF xa q S3 hq
  · intro _ _ q S1 hq
    obtain ⟨xa, S7, v1, v2, v3⟩ := f1 _ _ hq
    obtain ⟨c, S4, k1, k2, k3, k4⟩ := tlF xa q S7 v2
    rw [step_F hq, zbs, v1, zbs, k1]
    exact ⟨c, S4, rfl, k2, v3.trans k3, k4⟩
theorem Q_num (hN : 1400 < N) (hT : tkT t tk) (hk : kd tk s.1 = 2) (h : RQ t tk i s S) : Rq t tk i S VN T1 (pb (sNo s) fun s _ => pb (sEm s 1 (va tk s.1).toInt32) fun s _ => pb (sNd s (0, 0, 0, va tk s.1)) fun s n => .inl (sNx s, n)) (zb (rQ_counts N  S) fun _ S122 => (zb (rQ_node N 0 0 0 S122) fun x124 S125 => (if zok (zB S125 34) x124 then (zb (rQ_step N  (zsB S125 34 (zs (zB S125 34) x124 ((zI S125 5).toInt64)))) fun _ S128 => some (x124, S128)) else none))) := by
  refine Rq.bind (Q_counts hT h) ?_ ?_
  · intro s1 _ _ S1 hp1 h1 x1 _
    obtain ⟨_, rfl⟩ := sNo_inl hp1
    refine Rq.em ?_
    rintro c s2 _ rfl
    obtain ⟨n0, hn0, hS0⟩ := h1.1.2.2
    have hlen := h1.2.2.2.2.2.2.1.1
    have hnd := Q_node (N := N) (op := 0) (a := 0) (b := 0) h1
    unfold sNd at hnd ⊢
    by_cases h9 : s.2.2.2.1.length < 299
    · rw [if_pos h9] at hnd
      rw [if_pos h9]
      obtain ⟨x, S2, q1, q2, q3, rfl, hx⟩ := hnd
      have hil : (s.1, s.2.1 + 1, s.2.2.1, s.2.2.2.1 ++ [((0, 0, 0, 0) : yNd)], s.2.2.2.2).2.2.2.1[s.2.2.2.1.length]? = some (0, 0, 0, 0) := by simp
      obtain ⟨τ, g1, g2, g3, g4, g5⟩ := q2.kdp hT
      have hv : (zI S2 5).toInt64 = va tk s.1 := by
        have k2 : kdAt t τ.2.1 = 2 := by rw [← g2]; exact hk
        obtain ⟨⟨_, _, _, c4, _⟩, _⟩ := hT _ _ g1
        have hva : va tk s.1 = ((lexK (t.drop τ.2.1)).2.2).getD 0 := by
          have g1 : tk[s.1]? = some τ := g1
          rw [va, g1]; show (τ.2.2.2).getD 0 = _; rw [c4]
        rw [hva]
        have h2 : zI S2 2 = 2 := (kd_word g4).2.1.mpr k2
        obtain ⟨_, _, _, m⟩ := g4
        unfold kdAt at k2
        cases hd : t.drop τ.2.1 with
        | nil => rw [hd] at m; rw [show zI S2 2 = 0 from m] at h2; exact absurd h2 (by decide)
        | cons b r =>
          rw [hd] at m k2
          dsimp only at m
          by_cases hL : isL b = true
          · rw [if_pos hL, h2] at m
            split at m <;> exact absurd m (by decide)
          · rw [if_neg hL] at m
            by_cases hG : isG b = true
            · rw [if_pos hG, h2] at m
              by_cases h6 : nG (b :: r) ≤ 6
              · obtain ⟨v, hv0, hv1, hv2⟩ := num_spec h6
                rw [m.2 h6, hv2, lexK_g hL hG]
                show _ = gV 0 ((b :: r).take (nG (b :: r)))
                rw [hv1]
                exact y3264 (by omega)
              · rw [if_neg h6] at m
                exact absurd m.1 (by decide)
            · rw [if_neg hG, h2] at m
              split at m <;> exact absurd m (by decide)
      obtain ⟨v1, v2, v3⟩ := val_Q (x := (zI S2 5).toInt64) q2 hil
      rw [q1, zbs, if_pos v1]
      obtain ⟨S3, y1, y2, y3⟩ := step_Q hN hT v2 (by show kd tk s.1 ≠ 0; rw [hk]; decide) (by show kd tk s.1 ≠ 1; rw [hk]; decide)
      rw [y1, zbs]
      refine ⟨_, S3, rfl, ?_, (q3.trans v3).trans y3, rfl, hx⟩
      have e : sNx (sSn (s.1, s.2.1 + 1, s.2.2.1, s.2.2.2.1 ++ [((0, 0, 0, 0) : yNd)], s.2.2.2.2) s.2.2.2.1.length (0, 0, 0, (zI S2 5).toInt64)) = (s.1 + 1, s.2.1 + 1, s.2.2.1, s.2.2.2.1 ++ [(0, 0, 0, va tk s.1)], s.2.2.2.2) := by
        unfold sNx sSn
        rw [hv]; simp
      rw [e] at y2
      exact y2
    · rw [if_neg h9]; trivial
  · intro _ _ q S1 hq
    obtain ⟨n, S2, hn, q1, q2, q3⟩ := node_FQ (N := N) (op := 0) (a := 0) (b := 0) hq
    obtain ⟨p1, p2, p3⟩ := val_W (S := S2) (n := n) (x := (zI S2 5).toInt64) q2.1 hn
    have hq2 : QF q (zsB S2 34 (zs (zB S2 34) (Int32.ofNat n) (zI S2 5).toInt64)) := ⟨p2, q2.2.1, q2.2.2⟩
    rw [q1, zbs, if_pos p1, step_F hq2, zbs]
    exact ⟨_, _, rfl, hq2, q3.trans p3, trivial⟩
theorem Q_try (hN : 1400 < N) (hT : tkT t tk) (hi : i ≤ 10) (ho : i < 10 → ∀ s S, RQ t tk (i + 1) s S → zI S 23 = Int32.ofNat fg → Rq t tk (i + 1) S VN T1 (ro (i + 1) s) (r2 S)) (f2 : FQ r2) (hk : kd tk s.1 = 226) (h : RQ t tk i s S) (hg : zI S 23 = Int32.ofNat fg) : Rq t tk i S VN T1 (pTry tk ro i s) (zb (rQ_counts N  S) fun _ S86 => (zb (rQ_deeper N  S86) fun _ S89 => (zb (rQ_step N  S89) fun _ S92 => (zb (r2  S92) fun x94 S95 => (zb (rQ_word N  S95) fun _ S98 => (zb (r2  S98) fun x100 S101 => (zb (rQ_node N 10 x94 x100 (zsI S101 7 ((zI S101 7) - 1))) fun x103 S104 => some (x103, S104)))))))) := by
  have t3 : ∀ (x y : Int32) (q : Nat) (S3 : zS), QF q S3 → ∃ (c : Int32) (S4 : zS), (zb (rQ_node N 10 x y (zsI S3 7 ((zI S3 7) - 1))) fun x103 S104 => some (x103, S104)) = some (c, S4) ∧ QF q S4 ∧ eqY S3 S4 ∧ T1 c := by
    intro x y q S3 hq
    obtain ⟨w1, w2⟩ := shallow_F (x := zI S3 7 - 1) hq
    obtain ⟨c, S4, k1, k2, k3, k4⟩ := node1_F (N := N) (op := 10) (a := x) (b := y) w1
    exact ⟨c, S4, k1, k2, w2.trans k3, k4⟩
  have t2 : ∀ (x : Int32) (q : Nat) (S3 : zS), QF q S3 → ∃ (c : Int32) (S4 : zS), (zb (r2  S3) fun x100 S101 => (zb (rQ_node N 10 x x100 (zsI S101 7 ((zI S101 7) - 1))) fun x103 S104 => some (x103, S104))) = some (c, S4) ∧ QF q S4 ∧ eqY S3 S4 ∧ T1 c := by
    intro x q S3 hq
    obtain ⟨y, S4, w1, w2, w3⟩ := f2 _ _ hq
    obtain ⟨c, S5, k1, k2, k3, k4⟩ := t3 x y q S4 w2
    rw [w1, zbs, k1]
    exact ⟨c, S5, rfl, k2, w3.trans k3, k4⟩
  have t1 : ∀ (x : Int32) (q : Nat) (S3 : zS), QF q S3 → ∃ (c : Int32) (S4 : zS), (zb (rQ_word N S3) fun _ S98 => (zb (r2  S98) fun x100 S101 => (zb (rQ_node N 10 x x100 (zsI S101 7 ((zI S101 7) - 1))) fun x103 S104 => some (x103, S104)))) = some (c, S4) ∧ QF q S4 ∧ eqY S3 S4 ∧ T1 c := by
    intro x q S3 hq
    rw [word_F hq, zbs]
    exact t2 x q S3 hq
  unfold pTry
  refine Rq.cd hT hi h ?_ ?_
  · intro hi10 S1 h1 x1
    obtain ⟨S2, y1, y2, y3⟩ := step_Q hN hT h1 (by show kd tk s.1 ≠ 0; rw [hk]; decide) (by show kd tk s.1 ≠ 1; rw [hk]; decide)
    rw [y1, zbs]
    refine Rq.base y3 (Rq.em ?_)
    intro st s2 _ hs2
    have h2 : RQ t tk (i + 1) s2 S2 := by rw [hs2]; exact y2
    have g2 := (x1.trans y3).fg hg
    refine Rq.bind (ho hi10 _ _ h2 g2) ?_ ?_
    · rintro s3 a xa S3 hp3 h3 x3 ⟨rfl, ha⟩
      refine Rq.em ?_
      intro en s4 _ hs4
      have h4 : RQ t tk (i + 1) (sCd s4 st (5, Int32.ofNat s4.2.2.1.length)) S3 := by rw [hs4]; exact h3
      refine Rq.bind (Q_word hN hT h4) ?_ ?_
      · intro s5 _ _ S5 _ h5 x5 _
        refine Rq.bind (ho hi10 _ _ h5 ((x3.trans x5).fg g2)) ?_ ?_
        · rintro s6 b xb S6 _ h6 x6 ⟨rfl, hb⟩
          have h7 : RQ t tk (i + 1) (sCd s6 en (6, Int32.ofNat s6.2.2.1.length)) S6 := h6
          obtain ⟨sh1, sh2⟩ := shallow_Q hi h7
          exact Rq.base sh2 (node1_Q sh1)
        · intro y _ q S6 hq
          exact t3 _ y q S6 hq
      · intro _ _ q S5 hq
        exact t2 _ q S5 hq
    · intro x _ q S3 hq
      exact t1 x q S3 hq
  · intro q S1 hq
    obtain ⟨x, S2, w1, w2, w3⟩ := f2 _ _ hq
    obtain ⟨c, S3, k1, k2, k3, k4⟩ := t1 x q S2 w2
    rw [step_F hq, zbs, w1, zbs, k1]
    exact ⟨c, S3, rfl, k2, w3.trans k3, k4⟩
theorem Q_one20 (hN : 1400 < N) (hT : tkT t tk) (hi : i ≤ 10) (ho : i < 10 → ∀ s S, RQ t tk (i + 1) s S → zI S 23 = Int32.ofNat fg → Rq t tk (i + 1) S VN T1 (ro (i + 1) s) (r2 S)) (f2 : FQ r2) {d op : Int32} (hk : kd tk s.1 ≠ 0 ∧ kd tk s.1 ≠ 1) (h : RQ t tk i s S) (hg : zI S 23 = Int32.ofNat fg) : Rq t tk i S VN T1 (pb (pEnter i s) fun s1 _ => pb (sNo s1) fun s1 _ => pb (ro (i + 1) (sNx s1)) fun s2 n => pb (sEm s2 d 0) fun s3 _ => sNd s3 (op, Int32.ofNat n, 0, 0)) (rQ_one_20 r1 r2 N op S) := by
  have t3 : ∀ (x : Int32) (q : Nat) (S3 : zS), QF q S3 → ∃ (c : Int32) (S4 : zS), (zb (rQ_node N op x 0 (zsI S3 7 ((zI S3 7) - 1))) fun x103 S104 => some (x103, S104)) = some (c, S4) ∧ QF q S4 ∧ eqY S3 S4 ∧ T1 c := by
    intro x q S3 hq
    obtain ⟨w1, w2⟩ := shallow_F (x := zI S3 7 - 1) hq
    obtain ⟨c, S4, k1, k2, k3, k4⟩ := node1_F (N := N) (op := op) (a := x) (b := 0) w1
    exact ⟨c, S4, k1, k2, w2.trans k3, k4⟩
  unfold rQ_one_20
  refine Rq.cd hT hi h ?_ ?_
  · intro hi10 S1 h1 x1
    obtain ⟨S2, y1, y2, y3⟩ := step_Q hN hT h1 hk.1 hk.2
    rw [y1, zbs]
    refine Rq.base y3 (Rq.bind (ho hi10 _ _ y2 ((x1.trans y3).fg hg)) ?_ ?_)
    · rintro s3 a xa S3 hp3 h3 x3 ⟨rfl, ha⟩
      refine Rq.em ?_
      intro en s4 _ hs4
      have h4 : RQ t tk (i + 1) s4 S3 := by rw [hs4]; exact h3
      obtain ⟨sh1, sh2⟩ := shallow_Q hi h4
      exact Rq.base sh2 (node1_Q sh1)
    · intro x _ q S3 hq
      exact t3 x q S3 hq
  · intro q S1 hq
    obtain ⟨x, S2, w1, w2, w3⟩ := f2 _ _ hq
    obtain ⟨c, S3, k1, k2, k3, k4⟩ := t3 x q S2 w2
    rw [step_F hq, zbs, w1, zbs, k1]
    exact ⟨c, S3, rfl, k2, w3.trans k3, k4⟩
theorem zb_uni {o : Option (Int32 × zS)} : (zb o fun x S1 => some (x, S1)) = o := by
  rcases o with _ | ⟨x, S1⟩ <;> rfl
theorem Q_base (hN : 1400 < N) (hT : tkT t tk) (hi : i ≤ 10) (hl : i < 10 → ∀ s S, RQ t tk (i + 1) s S → zI S 23 = Int32.ofNat fg → Rq t tk (i + 1) S VN T1 (rl 0 (i + 1) s) (r1 S)) (ho : i < 10 → ∀ s S, RQ t tk (i + 1) s S → zI S 23 = Int32.ofNat fg → Rq t tk (i + 1) S VN T1 (ro (i + 1) s) (r2 S)) (el : ExtL rl) (f1 : FQ r1) (f2 : FQ r2) (h : RQ t tk i s S) (hg : zI S 23 = Int32.ofNat fg) : Rq t tk i S VN T1 (pBase tk fg rl ro i s) (rQ_base r1 r2 N S) := by
  obtain ⟨τ, g1, g2, g3, g4, g5⟩ := h.kdp hT
  have hnum : zI S 2 = 2 ↔ kd tk s.1 = 2 := by rw [g2]; exact (kd_word g4).2.1
  unfold pBase rQ_base rQ_base_91
  by_cases k2 : kd tk s.1 = 2
  · rw [if_pos k2, if_neg (nn (hnum.mpr k2))]
    exact Q_num hN hT k2 h
  rw [if_neg k2, if_pos (fun hh => k2 (hnum.mp hh)), isName_G hN hT h, zbs]
  by_cases k3 : kd tk s.1 = 3
  · rw [if_pos k3, if_pos k3, if_neg i10, zb_uni]
    exact Q_named hN hT hi hl el f1 k3 h hg
  rw [if_neg k3, if_neg k3, if_pos rfl, isSign_G hT (by decide) h, zbs]
  by_cases k40 : kd tk s.1 = 40
  · rw [if_pos k40, if_pos k40, if_neg i10]
    exact Q_paren hN hT hi hl f1 k40 h hg
  rw [if_neg k40, if_neg k40, if_pos rfl, isWord_G (j := 26) hN hT rfl h, zbs]
  by_cases a5 : kd tk s.1 = 226
  · rw [if_pos (show kd tk s.1 = Int32.ofNat (200 + 26) from a5), if_neg i10, if_neg (by rw [a5]; decide), if_neg (by rw [a5]; decide), if_neg (by rw [a5]; decide), if_neg (by rw [a5]; decide), if_pos a5]
    exact Q_try hN hT hi ho f2 a5 h hg
  rw [if_neg (show ¬ kd tk s.1 = Int32.ofNat (200 + 26) from a5), if_pos rfl, isWord_G (j := 22) hN hT rfl h, zbs]
  by_cases a1 : kd tk s.1 = 222
  · rw [if_pos (show kd tk s.1 = Int32.ofNat (200 + 22) from a1), if_pos a1, if_pos i11, isWord_G (j := 22) hN hT rfl h, zbs, if_pos (show kd tk s.1 = Int32.ofNat (200 + 22) from a1), if_neg i10]
    exact Q_asked89 hN hT (Or.inl ⟨rfl, rfl⟩) (by rw [a1]; decide) h hg
  rw [if_neg (show ¬ kd tk s.1 = Int32.ofNat (200 + 22) from a1), if_neg a1, if_neg i00, isWord_G (j := 23) hN hT rfl h, zbs]
  by_cases a2 : kd tk s.1 = 223
  · rw [if_pos (show kd tk s.1 = Int32.ofNat (200 + 23) from a2), if_pos a2, if_neg i10, isWord_G (j := 22) hN hT rfl h, zbs, if_neg (show ¬ kd tk s.1 = Int32.ofNat (200 + 22) from a1), if_pos rfl]
    exact Q_asked89 hN hT (Or.inr ⟨rfl, rfl⟩) (by rw [a2]; decide) h hg
  rw [if_neg (show ¬ kd tk s.1 = Int32.ofNat (200 + 23) from a2), if_neg a2, if_pos rfl, isWord_G (j := 24) hN hT rfl h, zbs]
  by_cases a3 : kd tk s.1 = 224
  · rw [if_pos (show kd tk s.1 = Int32.ofNat (200 + 24) from a3), if_pos a3, if_neg i10, zb_uni]
    exact Q_sorted hN hT a3 h hg
  rw [if_neg (show ¬ kd tk s.1 = Int32.ofNat (200 + 24) from a3), if_neg a3, if_pos rfl, isWord_G (j := 25) hN hT rfl h, zbs]
  by_cases a4 : kd tk s.1 = 225
  · rw [if_pos (show kd tk s.1 = Int32.ofNat (200 + 25) from a4), if_pos a4, if_neg i10]
    exact Q_total hN hT hi hl el f1 a4 h hg
  rw [if_neg (show ¬ kd tk s.1 = Int32.ofNat (200 + 25) from a4), if_neg a4, if_pos rfl, if_neg a5]
  obtain ⟨S', n1, n2, n3⟩ := wrong_Q (N := N) hT h
  rw [n1, zbs]
  exact ⟨0, S', rfl, n2, n3, trivial⟩
theorem Q_one (hN : 1400 < N) (hT : tkT t tk) (hi : i ≤ 10) (hl : i < 10 → ∀ s S, RQ t tk (i + 1) s S → zI S 23 = Int32.ofNat fg → Rq t tk (i + 1) S VN T1 (rl 0 (i + 1) s) (r1 S)) (ho : i < 10 → ∀ s S, RQ t tk (i + 1) s S → zI S 23 = Int32.ofNat fg → Rq t tk (i + 1) S VN T1 (ro (i + 1) s) (r2 S)) (el : ExtL rl) (f1 : FQ r1) (f2 : FQ r2) (h : RQ t tk i s S) (hg : zI S 23 = Int32.ofNat fg) : Rq t tk i S VN T1 (pOne tk fg rl ro i s) (rQ_one r1 r2 N S) := by
  unfold pOne rQ_one
  rw [good_G h, zbs, if_pos i11, isSign_G hT (by decide) h, zbs, isSign_G hT (by decide) h, zbs]
  by_cases k45 : kd tk s.1 = 45
  · rw [if_pos (Or.inl k45)]
    simp only [if_pos k45]
    rw [if_pos i11, if_neg i10]
    exact Q_one20 hN hT hi ho f2 (by rw [k45]; decide) h hg
  · simp only [if_neg k45]
    rw [if_neg i00, isWord_G (j := 21) hN hT rfl h, zbs, isSign_G hT (by decide) h, zbs]
    by_cases k21 : kd tk s.1 = 221
    · rw [if_pos (Or.inr k21), if_pos (show kd tk s.1 = Int32.ofNat (200 + 21) from k21), if_neg i10, if_neg k45, if_pos rfl]
      exact Q_one20 hN hT hi ho f2 (by rw [k21]; decide) h hg
    · rw [if_neg (by rw [not_or]; exact ⟨k45, k21⟩), if_neg (show ¬ kd tk s.1 = Int32.ofNat (200 + 21) from k21), if_pos rfl, zb_uni]
      exact Q_base hN hT hi hl ho el f1 f2 h hg
end RBASE
