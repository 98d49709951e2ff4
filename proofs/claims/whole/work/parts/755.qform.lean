/-! FORM: the reference -/
theorem lexK_ne {b : Int32} {r : List Int32} : (lexK (b :: r)).1 ≠ 0 := by
  by_cases hL : isL b = true
  · rw [lexK_w hL]
    show (if nW (b :: r) ≤ 8 then kW (wV 0 ((b :: r).take (nW (b :: r)))) else 1) ≠ 0
    split
    · unfold kW
      rcases kWf_spec (v := wV 0 ((b :: r).take (nW (b :: r)))) zw81 0 with ⟨j, h1, h2⟩ | ⟨_, h⟩
      · have hj := (List.getElem?_eq_some_iff.mp h1).1
        have h36 : zw81.length = 36 := rfl
        rw [h2, Ne, xi32_eq, yi_nat (by omega), show (0 : Int32).toInt = 0 from rfl]; omega
      · rw [h]; decide
    · decide
  · by_cases hG : isG b = true
    · rw [lexK_g hL hG]
      show (if nG (b :: r) ≤ 6 then (2 : Int32) else 1) ≠ 0
      split <;> decide
    · rw [lexK_s hL hG]
      have hz : zwsg.all (fun b => decide (b ≠ 0)) = true := by decide
      show (if b ∈ zwsg then b else 1) ≠ 0
      by_cases hb : b ∈ zwsg
      · have := all_mem hz hb
        simp only [decide_eq_true_eq] at this
        rw [if_pos hb]
        exact this
      · rw [if_neg hb]
        decide
theorem tok_end {t : List Int32} {S : zS} {q : Nat} (h : refTok t S q) : zI S 2 = 0 ↔ kdAt t q = 0 := by
  obtain ⟨_, _, _, h4⟩ := h
  unfold kdAt
  cases hd : t.drop q with
  | nil =>
    rw [hd] at h4
    exact ⟨fun _ => rfl, fun _ => h4⟩
  | cons b r =>
    rw [hd] at h4
    replace h4 : if isL b = true then zI S 2 = (if nW (b :: r) ≤ 8 then 1 else 4) else if isG b = true then (zI S 2 = (if nG (b :: r) ≤ 6 then 2 else 4) ∧ (nG (b :: r) ≤ 6 → zI S 5 = gW 0 ((b :: r).take (nG (b :: r))))) else zI S 2 = (if b ∈ zwsg then 3 else 4) := h4
    refine ⟨fun h => ?_, fun h => absurd h lexK_ne⟩
    exfalso
    split at h4
    · rw [h4] at h
      split at h <;> exact absurd h (by decide)
    split at h4
    · rw [h4.1] at h
      split at h <;> exact absurd h (by decide)
    · rw [h4] at h
      split at h <;> exact absurd h (by decide)
theorem nFt_mem {G : zG} : ∀ {r : List zU} {p : Nat}, nFt G r = some p → ∃ u ∈ r, u.1 = p
  | [], _, h => by cases h
  | u :: r, p, h => by
    rw [nFt] at h
    split at h
    · cases h
      exact ⟨u, List.mem_cons_self, rfl⟩
    · obtain ⟨v, h1, h2⟩ := nFt_mem h
      exact ⟨v, List.mem_cons_of_mem _ h1, h2⟩
section QFORM
variable {N : Nat} {t : List Int32} {tk : List zK} {S : zS} {G : zG} {s : zP}
theorem wordF_F {q : Nat} (h : QF q S) : rQ_word_215_209_6 N S = some ((), S) := by
  rw [rQ_word_215_209_6, good_F h, zbs, if_pos rfl, wrong_F h, zbs]
theorem Q_wordF (hN : 1400 < N) (hT : tkT t tk) (h : RQ t tk 0 s S) : Rq t tk 0 S TT T1 (pWant tk 200 s) (rQ_word_215_209_6 N S) := by
  rw [rQ_word_215_209_6, good_G h, zbs, if_neg (by decide), isWord_G (j := 0) hN hT rfl h, zbs, pWant]
  by_cases hk : kd tk s.1 = 200
  · obtain ⟨S', q1, q2, q3⟩ := next_Q hN hT h (by rw [hk]; decide) (by rw [hk]; decide)
    rw [if_pos hk, if_pos (show kd tk s.1 = Int32.ofNat (200 + 0) from hk), if_neg (by decide), q1, zbs]
    exact ⟨(), S', rfl, q2, q3, trivial⟩
  · obtain ⟨S', q1, q2, q3⟩ := wrong_Q (N := N) hT h
    rw [if_neg hk, if_neg (show ¬ kd tk s.1 = Int32.ofNat (200 + 0) from hk), if_pos rfl, q1, zbs]
    exact ⟨(), S', rfl, q2, q3, trivial⟩
/-- the end: names -/
theorem f137_F {q : Nat} (h : QF q S) : rQ_form_137 N S = some ((), zsI S 0 0) := by
  rw [rQ_form_137, good_F h, zbs, if_pos rfl]
theorem f115_F {q n : Nat} (hn : 0 < n) (h : QF q S) : rQ_form_115 N n S = some ((), zsI S 0 0) := by
  obtain ⟨n, rfl⟩ : ∃ m, n = m + 1 := ⟨n - 1, by omega⟩
  rw [rQ_form_115, good_F h, zbs, if_pos rfl, good_F h, zbs, if_pos rfl, f137_F h]
theorem f93_F {q : Nat} (hN : 1400 < N) (h6 : N / 16 = 100) (h : QF q S) : rQ_form_93 N S = some ((), zsI S 0 0) := by
  rw [rQ_form_93, good_F h, zbs, if_pos rfl, pfix_F (by omega) q _ _ h, zbs, f115_F (by omega) h]
/-- how reading ends -/
def EQ (t : List Int32) (tk : List zK) (r : zF2 Unit) (o : Option (Unit × zS)) : Prop := match r with
  | .inl (G, s, _) => (∀ u ∈ s.2.2.2.2, Nd G.2.1.length u ∧ u.1 ≤ 1400 ∧ (∀ c, u.2.2.2.1 = some c → c < s.2.2.1.length) ∧ u.2.2.2.2 < s.2.2.2.1.length) ∧ s.2.2.2.2.Pairwise (fun u v => u.1 < v.1) ∧ s.2.2.2.2.length ≤ 250 → ∃ S', o = some ((), zsI (zsI S' 6 (lt8 (nFt G s.2.2.2.2))) 0 0) ∧ RQ t tk 0 (nAll G s.2.2.2.2 s) S' ∧ GM G S'
  | .inr (some k) => ∃ S', o = some ((), zsI S' 0 0) ∧ QF (pl tk k) S'
  | .inr none => True
theorem Q_fin0 (hN : 1400 < N) (hT : tkT t tk) (hg : GM G S) (hW : WH S) (h : RQ t tk 0 s S) : EQ t tk (if kd tk s.1 = 0 then .inl (G, s, ()) else .inr (some s.1)) (zb (rQ_good N  S) fun x22 S23 => (if x22 = (0 : Int32) then rQ_form_137 N  S23 else (if (zI S23 2) = (0 : Int32) then rQ_form_137 N  S23 else (zb (rQ_wrong N  S23) fun _ S32 => rQ_form_137 N  S32)))) := by
  rw [good_G h, zbs, if_neg (show ¬ (1 : Int32) = 0 by decide)]
  have h2 : (zI S 2 = 0) ↔ kd tk s.1 = 0 := by
    obtain ⟨τ, k1, k2, k3, k4, k5⟩ := h.kdp hT
    rw [k2]
    exact tok_end k4
  by_cases hk : kd tk s.1 = 0
  · rw [if_pos hk, if_pos (h2.mpr hk)]
    intro hu
    obtain ⟨hu1, hu2, hu3⟩ := hu
    obtain ⟨S', r1, r2, r3, r4, r5, r6⟩ := Q_names (G := G) (N := N) hN s.2.2.2.2 [] s S N none rfl (fun u hu' => ⟨(hu1 u hu').2.1, (fun p hp => by cases hp), (hu1 u hu').2.2.2, (hu1 u hu').1.2⟩) hu2 (fun p hp => by cases hp) hg ⟨hW.1.1, hW.2.1.1⟩ h hW.2.2.1.2 (by omega)
    have r1 : rQ_settle N S = some ((), S') := r1
    refine ⟨S', ?_, r2, r3⟩
    rw [rQ_form_137, good_G h, zbs, if_neg (by decide), r1, zbs, r5, Option.none_or]
  · rw [if_neg hk, if_neg (fun hh => hk (h2.mp hh))]
    obtain ⟨S', q1, q2, q3⟩ := wrong_Q (N := N) hT h
    rw [q1, zbs]
    exact ⟨S', f137_F q2, q2⟩
theorem Q_rules (hN : 1400 < N) (h6 : N / 16 = 100) (hT : tkT t tk) : ∀ (m n : Nat) (G : zG) (s : zP) (S : zS), m < n → GM G S → WH S → RQ t tk 0 s S → EQ t tk (pb2 (fRules tk m G s) fun G s _ => if kd tk s.1 = 0 then .inl (G, s, ()) else .inr (some s.1)) (rQ_form_115 N n S)
  | 0, _, _, _, _, _, _, _, _ => trivial
  | m + 1, 0, _, _, _, hn, _, _, _ => by omega
  | m + 1, n + 1, G, s, S, hn, hg, hW, h => by
    rw [fRules, rQ_form_115, good_G h, zbs, if_neg (show ¬ (1 : Int32) = 0 by decide), isWord_G (j := 17) hN hT rfl h, zbs]
    by_cases hf : kd tk s.1 = 217
    · rw [if_pos hf, if_pos (show kd tk s.1 = Int32.ofNat (200 + 17) from hf), if_pos (by decide)]
      have F := Q_fig hN h6 hT hf hg hW h
      rcases hp : fFig tk G s with ⟨s1, p⟩ | _ | q
      · rw [hp] at F
        obtain ⟨S1, q1, q2, q3, q4⟩ := F
        rw [q1, zbs]
        exact Q_rules hN h6 hT m n (gFig G p) s1 S1 (by omega) q3 q4 q2
      · trivial
      · rw [hp] at F
        obtain ⟨S1, q1, q2, q3⟩ := F
        rw [q1, zbs, f115_F (by omega) q2]
        exact ⟨S1, rfl, q2⟩
    · rw [if_neg hf, if_neg (show ¬ kd tk s.1 = Int32.ofNat (200 + 17) from hf), if_neg (nn rfl), isWord_G (j := 18) hN hT rfl h, zbs]
      by_cases hc : kd tk s.1 = 218
      · rw [if_pos hc, if_pos (show kd tk s.1 = Int32.ofNat (200 + 18) from hc), if_neg (by decide)]
        have F := Q_chk hN h6 hT hc hg hW h
        rcases hp : fChk tk G s with ⟨s1, p⟩ | _ | q
        · rw [hp] at F
          obtain ⟨S1, q1, q2, q3, q4⟩ := F
          rw [q1, zbs]
          exact Q_rules hN h6 hT m n (gChk G p) s1 S1 (by omega) q3 q4 q2
        · trivial
        · rw [hp] at F
          obtain ⟨S1, q1, q2, q3⟩ := F
          rw [q1, zbs, f115_F (by omega) q2]
          exact ⟨S1, rfl, q2⟩
      · rw [if_neg hc, if_neg (show ¬ kd tk s.1 = Int32.ofNat (200 + 18) from hc), if_pos rfl]
        exact Q_fin0 hN hT hg hW h
/-- parts and rules -/
theorem Q_rest (hN : 1400 < N) (h6 : N / 16 = 100) (hT : tkT t tk) {u v : Int32} (hg : GM ([], [], [], u, v) S) (hW : WH S) (h : RQ t tk 0 s S) : EQ t tk (pb2 (fParts tk 21 0 (-9) ([], [], [], u, v) s) fun G s _ => pb2 (fRules tk 25 G s) fun G s _ => if kd tk s.1 = 0 then .inl (G, s, ()) else .inr (some s.1)) (zb (rQ_pfix N (N / 16) (-9) S) fun _ S17 => rQ_form_115 N N  S17) := by
  have e : rQ_pfix N (N / 16) (-9) S = rQ_parts_0 (rQ_pfix N 99) N (N + 1) (-9) S := by rw [h6]; rfl
  have P := Q_parts hN h6 hT 21 0 (-9) ([], [], [], u, v) s S 99 (N + 1) (by decide) rfl (by decide) (by omega) (by omega) hg hW h
  rw [e]
  rcases hp : fParts tk 21 0 (-9) ([], [], [], u, v) s with ⟨G2, s2, b2⟩ | _ | q
  · rw [hp] at P
    obtain ⟨S1, q1, q2, q3, q4, q5⟩ := P
    rw [q1, zbs]
    exact Q_rules hN h6 hT 25 N G2 s2 S1 (by omega) q3 q4 q2
  · trivial
  · rw [hp] at P
    obtain ⟨S1, q1, q2, q3⟩ := P
    rw [q1, zbs, f115_F (by omega) q2]
    exact ⟨S1, rfl, q2⟩
/-- signers -/
theorem Q_93 (hN : 1400 < N) (h6 : N / 16 = 100) (hT : tkT t tk) {u : Int32} (hg : GM ([], [], [], u, 0) S) (hW : WH S) (h : RQ t tk 0 s S) : EQ t tk (pu (fSigners tk s) fun s v => pb2 (fParts tk 21 0 (-9) ([], [], [], u, v) s) fun G s _ => pb2 (fRules tk 25 G s) fun G s _ => if kd tk s.1 = 0 then .inl (G, s, ()) else .inr (some s.1)) (rQ_form_93 N S) := by
  rw [rQ_form_93, good_G h, zbs, if_neg (by decide), isWord_G (j := 2) hN hT rfl h, zbs, fSigners]
  by_cases hk : kd tk s.1 = 202
  · rw [if_pos hk, if_pos (show kd tk s.1 = Int32.ofNat (200 + 2) from hk), if_neg (by decide)]
    obtain ⟨S1, n1, n2, n3⟩ := next_Q hN hT h (by rw [hk]; decide) (by rw [hk]; decide)
    rw [n1, zbs]
    have Nm := Q_number (N := N) (lo := 0) (hi := 5) hN hT n2
    rcases hp : fNum tk 0 5 (sNx s) with ⟨s2, v⟩ | _ | q
    · rw [hp] at Nm
      obtain ⟨a, S2, q1, q2, q3, rfl⟩ := Nm
      rw [q1, zbs]
      have g2 : GM ([], [], [], u, a) (zsI S2 30 a) := by
        have := GMn.eqY (n3.trans q3) hg
        obtain ⟨c1, c2, c3, c4, c5⟩ := this
        exact ⟨c1, c2, c3, c4, rfl⟩
      have w2 : WH (zsI S2 30 a) := by
        have := WH.eqY (n3.trans q3) hW
        exact this
      have r2 : RQ t tk 0 s2 (zsI S2 30 a) := q2
      have Sg := Q_sign (N := N) (c := 59) hN hT (by decide) r2
      show EQ t tk (pu (pb (pWant tk 59 s2) fun s _ => .inl (s, a)) _) _
      rcases hp2 : pWant tk 59 s2 with ⟨s3, b⟩ | _ | q
      · rw [hp2] at Sg
        obtain ⟨_, S3, k1, k2, k3, _⟩ := Sg
        rw [k1, zbs]
        exact Q_rest hN h6 hT (GMn.eqY k3 g2) (WH.eqY k3 w2) k2
      · trivial
      · rw [hp2] at Sg
        obtain ⟨_, S3, k1, k2, k3, _⟩ := Sg
        rw [k1, zbs, pfix_F (by omega) _ _ _ k2, zbs, f115_F (by omega) k2]
        exact ⟨S3, rfl, k2⟩
    · trivial
    · rw [hp] at Nm
      obtain ⟨a, S2, q1, q2, q3, _⟩ := Nm
      have q2' : QF (pl tk q) (zsI S2 30 a) := q2
      rw [q1, zbs, sign_F q2', zbs, pfix_F (by omega) _ _ _ q2', zbs, f115_F (by omega) q2']
      exact ⟨_, rfl, q2'⟩
  · rw [if_neg hk, if_neg (show ¬ kd tk s.1 = Int32.ofNat (200 + 2) from hk), if_pos rfl]
    exact Q_rest hN h6 hT hg hW h
theorem pu_pb {α β γ : Type} {r : zF α} {f : zP → α → zF β} {g : zP → β → zF2 γ} : pu (pb r f) g = pu r fun s a => pu (f s a) g := by
  rcases r with ⟨s, a⟩ | k <;> rfl
/-- as the tokens say: THE FAULT, or the form -/
theorem Q_form (hN : 1400 < N) (h6 : N / 16 = 100) (hT : tkT t tk) (S0 : zS) (hS0 : rQ_next N S0 = some ((), S)) (hg : GM ([], [], [], -9, 0) S) (hW : WH S) (h : RQ t tk 0 (0, 0, [], [], []) S) : EQ t tk (fForm tk) (zb (rQ_next N S0) fun _ S2 => (zb (rQ_word_215_209_6 N  S2) fun _ S5 => (zb (rQ_sign N 59 S5) fun _ S8 => (zb (rQ_good N  S8) fun x10 S11 => (if x10 = (0 : Int32) then rQ_form_93 N  S11 else (zb (rS_isWord zs_8 N S11) fun x70 S71 => (if x70 = (0 : Int32) then rQ_form_93 N  S71 else (zb (rQ_next N  S71) fun _ S74 => (zb (rQ_number N 0 9999 S74) fun x76 S77 => (zb (rQ_sign N 59 (zsI S77 29 x76)) fun _ S80 => rQ_form_93 N  S80)))))))))) := by
  rw [hS0, zbs, fForm, fHead, pu_pb]
  have goF : ∀ q S8, QF q S8 → (zb (rQ_good N  S8) fun x10 S11 => (if x10 = (0 : Int32) then rQ_form_93 N  S11 else (zb (rS_isWord zs_8 N S11) fun x70 S71 => (if x70 = (0 : Int32) then rQ_form_93 N  S71 else (zb (rQ_next N  S71) fun _ S74 => (zb (rQ_number N 0 9999 S74) fun x76 S77 => (zb (rQ_sign N 59 (zsI S77 29 x76)) fun _ S80 => rQ_form_93 N  S80))))))) = some ((), zsI S8 0 0) := by
    intro q S8 hq
    rw [good_F hq, zbs, if_pos rfl, f93_F hN h6 hq]
  have W := Q_wordF (N := N) hN hT h
  rcases hp : pWant tk 200 (0, 0, [], [], []) with ⟨s1, b1⟩ | _ | q
  · rw [hp] at W
    obtain ⟨_, S1, q1, q2, q3, _⟩ := W
    rw [q1, zbs]
    show EQ t tk (pu (pb (pWant tk 59 s1) _) _) _
    rw [pu_pb]
    have Sg := Q_sign (N := N) (c := 59) hN hT (by decide) q2
    rcases hp2 : pWant tk 59 s1 with ⟨s2, b2⟩ | _ | q
    · rw [hp2] at Sg
      obtain ⟨_, S2, k1, k2, k3, _⟩ := Sg
      rw [k1, zbs]
      show EQ t tk (pu (pb (fUntil tk s2) _) _) _
      rw [pu_pb]
      have e2 := q3.trans k3
      have g2 : GM ([], [], [], -9, 0) S2 := GMn.eqY e2 hg
      have w2 := WH.eqY e2 hW
      rw [good_G k2, zbs, if_neg (by decide), isWord_G (j := 1) hN hT rfl k2, zbs, fUntil]
      have go : ∀ (s3 : zP) (S3 : zS) (u : Int32), GM ([], [], [], u, 0) S3 → WH S3 → RQ t tk 0 s3 S3 → EQ t tk (pu (pb (fSigners tk s3) fun s v => (.inl (s, u, v) : zF (Int32 × Int32))) fun s h => pb2 (fParts tk 21 0 (-9) ([], [], [], h.1, h.2) s) fun G s _ => pb2 (fRules tk 25 G s) fun G s _ => if kd tk s.1 = 0 then .inl (G, s, ()) else .inr (some s.1)) (rQ_form_93 N S3) := by
        intro s3 S3 u c1 c2 c3
        rw [pu_pb]
        exact Q_93 hN h6 hT c1 c2 c3
      by_cases hk : kd tk s2.1 = 201
      · rw [if_pos hk, if_pos (show kd tk s2.1 = Int32.ofNat (200 + 1) from hk), if_neg (by decide)]
        obtain ⟨S3, n1, n2, n3⟩ := next_Q hN hT k2 (by rw [hk]; decide) (by rw [hk]; decide)
        rw [n1, zbs, pu_pb]
        have Nm := Q_number (N := N) (lo := 0) (hi := 9999) hN hT n2
        rcases hp3 : fNum tk 0 9999 (sNx s2) with ⟨s4, v⟩ | _ | q
        · rw [hp3] at Nm
          obtain ⟨a, S4, m1, m2, m3, rfl⟩ := Nm
          rw [m1, zbs]
          show EQ t tk (pu (pb (pWant tk 59 s4) _) _) _
          rw [pu_pb]
          have g4 : GM ([], [], [], a, 0) (zsI S4 29 a) := by
            have := GMn.eqY (n3.trans m3) g2
            obtain ⟨c1, c2, c3, c4, c5⟩ := this
            exact ⟨c1, c2, c3, rfl, c5⟩
          have w4 : WH (zsI S4 29 a) := by
            have := WH.eqY (n3.trans m3) w2
            exact this
          have r4 : RQ t tk 0 s4 (zsI S4 29 a) := m2
          have Sg2 := Q_sign (N := N) (c := 59) hN hT (by decide) r4
          rcases hp4 : pWant tk 59 s4 with ⟨s5, b5⟩ | _ | q
          · rw [hp4] at Sg2
            obtain ⟨_, S5, y1, y2, y3, _⟩ := Sg2
            rw [y1, zbs]
            exact go s5 S5 a (GMn.eqY y3 g4) (WH.eqY y3 w4) y2
          · trivial
          · rw [hp4] at Sg2
            obtain ⟨_, S5, y1, y2, y3, _⟩ := Sg2
            rw [y1, zbs, f93_F hN h6 y2]
            exact ⟨S5, rfl, y2⟩
        · trivial
        · rw [hp3] at Nm
          obtain ⟨a, S4, m1, m2, m3, _⟩ := Nm
          have m2' : QF (pl tk q) (zsI S4 29 a) := m2
          rw [m1, zbs, sign_F m2', zbs, f93_F hN h6 m2']
          exact ⟨_, rfl, m2'⟩
      · rw [if_neg hk, if_neg (show ¬ kd tk s2.1 = Int32.ofNat (200 + 1) from hk), if_pos rfl]
        exact go s2 S2 (-9) g2 w2 k2
    · trivial
    · rw [hp2] at Sg
      obtain ⟨_, S2, k1, k2, k3, _⟩ := Sg
      rw [k1, zbs, goF _ _ k2]
      exact ⟨S2, rfl, k2⟩
  · trivial
  · rw [hp] at W
    obtain ⟨_, S1, q1, q2, q3, _⟩ := W
    rw [q1, zbs, sign_F q2, zbs, goF _ _ q2]
    exact ⟨S1, rfl, q2⟩
/-- lengths alone -/
def WM (S : zS) : Prop := ((zA S 33).length = 300 ∧ (zA S 35).length = 300 ∧ (zA S 36).length = 300 ∧ (zB S 34).length = 300) ∧ ((zB S 10).length = 252 ∧ (zA S 11).length = 252 ∧ (zA S 12).length = 252 ∧ (zA S 13).length = 252) ∧ ((zB S 15).length = 20 ∧ (zA S 16).length = 20 ∧ (zA S 17).length = 20 ∧ (zA S 18).length = 20 ∧ (zA S 19).length = 20 ∧ (zA S 20).length = 20 ∧ (zA S 21).length = 20 ∧ (zA S 22).length = 20) ∧ ((zB S 24).length = 12 ∧ (zA S 25).length = 12 ∧ (zA S 27).length = 12 ∧ (zA S 28).length = 12)
theorem Q_formT (hN : 1400 < N) (h6 : N / 16 = 100) (hTp : refTape t S) (hL : WM S) : match rdForm t with
    | .inl p => p ≤ 1400 ∧ ∃ S', rQ_form N S = some ((), S') ∧ zI S' 6 = Int32.ofNat p ∧ zI S' 0 = 0
    | .inr (G, s) => ∃ S', rQ_form N S = some ((), zsI (zsI S' 6 (-9)) 0 0) ∧ RQ t (tkOf t) 0 s S' ∧ GM G S' := by
  have ht := hTp.2.1
  generalize hS0 : (zsI (zsI (zsI (zsI (zsI (zsI (zsI (zsI (zsI (zsI (zsI (zsI S 14 0) 23 0) 26 0) 29 (-9)) 30 0) 31 0) 32 0) 6 (-9)) 8 (-9)) 7 0) 9 0) 4 0) = S0
  have hTp0 : refTape t S0 := by rw [← hS0]; exact hTp
  obtain ⟨S1, n1, n2, n3, n4⟩ := rQ_next_ok (p := 0) hN hTp0 (Nat.zero_le _) (by rw [← hS0]; rfl)
  have a1 : ∀ i, zA S1 i = zA S i := fun i => by
    have : zA S1 i = zA S0 i := congrArg (fun q => q.2.2.1 i) n2
    rw [this, ← hS0]; rfl
  have b1 : ∀ i, zB S1 i = zB S i := fun i => by
    have : zB S1 i = zB S0 i := congrArg (fun q => q.2.2.2.1 i) n2
    rw [this, ← hS0]; rfl
  have i0 : zI S1 0 = zI S 0 := by rw [n3 0 (by decide) (by decide) (by decide) (by decide), ← hS0]; rfl
  have i6 : zI S1 6 = -9 := by rw [n3 6 (by decide) (by decide) (by decide) (by decide), ← hS0]; rfl
  have i7 : zI S1 7 = 0 := by rw [n3 7 (by decide) (by decide) (by decide) (by decide), ← hS0]; rfl
  have i8 : zI S1 8 = -9 := by rw [n3 8 (by decide) (by decide) (by decide) (by decide), ← hS0]; rfl
  have i9 : zI S1 9 = 0 := by rw [n3 9 (by decide) (by decide) (by decide) (by decide), ← hS0]; rfl
  have i14 : zI S1 14 = 0 := by rw [n3 14 (by decide) (by decide) (by decide) (by decide), ← hS0]; rfl
  have i23 : zI S1 23 = 0 := by rw [n3 23 (by decide) (by decide) (by decide) (by decide), ← hS0]; rfl
  have i26 : zI S1 26 = 0 := by rw [n3 26 (by decide) (by decide) (by decide) (by decide), ← hS0]; rfl
  have i29 : zI S1 29 = -9 := by rw [n3 29 (by decide) (by decide) (by decide) (by decide), ← hS0]; rfl
  have i30 : zI S1 30 = 0 := by rw [n3 30 (by decide) (by decide) (by decide) (by decide), ← hS0]; rfl
  have i31 : zI S1 31 = 0 := by rw [n3 31 (by decide) (by decide) (by decide) (by decide), ← hS0]; rfl
  have i32 : zI S1 32 = 0 := by rw [n3 32 (by decide) (by decide) (by decide) (by decide), ← hS0]; rfl
  obtain ⟨l1, l2, l3, l4⟩ := hL
  have hWQ : WQ S1 := by
    refine ⟨?_, ?_, 0, by omega, i32⟩
    · rw [a1, a1, a1, b1]; exact l1
    · rw [a1, a1, a1, b1]; exact l2
  have hWH : WH S1 := by
    refine ⟨?_, ?_, ⟨⟨0, by omega, i14⟩, i8⟩, ⟨0, by omega, i23⟩, 0, by omega, i26⟩
    · rw [a1, a1, a1, a1, a1, a1, a1, b1]; exact l3
    · rw [a1, a1, a1, b1]; exact l4
  have hGM : GM ([], [], [], -9, 0) S1 := ⟨⟨i14, by decide, by decide, fun i p hp => by simp at hp⟩, ⟨i23, by decide, fun i p hp => by simp at hp⟩, ⟨i26, by decide, fun i p hp => by simp at hp⟩, i29, i30⟩
  have hRQ : RQ t (tkOf t) 0 (0, 0, [], [], []) S1 := by
    refine ⟨hWQ, i6, ?_, ?_, i7, ⟨i31, by decide⟩, ⟨i32, by decide, fun j n hn => by simp at hn⟩, ⟨i9, by decide, fun j u hu => by simp at hu⟩⟩
    · obtain ⟨q1, q2, q3, jk, q4⟩ := hTp
      exact ⟨by rw [i0]; exact q1, q2, q3, jk, by rw [a1]; exact q4⟩
    · have hl := tkOf_len (t := t)
      refine ⟨_, List.getElem?_eq_getElem hl, ?_⟩
      have := (tks_spec (t := t) (t.length + 1) 0 0 _ (Nat.zero_le _) (by rw [List.drop_zero]; omega) (List.getElem?_eq_getElem hl)).2.2.2 rfl
      rw [show (tkOf t)[0].2.1 = 0 + nB (t.drop 0) from this]
      exact n4
  have hF := Q_form (N := N) hN h6 (tkOf_T (t := t)) S0 n1 hGM hWH hRQ
  have e : rQ_form N S = (zb (rQ_next N S0) fun _ S2 => (zb (rQ_word_215_209_6 N  S2) fun _ S5 => (zb (rQ_sign N 59 S5) fun _ S8 => (zb (rQ_good N  S8) fun x10 S11 => (if x10 = (0 : Int32) then rQ_form_93 N  S11 else (zb (rS_isWord zs_8 N S11) fun x70 S71 => (if x70 = (0 : Int32) then rQ_form_93 N  S71 else (zb (rQ_next N  S71) fun _ S74 => (zb (rQ_number N 0 9999 S74) fun x76 S77 => (zb (rQ_sign N 59 (zsI S77 29 x76)) fun _ S80 => rQ_form_93 N  S80)))))))))) := by rw [← hS0]; rfl
  rw [← e] at hF
  have hok := fform_ok (tk := tkOf t)
  unfold rdForm
  rcases hp : fForm (tkOf t) with ⟨G, s, b⟩ | _ | q
  · rw [hp] at hF
    have hu := uses_ok ht hp
    obtain ⟨S', q1, q2, q3⟩ := hF hu
    show match (match nFt G s.2.2.2.2 with | some p => (.inl p : Nat ⊕ (zG × zP)) | none => .inr (G, nAll G s.2.2.2.2 s)) with | .inl p => _ | .inr (G, s) => _
    rcases hn : nFt G s.2.2.2.2 with _ | p
    · rw [hn] at q1
      exact ⟨S', q1, q2, q3⟩
    · rw [hn] at q1
      obtain ⟨u, u1, rfl⟩ := nFt_mem hn
      exact ⟨(hu.1 u u1).2.1, _, q1, rfl, rfl⟩
  · rw [hp] at hok
    exact absurd hok id
  · rw [hp] at hF
    obtain ⟨S', q1, q2⟩ := hF
    exact ⟨q2.2.1, _, q1, q2.2.2, rfl⟩
end QFORM
