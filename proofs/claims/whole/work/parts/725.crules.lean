/-! THE CLASS READS FORMS: head and rules -/
section CRULES
variable {α β γ : Type} {N : Nat} {tk : List zK} {s : zP} {S : zS} {G : zG}
theorem Kt.bind {V : α → γ → Prop} {F : α → Prop} {p : zF γ} {o1 : Option (α × zS)} {f : zP → γ → zF β} {g : α → zS → Option (Unit × zS)} {k : β → zS → Option (Unit × zS)} (h : Rs tk S V F p o1) (hg : ∀ s b a S1, CP tk s S1 → eqX S S1 → V a b → Kt tk S1 (f s b) (g a S1) k) (hf : ∀ a q S1, CF q S1 → ∃ b S2, g a S1 = k b S2 ∧ CF q S2 ∧ eqX S1 S2) : Kt tk S (pb p f) (zb o1 g) k := by
  rcases p with ⟨s1, b⟩ | _ | q
  · obtain ⟨a, S1, q1, q2, q3, q4⟩ := h
    rw [q1, zbs]
    exact Kt.base q3 (hg s1 b a S1 q2 q3 q4)
  · trivial
  · obtain ⟨a, S1, q1, q2, q3, _⟩ := h
    obtain ⟨b, S2, w1, w2, w3⟩ := hf a _ _ q2
    rw [q1, zbs, w1]
    exact ⟨b, S2, rfl, w2, q3.trans w3⟩
theorem C_fig (hN : 1400 < N) (h6 : N / 16 = 100) (ok : tkOK tk) (hk : kd tk s.1 = 217) (hg : GC G S) (hW : WG S) (h : CP tk s S) : match fFig tk G s with
    | .inl (s1, p) => ∃ S1, cP_readFigure N S = some ((), S1) ∧ CP tk s1 S1 ∧ GC (gFig G p) S1 ∧ WG S1
    | .inr (some q) => ∃ S1, cP_readFigure N S = some ((), S1) ∧ CF (pl tk q) S1 ∧ WG S1
    | .inr none => True := by
  obtain ⟨m1, m2, m3⟩ := next_G (N := N) ok h (by rw [hk]; decide) (by rw [hk]; decide)
  have hg1 : GC G (zsI S 5 (Int32.ofNat (s.1 + 1))) := GCn.eqX m3 hg
  have hW1 := WG.eqX m3 hW
  have f12 := hg1.2.1.2.1
  have e22 := hg1.2.1.1
  have hone : cP_readFigure N S = cP_readFigure_13 N (Int32.ofNat G.2.1.length) (if G.2.1.length < 12 then 1 else 0) (zsI S 5 (Int32.ofNat (s.1 + 1))) := by
    rw [cP_readFigure, m1, zbs, e22, yi_nat (by omega)]
    by_cases h20 : G.2.1.length < 12
    · rw [if_neg (by omega), if_pos h20]
    · rw [if_pos (by omega), if_neg h20]
  have hK : Kt tk (zsI S 5 (Int32.ofNat (s.1 + 1))) (fFig tk G s) (cP_readFigure N S) (fun p S14 => (if (zI S14 6) ≠ ((-9) : Int32) then some ((), S14) else (if zok (zB S14 9) (Int32.ofNat G.2.1.length) then (if zok (zA S14 23) (Int32.ofNat G.2.1.length) then some ((), (zsI (zsA (zsB S14 9 (zs (zB S14 9) (Int32.ofNat G.2.1.length) p.1)) 23 (zs (zA S14 23) (Int32.ofNat G.2.1.length) p.2.2)) 22 ((zI S14 22) + 1))) else none) else none))) := by
    rw [hone]
    unfold fFig cP_readFigure_13
    refine Kt.bind (R_newName (b := if G.2.1.length < 12 then 1 else 0) (c := G.2.1.length < 12) hN ok rfl hg1 rfl hW1 m2) ?_ ?_
    · rintro s1 nm a S1 h1 x1 rfl
      refine Kt.bind (R_want ok (by decide) (by decide) h1) ?_ ?_
      · intro s2 _ _ S2 h2 x2 _
        refine Kt.bind (R_exp (i := 0) hN h6 ok (by omega) h2 ((x1.trans x2).fg e22)) ?_ ?_
        · rintro s3 w a3 S3 h3 x3 rfl
          refine Kt.bind (R_want ok (by decide) (by decide) h3) ?_ ?_
          · intro s4 _ _ S4 h4 x4 _
            exact ⟨S4, rfl, h4, eqX.refl⟩
          · intro _ q S4 hq
            exact ⟨(_, 0, _), S4, rfl, hq, eqX.refl⟩
        · intro a q S3 hq
          rw [want_F (by decide) hq, zbs]
          exact ⟨(_, 0, a), S3, rfl, hq, eqX.refl⟩
      · intro _ q S2 hq
        obtain ⟨a3, S3, w1, w2, w3⟩ := exp_F (N := N) (i := 0) hN h6 hq
        rw [w1, zbs, want_F (by decide) w2, zbs]
        exact ⟨(_, 0, a3), S3, rfl, w2, w3⟩
    · intro a q S1 hq
      obtain ⟨a3, S3, w1, w2, w3⟩ := exp_F (N := N) (i := 0) hN h6 hq
      rw [want_F (by decide) hq, zbs, w1, zbs, want_F (by decide) w2, zbs]
      exact ⟨(a, 0, a3), S3, rfl, w2, w3⟩
  rcases hp : fFig tk G s with ⟨s1, p⟩ | _ | q
  · have h12 : G.2.1.length < 12 := by
      obtain ⟨s2, _, q1, _⟩ := pb_inl hp
      unfold fNew at q1
      split at q1
      · rename_i hh; exact hh.2.1
      · cases q1
    rw [hp] at hK
    obtain ⟨S1, q1, q2, q3⟩ := hK
    have g3 := GCn.eqX q3 hg1
    obtain ⟨w1, ⟨l9, l23, l25, l26⟩, w3, w4, w5⟩ := WG.eqX q3 hW1
    rw [q1]
    dsimp only
    rw [if_neg (nn q2.2.1), if_pos (zok_nat (by omega) (by omega)), if_pos (zok_nat (by omega) (by omega)), g3.2.1.1, yi_add1, zs_nat (by omega), zs_nat (by omega)]
    refine ⟨_, rfl, q2, ⟨g3.1, ⟨?_, ?_, ?_⟩, g3.2.2⟩, ⟨w1, ⟨?_, ?_, l25, l26⟩, w3, ⟨G.2.1.length + 1, by omega, rfl⟩, w5⟩⟩
    · show _ = Int32.ofNat (G.2.1 ++ [p]).length; rw [List.length_append]; rfl
    · show (G.2.1 ++ [p]).length ≤ 12; rw [List.length_append]; simp; omega
    · intro i u hu
      have hu : (G.2.1 ++ [p])[i]? = some u := hu
      show ((zB S1 9).set _ _)[i]? = _ ∧ ((zA S1 23).set _ _)[i]? = _
      by_cases hi : i < G.2.1.length
      · rw [List.getElem?_append_left hi] at hu
        rw [List.getElem?_set_ne (by omega), List.getElem?_set_ne (by omega)]
        exact g3.2.1.2.2 i u hu
      · have hil := (List.getElem?_eq_some_iff.mp hu).1
        rw [List.length_append, List.length_singleton] at hil
        obtain rfl : i = G.2.1.length := by omega
        rw [List.getElem?_append_right (Nat.le_refl _), Nat.sub_self] at hu
        cases hu
        rw [List.getElem?_set_self (by omega), List.getElem?_set_self (by omega)]
        exact ⟨rfl, rfl⟩
    · show ((zB S1 9).set _ _).length = 12; rw [List.length_set, l9]
    · show ((zA S1 23).set _ _).length = 12; rw [List.length_set, l23]
  · trivial
  · rw [hp] at hK
    obtain ⟨b, S1, q1, q2, q3⟩ := hK
    rw [q1]
    dsimp only
    rw [if_pos q2.ne]
    exact ⟨S1, rfl, q2, WG.eqX q3 hW1⟩
theorem C_chk (hN : 1400 < N) (h6 : N / 16 = 100) (ok : tkOK tk) (hk : kd tk s.1 = 218) (hg : GC G S) (hW : WG S) (h : CP tk s S) : match fChk tk G s with
    | .inl (s1, p) => ∃ S1, cP_readCheck N S = some ((), S1) ∧ CP tk s1 S1 ∧ GC (gChk G p) S1 ∧ WG S1
    | .inr (some q) => ∃ S1, cP_readCheck N S = some ((), S1) ∧ CF (pl tk q) S1 ∧ WG S1
    | .inr none => True := by
  obtain ⟨m1, m2, m3⟩ := next_G (N := N) ok h (by rw [hk]; decide) (by rw [hk]; decide)
  have hg1 : GC G (zsI S 5 (Int32.ofNat (s.1 + 1))) := GCn.eqX m3 hg
  have hW1 := WG.eqX m3 hW
  have f12 := hg1.2.2.1.2.1
  have e24 := hg1.2.2.1.1
  have e22 := hg1.2.1.1
  by_cases h12 : G.2.2.1.length < 12
  · have hK : Kt tk (zsI S 5 (Int32.ofNat (s.1 + 1))) (fChk tk G s) (cP_readCheck N S) (fun p S11 => (if (zI S11 6) ≠ ((-9) : Int32) then some ((), S11) else (if zok (zA S11 25) (Int32.ofNat G.2.2.1.length) then (if zok (zA S11 26) (Int32.ofNat G.2.2.1.length) then some ((), (zsI (zsA (zsA S11 25 (zs (zA S11 25) (Int32.ofNat G.2.2.1.length) p.1)) 26 (zs (zA S11 26) (Int32.ofNat G.2.2.1.length) p.2.2)) 24 ((zI S11 24) + 1))) else none) else none))) := by
      rw [cP_readCheck, m1, zbs, e24, if_pos (by rw [yi_nat (by omega)]; omega)]
      unfold fChk cP_readCheck_11
      rw [if_pos h12]
      refine Kt.bind (R_num ok m2) ?_ ?_
      · rintro s1 no a S1 h1 x1 rfl
        refine Kt.bind (R_exp (i := 0) hN h6 ok (by omega) h1 (x1.fg e22)) ?_ ?_
        · rintro s3 w a3 S3 h3 x3 rfl
          refine Kt.bind (R_want ok (by decide) (by decide) h3) ?_ ?_
          · intro s4 _ _ S4 h4 x4 _
            exact ⟨S4, rfl, h4, eqX.refl⟩
          · intro _ q S4 hq
            exact ⟨(_, 0, _), S4, rfl, hq, eqX.refl⟩
        · intro a q S3 hq
          rw [want_F (by decide) hq, zbs]
          exact ⟨(_, 0, a), S3, rfl, hq, eqX.refl⟩
      · intro a q S1 hq
        obtain ⟨a3, S3, w1, w2, w3⟩ := exp_F (N := N) (i := 0) hN h6 hq
        rw [w1, zbs, want_F (by decide) w2, zbs]
        exact ⟨(a, 0, a3), S3, rfl, w2, w3⟩
    rcases hp : fChk tk G s with ⟨s1, p⟩ | _ | q
    · rw [hp] at hK
      obtain ⟨S1, q1, q2, q3⟩ := hK
      have g3 := GCn.eqX q3 hg1
      obtain ⟨w1, ⟨l9, l23, l25, l26⟩, w3, w4, w5⟩ := WG.eqX q3 hW1
      rw [q1]
      dsimp only
      rw [if_neg (nn q2.2.1), if_pos (zok_nat (by omega) (by omega)), if_pos (zok_nat (by omega) (by omega)), g3.2.2.1.1, yi_add1, zs_nat (by omega), zs_nat (by omega)]
      refine ⟨_, rfl, q2, ⟨g3.1, g3.2.1, ⟨?_, ?_, ?_⟩, g3.2.2.2⟩, ⟨w1, ⟨l9, l23, ?_, ?_⟩, w3, w4, ⟨G.2.2.1.length + 1, by omega, rfl⟩⟩⟩
      · show _ = Int32.ofNat (G.2.2.1 ++ [p]).length; rw [List.length_append]; rfl
      · show (G.2.2.1 ++ [p]).length ≤ 12; rw [List.length_append]; simp; omega
      · intro i u hu
        have hu : (G.2.2.1 ++ [p])[i]? = some u := hu
        show ((zA S1 25).set _ _)[i]? = _ ∧ ((zA S1 26).set _ _)[i]? = _
        by_cases hi : i < G.2.2.1.length
        · rw [List.getElem?_append_left hi] at hu
          rw [List.getElem?_set_ne (by omega), List.getElem?_set_ne (by omega)]
          exact g3.2.2.1.2.2 i u hu
        · have hil := (List.getElem?_eq_some_iff.mp hu).1
          rw [List.length_append, List.length_singleton] at hil
          obtain rfl : i = G.2.2.1.length := by omega
          rw [List.getElem?_append_right (Nat.le_refl _), Nat.sub_self] at hu
          cases hu
          rw [List.getElem?_set_self (by omega), List.getElem?_set_self (by omega)]
          exact ⟨rfl, rfl⟩
      · show ((zA S1 25).set _ _).length = 12; rw [List.length_set, l25]
      · show ((zA S1 26).set _ _).length = 12; rw [List.length_set, l26]
    · trivial
    · rw [hp] at hK
      obtain ⟨b, S1, q1, q2, q3⟩ := hK
      rw [q1]
      dsimp only
      rw [if_pos q2.ne]
      exact ⟨S1, rfl, q2, WG.eqX q3 hW1⟩
  · obtain ⟨S2, r1, r2, r3⟩ := refuse_G (N := N) ok m2
    obtain ⟨a3, S3, w1, w2, w3⟩ := exp_F (N := N) (i := 0) hN h6 r2
    unfold fChk
    rw [if_neg h12, cP_readCheck, m1, zbs, e24, if_neg (by rw [yi_nat (by omega)]; omega), r1, zbs, cP_readCheck_11, num_F r2, zbs, w1, zbs, want_F (by decide) w2, zbs, if_pos w2.ne]
    exact ⟨S3, rfl, w2, WG.eqX (r3.trans w3) hW1⟩
theorem rules_F {n : Nat} {l : Int32} {q : Nat} (hn : 0 < n) (h : CF q S) : cP_readRules_2 N n l S = some ((), S) := by
  obtain ⟨n, rfl⟩ : ∃ k, n = k + 1 := ⟨n - 1, by omega⟩
  rw [cP_readRules_2, sees_F h, zbs, if_neg (show ¬ (1 : Int32) = 217 by decide), sees_F h, zbs, if_pos (show (1 : Int32) ≠ 218 by decide), ite_self]
theorem C_rules (hN : 1400 < N) (h6 : N / 16 = 100) (ok : tkOK tk) : ∀ (m : Nat) (G : zG) (s : zP) (S : zS) (n l : Nat), l ≤ G.2.1.length + G.2.2.1.length → 100 ≤ n + l → GC G S → WG S → CP tk s S → match fRules tk m G s with
    | .inl (G', s', _) => ∃ S', cP_readRules_2 N n (Int32.ofNat l) S = some ((), S') ∧ CP tk s' S' ∧ GC G' S' ∧ WG S'
    | .inr (some q) => ∃ S', cP_readRules_2 N n (Int32.ofNat l) S = some ((), S') ∧ CF (pl tk q) S' ∧ WG S'
    | .inr none => True
  | 0, _, _, _, _, _, _, _, _, _, _ => trivial
  | m + 1, G, s, S, n, l, hl, hn, hg, hW, h => by
    have f12 : G.2.1.length ≤ 12 := hg.2.1.2.1
    have c12 : G.2.2.1.length ≤ 12 := hg.2.2.1.2.1
    have el := yi_nat (i := l) (by omega)
    obtain ⟨n, rfl⟩ : ∃ k, n = k + 1 := ⟨n - 1, by omega⟩
    rw [cP_readRules_2, if_neg (by rw [el]; omega), sees_G ok h, zbs, sees_G ok h, zbs, fRules]
    by_cases k7 : kd tk s.1 = 217
    · rw [if_pos k7, if_pos k7, cP_readRules_13, sees_G ok h, zbs, if_neg (nn k7), yi_add1]
      have hF := C_fig (N := N) hN h6 ok k7 hg hW h
      rcases hp : fFig tk G s with ⟨s1, p⟩ | _ | q
      · rw [hp] at hF
        obtain ⟨S1, q1, q2, q3, q4⟩ := hF
        rw [q1, zbs]
        exact C_rules hN h6 ok m (gFig G p) s1 S1 n (l + 1) (by show l + 1 ≤ (G.2.1 ++ [p]).length + G.2.2.1.length; rw [List.length_append]; simp; omega) (by omega) q3 q4 q2
      · trivial
      · rw [hp] at hF
        obtain ⟨S1, q1, q2, q3⟩ := hF
        rw [q1, zbs, rules_F (by omega) q2]
        exact ⟨S1, rfl, q2, q3⟩
    · rw [if_neg k7, if_neg k7]
      by_cases k8 : kd tk s.1 = 218
      · rw [if_pos k8, if_neg (nn k8), cP_readRules_13, sees_G ok h, zbs, if_pos k7, yi_add1]
        have hF := C_chk (N := N) hN h6 ok k8 hg hW h
        rcases hp : fChk tk G s with ⟨s1, p⟩ | _ | q
        · rw [hp] at hF
          obtain ⟨S1, q1, q2, q3, q4⟩ := hF
          rw [q1, zbs]
          exact C_rules hN h6 ok m (gChk G p) s1 S1 n (l + 1) (by show l + 1 ≤ G.2.1.length + (G.2.2.1 ++ [p]).length; rw [List.length_append]; simp; omega) (by omega) q3 q4 q2
        · trivial
        · rw [hp] at hF
          obtain ⟨S1, q1, q2, q3⟩ := hF
          rw [q1, zbs, rules_F (by omega) q2]
          exact ⟨S1, rfl, q2, q3⟩
      · rw [if_neg k8, if_pos k8]
        exact ⟨S, rfl, h, hg, hW⟩
theorem head22_F {q : Nat} (h : CF q S) : cP_readHead_22 N S = some ((), S) := by
  rw [cP_readHead_22, sees_F h, zbs, if_pos (show (1 : Int32) ≠ 202 by decide)]
theorem C_signers (ok : tkOK tk) (hg : GC G S) (h0 : G.2.2.2.2 = 0) (hW : WG S) (h : CP tk s S) : match fSigners tk s with
    | .inl (s1, v) => ∃ S1, cP_readHead_22 N S = some ((), S1) ∧ CP tk s1 S1 ∧ GC (G.1, G.2.1, G.2.2.1, G.2.2.2.1, v) S1 ∧ WG S1
    | .inr (some q) => ∃ S1, cP_readHead_22 N S = some ((), S1) ∧ CF (pl tk q) S1 ∧ WG S1
    | .inr none => True := by
  unfold fSigners cP_readHead_22
  rw [sees_G ok h, zbs]
  by_cases hk : kd tk s.1 = 202
  · obtain ⟨m1, m2, m3⟩ := next_G (N := N) ok h (by rw [hk]; decide) (by rw [hk]; decide)
    rw [if_pos hk, if_neg (nn hk), m1, zbs]
    have hR := R_num (N := N) (lo := 0) (hi := 5) ok m2
    rcases hp : fNum tk 0 5 (sNx s) with ⟨s1, v⟩ | _ | q
    · rw [hp] at hR
      obtain ⟨a, S1, q1, q2, q3, rfl⟩ := hR
      have e := m3.trans q3
      have g1 := GCn.eqX e hg
      have w1 := WG.eqX e hW
      rw [q1, zbs]
      have q2' : CP tk s1 (zsI S1 29 a) := q2
      have hwt := R_want (N := N) (c := 59) ok (by decide) (by decide) q2'
      have g2 : GC (G.1, G.2.1, G.2.2.1, G.2.2.2.1, a) (zsI S1 29 a) := ⟨g1.1, g1.2.1, g1.2.2.1, g1.2.2.2.1, rfl⟩
      have w2 : WG (zsI S1 29 a) := w1
      show match pb (pWant tk 59 s1) fun s _ => .inl (s, a) with
        | .inl (s1, v) => _
        | .inr (some q) => _
        | .inr none => True
      rcases hp4 : pWant tk 59 s1 with ⟨s4, _⟩ | _ | q
      · rw [hp4] at hwt
        obtain ⟨_, S5, f1, f2, f3, _⟩ := hwt
        rw [f1, zbs]
        exact ⟨S5, rfl, f2, GCn.eqX f3 g2, WG.eqX f3 w2⟩
      · trivial
      · rw [hp4] at hwt
        obtain ⟨_, S5, f1, f2, f3, _⟩ := hwt
        rw [f1, zbs]
        exact ⟨S5, rfl, f2, WG.eqX f3 w2⟩
    · trivial
    · rw [hp] at hR
      obtain ⟨a, S1, q1, q2, q3, _⟩ := hR
      have q2' : CF (pl tk q) (zsI S1 29 a) := q2
      rw [q1, zbs, want_F (by decide) q2', zbs]
      have w5 : WG S1 := WG.eqX (m3.trans q3) hW
      exact ⟨_, rfl, q2', w5⟩
  · rw [if_neg hk, if_pos hk]
    refine ⟨S, rfl, h, ?_, hW⟩
    show GC (G.1, G.2.1, G.2.2.1, G.2.2.2.1, 0) S
    rw [← h0]
    exact hg
theorem C_head (ok : tkOK tk) (hg : GC ([], [], [], -9, 0) S) (hW : WG S) (h : CP tk s S) : match fHead tk s with
    | .inl (s1, v) => ∃ S1, cP_readHead N S = some ((), S1) ∧ CP tk s1 S1 ∧ GC ([], [], [], v.1, v.2) S1 ∧ WG S1
    | .inr (some q) => ∃ S1, cP_readHead N S = some ((), S1) ∧ CF (pl tk q) S1 ∧ WG S1
    | .inr none => True := by
  have aF : ∀ (q : Nat) (S1 : zS), CF q S1 → (zb (cP_sees N  S1) fun x7 S8 => (if x7 ≠ (201 : Int32) then cP_readHead_22 N  S8 else (zb (cP_next N  S8) fun _ S23 => (zb (cP_readNumber N 0 9999 S23) fun x25 S26 => (zb (cP_want N 59 (zsI S26 28 x25)) fun _ S29 => cP_readHead_22 N  S29))))) = some ((), S1) := by
    intro q S1 hq
    rw [sees_F hq, zbs, if_pos (show (1 : Int32) ≠ 201 by decide), head22_F hq]
  have fin : ∀ (s1 : zP) (S1 : zS) (u : Int32), CP tk s1 S1 → GC ([], [], [], u, 0) S1 → WG S1 → match pb (fSigners tk s1) fun s v => (.inl (s, u, v) : zF (Int32 × Int32)) with
      | .inl (s1, v) => ∃ S2, cP_readHead_22 N S1 = some ((), S2) ∧ CP tk s1 S2 ∧ GC ([], [], [], v.1, v.2) S2 ∧ WG S2
      | .inr (some q) => ∃ S2, cP_readHead_22 N S1 = some ((), S2) ∧ CF (pl tk q) S2 ∧ WG S2
      | .inr none => True := by
    intro s1 S1 u h1 g1 w1
    have hS := C_signers (N := N) ok g1 rfl w1 h1
    rcases hp : fSigners tk s1 with ⟨s2, v⟩ | _ | q
    · rw [hp] at hS; exact hS
    · trivial
    · rw [hp] at hS; exact hS
  unfold fHead cP_readHead
  have hA := R_want (N := N) (c := 200) ok (by decide) (by decide) h
  rcases hpA : pWant tk 200 s with ⟨sA, _⟩ | _ | q
  · rw [hpA] at hA
    obtain ⟨_, SA, a1, a2, a3, _⟩ := hA
    have hB := R_want (N := N) (c := 59) ok (by decide) (by decide) a2
    rw [a1, zbs]
    show match pb (pWant tk 59 sA) fun s _ => pb (fUntil tk s) fun s u => pb (fSigners tk s) fun s v => (.inl (s, u, v) : zF (Int32 × Int32)) with
      | .inl (s1, v) => _
      | .inr (some q) => _
      | .inr none => True
    rcases hpB : pWant tk 59 sA with ⟨sB, _⟩ | _ | q
    · rw [hpB] at hB
      obtain ⟨_, SB, b1, b2, b3, _⟩ := hB
      have e := a3.trans b3
      have gB := GCn.eqX e hg
      have wB := WG.eqX e hW
      rw [b1, zbs, sees_G ok b2, zbs]
      show match pb (fUntil tk sB) fun s u => pb (fSigners tk s) fun s v => (.inl (s, u, v) : zF (Int32 × Int32)) with
        | .inl (s1, v) => _
        | .inr (some q) => _
        | .inr none => True
      unfold fUntil
      by_cases hk : kd tk sB.1 = 201
      · obtain ⟨m1, m2, m3⟩ := next_G (N := N) ok b2 (by rw [hk]; decide) (by rw [hk]; decide)
        rw [if_pos hk, if_neg (nn hk), m1, zbs]
        have hR := R_num (N := N) (lo := 0) (hi := 9999) ok m2
        rcases hp : fNum tk 0 9999 (sNx sB) with ⟨s1, v⟩ | _ | q
        · rw [hp] at hR
          obtain ⟨a, S1, q1, q2, q3, rfl⟩ := hR
          have e1 := m3.trans q3
          have g1 := GCn.eqX e1 gB
          have w1 := WG.eqX e1 wB
          rw [q1, zbs]
          have q2' : CP tk s1 (zsI S1 28 a) := q2
          have hwt := R_want (N := N) (c := 59) ok (by decide) (by decide) q2'
          have g2 : GC ([], [], [], a, 0) (zsI S1 28 a) := ⟨g1.1, g1.2.1, g1.2.2.1, rfl, g1.2.2.2.2⟩
          have w2 : WG (zsI S1 28 a) := w1
          show match pb (pb (pWant tk 59 s1) fun s _ => .inl (s, a)) fun s u => pb (fSigners tk s) fun s v => (.inl (s, u, v) : zF (Int32 × Int32)) with
            | .inl (s1, v) => _
            | .inr (some q) => _
            | .inr none => True
          rcases hp4 : pWant tk 59 s1 with ⟨s4, _⟩ | _ | q
          · rw [hp4] at hwt
            obtain ⟨_, S5, f1, f2, f3, _⟩ := hwt
            rw [f1, zbs]
            exact fin s4 S5 a f2 (GCn.eqX f3 g2) (WG.eqX f3 w2)
          · trivial
          · rw [hp4] at hwt
            obtain ⟨_, S5, f1, f2, f3, _⟩ := hwt
            rw [f1, zbs, head22_F f2]
            exact ⟨S5, rfl, f2, WG.eqX f3 w2⟩
        · trivial
        · rw [hp] at hR
          obtain ⟨a, S1, q1, q2, q3, _⟩ := hR
          have q2' : CF (pl tk q) (zsI S1 28 a) := q2
          rw [q1, zbs, want_F (by decide) q2', zbs, head22_F q2']
          have w5 : WG S1 := WG.eqX (m3.trans q3) wB
          exact ⟨_, rfl, q2', w5⟩
      · rw [if_neg hk, if_pos hk]
        exact fin sB SB (-9) b2 gB wB
    · trivial
    · rw [hpB] at hB
      obtain ⟨_, SB, b1, b2, b3, _⟩ := hB
      rw [b1, zbs, aF _ _ b2]
      exact ⟨SB, rfl, b2, WG.eqX (a3.trans b3) hW⟩
  · trivial
  · rw [hpA] at hA
    obtain ⟨_, SA, a1, a2, a3, _⟩ := hA
    rw [a1, zbs, want_F (by decide) a2, zbs, aF _ _ a2]
    exact ⟨SA, rfl, a2, WG.eqX a3 hW⟩
end CRULES
