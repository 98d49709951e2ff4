/-! THE CLASS READS FORMS: the loop over parts -/
section CPARTS2
variable {β : Type} {N : Nat} {tk : List zK} {s : zP} {S : zS} {G : zG}
def K2 (tk : List zK) (G : zG) (add : zG → β → zG) (p : zF β) (o : Option (Unit × zS)) (k : Int32 → zS → Option (Unit × zS)) : Prop := match p with
  | .inl (s1, b) => ∃ S1, o = k (Int32.ofNat G.1.length) S1 ∧ CP tk s1 S1 ∧ GC (add G b) S1 ∧ WG S1
  | .inr (some q) => ∃ x S1, o = k x S1 ∧ CF (pl tk q) S1 ∧ WG S1
  | .inr none => True
abbrev isKd (c : Int32) : Prop := 206 ≤ c.toInt ∧ c.toInt ≤ 216
theorem seesKind_G (ok : tkOK tk) (h : CP tk s S) : cP_seesKind N S = some (if isKd (kd tk s.1) then 1 else 0, S) := by
  rw [cP_seesKind, sees_G ok h, zbs, sees_G ok h, zbs]
  unfold isKd
  by_cases h1 : (kd tk s.1).toInt < 206
  · rw [if_pos h1, if_neg (by omega)]
  · rw [if_neg h1]
    by_cases h2 : 216 < (kd tk s.1).toInt
    · rw [if_pos h2, if_neg (by omega)]
    · rw [if_neg h2, if_pos (by omega)]
abbrev isPt (c : Int32) : Prop := c = 203 ∨ c = 205 ∨ isKd c
theorem seesPart_G (ok : tkOK tk) (h : CP tk s S) : cP_seesPart N S = some (if isPt (kd tk s.1) then 1 else 0, S) := by
  rw [cP_seesPart, sees_G ok h, zbs, sees_G ok h, zbs, seesKind_G ok h, zbs]
  unfold isPt
  by_cases h1 : kd tk s.1 = 203
  · rw [if_pos h1, if_pos (Or.inl h1)]
  · rw [if_neg h1]
    by_cases h2 : kd tk s.1 = 205
    · rw [if_pos h2, if_pos (Or.inr (Or.inl h2))]
    · rw [if_neg h2]
      by_cases h3 : isKd (kd tk s.1)
      · rw [if_pos h3, if_neg i10, if_pos (Or.inr (Or.inr h3))]
      · rw [if_neg h3, if_pos rfl, if_neg (by rintro (hh | hh | hh); exact h1 hh; exact h2 hh; exact h3 hh)]
theorem C_plain (hN : 1400 < N) (h6 : N / 16 = 100) (ok : tkOK tk) {i : Nat} (hi : i ≤ 10) {g must : Int32} {k : Int32 → zS → Option (Unit × zS)} (h0 : G.2.1 = []) (hg : GC G S) (hW : WG S) (h : CP tk s S) : K2 tk G gAdd (fPlain tk i g must G s) (zb (cP_readPlain_13 N g must S) fun x13 S14 => zb (cP_readWhen N x13 (Int32.ofNat i) S14) fun _ S17 => zb (cP_want N 59 S17) fun _ S20 => k x13 S20) k := by
  have tlF : ∀ (x : Int32) (q : Nat) (S3 : zS), CF q S3 → WG S3 → ∃ x' S4, (zb (cP_readWhen N x (Int32.ofNat i) S3) fun _ S17 => zb (cP_want N 59 S17) fun _ S20 => k x S20) = k x' S4 ∧ CF q S4 ∧ WG S4 := by
    intro x q S3 hq hw
    rw [when_F hq, zbs, want_F (by decide) hq, zbs]
    exact ⟨x, S3, rfl, hq, hw⟩
  unfold cP_readPlain_13 fPlain
  rw [seesKind_G ok h, zbs]
  by_cases hk : isKd (kd tk s.1)
  · rw [if_pos (show 206 ≤ (kd tk s.1).toInt ∧ (kd tk s.1).toInt ≤ 216 from hk), if_pos hk, if_pos i11, sees_G ok h, zbs]
    have hk2 : kd tk s.1 ≠ 0 ∧ kd tk s.1 ≠ 1 := by
      refine ⟨fun hh => ?_, fun hh => ?_⟩
      · rw [hh] at hk; exact absurd hk (by decide)
      · rw [hh] at hk; exact absurd hk (by decide)
    obtain ⟨m1, m2, m3⟩ := next_G (N := N) ok h hk2.1 hk2.2
    rw [m1, zbs]
    have hP := R_newPart (N := N) (k := kd tk s.1 - 206) (g := g) (m := must) hN ok (GCn.eqX m3 hg) (WG.eqX m3 hW) m2
    rcases hp1 : fNew tk G (G.1.length < 20) (sNx s) with ⟨s1, nm⟩ | _ | q
    · rw [hp1] at hP
      obtain ⟨S1, q1, q2, q3, q4, q5⟩ := hP
      have h20 : G.1.length < 20 := by have := q4.1.2.1; omega
      rw [q1, zbs, if_neg (nn q2.2.1)]
      have hB := R_bounds (N := N) (l1 := Int32.ofNat G.1.length) (k := kd tk s.1 - 206) ok q2
      show K2 tk G gAdd (pb (fBounds tk (kd tk s.1 - 206) s1) _) _ k
      rcases hp2 : fBounds tk (kd tk s.1 - 206) s1 with ⟨s2, b⟩ | _ | q
      · rw [hp2] at hB
        obtain ⟨S2, b1, b2, b3⟩ := hB
        obtain ⟨S3, d1, d2, d3, d4, d5, d6⟩ := bounds85 (N := N) (tk := tk) (G := G) (n := G.1.length) (x := b) h20 (WG.eqX b3 q3)
        replace b1 : cP_readBounds N (Int32.ofNat G.1.length) (kd tk s.1 - 206) S1 = cP_readBounds_85 N (Int32.ofNat G.1.length) b.2.2 b.1 b.2.1 S2 := b1
        rw [b1, d1, zbs, zbs]
        have hw := R_when (N := N) hN h6 ok hi h20 h0 (d5 _ rfl (GCn.eqX b3 q4)) (d6 _ _ _ _ _ _ (PN.eqX b3 q5)) d2 (d4 _ b2)
        show K2 tk G gAdd (pb (fWhen tk i s2) _) _ k
        rcases hp3 : fWhen tk i s2 with ⟨s3, w⟩ | _ | q
        · rw [hp3] at hw
          obtain ⟨S4, e1, e2, e3, e4, e5⟩ := hw
          rw [e1, zbs]
          have hwt := R_want (N := N) (c := 59) ok (by decide) (by decide) e2
          show K2 tk G gAdd (pb (pWant tk 59 s3) _) _ k
          rcases hp4 : pWant tk 59 s3 with ⟨s4, _⟩ | _ | q
          · rw [hp4] at hwt
            obtain ⟨_, S5, f1, f2, f3, _⟩ := hwt
            rw [f1, zbs]
            exact ⟨S5, rfl, f2, GCn.add (bd := some (b.1, b.2.1, b.2.2)) (GCn.eqX f3 e4) (PN.eqX f3 e5) (fun _ => rfl), WG.eqX f3 e3⟩
          · trivial
          · rw [hp4] at hwt
            obtain ⟨_, S5, f1, f2, f3, _⟩ := hwt
            rw [f1, zbs]
            exact ⟨_, S5, rfl, f2, WG.eqX f3 e3⟩
        · trivial
        · rw [hp3] at hw
          obtain ⟨S4, e1, e2, e3⟩ := hw
          rw [e1, zbs, want_F (by decide) e2, zbs]
          exact ⟨_, S4, rfl, e2, e3⟩
      · trivial
      · rw [hp2] at hB
        obtain ⟨b, S2, b1, b2, b3⟩ := hB
        obtain ⟨S3, d1, d2, d3, d4, d5, d6⟩ := bounds85 (N := N) (tk := tk) (G := G) (n := G.1.length) (x := b) h20 (WG.eqX b3 q3)
        replace b1 : cP_readBounds N (Int32.ofNat G.1.length) (kd tk s.1 - 206) S1 = cP_readBounds_85 N (Int32.ofNat G.1.length) b.2.2 b.1 b.2.1 S2 := b1
        rw [b1, d1, zbs, zbs]
        obtain ⟨x', S4, t1, t2, t3⟩ := tlF (Int32.ofNat G.1.length) _ S3 (d3 _ b2) d2
        exact ⟨x', S4, t1, t2, t3⟩
    · trivial
    · rw [hp1] at hP
      obtain ⟨S1, q1, q2, q3⟩ := hP
      rw [q1, zbs, if_pos q2.ne, zbs]
      obtain ⟨x', S4, t1, t2, t3⟩ := tlF 0 _ S1 q2 q3
      exact ⟨x', S4, t1, t2, t3⟩
  · obtain ⟨S', n1, n2, n3⟩ := refuse_G (N := N) ok h
    rw [if_neg (show ¬ (206 ≤ (kd tk s.1).toInt ∧ (kd tk s.1).toInt ≤ 216) from hk), if_neg hk, if_neg i00, n1, zbs, zbs]
    obtain ⟨x', S4, t1, t2, t3⟩ := tlF 0 _ S' n2 (WG.eqX n3 hW)
    exact ⟨x', S4, t1, t2, t3⟩
theorem C_group (hN : 1400 < N) (h6 : N / 16 = 100) (ok : tkOK tk) {i : Nat} (hi : i ≤ 10) {g : Int32} {k : Int32 → zS → Option (Unit × zS)} (h0 : G.2.1 = []) (hk : kd tk s.1 = 205) (hg : GC G S) (hW : WG S) (h : CP tk s S) : K2 tk G gAdd (fGroup tk i g G s) (zb (cP_enter N (Int32.ofNat i) S) fun _ S23 => (zb (cP_next N  S23) fun _ S26 => (zb (cP_readNewPart N 11 g 0 S26) fun x28 S29 => (zb (cP_readWhen N x28 (Int32.ofNat i + 1) S29) fun _ S32 => (zb (cP_want N 123 S32) fun _ S35 => k x28 S35))))) k := by
  have tlF : ∀ (x : Int32) (q : Nat) (S3 : zS), CF q S3 → WG S3 → ∃ x' S4, (zb (cP_readWhen N x (Int32.ofNat i + 1) S3) fun _ S32 => (zb (cP_want N 123 S32) fun _ S35 => k x S35)) = k x' S4 ∧ CF q S4 ∧ WG S4 := by
    intro x q S3 hq hw
    rw [when_F hq, zbs, want_F (by decide) hq, zbs]
    exact ⟨x, S3, rfl, hq, hw⟩
  unfold fGroup
  have hE := R_enter (N := N) (i := i) ok (by omega) h
  rcases hp0 : pEnter i s with ⟨s0, _⟩ | _ | q
  · rw [hp0] at hE
    obtain ⟨hi10, rfl⟩ := pEnter_inl hp0
    obtain ⟨_, S0, z1, z2, z3, _⟩ := hE
    obtain ⟨m1, m2, m3⟩ := next_G (N := N) ok z2 (by rw [hk]; decide) (by rw [hk]; decide)
    rw [z1, zbs, m1, zbs]
    have e := z3.trans m3
    have hP := R_newPart (N := N) (k := 11) (g := g) (m := 0) hN ok (GCn.eqX e hg) (WG.eqX e hW) m2
    show K2 tk G gAdd (pb (fNew tk G (G.1.length < 20) (sNx s0)) _) _ k
    rcases hp1 : fNew tk G (G.1.length < 20) (sNx s0) with ⟨s1, nm⟩ | _ | q
    · rw [hp1] at hP
      obtain ⟨S1, q1, q2, q3, q4, q5⟩ := hP
      have h20 : G.1.length < 20 := by have := q4.1.2.1; omega
      rw [q1, zbs, yi_add1]
      have hw := R_when (N := N) (i := i + 1) hN h6 ok (by omega) h20 h0 q4 q5 q3 q2
      show K2 tk G gAdd (pb (fWhen tk (i + 1) s1) _) _ k
      rcases hp3 : fWhen tk (i + 1) s1 with ⟨s3, w⟩ | _ | q
      · rw [hp3] at hw
        obtain ⟨S4, e1, e2, e3, e4, e5⟩ := hw
        rw [e1, zbs]
        have hwt := R_want (N := N) (c := 123) ok (by decide) (by decide) e2
        show K2 tk G gAdd (pb (pWant tk 123 s3) _) _ k
        rcases hp4 : pWant tk 123 s3 with ⟨s4, _⟩ | _ | q
        · rw [hp4] at hwt
          obtain ⟨_, S5, f1, f2, f3, _⟩ := hwt
          rw [f1, zbs]
          exact ⟨S5, rfl, f2, GCn.add (bd := none) (GCn.eqX f3 e4) (PN.eqX f3 e5) (fun hh => absurd rfl hh), WG.eqX f3 e3⟩
        · trivial
        · rw [hp4] at hwt
          obtain ⟨_, S5, f1, f2, f3, _⟩ := hwt
          rw [f1, zbs]
          exact ⟨_, S5, rfl, f2, WG.eqX f3 e3⟩
      · trivial
      · rw [hp3] at hw
        obtain ⟨S4, e1, e2, e3⟩ := hw
        rw [e1, zbs, want_F (by decide) e2, zbs]
        exact ⟨_, S4, rfl, e2, e3⟩
    · trivial
    · rw [hp1] at hP
      obtain ⟨S1, q1, q2, q3⟩ := hP
      rw [q1, zbs]
      obtain ⟨x', S4, t1, t2, t3⟩ := tlF 0 _ S1 q2 q3
      exact ⟨x', S4, t1, t2, t3⟩
  · trivial
  · rw [hp0] at hE
    obtain ⟨_, S0, z1, z2, z3, _⟩ := hE
    rw [z1, zbs, next_F z2, zbs, newPart_F z2, zbs]
    obtain ⟨x', S4, t1, t2, t3⟩ := tlF 0 _ S0 z2 (WG.eqX z3 hW)
    exact ⟨x', S4, t1, t2, t3⟩
theorem parts_F {n : Nat} {x i l : Int32} {q : Nat} (hn : 0 < n) (h : CF q S) : cP_readParts_6 N n x i l S = some ((), S) := by
  obtain ⟨n, rfl⟩ : ∃ k, n = k + 1 := ⟨n - 1, by omega⟩
  have hp : cP_seesPart N S = some (0, S) := by
    rw [cP_seesPart, sees_F h, zbs, if_neg (by decide), sees_F h, zbs, if_neg (by decide), cP_seesKind, sees_F h, zbs, if_pos (by decide), zbs, if_pos rfl]
  rw [cP_readParts_6, hp, zbs, if_neg i00, sees_F h, zbs, if_pos (show (1 : Int32) ≠ 125 by decide), refuse_F h, zbs]
  simp only [ite_self]
theorem fGroup_inl {i : Nat} {g : Int32} {s1 : zP} {p : Int64 × yPt} (h : fGroup tk i g G s = .inl (s1, p)) : i < 10 ∧ p.2.2.1 = g := by
  obtain ⟨s2, _, q1, h⟩ := pb_inl h
  obtain ⟨s3, _, _, h⟩ := pb_inl h
  obtain ⟨s4, _, _, h⟩ := pb_inl h
  obtain ⟨s5, _, _, h⟩ := pb_inl h
  cases h
  exact ⟨(pEnter_inl q1).1, rfl⟩
theorem pu_inl {α γ : Type} {r : zF α} {f : zP → α → zF2 γ} {s : zP} {a : α} (h : r = .inl (s, a)) : pu r f = f s a := by rw [h]; rfl
theorem C_parts (hN : 1400 < N) (h6 : N / 16 = 100) (ok : tkOK tk) : ∀ (m i : Nat) (g : Int32) (G : zG) (s : zP) (S : zS) (n l : Nat), i ≤ 10 → G.2.1 = [] → l + i ≤ 2 * G.1.length → 100 ≤ n + l → GC G S → WG S → CP tk s S → match fParts tk m i g G s with
    | .inl (G', s', _) => ∃ S' n' l', cP_readParts_6 N n g (Int32.ofNat i) (Int32.ofNat l) S = cP_readParts_6 N n' g (Int32.ofNat i) (Int32.ofNat l') S' ∧ CP tk s' S' ∧ GC G' S' ∧ WG S' ∧ ¬ isPt (kd tk s'.1) ∧ l' + i ≤ 2 * G'.1.length ∧ 100 ≤ n' + l' ∧ (∀ j, j < G.1.length → G'.1[j]? = G.1[j]?) ∧ G.1.length ≤ G'.1.length ∧ G'.2 = G.2
    | .inr (some q) => ∃ S', cP_readParts_6 N n g (Int32.ofNat i) (Int32.ofNat l) S = some ((), S') ∧ CF (pl tk q) S' ∧ WG S'
    | .inr none => True
  | 0, _, _, _, _, _, _, _, _, _, _, _, _, _, _ => trivial
  | m + 1, i, g, G, s, S, n, l, hi, h0, hl, hn, hg, hW, h => by
    have p20 : G.1.length ≤ 20 := hg.1.2.1
    have el := yi_nat (i := l) (by omega)
    obtain ⟨n, rfl⟩ : ∃ k, n = k + 1 := ⟨n - 1, by omega⟩
    by_cases hpt : isPt (kd tk s.1)
    · have hone : cP_readParts_6 N (n + 1) g (Int32.ofNat i) (Int32.ofNat l) S = cP_readParts_18 N (cP_readParts_6 N n) g (Int32.ofNat i) (Int32.ofNat l) S := by
        rw [cP_readParts_6, if_neg (by rw [el]; omega), seesPart_G ok h, zbs, if_pos hpt, if_pos i11]
      have h125 : kd tk s.1 ≠ 125 := by
        intro hh; rw [hh] at hpt; exact absurd hpt (by decide)
      rw [hone, cP_readParts_18, sees_G ok h, zbs, if_pos h125, sees_G ok h, zbs, fParts]
      by_cases k5 : kd tk s.1 = 205
      · rw [if_pos k5, if_neg (nn k5)]
        have hG := C_group (N := N) (g := g) (k := fun x S35 => cP_readParts_6 N n x (Int32.ofNat i + 1) (Int32.ofNat l + 1) S35) hN h6 ok hi h0 k5 hg hW h
        rcases hp : fGroup tk i g G s with ⟨s1, p⟩ | _ | q
        · rw [hp] at hG
          obtain ⟨hi10, hpg⟩ := fGroup_inl hp
          obtain ⟨S1, q1, q2, q3, q4⟩ := hG
          have hlen : (gAdd G p).1.length = G.1.length + 1 := by show (G.1 ++ [p]).length = _; rw [List.length_append]; rfl
          replace q1 : _ = cP_readParts_6 N n (Int32.ofNat G.1.length) (Int32.ofNat i + 1) (Int32.ofNat l + 1) S1 := q1
          rw [q1, yi_add1, yi_add1, show pu (.inl (s1, p)) (fun s1 p => pb2 (fParts tk m (i + 1) (Int32.ofNat G.1.length) (gAdd G p) s1) fun G2 s2 _ => pu (pWant tk 125 s2) fun s3 _ => fParts tk m i g G2 s3) = pb2 (fParts tk m (i + 1) (Int32.ofNat G.1.length) (gAdd G p) s1) fun G2 s2 _ => pu (pWant tk 125 s2) fun s3 _ => fParts tk m i g G2 s3 from rfl]
          have ih := C_parts hN h6 ok m (i + 1) (Int32.ofNat G.1.length) (gAdd G p) s1 S1 n (l + 1) (by omega) h0 (by rw [hlen]; omega) (by omega) q3 q4 q2
          rcases hp2 : fParts tk m (i + 1) (Int32.ofNat G.1.length) (gAdd G p) s1 with ⟨G2, s2, _⟩ | _ | q
          · rw [hp2] at ih
            obtain ⟨S2, n2, l2, w1, w2, w3, w4, w5, w6, w7, w8, w9, w10⟩ := ih
            have hlen2 : G.1.length < G2.1.length := by omega
            have hpre : G2.1[G.1.length]? = some p := by
              rw [w8 G.1.length (by omega)]
              show (G.1 ++ [p])[G.1.length]? = some p
              simp
            have p220 : G2.1.length ≤ 20 := w3.1.2.1
            obtain ⟨n2, rfl⟩ : ∃ k, n2 = k + 1 := ⟨n2 - 1, by omega⟩
            have el2 := yi_nat (i := l2) (by omega)
            have ei := yi_nat (i := i + 1) (by omega)
            rw [w1, cP_readParts_6, if_neg (by rw [el2]; omega), seesPart_G ok w2, zbs, if_neg w5, if_neg i00, if_neg (by rw [ei]; omega), sees_G ok w2, zbs]
            show match pu (pWant tk 125 s2) fun s3 _ => fParts tk m i g G2 s3 with
              | .inl (G', s', _) => _
              | .inr (some q) => _
              | .inr none => True
            unfold pWant
            by_cases k125 : kd tk s2.1 = 125
            · obtain ⟨m1, m2, m3⟩ := next_G (N := N) ok w2 (by rw [k125]; decide) (by rw [k125]; decide)
              have hgi : gI (zA (zsI S2 5 (Int32.ofNat (s2.1 + 1))) 16) (Int32.ofNat G.1.length) = some g := by
                rw [gI_nat (by omega)]
                have := (w3.1.2.2.2 G.1.length p hpre).2.2.1
                rw [hpg] at this
                exact this
              rw [if_neg (nn k125), cP_readParts_18, sees_G ok w2, zbs, if_neg (nn k125), m1, zbs, hgi, zgs, if_pos k125, yi_add1, show Int32.ofNat (i + 1) + -1 = Int32.ofNat i by rw [← Int32.sub_eq_add_neg]; exact yi_s1 i]
              show match fParts tk m i g G2 (sNx s2) with
                | .inl (G', s', _) => _
                | .inr (some q) => _
                | .inr none => True
              have ih2 := C_parts hN h6 ok m i g G2 (sNx s2) (zsI S2 5 (Int32.ofNat (s2.1 + 1))) n2 (l2 + 1) hi (by rw [w10]; exact h0) (by omega) (by omega) (GCn.eqX m3 w3) (WG.eqX m3 w4) m2
              rcases hp3 : fParts tk m i g G2 (sNx s2) with ⟨G3, s3, _⟩ | _ | q
              · rw [hp3] at ih2
                obtain ⟨S3, n3, l3, y1, y2, y3, y4, y5, y6, y7, y8, y9, y10⟩ := ih2
                refine ⟨S3, n3, l3, y1, y2, y3, y4, y5, y6, y7, ?_, by omega, by rw [y10, w10]; rfl⟩
                intro j hj
                rw [y8 j (by omega), w8 j (by omega)]
                show (G.1 ++ [p])[j]? = _
                rw [List.getElem?_append_left hj]
              · trivial
              · rw [hp3] at ih2
                exact ih2
            · rw [if_pos k125, if_neg k125, if_neg (by rw [ei]; omega)]
              obtain ⟨S3, r1, r2, r3⟩ := refuse_G (N := N) ok w2
              rw [r1, zbs]
              exact ⟨S3, rfl, r2, WG.eqX r3 w4⟩
          · trivial
          · rw [hp2] at ih
            exact ih
        · trivial
        · rw [hp] at hG
          obtain ⟨x, S1, q1, q2, q3⟩ := hG
          replace q1 : _ = cP_readParts_6 N n x (Int32.ofNat i + 1) (Int32.ofNat l + 1) S1 := q1
          rw [q1, parts_F (by omega) q2]
          exact ⟨S1, rfl, q2, q3⟩
      · rw [if_neg k5, if_pos k5]
        have fin : ∀ (must : Int32) (s1 : zP) (S1 : zS), GC G S1 → WG S1 → CP tk s1 S1 → match pu (fPlain tk i g must G s1) fun s1 p => fParts tk m i g (gAdd G p) s1 with
            | .inl (G', s', _) => ∃ S' n' l', (zb (cP_readPlain_13 N g must S1) fun x13 S14 => zb (cP_readWhen N x13 (Int32.ofNat i) S14) fun _ S17 => zb (cP_want N 59 S17) fun _ S20 => cP_readParts_6 N n g (Int32.ofNat i) (Int32.ofNat l + 1) S20) = cP_readParts_6 N n' g (Int32.ofNat i) (Int32.ofNat l') S' ∧ CP tk s' S' ∧ GC G' S' ∧ WG S' ∧ ¬ isPt (kd tk s'.1) ∧ l' + i ≤ 2 * G'.1.length ∧ 100 ≤ n' + l' ∧ (∀ j, j < G.1.length → G'.1[j]? = G.1[j]?) ∧ G.1.length ≤ G'.1.length ∧ G'.2 = G.2
            | .inr (some q) => ∃ S', (zb (cP_readPlain_13 N g must S1) fun x13 S14 => zb (cP_readWhen N x13 (Int32.ofNat i) S14) fun _ S17 => zb (cP_want N 59 S17) fun _ S20 => cP_readParts_6 N n g (Int32.ofNat i) (Int32.ofNat l + 1) S20) = some ((), S') ∧ CF (pl tk q) S' ∧ WG S'
            | .inr none => True := by
          intro must s1 S1 hg1 hW1 h1
          have hG := C_plain (N := N) (g := g) (must := must) (k := fun _ S35 => cP_readParts_6 N n g (Int32.ofNat i) (Int32.ofNat l + 1) S35) hN h6 ok hi h0 hg1 hW1 h1
          rcases hp : fPlain tk i g must G s1 with ⟨s2, p⟩ | _ | q
          · rw [hp] at hG
            obtain ⟨S2, q1, q2, q3, q4⟩ := hG
            have hlen : (gAdd G p).1.length = G.1.length + 1 := by show (G.1 ++ [p]).length = _; rw [List.length_append]; rfl
            replace q1 : _ = cP_readParts_6 N n g (Int32.ofNat i) (Int32.ofNat l + 1) S2 := q1
            rw [q1, yi_add1]
            show match fParts tk m i g (gAdd G p) s2 with
              | .inl (G', s', _) => _
              | .inr (some q) => _
              | .inr none => True
            have ih := C_parts hN h6 ok m i g (gAdd G p) s2 S2 n (l + 1) hi h0 (by rw [hlen]; omega) (by omega) q3 q4 q2
            rcases hp2 : fParts tk m i g (gAdd G p) s2 with ⟨G3, s3, _⟩ | _ | q
            · rw [hp2] at ih
              obtain ⟨S3, n3, l3, y1, y2, y3, y4, y5, y6, y7, y8, y9, y10⟩ := ih
              refine ⟨S3, n3, l3, y1, y2, y3, y4, y5, y6, y7, ?_, by omega, by rw [y10]; rfl⟩
              intro j hj
              rw [y8 j (by omega)]
              show (G.1 ++ [p])[j]? = _
              rw [List.getElem?_append_left hj]
            · trivial
            · rw [hp2] at ih
              exact ih
          · trivial
          · rw [hp] at hG
            obtain ⟨x, S2, q1, q2, q3⟩ := hG
            replace q1 : _ = cP_readParts_6 N n g (Int32.ofNat i) (Int32.ofNat l + 1) S2 := q1
            rw [q1, parts_F (by omega) q2]
            exact ⟨S2, rfl, q2, q3⟩
        by_cases k3 : kd tk s.1 = 203
        · obtain ⟨m1, m2, m3⟩ := next_G (N := N) ok h (by rw [k3]; decide) (by rw [k3]; decide)
          rw [if_pos k3, cP_readPlain, sees_G ok h, zbs, if_neg (nn k3), m1, zbs]
          exact fin 1 (sNx s) _ (GCn.eqX m3 hg) (WG.eqX m3 hW) m2
        · have hkd : isKd (kd tk s.1) := by
            rcases hpt with hh | hh | hh
            · exact absurd hh k3
            · exact absurd hh k5
            · exact hh
          rw [if_neg k3, if_pos (show 206 ≤ (kd tk s.1).toInt ∧ (kd tk s.1).toInt ≤ 216 from hkd), cP_readPlain, sees_G ok h, zbs, if_pos k3]
          exact fin 0 s S hg hW h
    · have hf : fParts tk (m + 1) i g G s = .inl (G, s, ()) := by
        rw [fParts, if_neg (fun hh => hpt (Or.inr (Or.inl hh))), if_neg (fun hh => hpt (Or.inl hh)), if_neg (fun hh => hpt (Or.inr (Or.inr hh)))]
      rw [hf]
      exact ⟨S, n + 1, l, rfl, h, hg, hW, hpt, hl, hn, fun _ _ => rfl, Nat.le_refl _, rfl⟩
end CPARTS2
