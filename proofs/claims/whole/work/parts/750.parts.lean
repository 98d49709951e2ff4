/-! PARTS THAT WERE READ: their bounds -/
theorem fNum_inl {tk : List zK} {lo hi v : Int32} {s s' : zP} (h : fNum tk lo hi s = .inl (s', v)) : lo.toInt ≤ v.toInt ∧ v.toInt ≤ hi.toInt ∧ s' = sNx s := by
  unfold fNum at h
  split at h
  · rename_i hc
    cases h
    have l1 := lo.toInt_lt
    have l2 := lo.le_toInt
    have l3 := hi.toInt_lt
    have l4 := hi.le_toInt
    have e : (va tk s.1).toInt32.toInt = (va tk s.1).toInt := by
      rw [Int64.toInt_toInt32]
      exact Int.bmod_eq_of_le (by omega) (by omega)
    rw [e]
    exact ⟨hc.2.1, hc.2.2, rfl⟩
  · cases h
/-- least, most, width of a kind -/
def BdOk (k a b c : Int32) : Prop := (k = 0 → a = 0 ∧ b = 1) ∧ (k = 4 → a = 0 ∧ c = b + 1) ∧ (k = 2 → a = 0) ∧ (0 ≤ a.toInt ∧ a.toInt ≤ 999999) ∧ (0 ≤ b.toInt ∧ b.toInt ≤ 999999) ∧ (k = 5 → 1 ≤ c.toInt) ∧ (k = 4 → 2 ≤ c.toInt) ∧ (k = 7 → 1 ≤ c.toInt) ∧ (0 ≤ c.toInt ∧ c.toInt ≤ 8)
theorem bounds_ok {tk : List zK} {k : Int32} {s s' : zP} {b : Int32 × Int32 × Int32} (h : fBounds tk k s = .inl (s', b)) : BdOk k b.1 b.2.1 b.2.2 := by
  have e0 : (0 : Int32).toInt = 0 := rfl
  have e1 : (1 : Int32).toInt = 1 := rfl
  have e2 : (2 : Int32).toInt = 2 := rfl
  have e4 : (4 : Int32).toInt = 4 := rfl
  have e6 : (6 : Int32).toInt = 6 := rfl
  have e8 : (8 : Int32).toInt = 8 := rfl
  have e24 : (24 : Int32).toInt = 24 := rfl
  have e9999 : (9999 : Int32).toInt = 9999 := by decide
  have e999999 : (999999 : Int32).toInt = 999999 := by decide
  unfold fBounds at h
  split at h
  · rename_i hk; subst hk
    obtain ⟨s1, a, q1, h⟩ := pb_inl h
    obtain ⟨s2, b2, q2, h⟩ := pb_inl h
    cases h
    have g1 := fNum_inl q1
    have g2 := fNum_inl q2
    exact ⟨fun h => absurd h (by decide), fun h => absurd h (by decide), fun h => absurd h (by decide), by dsimp only; omega, by dsimp only; omega, fun h => absurd h (by decide), fun h => absurd h (by decide), fun h => absurd h (by decide), by dsimp only; omega⟩
  split at h
  · rename_i hk; subst hk
    obtain ⟨s2, b2, q2, h⟩ := pb_inl h
    cases h
    have g2 := fNum_inl q2
    exact ⟨fun h => absurd h (by decide), fun h => absurd h (by decide), fun h => rfl, by dsimp only; omega, by dsimp only; omega, fun h => absurd h (by decide), fun h => absurd h (by decide), fun h => absurd h (by decide), by dsimp only; omega⟩
  split at h
  · rename_i hk; subst hk
    obtain ⟨s1, a, q1, h⟩ := pb_inl h
    obtain ⟨s2, b2, q2, h⟩ := pb_inl h
    cases h
    have g1 := fNum_inl q1
    have g2 := fNum_inl q2
    exact ⟨fun h => absurd h (by decide), fun h => absurd h (by decide), fun h => absurd h (by decide), by dsimp only; omega, by dsimp only; omega, fun h => absurd h (by decide), fun h => absurd h (by decide), fun h => absurd h (by decide), by dsimp only; omega⟩
  split at h
  · rename_i hk; subst hk
    obtain ⟨s2, c, q2, h⟩ := pb_inl h
    cases h
    have g2 := fNum_inl q2
    have e3 : (c - 1).toInt = c.toInt - 1 := by rw [yi_sub (by omega) (by omega), e1]
    exact ⟨fun h => absurd h (by decide), fun h => ⟨rfl, (Int32.sub_add_cancel c 1).symm⟩, fun h => absurd h (by decide), by dsimp only; omega, by dsimp only; omega, fun h => absurd h (by decide), fun h => by dsimp only; omega, fun h => absurd h (by decide), by dsimp only; omega⟩
  split at h
  · rename_i hk; subst hk
    obtain ⟨s0, c, q0, h⟩ := pb_inl h
    obtain ⟨s1, a, q1, h⟩ := pb_inl h
    obtain ⟨s2, b2, q2, h⟩ := pb_inl h
    cases h
    have g0 := fNum_inl q0
    have g1 := fNum_inl q1
    have g2 := fNum_inl q2
    exact ⟨fun h => absurd h (by decide), fun h => absurd h (by decide), fun h => absurd h (by decide), by dsimp only; omega, by dsimp only; omega, fun h => by dsimp only; omega, fun h => absurd h (by decide), fun h => absurd h (by decide), by dsimp only; omega⟩
  split at h
  · rename_i hk; subst hk
    obtain ⟨s2, b2, q2, h⟩ := pb_inl h
    cases h
    have g2 := fNum_inl q2
    exact ⟨fun h => absurd h (by decide), fun h => absurd h (by decide), fun h => absurd h (by decide), by dsimp only; omega, by dsimp only; omega, fun h => absurd h (by decide), fun h => absurd h (by decide), fun h => absurd h (by decide), by dsimp only; omega⟩
  split at h
  · rename_i hk; subst hk
    obtain ⟨s1, c, q1, h⟩ := pb_inl h
    obtain ⟨s2, b2, q2, h⟩ := pb_inl h
    cases h
    have g1 := fNum_inl q1
    have g2 := fNum_inl q2
    exact ⟨fun h => absurd h (by decide), fun h => absurd h (by decide), fun h => absurd h (by decide), by dsimp only; omega, by dsimp only; omega, fun h => absurd h (by decide), fun h => absurd h (by decide), fun h => by dsimp only; omega, by dsimp only; omega⟩
  split at h
  · rename_i hk; subst hk
    obtain ⟨s2, b2, q2, h⟩ := pb_inl h
    cases h
    have g2 := fNum_inl q2
    exact ⟨fun h => absurd h (by decide), fun h => absurd h (by decide), fun h => absurd h (by decide), by dsimp only; omega, by dsimp only; omega, fun h => absurd h (by decide), fun h => absurd h (by decide), fun h => absurd h (by decide), by dsimp only; omega⟩
  split at h
  · rename_i hk; subst hk
    obtain ⟨s2, b2, q2, h⟩ := pb_inl h
    cases h
    have g2 := fNum_inl q2
    exact ⟨fun h => absurd h (by decide), fun h => absurd h (by decide), fun h => absurd h (by decide), by dsimp only; omega, by dsimp only; omega, fun h => absurd h (by decide), fun h => absurd h (by decide), fun h => absurd h (by decide), by dsimp only; omega⟩
  · rename_i h1 h2 h3 h4 h5 h6 h7 h8 h9
    cases h
    exact ⟨fun h => ⟨rfl, rfl⟩, fun h => absurd h h4, fun h => rfl, by dsimp only; omega, by dsimp only; omega, fun h => absurd h h5, fun h => absurd h h4, fun h => absurd h h7, by dsimp only; omega⟩
def PtOk (i : Nat) (P : yPt) : Prop := (0 ≤ P.1.toInt ∧ P.1.toInt ≤ 11) ∧ (P.2.1 = -9 ∨ ∃ g, g < i ∧ P.2.1 = Int32.ofNat g) ∧ (P.2.2.1 = 0 ∨ P.2.2.1 = 1) ∧ BdOk P.1 P.2.2.2.1 P.2.2.2.2.1 P.2.2.2.2.2.1
def GP (G : zG) : Prop := ∀ (i : Nat) p, G.1[i]? = some p → PtOk i p.2
theorem GP.add {G : zG} {p : Int64 × yPt} (h : GP G) (hp : PtOk G.1.length p.2) : GP (gAdd G p) := by
  intro i q hq
  have hq : (G.1 ++ [p])[i]? = some q := hq
  by_cases hi : i < G.1.length
  · rw [List.getElem?_append_left hi] at hq
    exact h i q hq
  · have hil := (List.getElem?_eq_some_iff.mp hq).1
    rw [List.length_append, List.length_singleton] at hil
    obtain rfl : i = G.1.length := by omega
    rw [List.getElem?_append_right (Nat.le_refl _), Nat.sub_self] at hq
    cases hq
    exact hp
section PARTSOK
variable {tk : List zK} {s s' : zP} {G : zG} {i : Nat} {g : Int32}
theorem plain_ok {must : Int32} {p : Int64 × yPt} (hg : g = -9 ∨ ∃ k, k < G.1.length ∧ g = Int32.ofNat k) (hm : must = 0 ∨ must = 1) (h : fPlain tk i g must G s = .inl (s', p)) : PtOk G.1.length p.2 := by
  unfold fPlain at h
  split at h
  · rename_i hk
    obtain ⟨s1, nm, q1, h1⟩ := pb_inl h
    obtain ⟨s2, b, q2, h2⟩ := pb_inl h1
    obtain ⟨s3, w, q3, h3⟩ := pb_inl h2
    obtain ⟨s4, _, q4, h4⟩ := pb_inl h3
    clear h h1 h2 h3
    cases h4
    have e : (kd tk s.1 - 206).toInt = (kd tk s.1).toInt - 206 := by
      have : (206 : Int32).toInt = 206 := by decide
      rw [yi_sub (by omega) (by omega), this]
    exact ⟨by dsimp only; omega, hg, hm, bounds_ok q2⟩
  · cases h
theorem group_ok {p : Int64 × yPt} (hg : g = -9 ∨ ∃ k, k < G.1.length ∧ g = Int32.ofNat k) (h : fGroup tk i g G s = .inl (s', p)) : PtOk G.1.length p.2 := by
  unfold fGroup at h
  obtain ⟨s0, _, q0, h0⟩ := pb_inl h
  obtain ⟨s1, nm, q1, h1⟩ := pb_inl h0
  obtain ⟨s3, w, q3, h3⟩ := pb_inl h1
  obtain ⟨s4, _, q4, h4⟩ := pb_inl h3
  clear h h0 h1 h3
  cases h4
  have e0 : (0 : Int32).toInt = 0 := rfl
  exact ⟨by dsimp only; decide, hg, Or.inl rfl, ⟨fun h => absurd h (by dsimp only; decide), fun h => absurd h (by dsimp only; decide), fun _ => rfl, by dsimp only; omega, by dsimp only; omega, fun h => absurd h (by dsimp only; decide), fun h => absurd h (by dsimp only; decide), fun h => absurd h (by dsimp only; decide), by dsimp only; omega⟩⟩
theorem GP.parts : ∀ (m i : Nat) (g : Int32) (G : zG) (s : zP) (G' : zG) (s' : zP) (b : Unit), GP G → (g = -9 ∨ ∃ k, k < G.1.length ∧ g = Int32.ofNat k) → fParts tk m i g G s = .inl (G', s', b) → GP G' ∧ G.1.length ≤ G'.1.length ∧ G'.2.2.2 = G.2.2.2
  | 0, _, _, _, _, _, _, _, _, _, h => by cases h
  | m + 1, i, g, G, s, G', s', b, hG, hg, h => by
    rw [fParts] at h
    have grow : ∀ (p : Int64 × yPt), g = -9 ∨ ∃ k, k < (gAdd G p).1.length ∧ g = Int32.ofNat k := by
      intro p
      rcases hg with hg | ⟨k, hk, hg⟩
      · exact Or.inl hg
      · exact Or.inr ⟨k, by show k < (G.1 ++ [p]).length; rw [List.length_append]; omega, hg⟩
    have len : ∀ (p : Int64 × yPt), (gAdd G p).1.length = G.1.length + 1 := by
      intro p; show (G.1 ++ [p]).length = _; simp
    split at h
    · rcases hp : fGroup tk i g G s with ⟨s1, p⟩ | k
      · rw [hp] at h
        replace h : pb2 (fParts tk m (i + 1) (Int32.ofNat G.1.length) (gAdd G p) s1) (fun G2 s2 _ => pu (pWant tk 125 s2) fun s3 _ => fParts tk m i g G2 s3) = .inl (G', s', b) := h
        rcases hp2 : fParts tk m (i + 1) (Int32.ofNat G.1.length) (gAdd G p) s1 with ⟨G2, s2, b2⟩ | k
        · rw [hp2] at h
          replace h : pu (pWant tk 125 s2) (fun s3 _ => fParts tk m i g G2 s3) = .inl (G', s', b) := h
          obtain ⟨k1, k2, k3⟩ := GP.parts m _ _ _ _ _ _ _ (hG.add (group_ok hg hp)) (Or.inr ⟨G.1.length, by rw [len]; omega, rfl⟩) hp2
          rw [len] at k2
          rcases hp3 : pWant tk 125 s2 with ⟨s3, b3⟩ | k
          · rw [hp3] at h
            obtain ⟨j1, j2, j3⟩ := GP.parts m _ _ _ _ _ _ _ k1 (by
              rcases hg with hg | ⟨k, hk, hg⟩
              · exact Or.inl hg
              · exact Or.inr ⟨k, by omega, hg⟩) h
            exact ⟨j1, by omega, j3.trans k3⟩
          · rw [hp3] at h; cases h
        · rw [hp2] at h; cases h
      · rw [hp] at h; cases h
    split at h
    · rcases hp : fPlain tk i g 1 G (sNx s) with ⟨s1, p⟩ | k
      · rw [hp] at h
        obtain ⟨k1, k2, k3⟩ := GP.parts m _ _ _ _ _ _ _ (hG.add (plain_ok hg (Or.inr rfl) hp)) (grow p) h
        rw [len] at k2
        exact ⟨k1, by omega, k3⟩
      · rw [hp] at h; cases h
    split at h
    · rcases hp : fPlain tk i g 0 G s with ⟨s1, p⟩ | k
      · rw [hp] at h
        obtain ⟨k1, k2, k3⟩ := GP.parts m _ _ _ _ _ _ _ (hG.add (plain_ok hg (Or.inl rfl) hp)) (grow p) h
        rw [len] at k2
        exact ⟨k1, by omega, k3⟩
      · rw [hp] at h; cases h
    · cases h
      exact ⟨hG, Nat.le_refl _, rfl⟩
theorem GP.rules : ∀ (m : Nat) (G : zG) (s : zP) (G' : zG) (s' : zP) (b : Unit), fRules tk m G s = .inl (G', s', b) → G'.1 = G.1 ∧ G'.2.2.2 = G.2.2.2
  | 0, _, _, _, _, _, h => by cases h
  | m + 1, G, s, G', s', b, h => by
    rw [fRules] at h
    split at h
    · rcases hp : fFig tk G s with ⟨s1, p⟩ | k
      · rw [hp] at h
        exact GP.rules m (gFig G p) _ _ _ _ h
      · rw [hp] at h; cases h
    split at h
    · rcases hp : fChk tk G s with ⟨s1, p⟩ | k
      · rw [hp] at h
        exact GP.rules m (gChk G p) _ _ _ _ h
      · rw [hp] at h; cases h
    · cases h
      exact ⟨rfl, rfl⟩
theorem GP.form {b : Unit} (h : fForm tk = .inl (G, s, b)) : GP G ∧ 0 ≤ G.2.2.2.2.toInt ∧ G.2.2.2.2.toInt ≤ 5 := by
  unfold fForm at h
  rcases hp : fHead tk (0, 0, [], [], []) with ⟨s1, v⟩ | k
  · rw [hp] at h
    replace h : pb2 (fParts tk 21 0 (-9) ([], [], [], v.1, v.2) s1) (fun G s _ => pb2 (fRules tk 25 G s) fun G s _ => if kd tk s.1 = 0 then .inl (G, s, ()) else .inr (some s.1)) = .inl (G, s, b) := h
    have hv : 0 ≤ v.2.toInt ∧ v.2.toInt ≤ 5 := by
      unfold fHead at hp
      obtain ⟨_, _, _, hp⟩ := pb_inl hp
      obtain ⟨_, _, _, hp⟩ := pb_inl hp
      obtain ⟨s3, u, _, hp⟩ := pb_inl hp
      obtain ⟨s4, w, q, hp⟩ := pb_inl hp
      cases hp
      unfold fSigners at q
      split at q
      · obtain ⟨_, x, q1, q⟩ := pb_inl q
        obtain ⟨_, _, _, q⟩ := pb_inl q
        cases q
        have := fNum_inl q1
        have e0 : (0 : Int32).toInt = 0 := rfl
        have e5 : (5 : Int32).toInt = 5 := rfl
        dsimp only
        omega
      · cases q
        (dsimp only; decide)
    rcases hp2 : fParts tk 21 0 (-9) ([], [], [], v.1, v.2) s1 with ⟨G2, s2, b2⟩ | k
    · rw [hp2] at h
      replace h : pb2 (fRules tk 25 G2 s2) (fun G s _ => if kd tk s.1 = 0 then .inl (G, s, ()) else .inr (some s.1)) = .inl (G, s, b) := h
      rcases hp3 : fRules tk 25 G2 s2 with ⟨G3, s3, b3⟩ | k
      · rw [hp3] at h
        replace h : (if kd tk s3.1 = 0 then .inl (G3, s3, ()) else .inr (some s3.1) : zF2 Unit) = .inl (G, s, b) := h
        split at h
        · cases h
          obtain ⟨k1, _, k3⟩ := GP.parts 21 0 (-9) ([], [], [], v.1, v.2) s1 G2 s2 b2 (fun i p hp => by simp at hp) (Or.inl rfl) hp2
          obtain ⟨j1, j2⟩ := GP.rules 25 G2 s2 G s b3 hp3
          refine ⟨fun i p hp => k1 i p (by rw [← j1]; exact hp), ?_⟩
          rw [j2, k3]; exact hv
        · cases h
      · rw [hp3] at h; cases h
    · rw [hp2] at h; cases h
  · rw [hp] at h; cases h
end PARTSOK
/-- a form that was read, and whose names were all found, is as it must be -/
theorem form_ok {tk : List zK} {G : zG} {s : zP} {b : Unit} (hva : vaOk tk) (hpl : plUp tk) (h : fForm tk = .inl (G, s, b)) (hf : nFt G s.2.2.2.2 = none) : yFok (fF G (nAll G s.2.2.2.2 s)) := by
  obtain ⟨hU, ⟨fe, g1, g2, g3, g4⟩, hB, l1, l2, l3⟩ := fForm_inl hva hpl h
  have hnd := Nv2.form h
  have huk := Kp2.form h
  obtain ⟨gp, hs1, hs2⟩ := GP.form h
  have hpw : s.2.2.2.2.Pairwise (fun u v => u.2.2.2.2 ≠ v.2.2.2.2 ∧ u.2.2.2.1 ≠ v.2.2.2.1) := by
    rw [List.pairwise_iff_getElem]
    intro i j hi hj hij
    obtain ⟨q1, q2, q3⟩ := hU.2 i j _ _ hij (List.getElem?_eq_getElem hi) (List.getElem?_eq_getElem hj)
    refine ⟨q2, fun hh => ?_⟩
    obtain ⟨c, hc⟩ := Option.ne_none_iff_exists'.mp (hnd _ (List.getElem_mem hi)).1
    exact q3 c hc (hh.symm.trans hc)
  have hnl : s.2.2.2.1.length ≤ 299 := by
    have := hB.1
    have := hB.2.2.1
    omega
  obtain ⟨i1, i2, i3, i4, i5, i6⟩ := nAll_eff s.2.2.2.2 s hf hpw (fun u hu => (hnd u hu).1)
  have rep := fun (j k a e n : Nat) (q : pRep j 0 0 s k a e n) => rep_of hf hpw hnd huk l1 l2 hnl k a e n q
  have ex : ∀ (j : Nat) (wn wc : Int32) (a e : Nat) (fe : Nat → Nat), pEx s j wn wc a e → (∀ i, i < j → fe i < a) → yExp (fF G (nAll G s.2.2.2.2 s)) fe j wc wn e := by
    rintro j wn wc a e fe ⟨rfl, n, rfl, q1, q2⟩ q3
    refine ⟨a, rfl, q1.lt.1, rep _ _ _ _ _ q1, ?_, q3⟩
    show (nAll G s.2.2.2.2 s).2.2.1[e]? = _
    rw [i2 e ?_]
    · exact q2
    · intro u hu hc
      obtain ⟨k, hk⟩ := List.getElem?_of_mem hu
      obtain ⟨d', r1, r2⟩ := (huk k u hk).2 e hc
      rw [q2] at r1
      cases r1
      exact absurd r2.1 (by decide)
  refine ⟨fe, ?_, ?_, ?_, ?_, ?_, ?_, ?_, ⟨hs1, hs2⟩, ?_⟩
  · show (nAll G s.2.2.2.2 s).2.2.1.length ≤ 560
    rw [i4]
    have := hB.1
    have := hB.2.1
    omega
  · show (nAll G s.2.2.2.2 s).2.2.2.1.length ≤ 299
    rw [i5]; exact hnl
  · intro i n w hi
    have hi : (G.2.1.map Prod.snd)[i]? = some (n, w) := hi
    rw [List.getElem?_map] at hi
    obtain ⟨f, f1, f2⟩ := Option.map_eq_some_iff.mp hi
    obtain ⟨a, a1, a2⟩ := g2 i f f1
    have e1 : f.2.1 = n := congrArg Prod.fst f2
    have e2 : f.2.2 = w := congrArg Prod.snd f2
    rw [e1, e2] at a1
    exact ex _ _ _ _ _ _ a1 a2
  · intro i m n w hi
    obtain ⟨j, a, e, j1, j2, j3⟩ := g3 i (m, n, w) hi
    refine ⟨j, e, ?_, ex _ _ _ _ _ _ j2 j3⟩
    show j ≤ (G.2.1.map Prod.snd).length
    rw [List.length_map]; exact j1
  · show (G.1.map Prod.snd).length ≤ 20
    rw [List.length_map]; exact l1
  · show (G.2.1.map Prod.snd).length ≤ 12
    rw [List.length_map]; exact l2
  · exact l3
  · intro i P hi
    have hi : (G.1.map Prod.snd)[i]? = some P := hi
    rw [List.getElem?_map] at hi
    obtain ⟨p, p1, rfl⟩ := Option.map_eq_some_iff.mp hi
    obtain ⟨k1, k2, k3, b1, b2, b3, b4, b5, b6, b7, b8, b9⟩ := gp i p p1
    refine ⟨k1, k2, k3, b1, b2, b3, b4, b5, b6, b7, b8, b9, ?_⟩
    rcases g1 i p p1 with hc | ⟨a, e, hc⟩
    · exact Or.inl hc
    · exact Or.inr ⟨e, ex _ _ _ _ _ _ hc (fun i hi => absurd hi (Nat.not_lt_zero i))⟩
