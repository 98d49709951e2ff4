/-! NAMES ARE SETTLED: the reference -/
def lt8 : Option Nat → Int32
  | none => -9
  | some p => Int32.ofNat p
def eqZ (S S' : zS) : Prop := eqY (zsI S 8 0) (zsI S' 8 0)
theorem eqZ.refl {S : zS} : eqZ S S := eqY.refl
theorem eqZ.trans {S S' S2 : zS} (h : eqZ S S') (g : eqZ S' S2) : eqZ S S2 := eqY.trans h g
theorem eqZ.of {S S' : zS} (h : eqY S S') : eqZ S S' := by
  refine ⟨fun i a b c d e f g j k => ?_, h.2.1, h.2.2⟩
  rw [zi_I, zi_I]
  split
  · rfl
  · exact h.1 i a b c d e f g j k
theorem eqZ.set {S : zS} {x : Int32} : eqZ S (zsI S 8 x) := by
  refine ⟨fun i _ _ _ _ _ _ _ _ _ => ?_, fun _ _ _ _ _ _ _ => rfl, fun _ _ _ => rfl⟩
  rw [zi_I, zi_I, zi_I]
  split <;> rfl
def WN (S : zS) : Prop := (zB S 15).length = 20 ∧ (zB S 24).length = 12
theorem WN.eqY {S S' : zS} (e : eqY S S') (h : WN S) : WN S' := by
  unfold WN
  rw [e.2.2 15 (by decide) (by decide), e.2.2 24 (by decide) (by decide)]
  exact h
section SETTLEQ
variable {t : List Int32} {tk : List zK} {i : Nat} {s : zP} {S : zS} {G : zG} {N : Nat}
theorem partOf_L (hN : 1400 < N) {x : Int64} (hg : GM G S) (hW : WN S) : rQ_partOf N x S = some (nIx x (G.1.map Prod.fst) 0, S) := by
  obtain ⟨jk, e8⟩ := pre_of (q := zB S 15) (f := Prod.fst) (fun i p hp => (hg.1.2.2.2 i p hp).1)
  have l8 := hW.1
  have p20 := hg.1.2.2.1
  have f8 := partOf_2 (N := N) (S := S) (x := x) (jk := jk) (G.1.map Prod.fst) [] N (by simp; exact hg.1.1) (by simpa using e8) (by simp; omega) (by omega) (by simp; omega)
  exact f8
theorem figureOf_L (hN : 1400 < N) {x : Int64} (hg : GM G S) (hW : WN S) : rQ_figureOf N x S = some (nIx x (G.2.1.map Prod.fst) 0, S) := by
  obtain ⟨jk, e8⟩ := pre_of (q := zB S 24) (f := Prod.fst) (fun i p hp => (hg.2.1.2.2 i p hp).1)
  have l8 := hW.2
  have p20 := hg.2.1.2.1
  have f8 := figureOf_2 (N := N) (S := S) (x := x) (jk := jk) (G.2.1.map Prod.fst) [] N (by simp; exact hg.2.1.1) (by simpa using e8) (by simp; omega) (by omega) (by simp; omega)
  exact f8
theorem RQ.code {l : List (Int32 × Int32)} (h : RQ t tk i s S) : RQ t tk i (s.1, s.2.1, l, s.2.2.2) S := h
/-- a node's op and one -/
theorem one_Q {n : Nat} {o a b : Int32} {v : Int64} {o' a' : Int32} {S2 : zS} (h : RQ t tk i s S) (hn : s.2.2.2.1[n]? = some (o, a, b, v)) (e1 : S2.1 = S.1) (c33 : zA S2 33 = (zA S 33).set n o') (c35 : zA S2 35 = (zA S 35).set n a') (cA : ∀ j, j ≠ 33 → j ≠ 35 → zA S2 j = zA S j) (cB : ∀ j, zB S2 j = zB S j) : RQ t tk i (sSn s n (o', a', b, v)) S2 ∧ eqY S S2 := by
  have hil := (List.getElem?_eq_some_iff.mp hn).1
  have eI : ∀ j, zI S2 j = zI S j := fun j => congrFun e1 j
  have e : eqY S S2 := ⟨fun j _ _ _ _ _ _ _ _ _ => eI j, fun j _ _ _ h33 h35 _ => cA j h33 h35, fun j _ _ => cB j⟩
  obtain ⟨⟨⟨a1, a2, a3, a4⟩, a5, a6⟩, r2, r3, ⟨τ, g1, g2⟩, r5, r6, ⟨r7, r7', r7''⟩, ⟨r8, r8', r8''⟩⟩ := h
  have c36 := cA 36 (by decide) (by decide)
  have c11 := cA 11 (by decide) (by decide)
  have c12 := cA 12 (by decide) (by decide)
  have c13 := cA 13 (by decide) (by decide)
  refine ⟨⟨⟨⟨?_, ?_, ?_, ?_⟩, ⟨?_, ?_, ?_, ?_⟩, ?_⟩, by rw [eI]; exact r2, e.tape r3, ⟨τ, g1, ?_⟩, by rw [eI]; exact r5, ⟨by rw [eI]; exact r6.1, r6.2⟩, ⟨?_, ?_, ?_⟩, ⟨by rw [eI]; exact r8, r8', ?_⟩⟩, e⟩
  · rw [c33, List.length_set]; exact a1
  · rw [c35, List.length_set]; exact a2
  · rw [c36]; exact a3
  · rw [cB]; exact a4
  · rw [cB]; exact a5.1
  · rw [c11]; exact a5.2.1
  · rw [c12]; exact a5.2.2.1
  · rw [c13]; exact a5.2.2.2
  · rw [eI]; exact a6
  · obtain ⟨k1, k2, k3, k4⟩ := g2
    refine ⟨k1, by rw [eI]; exact k2, by rw [eI]; exact k3, ?_⟩
    rw [eI 2, eI 5]; exact k4
  · rw [eI]; show _ = Int32.ofNat (s.2.2.2.1.set n _).length; rw [List.length_set]; exact r7
  · show (s.2.2.2.1.set n _).length ≤ 299; rw [List.length_set]; exact r7'
  · intro j m hm
    have hm : (s.2.2.2.1.set n (o', a', b, v))[j]? = some m := hm
    rw [c33, c35, c36, cB 34]
    by_cases hj : j = n
    · subst hj
      rw [List.getElem?_set_self hil] at hm
      cases hm
      rw [List.getElem?_set_self (by omega), List.getElem?_set_self (by omega)]
      exact ⟨rfl, rfl, (r7'' j _ hn).2.2.1, (r7'' j _ hn).2.2.2⟩
    · rw [List.getElem?_set_ne (by omega)] at hm
      rw [List.getElem?_set_ne (by omega), List.getElem?_set_ne (by omega)]
      exact r7'' j m hm
  · intro j u hu
    rw [cB, c11, c12, c13]
    exact r8'' j u hu
/-- as nFt and nAll say; the reference -/
theorem Q_names (hN : 1400 < N) : ∀ (r pre : List zU) (s : zP) (S : zS) (n : Nat) (lat : Option Nat), s.2.2.2.2 = pre ++ r → (∀ u ∈ r, u.1 ≤ 1400 ∧ (∀ p, lat = some p → p < u.1) ∧ u.2.2.2.2 < s.2.2.2.1.length ∧ u.2.2.1 ≤ G.2.1.length) → r.Pairwise (fun u v => u.1 < v.1) → (∀ p, lat = some p → p ≤ 1400) → GM G S → WN S → RQ t tk i s S → zI S 8 = lt8 lat → r.length < n → ∃ S', rQ_settle_2 N n (Int32.ofNat pre.length) S = some ((), S') ∧ RQ t tk i (nAll G r s) S' ∧ GM G S' ∧ WN S' ∧ zI S' 8 = lt8 (lat.or (nFt G r)) ∧ eqZ S S'
  | _, _, _, _, 0, _, _, _, _, _, _, _, _, _, h => by omega
  | [], pre, s, S, n + 1, lat, hu, _, _, _, hg, hW, h, h8, _ => by
    have h7 := h.2.2.2.2.2.2.2
    rw [List.append_nil] at hu
    rw [rQ_settle_2, if_pos (by rw [h7.1, hu]; omega)]
    refine ⟨S, rfl, h, hg, hW, ?_, eqZ.refl⟩
    rw [nFt, Option.or_none]; exact h8
  | u :: r, pre, s, S, n + 1, lat, hu, hd, hpw, hlat, hg, hW, h, h8, hn => by
    have h7 := h.2.2.2.2.2.2.2
    have hlen : s.2.2.2.2.length = pre.length + (r.length + 1) := by rw [hu, List.length_append, List.length_cons]
    have hget : s.2.2.2.2[pre.length]? = some u := by rw [hu, List.getElem?_append_right (Nat.le_refl _), Nat.sub_self]; rfl
    obtain ⟨a1, a2, a3, a4⟩ := h7.2.2 _ _ hget
    obtain ⟨hp0, hpl, hnl, htl⟩ := hd u List.mem_cons_self
    obtain ⟨hpw1, hpw2⟩ := List.pairwise_cons.mp hpw
    obtain ⟨p0, b, t1, o, m⟩ := u
    have l250 : pre.length < 250 := by have := h7.2.1; omega
    have w299 := h.2.2.2.2.2.2.1.2.1
    obtain ⟨⟨no, na, nb, nv⟩, hnm⟩ : ∃ d, s.2.2.2.1[m]? = some d := ⟨_, List.getElem?_eq_getElem hnl⟩
    have hnl : m < s.2.2.2.1.length := hnl
    have hwl := h.1.1
    have e7 : ∀ {α : Type} (l : List α), gI l (Int32.ofNat pre.length) = l[pre.length]? := fun l => gI_nat (by omega)
    have step : ∀ (s' : zP) (S1 : zS) (lat' : Option Nat), s'.2.2.2.2 = s.2.2.2.2 → s'.2.2.2.1.length = s.2.2.2.1.length → (∀ p, lat' = some p → p ≤ p0) → GM G S1 → WN S1 → RQ t tk i s' S1 → zI S1 8 = lt8 lat' → eqZ S S1 → ∃ S', rQ_settle_2 N n (Int32.ofNat pre.length + 1) S1 = some ((), S') ∧ RQ t tk i (nAll G r s') S' ∧ GM G S' ∧ WN S' ∧ zI S' 8 = lt8 (lat'.or (nFt G r)) ∧ eqZ S S' := by
      intro s' S1 lat' q1 q2 q3 q4 q5 q6 q7 q8
      obtain ⟨S', r1, r2, r3, r4, r5, r6⟩ := Q_names hN r (pre ++ [(p0, b, t1, o, m)]) s' S1 n lat' (by rw [q1, hu]; simp) (fun v hv => ⟨(hd v (List.mem_cons_of_mem _ hv)).1, fun p hp => by have := q3 p hp; have : p0 < v.1 := hpw1 v hv; omega, by rw [q2]; exact (hd v (List.mem_cons_of_mem _ hv)).2.2.1, (hd v (List.mem_cons_of_mem _ hv)).2.2.2⟩) hpw2 (fun p hp => by have := q3 p hp; have : p0 ≤ 1400 := hp0; omega) q4 q5 q6 q7 (by rw [List.length_cons] at hn; omega)
      rw [List.length_append, List.length_singleton, ← yi_add1] at r1
      exact ⟨S', r1, r2, r3, r4, r5, q8.trans r6⟩
    have hlat0 : ∀ p, lat = some p → p ≤ p0 := fun p hp => Nat.le_of_lt (hpl p hp)
    have hg1 : G.1.length ≤ 20 := hg.1.2.2.1
    have hg2 : G.2.1.length ≤ 12 := hg.2.1.2.1
    have htl : t1 ≤ G.2.1.length := htl
    have hp0 : p0 ≤ 1400 := hp0
    rw [rQ_settle_2, if_neg (by rw [h7.1, hlen, yi_nat (by omega), yi_nat (by omega)]; omega), e7, a1, zgs, partOf_L hN hg hW, zbs, e7, a1, zgs, figureOf_L hN hg hW, zbs, e7, a3, zgs]
    rw [nFt, nAll]
    show ∃ S', _ = some ((), S') ∧ RQ t tk i (nAll G r (match nRes G b t1 with | none => s | some x => nDo s (p0, b, t1, o, m) x)) S' ∧ GM G S' ∧ WN S' ∧ zI S' 8 = lt8 (lat.or (if nRes G b t1 = none then some p0 else nFt G r)) ∧ eqZ S S'
    have eD : ∀ x, nDo s (p0, b, t1, o, m) x = (s.1, s.2.1, s.2.2.1.set (o.getD 0) (nCw x ((s.2.2.1[o.getD 0]?).getD (0, 0))), s.2.2.2.1.set m (nNw x (no, na, nb, nv)), s.2.2.2.2) := by
      intro x
      show (s.1, s.2.1, _, s.2.2.2.1.set m (nNw x ((s.2.2.2.1[m]?).getD (0, 0, 0, 0))), s.2.2.2.2) = _
      rw [hnm]; rfl
    have lD : ∀ x, (nDo s (p0, b, t1, o, m) x).2.2.2.1.length = s.2.2.2.1.length := by
      intro x
      rw [eD]; exact List.length_set
    rcases nRes_cases (G := G) (b := b) (t := t1) hg1 hg2 with ⟨j, f1, f2, f3, f4, f5⟩ | ⟨f1, p, P, f2, f3, f4, f5⟩ | ⟨f1, f5, f2⟩
    · rw [f5, if_neg (show ¬ (some (true, j) = none) by intro hh; cases hh)]
      rw [if_neg f1.1, e7, a4, zgs, f2, if_neg (show ¬ (Int32.ofNat t1).toInt ≤ (Int32.ofNat j).toInt by rw [yi_nat (by omega), yi_nat (by omega)]; omega), if_pos (zok_nat (by omega) (by omega)), if_pos (zok_nat (by omega) (by omega))]
      obtain ⟨k1, k2⟩ := one_Q (o' := 2) (a' := Int32.ofNat j) (S2 := zsA (zsA S 33 (zs (zA S 33) (Int32.ofNat m) 2)) 35 (zs (zA S 35) (Int32.ofNat m) (Int32.ofNat j))) h hnm rfl (by rw [za_A, if_neg (by decide), za_A, if_pos rfl, zs_nat (by omega)]) (by rw [za_A, if_pos rfl, zs_nat (by omega)]) (fun x h1 h2 => by rw [za_A, if_neg h2, za_A, if_neg h1]) (fun _ => rfl)
      exact step (nDo s (p0, b, t1, o, m) (true, j)) _ lat rfl (lD _) hlat0 (GMn.eqY k2 hg) (WN.eqY k2 hW) (by rw [eD]; exact k1.code) h8 (eqZ.of k2)
    · have hA : ∃ S', rQ_settle_47 N (rQ_settle_2 N n) (Int32.ofNat pre.length) (nIx b (G.1.map Prod.fst) 0) (Int32.ofNat m) S = some ((), S') ∧ RQ t tk i (nAll G r (nDo s (p0, b, t1, o, m) (false, p))) S' ∧ GM G S' ∧ WN S' ∧ zI S' 8 = lt8 (lat.or (nFt G r)) ∧ eqZ S S' := by
        have hpl := (List.getElem?_eq_some_iff.mp f3).1
        have hpn : Int32.ofNat p ≠ -9 := by rw [Ne, xi32_eq, yi_nat (by omega), y_m9]; omega
        have ek := (hg.1.2.2.2 p P f3).2.1
        rw [rQ_settle_47, f2, if_neg hpn, gI_nat (by omega), ek, zgs, if_neg f4, if_pos (zok_nat (by omega) (by omega))]
        obtain ⟨k1, k2⟩ := one_Q (o' := no) (a' := Int32.ofNat p) (S2 := zsA S 35 (zs (zA S 35) (Int32.ofNat m) (Int32.ofNat p))) h hnm rfl (by rw [za_A, if_neg (by decide), set_same (h.2.2.2.2.2.2.1.2.2 m _ hnm).1]) (by rw [za_A, if_pos rfl, zs_nat (by omega)]) (fun x h1 h2 => by rw [za_A, if_neg h2]) (fun _ => rfl)
        exact step (nDo s (p0, b, t1, o, m) (false, p)) _ lat rfl (lD _) hlat0 (GMn.eqY k2 hg) (WN.eqY k2 hW) (by rw [eD]; exact k1.code) h8 (eqZ.of k2)
      rw [f5, if_neg (show ¬ (some (false, p) = none) by intro hh; cases hh)]
      by_cases h6 : nIx b (G.2.1.map Prod.fst) 0 = -9
      · rw [if_pos h6]; exact hA
      · rw [if_neg h6, e7, a4, zgs, if_pos (show (Int32.ofNat t1).toInt ≤ _ by rw [yi_nat (by omega)]; exact Int.not_lt.mp fun hh => f1 ⟨h6, hh⟩)]
        exact hA
    · have hB : ∃ S', rQ_settle_64 N (rQ_settle_2 N n) (Int32.ofNat pre.length) S = some ((), S') ∧ RQ t tk i (nAll G r s) S' ∧ GM G S' ∧ WN S' ∧ zI S' 8 = lt8 (lat.or (some p0)) ∧ eqZ S S' := by
        rw [rQ_settle_64]
        cases lat with
        | none =>
          rw [if_pos (show (zI S 8).toInt < 0 by rw [h8]; decide), e7, a2, zgs]
          exact step s (zsI S 8 (Int32.ofNat p0)) (some p0) rfl rfl (fun p hp => by cases hp; exact Nat.le_refl _) hg hW h rfl eqZ.set
        | some p =>
          have := hlat p rfl
          rw [if_neg (show ¬ (zI S 8).toInt < 0 by rw [h8, lt8, yi_nat (by omega)]; omega), e7, a2, zgs, if_pos (show (zI S 8).toInt ≤ (Int32.ofNat p0).toInt by rw [h8, lt8, yi_nat (by omega), yi_nat (by omega)]; have := hlat0 p rfl; omega)]
          exact step s (zsI S 8 (zI S 8)) (some p) rfl rfl hlat0 hg hW h h8 eqZ.set
      have hA : ∃ S', rQ_settle_47 N (rQ_settle_2 N n) (Int32.ofNat pre.length) (nIx b (G.1.map Prod.fst) 0) (Int32.ofNat m) S = some ((), S') ∧ RQ t tk i (nAll G r s) S' ∧ GM G S' ∧ WN S' ∧ zI S' 8 = lt8 (lat.or (some p0)) ∧ eqZ S S' := by
        rw [rQ_settle_47]
        rcases f2 with f2 | ⟨p, P, f2, f3, f4⟩
        · rw [f2, if_pos rfl]; exact hB
        · have hpl := (List.getElem?_eq_some_iff.mp f3).1
          have hpn : Int32.ofNat p ≠ -9 := by rw [Ne, xi32_eq, yi_nat (by omega), y_m9]; omega
          have ek := (hg.1.2.2.2 p P f3).2.1
          rw [f2, if_neg hpn, gI_nat (by omega), ek, zgs, if_pos f4]; exact hB
      rw [f5, if_pos rfl]
      by_cases h6 : nIx b (G.2.1.map Prod.fst) 0 = -9
      · rw [if_pos h6]; exact hA
      · rw [if_neg h6, e7, a4, zgs, if_pos (show (Int32.ofNat t1).toInt ≤ _ by rw [yi_nat (by omega)]; exact Int.not_lt.mp fun hh => f1 ⟨h6, hh⟩)]
        exact hA
end SETTLEQ
