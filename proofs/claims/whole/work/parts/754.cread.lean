/-! READ: the class -/
theorem all_mem {p : Int32 → Bool} {l : List Int32} (h : l.all p = true) {b : Int32} (hb : b ∈ l) : p b = true := List.all_eq_true.mp h b hb
theorem lexK_ok {r : List Int32} : 0 ≤ (lexK r).1.toInt ∧ ((lexK r).1 = 2 ∨ (lexK r).1 = 3 → ∃ v, (lexK r).2.2 = some v) := by
  cases r with
  | nil => exact ⟨by decide, fun h => by rcases h with h | h <;> exact absurd h (by decide)⟩
  | cons b r =>
    by_cases hL : isL b = true
    · rw [lexK_w hL]
      refine ⟨?_, fun _ => ⟨_, rfl⟩⟩
      show 0 ≤ (if nW (b :: r) ≤ 8 then kW (wV 0 ((b :: r).take (nW (b :: r)))) else 1).toInt
      split
      · unfold kW
        rcases kWf_spec (v := wV 0 ((b :: r).take (nW (b :: r)))) zw81 0 with ⟨j, h1, h2⟩ | ⟨_, h⟩
        · have hj := (List.getElem?_eq_some_iff.mp h1).1
          have h36 : zw81.length = 36 := rfl
          rw [h2, yi_nat (by omega)]; omega
        · rw [h]; decide
      · decide
    · by_cases hG : isG b = true
      · rw [lexK_g hL hG]
        refine ⟨?_, fun _ => ⟨_, rfl⟩⟩
        show 0 ≤ (if nG (b :: r) ≤ 6 then (2 : Int32) else 1).toInt
        split <;> decide
      · rw [lexK_s hL hG]
        have hz : zwsg.all (fun b => decide (0 ≤ b.toInt) && decide (b ≠ 2) && decide (b ≠ 3)) = true := by decide
        show 0 ≤ (if b ∈ zwsg then b else 1).toInt ∧ ((if b ∈ zwsg then b else 1) = 2 ∨ (if b ∈ zwsg then b else 1) = 3 → _)
        by_cases hb : b ∈ zwsg
        · have := all_mem hz hb
          simp only [Bool.and_eq_true, decide_eq_true_eq] at this
          rw [if_pos hb]
          exact ⟨this.1.1, fun h => by rcases h with h | h; exact absurd h this.1.2; exact absurd h this.2⟩
        · rw [if_neg hb]
          exact ⟨by decide, fun h => by rcases h with h | h <;> exact absurd h (by decide)⟩
/-- the tokens of a tape -/
def tkOf (t : List Int32) : List zK := tks (t.length + 1) 0 t
theorem tkOf_T {t : List Int32} : tkT t (tkOf t) := by
  intro i τ h
  have := tks_spec (t := t) (t.length + 1) 0 i τ (Nat.zero_le _) (by rw [List.drop_zero]; omega) h
  exact ⟨this.1, this.2.1, this.2.2.1⟩
theorem tkOf_len {t : List Int32} : 0 < (tkOf t).length := by
  show 0 < (tks (t.length + 1) 0 t).length
  rw [tks]
  exact Nat.succ_pos _
theorem tkOf_OK {t : List Int32} (ht : t.length ≤ 1400) : tkOK (tkOf t) := by
  have hl := tks_len (t.length + 1) 0 t
  refine ⟨by show (tks (t.length + 1) 0 t).length ≤ 1401; omega, fun i τ h => ?_⟩
  obtain ⟨⟨g1, g2, g3, g4, g5⟩, d2, d3⟩ := tkOf_T i τ h
  have hk := lexK_ok (r := t.drop τ.2.1)
  refine ⟨by rw [g2]; exact hk.1, fun h0 h1 => ?_, by omega, fun hh => ?_⟩
  · obtain ⟨τ', q⟩ := d3 h0 h1
    exact (List.getElem?_eq_some_iff.mp q).1
  · obtain ⟨v, hv⟩ := hk.2 (by rw [g2] at hh; exact hh)
    exact ⟨v, by rw [g4]; exact hv⟩
theorem pl_le {t : List Int32} (ht : t.length ≤ 1400) {k : Nat} : pl (tkOf t) k ≤ 1400 := by
  rcases hk : (tkOf t)[k]? with _ | τ
  · rw [pl, hk]; exact Nat.zero_le _
  · rw [pl, hk]
    exact ((tkOf_OK ht).2 k τ hk).2.2.1
/-- lengths alone -/
def WL (S : zS) : Prop := ((zA S 2).length = 1401 ∧ (zA S 3).length = 1401 ∧ (zB S 4).length = 1401) ∧ ((zA S 10).length = 250 ∧ (zB S 11).length = 250 ∧ (zA S 12).length = 250 ∧ (zA S 13).length = 250) ∧ ((zA S 30).length = 560 ∧ (zA S 31).length = 560) ∧ ((zB S 8).length = 20 ∧ (zA S 15).length = 20 ∧ (zA S 16).length = 20 ∧ (zA S 17).length = 20 ∧ (zA S 18).length = 20 ∧ (zA S 19).length = 20 ∧ (zA S 20).length = 20 ∧ (zA S 21).length = 20) ∧ (zB S 9).length = 12 ∧ (zA S 23).length = 12 ∧ (zA S 25).length = 12 ∧ (zA S 26).length = 12
/-- what a tape is, as a form: THE FAULT's place, or a form -/
def rdForm (t : List Int32) : Nat ⊕ (zG × zP) := match fForm (tkOf t) with
  | .inr none => .inl 0
  | .inr (some k) => .inl (pl (tkOf t) k)
  | .inl (G, s, _) => match nFt G s.2.2.2.2 with
    | some p => .inl p
    | none => .inr (G, nAll G s.2.2.2.2 s)
/-- the uses of a form: places, nodes -/
theorem uses_ok {t : List Int32} (ht : t.length ≤ 1400) {G : zG} {s : zP} {b : Unit} (h : fForm (tkOf t) = .inl (G, s, b)) : (∀ u ∈ s.2.2.2.2, Nd G.2.1.length u ∧ u.1 ≤ 1400 ∧ (∀ c, u.2.2.2.1 = some c → c < s.2.2.1.length) ∧ u.2.2.2.2 < s.2.2.2.1.length) ∧ s.2.2.2.2.Pairwise (fun u v => u.1 < v.1) ∧ s.2.2.2.2.length ≤ 250 := by
  have hT := tkOf_T (t := t)
  obtain ⟨hU, _, hB, _⟩ := fForm_inl (vaOk_of hT) (plUp_of hT) h
  refine ⟨fun u hu => ?_, ?_, ?_⟩
  · obtain ⟨i, hi⟩ := List.getElem?_of_mem hu
    obtain ⟨q1, q2, q3⟩ := hU.1 i u hi
    have := pl_le ht (k := s.1)
    exact ⟨Nv2.form h u hu, by omega, q3, q2⟩
  · rw [List.pairwise_iff_getElem]
    intro i j hi hj hij
    exact (hU.2 i j _ _ hij (List.getElem?_eq_getElem hi) (List.getElem?_eq_getElem hj)).1
  · have h1 := hB.1
    have h2 := hB.2.2.2
    omega
theorem C_read {N : Nat} (hN : 1400 < N) (h6 : N / 16 = 100) {t jk : List Int32} {S : zS} (ht : t.length ≤ 1400) (hb : ∀ b ∈ t, 0 ≤ b.toInt ∧ b.toInt ≤ 255) (h0 : zI S 0 = Int32.ofNat t.length) (h1 : zA S 1 = t ++ jk) (hL : WL S) : match rdForm t with
    | .inl p => p ≤ 1400 ∧ ∃ S', cP_read N S = some (Int32.ofNat p, S')
    | .inr (G, s) => ∃ S', cP_read N S = some (-9, S') ∧ CP (tkOf t) s S' ∧ GC G S' ∧ WG S' := by
  obtain ⟨l1, l2, l3, l4, l5⟩ := hL
  have ok := tkOf_OK ht
  generalize hS1 : (zsI (zsI (zsI (zsI (zsI (zsI (zsI (zsI (zsI (zsI S 14 0) 22 0) 24 0) 27 0) 28 (-9)) 29 0) 32 0) 5 0) 6 (-9)) 7 0) = S1
  have a1 : ∀ i, zA S1 i = zA S i := fun i => by rw [← hS1]; rfl
  have b1 : ∀ i, zB S1 i = zB S i := fun i => by rw [← hS1]; rfl
  have i0 : zI S1 0 = zI S 0 := by rw [← hS1]; rfl
  obtain ⟨S5, c1, c2, _, c4⟩ := cL_split hN (jk := jk) (t.length + 1) N t [] 0 S1 (by rw [i0, h0]; simp) (by rw [a1, h1]; simp) (by simp; omega) (by omega) (by omega) (by omega) (by rw [a1]; exact l1.1) (by rw [a1]; exact l1.2.1) (by rw [b1]; exact l1.2.2) hb
  obtain ⟨e1, e2, e3, e4, e5, e6⟩ := c2
  have eI : ∀ i, zI S5 i = zI S1 i := fun i => congrFun e1 i
  have j5 : zI S5 5 = 0 := by rw [eI, ← hS1]; rfl
  have j6 : zI S5 6 = -9 := by rw [eI, ← hS1]; rfl
  have j7 : zI S5 7 = 0 := by rw [eI, ← hS1]; rfl
  have j14 : zI S5 14 = 0 := by rw [eI, ← hS1]; rfl
  have j22 : zI S5 22 = 0 := by rw [eI, ← hS1]; rfl
  have j24 : zI S5 24 = 0 := by rw [eI, ← hS1]; rfl
  have j27 : zI S5 27 = 0 := by rw [eI, ← hS1]; rfl
  have j28 : zI S5 28 = -9 := by rw [eI, ← hS1]; rfl
  have j29 : zI S5 29 = 0 := by rw [eI, ← hS1]; rfl
  have j32 : zI S5 32 = 0 := by rw [eI, ← hS1]; rfl
  have aA : ∀ i, i ≠ 2 → i ≠ 3 → zA S5 i = zA S i := fun i q1 q2 => (e2 i q1 q2).trans (a1 i)
  have aB : ∀ i, i ≠ 4 → zB S5 i = zB S i := fun i q1 => (e3 i q1).trans (b1 i)
  have hWP : WP S5 := by
    refine ⟨⟨by rw [e4, a1]; exact l1.1, by rw [e5, a1]; exact l1.2.1, by rw [e6, b1]; exact l1.2.2⟩, ⟨by rw [aA 10 (by decide) (by decide)]; exact l2.1, by rw [aB 11 (by decide)]; exact l2.2.1, by rw [aA 12 (by decide) (by decide)]; exact l2.2.2.1, by rw [aA 13 (by decide) (by decide)]; exact l2.2.2.2⟩, ⟨by rw [aA 30 (by decide) (by decide)]; exact l3.1, by rw [aA 31 (by decide) (by decide)]; exact l3.2⟩, ⟨0, by omega, j5⟩, ⟨0, by omega, j7⟩, ⟨0, by omega, j32⟩, ⟨0, by omega, j27⟩⟩
  have hWG : WG S5 := by
    refine ⟨⟨by rw [aB 8 (by decide)]; exact l4.1, by rw [aA 15 (by decide) (by decide)]; exact l4.2.1, by rw [aA 16 (by decide) (by decide)]; exact l4.2.2.1, by rw [aA 17 (by decide) (by decide)]; exact l4.2.2.2.1, by rw [aA 18 (by decide) (by decide)]; exact l4.2.2.2.2.1, by rw [aA 19 (by decide) (by decide)]; exact l4.2.2.2.2.2.1, by rw [aA 20 (by decide) (by decide)]; exact l4.2.2.2.2.2.2.1, by rw [aA 21 (by decide) (by decide)]; exact l4.2.2.2.2.2.2.2⟩, ⟨by rw [aB 9 (by decide)]; exact l5.1, by rw [aA 23 (by decide) (by decide)]; exact l5.2.1, by rw [aA 25 (by decide) (by decide)]; exact l5.2.2.1, by rw [aA 26 (by decide) (by decide)]; exact l5.2.2.2⟩, ⟨0, by omega, j14⟩, ⟨0, by omega, j22⟩, ⟨0, by omega, j24⟩⟩
  have hCP : CP (tkOf t) (0, 0, [], [], []) S5 := by
    refine ⟨hWP, j6, ⟨j5, tkOf_len⟩, fun i τ hi => ?_, ⟨j27, by decide⟩, ⟨j32, by decide, fun i c hc => by simp at hc⟩, ⟨j7, by decide, fun i u hu => by simp at hu⟩⟩
    have := c4 i τ hi
    rw [Nat.zero_add] at this
    exact this
  have hGC : GC ([], [], [], -9, 0) S5 := by
    exact ⟨⟨j14, by decide, by decide, fun i p hp => by simp at hp⟩, ⟨j22, by decide, fun i p hp => by simp at hp⟩, ⟨j24, by decide, fun i p hp => by simp at hp⟩, j28, j29⟩
  have hrd : cP_read N S = zb (cP_readHead N S5) fun _ S8 => (zb (cP_readParts N  S8) fun _ S11 => (zb (cP_readRules N  S11) fun _ S14 => (zb (cP_sees N  S14) fun x16 S17 => (if x16 = (0 : Int32) then (if (zI S17 6) ≠ ((-9) : Int32) then some ((zI S17 6), S17) else (zb (cP_findNames N  S17) fun _ S20 => some ((zI S20 6), S20))) else (zb (cP_refuse N  S17) fun _ S23 => (if (zI S23 6) ≠ ((-9) : Int32) then some ((zI S23 6), S23) else (zb (cP_findNames N  S23) fun _ S26 => some ((zI S26 6), S26)))))))) := by
    have hsp : cP_split N S1 = some ((), S5) := c1
    rw [cP_read, cP_begin, zbs, hS1, hsp, zbs]
  rw [hrd]
  have tl : ∀ (q : Nat) (S9 : zS), CF q S9 → (zb (cP_sees N S9) fun x16 S17 => (if x16 = (0 : Int32) then (if (zI S17 6) ≠ ((-9) : Int32) then some ((zI S17 6), S17) else (zb (cP_findNames N  S17) fun _ S20 => some ((zI S20 6), S20))) else (zb (cP_refuse N  S17) fun _ S23 => (if (zI S23 6) ≠ ((-9) : Int32) then some ((zI S23 6), S23) else (zb (cP_findNames N  S23) fun _ S26 => some ((zI S26 6), S26)))))) = some (Int32.ofNat q, S9) := by
    intro q S9 hq
    rw [sees_F hq, zbs, if_neg (show ¬ (1 : Int32) = 0 by decide), refuse_F hq, zbs, if_pos hq.ne, hq.2.2]
  have rl : ∀ (q : Nat) (S9 : zS), CF q S9 → cP_readRules N S9 = some ((), S9) := fun q S9 hq => rules_F (by omega) hq
  have pt : ∀ (q : Nat) (S9 : zS), CF q S9 → cP_readParts N S9 = some ((), S9) := by
    intro q S9 hq
    exact parts_F (by omega) hq
  have hok := fform_ok (tk := tkOf t)
  unfold rdForm
  have hform : fForm (tkOf t) = pu (fHead (tkOf t) (0, 0, [], [], [])) fun s h => pb2 (fParts (tkOf t) 21 0 (-9) ([], [], [], h.1, h.2) s) fun G s _ => pb2 (fRules (tkOf t) 25 G s) fun G s _ => if kd (tkOf t) s.1 = 0 then .inl (G, s, ()) else .inr (some s.1) := rfl
  have H := C_head (N := N) ok hGC hWG hCP
  rcases hp : fHead (tkOf t) (0, 0, [], [], []) with ⟨s1, v⟩ | _ | q
  · rw [hp] at H hform
    replace hform : fForm (tkOf t) = pb2 (fParts (tkOf t) 21 0 (-9) ([], [], [], v.1, v.2) s1) fun G s _ => pb2 (fRules (tkOf t) 25 G s) fun G s _ => if kd (tkOf t) s.1 = 0 then .inl (G, s, ()) else .inr (some s.1) := hform
    obtain ⟨S8, k1, k2, k3, k4⟩ := H
    rw [k1, zbs]
    have P := C_parts hN h6 ok 21 0 (-9) ([], [], [], v.1, v.2) s1 S8 N 0 (by decide) rfl (Nat.zero_le _) (by omega) k3 k4 k2
    rcases hp2 : fParts (tkOf t) 21 0 (-9) ([], [], [], v.1, v.2) s1 with ⟨G2, s2, b2⟩ | _ | q
    · rw [hp2] at P hform
      replace hform : fForm (tkOf t) = pb2 (fRules (tkOf t) 25 G2 s2) fun G s _ => if kd (tkOf t) s.1 = 0 then .inl (G, s, ()) else .inr (some s.1) := hform
      obtain ⟨S9, n', l', m1, m2, m3, m4, m5, m6, m7, m8, m9, m10⟩ := P
      have m20 : G2.1.length ≤ 20 := m3.1.2.2.1
      have hend : cP_readParts_6 N n' (-9) 0 (Int32.ofNat l') S9 = some ((), S9) := by
        obtain ⟨n', rfl⟩ : ∃ k, n' = k + 1 := ⟨n' - 1, by omega⟩
        rw [cP_readParts_6, if_neg (show ¬ 40 < (Int32.ofNat l').toInt by rw [yi_nat (by omega)]; omega), seesPart_G ok m2, zbs, if_neg m5, if_neg (nn rfl), if_pos (by decide), if_pos (by decide)]
      have hP : cP_readParts N S8 = some ((), S9) := m1.trans hend
      rw [hP, zbs]
      have R := C_rules hN h6 ok 25 G2 s2 S9 N 0 (by omega) (by omega) m3 m4 m2
      rcases hp3 : fRules (tkOf t) 25 G2 s2 with ⟨G3, s3, b3⟩ | _ | q
      · rw [hp3] at R hform
        replace hform : fForm (tkOf t) = if kd (tkOf t) s3.1 = 0 then .inl (G3, s3, ()) else .inr (some s3.1) := hform
        obtain ⟨S10, r1, r2, r3, r4⟩ := R
        have r1 : cP_readRules N S9 = some ((), S10) := r1
        rw [r1, zbs, sees_G ok r2, zbs]
        by_cases hk : kd (tkOf t) s3.1 = 0
        · rw [if_pos hk, if_neg (nn r2.2.1)]
          rw [if_pos hk] at hform
          have hu := uses_ok ht hform
          obtain ⟨S11, n1, n2, n3⟩ := C_names (tk := tkOf t) (N := N) hN s3.2.2.2.2 [] s3 S10 N rfl (fun u hu' => (hu.1 u hu').1) (fun u hu' => (hu.1 u hu').2.1) (fun u hu' => (hu.1 u hu').2.2.1) r3 r4 r2 (by have := hu.2.2; omega)
          have n1 : cP_findNames N S10 = some ((), S11) := n1
          rw [n1, zbs, hform]
          show match (match nFt G3 s3.2.2.2.2 with | some p => (.inl p : Nat ⊕ (zG × zP)) | none => .inr (G3, nAll G3 s3.2.2.2.2 s3)) with | .inl p => _ | .inr (G, s) => _
          rcases hn : nFt G3 s3.2.2.2.2 with _ | p
          · rw [hn] at n3
            exact ⟨S11, by rw [n3.2.1], n3, GCn.eqX n2 r3, WG.eqX n2 r4⟩
          · rw [hn] at n3
            exact ⟨n3.2.1, S11, by rw [n3.2.2]⟩
        · rw [if_neg hk]
          rw [if_neg hk] at hform
          obtain ⟨S11, n1, n2, n3⟩ := refuse_G (N := N) ok r2
          rw [n1, zbs, if_pos n2.ne, hform]
          exact ⟨n2.2.1, S11, by rw [n2.2.2]⟩
      · rw [hp3] at hform
        rw [hform] at hok
        exact absurd hok id
      · rw [hp3] at R hform
        replace hform : fForm (tkOf t) = .inr (some q) := hform
        obtain ⟨S10, r1, r2, r3⟩ := R
        have r1 : cP_readRules N S9 = some ((), S10) := r1
        rw [r1, zbs, hform, tl _ _ r2]
        exact ⟨r2.2.1, S10, rfl⟩
    · rw [hp2] at hform
      rw [hform] at hok
      exact absurd hok id
    · rw [hp2] at P hform
      replace hform : fForm (tkOf t) = .inr (some q) := hform
      obtain ⟨S9, r1, r2, r3⟩ := P
      have r1 : cP_readParts N S8 = some ((), S9) := r1
      rw [r1, zbs, rl _ _ r2, zbs, hform, tl _ _ r2]
      exact ⟨r2.2.1, S9, rfl⟩
  · rw [hp] at hform
    rw [hform] at hok
    exact absurd hok id
  · rw [hp] at H hform
    replace hform : fForm (tkOf t) = .inr (some q) := hform
    obtain ⟨S8, k1, k2, k3⟩ := H
    rw [k1, zbs, pt _ _ k2, zbs, rl _ _ k2, zbs, hform, tl _ _ k2]
    exact ⟨k2.2.1, S8, rfl⟩
