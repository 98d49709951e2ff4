/-! THE CLASS READS EXPS -/
theorem zb_un {o : Option (Unit × zS)} : zb o (fun _ S => some ((), S)) = o := by rcases o with _ | ⟨⟨⟩, S⟩ <;> rfl
def RL (tk : List zK) (fg : Nat) (rl : Nat → Nat → zP → zF Nat) (r1 : Int32 → Int32 → zS → Option (Unit × zS)) : Prop := ∀ l i s S, l ≤ 5 → i ≤ 10 → CP tk s S → zI S 22 = Int32.ofNat fg → Rs tk S TT T1 (rl l i s) (r1 (Int32.ofNat l) (Int32.ofNat i) S)
def RO (tk : List zK) (fg : Nat) (ro : Nat → zP → zF Nat) (r2 : Int32 → zS → Option (Unit × zS)) : Prop := ∀ i s S, i ≤ 10 → CP tk s S → zI S 22 = Int32.ofNat fg → Rs tk S TT T1 (ro i s) (r2 (Int32.ofNat i) S)
def F1 (r1 : Int32 → Int32 → zS → Option (Unit × zS)) : Prop := ∀ l i, l ≤ 5 → FM (r1 (Int32.ofNat l) (Int32.ofNat i))
def F2 (r2 : Int32 → zS → Option (Unit × zS)) : Prop := ∀ i, FM (r2 (Int32.ofNat i))
theorem kd_nx {tk : List zK} {s : zP} {c : Int32} (h : kd tk s.1 = c) (h0 : c ≠ 0) (h1 : c ≠ 1) : kd tk s.1 ≠ 0 ∧ kd tk s.1 ≠ 1 := by rw [h]; exact ⟨h0, h1⟩
section CEXP
variable {N : Nat} {tk : List zK} {fg : Nat} {rl : Nat → Nat → zP → zF Nat} {ro : Nat → zP → zF Nat} {r1 : Int32 → Int32 → zS → Option (Unit × zS)} {r2 : Int32 → zS → Option (Unit × zS)} {s : zP} {S : zS}
theorem R_between (ok : tkOK tk) (hl : RL tk fg rl r1) (f1 : F1 r1) {i : Nat} (hi : i ≤ 10) (hk : kd tk s.1 ≠ 0 ∧ kd tk s.1 ≠ 1) (h : CP tk s S) (hg : zI S 22 = Int32.ofNat fg) : Rs tk S TT T1 (pBetween rl i s) (cP_readBetween r1 r2 N (Int32.ofNat i) S) := by
  unfold cP_readBetween pBetween
  refine Rs.bind (R_enter ok (by omega) h) ?_ ?_
  · intro s1 _ _ S1 hp h1 x1 _
    obtain ⟨hi10, rfl⟩ := pEnter_inl hp
    obtain ⟨n1, n2, n3⟩ := next_G (N := N) ok h1 hk.1 hk.2
    rw [n1, zbs, if_neg (fun hh => hh n2.2.1), zb_un, yi_add1]
    exact Rs.base n3 (hl 0 (i + 1) _ _ (by omega) (by omega) n2 ((x1.trans n3).fg hg))
  · intro _ _ q S1 hq
    rw [next_F hq, zbs, if_pos hq.ne]
    exact ⟨(), S1, rfl, hq, eqX.refl, trivial⟩
theorem R_end {d w : Int32} {u : Nat} {a : Nat} {b : Int64} {t : Nat} {o o' : Option Nat} {n n' : Nat} (h : CP tk s S) (hu : s.2.2.2.2[u]? = some (a, b, t, o, n)) : Rs tk S TT T1 (pEnd d w u (a, b, t, o', n) n' s) (zb (cP_emit N d w S) fun x S1 => (if zok (zA S1 12) (Int32.ofNat u) then some ((), (zsA S1 12 (zs (zA S1 12) (Int32.ofNat u) x))) else none)) := by
  unfold pEnd
  refine Rs.bind (R_emit h) ?_ ?_
  · rintro s1 c x S1 hp h1 - ⟨rfl, _⟩
    obtain ⟨_, rfl, rfl⟩ := sEm_inl hp
    obtain ⟨z1, z2, z3⟩ := code_G (c := s.2.2.1.length) h1 hu
    rw [if_pos z1]
    exact ⟨(), _, rfl, z2, z3, trivial⟩
  · intro _ hF; exact absurd hF id
theorem R_try (ok : tkOK tk) (ho : RO tk fg ro r2) (eo : ExtO ro) (f2 : F2 r2) {i : Nat} (hi : i ≤ 10) (hk : kd tk s.1 = 226) (h : CP tk s S) (hg : zI S 22 = Int32.ofNat fg) : Rs tk S TT T1 (pTry tk ro i s) (cP_readTry r1 r2 N (Int32.ofNat i) S) := by
  unfold cP_readTry pTry
  refine Rs.bind (R_enter ok (by omega) h) ?_ ?_
  · intro s1 _ _ S1 hp h1 x1 _
    obtain ⟨hi10, rfl⟩ := pEnter_inl hp
    refine Rs.bind (R_node ok h1) ?_ ?_
    · intro s2 _ _ S2 hp2 h2 x2 _
      obtain ⟨_, rfl⟩ := sNo_inl hp2
      obtain ⟨n1, n2, n3⟩ := next_G (N := N) ok h2 (by show kd tk s1.1 ≠ 0; rw [hk]; decide) (by show kd tk s1.1 ≠ 1; rw [hk]; decide)
      rw [n1, zbs, if_pos n2.2.1, yi_add1]
      refine Rs.base n3 (Rs.bind (R_emit n2) ?_ ?_)
      · rintro s3 st x S3 hp3 h3 x3 ⟨rfl, hst⟩
        have hcd3 : s3.2.2.1[st]? = some (5, 0) := by
          obtain ⟨_, rfl, rfl⟩ := sEm_inl hp3
          simp
        refine Rs.bind (ho (i + 1) s3 S3 (by omega) h3 ((((x1.trans x2).trans n3).trans x3).fg hg)) ?_ ?_
        · intro s4 a _ S4 hp4 h4 x4 _
          have e4 := eo _ _ _ _ hp4
          have hst4 : s4.2.2.1[st]? = some (5, 0) := by
            rw [e4.2.1 st (List.getElem?_eq_some_iff.mp hcd3).1]; exact hcd3
          refine Rs.bind (R_emit h4) ?_ ?_
          · rintro s5 en y S5 hp5 h5 x5 ⟨rfl, hen⟩
            have hst5 : s5.2.2.1[st]? = some (5, 0) := by
              obtain ⟨_, rfl, rfl⟩ := sEm_inl hp5
              show (s4.2.2.1 ++ [_])[st]? = _
              rw [List.getElem?_append_left (List.getElem?_eq_some_iff.mp hst4).1]; exact hst4
            have hen5 : s5.2.2.1[en]? = some (6, 0) ∧ en ≠ st := by
              obtain ⟨_, rfl, rfl⟩ := sEm_inl hp5
              exact ⟨by simp, fun hh => by have := (List.getElem?_eq_some_iff.mp hst4).1; omega⟩
            obtain ⟨z1, z2, z3⟩ := with_G (x := Int32.ofNat s5.2.2.1.length) h5 hst5
            rw [if_pos z1, h5.2.2.2.2.2.1.1]
            refine Rs.base z3 (Rs.bind (R_want ok (by decide) (by decide) z2) ?_ ?_)
            · intro s6 _ _ S6 hp6 h6 x6 _
              obtain ⟨_, rfl⟩ := pWant_inl hp6
              refine Rs.bind (ho (i + 1) _ S6 (by omega) h6 ((((((((x1.trans x2).trans n3).trans x3).trans x4).trans x5).trans z3).trans x6).fg hg)) ?_ ?_
              · intro s7 b _ S7 hp7 h7 x7 _
                have e7 := eo _ _ _ _ hp7
                have hen7 : s7.2.2.1[en]? = some (6, 0) := by
                  have hx : (sNx (sCd s5 st (5, Int32.ofNat s5.2.2.1.length))).2.2.1[en]? = some (6, 0) := by
                    show (s5.2.2.1.set st _)[en]? = _
                    rw [List.getElem?_set_ne (Ne.symm hen5.2)]; exact hen5.1
                  rw [e7.2.1 en (List.getElem?_eq_some_iff.mp hx).1]; exact hx
                obtain ⟨y1, y2, y3⟩ := with_G (x := Int32.ofNat s7.2.2.1.length) h7 hen7
                rw [if_pos y1, h7.2.2.2.2.2.1.1]
                exact Rs.base y3 (R_nd y2)
              · intro _ _ q S7 hq
                obtain ⟨y1, y2, y3⟩ := with_W (S := S7) (i := en) (x := zI S7 32) hq.1 hen
                rw [if_pos y1]
                exact ⟨(), _, rfl, ⟨y2, hq.2.1, hq.2.2⟩, y3, trivial⟩
            · intro _ _ q S6 hq
              obtain ⟨_, S7, g1, g2, g3⟩ := f2 (i + 1) q S6 hq
              obtain ⟨y1, y2, y3⟩ := with_W (S := S7) (i := en) (x := zI S7 32) g2.1 hen
              rw [g1, zbs, if_pos y1]
              exact ⟨(), _, rfl, ⟨y2, g2.2.1, g2.2.2⟩, g3.trans y3, trivial⟩
          · intro _ hF; exact absurd hF id
        · intro _ _ q S4 hq
          obtain ⟨en, S5, hen, g1, g2, g3⟩ := emit_F (N := N) (d := 6) (w := 0) hq
          obtain ⟨y1, y2, y3⟩ := with_W (S := S5) (i := st) (x := zI S5 32) g2.1 hst
          have g2' : CF q (zsA S5 31 (zs (zA S5 31) (Int32.ofNat st) (zI S5 32))) := ⟨y2, g2.2.1, g2.2.2⟩
          obtain ⟨_, S7, k1, k2, k3⟩ := f2 (i + 1) q _ g2'
          obtain ⟨x1, x2, x3⟩ := with_W (S := S7) (i := en) (x := zI S7 32) k2.1 hen
          rw [g1, zbs, if_pos y1, want_F (by decide) g2', zbs, k1, zbs, if_pos x1]
          exact ⟨(), _, rfl, ⟨x2, k2.2.1, k2.2.2⟩, ((g3.trans y3).trans k3).trans x3, trivial⟩
      · intro _ hF; exact absurd hF id
    · intro _ _ q S2 hq
      rw [next_F hq, zbs, if_neg hq.ne]
      exact ⟨(), S2, rfl, hq, eqX.refl, trivial⟩
  · intro _ _ q S1 hq
    obtain ⟨S2, g1, g2, g3⟩ := node_F (N := N) hq
    rw [g1, zbs, next_F g2, zbs, if_neg g2.ne]
    exact ⟨(), S2, rfl, g2, g3, trivial⟩
theorem sNd_or {s : zP} {n : yNd} : sNd s n = .inr none ∨ ∃ s1 m, sNd s n = .inl (s1, m) := by
  unfold sNd
  split
  · exact Or.inr ⟨_, _, rfl⟩
  · exact Or.inl rfl
theorem R_named (ok : tkOK tk) (hl : RL tk fg rl r1) (el : ExtL rl) (f1 : F1 r1) {i : Nat} (hi : i ≤ 10) (hk : kd tk s.1 = 3) (h : CP tk s S) (hg : zI S 22 = Int32.ofNat fg) : Rs tk S TT T1 (pNamed tk fg rl i s) (cP_readNamed r1 r2 N (Int32.ofNat i) S) := by
  unfold cP_readNamed pNamed
  rcases sNd_or (s := s) (n := (1, 0, 0, 0)) with hnd | ⟨s1, n, hnd⟩
  · rw [hnd]; trivial
  have h1 : CP tk s1 S := by obtain ⟨_, rfl, _⟩ := sNd_inl hnd; exact h
  rw [hnd]
  show Rs tk S TT T1 (pb (sNo s1) _) _
  refine Rs.bind (R_node ok h1) ?_ ?_
  · intro s2 _ _ S2 hp2 h2 x2 _
    have g2 := x2.fg hg
    rw [g2]
    refine Rs.bind (R_use ok h2) ?_ ?_
    · rintro s3 u x S3 hp3 h3 x3 ⟨rfl, hu⟩
      have hu3 : s3.2.2.2.2[u]? = some (pl tk s2.1, va tk s2.1, fg, none, n) := by
        obtain ⟨_, _, rfl, rfl⟩ := pUse_inl hp3
        simp [sNx]
      rw [sees_G ok h3, zbs]
      by_cases hb : kd tk s3.1 = 91
      · rw [if_pos hb, if_neg (fun hh => hh hb)]
        obtain ⟨z1, z2, z3⟩ := told_G h3 hu3
        rw [if_pos z1]
        have hu4 : (sSu s3 u (pl tk s2.1, va tk s2.1, 0, none, n)).2.2.2.2[u]? = some (pl tk s2.1, va tk s2.1, 0, none, n) := List.getElem?_set_self (List.getElem?_eq_some_iff.mp hu3).1
        refine Rs.base z3 (Rs.bind (R_between (s := sSn (sSu s3 u (pl tk s2.1, va tk s2.1, 0, none, n)) n (3, 0, 0, 0)) (r2 := r2) ok hl f1 hi (kd_nx hb (by decide) (by decide)) z2 ((x3.trans z3).fg g2)) ?_ ?_)
        · intro s4 a _ S4 hp4 h4 x4 _
          have e4 := E_between el hp4
          have hu5 : s4.2.2.2.2[u]? = some (pl tk s2.1, va tk s2.1, 0, none, n) := by
            rw [e4.2.2.2.1 u (List.getElem?_eq_some_iff.mp hu4).1]; exact hu4
          rw [sees_G ok h4, zbs]
          by_cases hc : kd tk s4.1 = 44
          · rw [if_pos hc, if_neg (fun hh => hh hc)]
            obtain ⟨n1, n2, n3⟩ := next_G (s := sSn s4 n (3, 0, Int32.ofNat a, 0)) (N := N) ok h4 (by show kd tk s4.1 ≠ 0; rw [hc]; decide) (by show kd tk s4.1 ≠ 1; rw [hc]; decide)
            rw [n1, zbs, yi_add1]
            have hi9 : i < 10 := by
              unfold pBetween at hp4
              obtain ⟨_, _, q1, _⟩ := pb_inl hp4
              exact (pEnter_inl q1).1
            refine Rs.base n3 (Rs.bind (hl 0 (i + 1) _ _ (by omega) (by omega) n2 ((((x3.trans z3).trans x4).trans n3).fg g2)) ?_ ?_)
            · intro s5 b _ S5 hp5 h5 _ _
              have hu6 : s5.2.2.2.2[u]? = some (pl tk s2.1, va tk s2.1, 0, none, n) := by
                have := el _ _ _ _ _ hp5
                rw [this.2.2.2.1 u (List.getElem?_eq_some_iff.mp hu5).1]; exact hu5
              refine Rs.bind (R_want (s := sSn s5 n (4, 0, Int32.ofNat a, Int64.ofNat b)) ok (by decide) (by decide) h5) ?_ ?_
              · intro s6 _ _ S6 hp6 h6 _ _
                obtain ⟨_, rfl⟩ := pWant_inl hp6
                exact R_end (o' := none) h6 hu6
              · intro _ _ q S6 hq
                obtain ⟨c, S', w1, w2, w3⟩ := F_end (N := N) (d := 13) (w := 0) hu hq
                exact ⟨c, S', w1, w2, w3, trivial⟩
            · intro _ _ q S5 hq
              obtain ⟨c, S', w1, w2, w3⟩ := F_end (N := N) (d := 13) (w := 0) hu hq
              rw [want_F (by decide) hq, zbs]
              exact ⟨c, S', w1, w2, w3, trivial⟩
          · rw [if_pos hc, if_neg hc]
            refine Rs.bind (R_want (s := sSn s4 n (3, 0, Int32.ofNat a, 0)) ok (by decide) (by decide) h4) ?_ ?_
            · intro s6 _ _ S6 hp6 h6 _ _
              obtain ⟨_, rfl⟩ := pWant_inl hp6
              exact R_end (o' := none) h6 hu5
            · intro _ _ q S6 hq
              obtain ⟨c, S', w1, w2, w3⟩ := F_end (N := N) (d := 12) (w := 0) hu hq
              exact ⟨c, S', w1, w2, w3, trivial⟩
        · intro _ _ q S4 hq
          obtain ⟨c, S', w1, w2, w3⟩ := F_end (N := N) (d := 12) (w := 0) hu hq
          rw [sees_F hq, zbs, if_pos (by decide), want_F (by decide) hq, zbs]
          exact ⟨c, S', w1, w2, w3, trivial⟩
      · rw [if_pos hb, if_neg hb]
        exact R_end (o' := none) h3 hu3
    · rintro _ ⟨u, hu, rfl⟩ q S3 hq
      obtain ⟨a, S', w1, w2, w3⟩ := F_end (N := N) (d := 7) (w := 0) hu hq
      rw [sees_F hq, zbs, if_pos (by decide)]
      exact ⟨a, S', w1, w2, w3, trivial⟩
  · intro _ _ q S2 hq
    obtain ⟨u, hu, g1⟩ := readUse_F (N := N) (v := zI S2 22) hq
    obtain ⟨a, S', w1, w2, w3⟩ := F_end (N := N) (d := 7) (w := 0) hu hq
    rw [g1, zbs, sees_F hq, zbs, if_pos (by decide)]
    exact ⟨a, S', w1, w2, w3, trivial⟩
theorem R_sort (ok : tkOK tk) (h : CP tk s S) : Rs tk S (fun a b => a = Int32.ofNat b ∧ b < 8) (fun a => a = 0) (pSort tk s) (cP_readSort N S) := by
  rw [cP_readSort, sees_G ok h, zbs, pSort]
  have h0 : 0 ≤ (kd tk s.1).toInt := by
    obtain ⟨τ, g1, g2, _, _⟩ := h.kdp
    rw [g2]; exact (ok.2 _ _ g1).1
  have hlt := (kd tk s.1).toInt_lt
  have e := yi_sub (x := kd tk s.1) (y := 228) (by rw [show (228 : Int32).toInt = 228 by decide]; omega) (by rw [show (228 : Int32).toInt = 228 by decide]; omega)
  rw [show (228 : Int32).toInt = 228 by decide] at e
  by_cases hk : 228 ≤ (kd tk s.1).toInt ∧ (kd tk s.1).toInt ≤ 235
  · obtain ⟨n1, n2, n3⟩ := next_G (N := N) ok h (fun hh => by rw [hh] at hk; exact absurd hk (by decide)) (fun hh => by rw [hh] at hk; exact absurd hk (by decide))
    rw [if_pos hk, if_neg (by omega), if_pos (by omega), n1, zbs]
    refine ⟨_, _, rfl, n2, n3, ?_, by omega⟩
    rw [xi32_eq, e, yi_nat (by omega)]; omega
  · obtain ⟨S', n1, n2, n3⟩ := refuse_G (N := N) ok h
    rw [if_neg hk]
    by_cases hb : (kd tk s.1 - 228).toInt < 0
    · rw [if_pos hb, n1, zbs]
      exact ⟨_, _, rfl, n2, n3, rfl⟩
    · rw [if_neg hb, if_neg (by omega), n1, zbs]
      exact ⟨_, _, rfl, n2, n3, rfl⟩
theorem R_asked13 (ok : tkOK tk) (hl : RL tk fg rl r1) (el : ExtL rl) (f1 : F1 r1) {d i so n : Nat} (hd : d < 20) (hi : i ≤ 10) (h : CP tk s S) (hg : zI S 22 = Int32.ofNat fg) (hs0 : d = 11 → so = 0) : Rs tk S TT T1 (pAsked2 tk rl d i so n s) (cP_readAsked_13 r1 r2 N (Int32.ofNat d) (Int32.ofNat i) (Int32.ofNat d) (Int32.ofNat so) S) := by
  have e11 : Int32.ofNat d ≠ 11 ↔ d ≠ 11 := by rw [Ne, xi32_eq, yi_nat (by omega), show (11 : Int32).toInt = 11 by decide]; omega
  unfold cP_readAsked_13 pAsked2
  refine Rs.bind (R_node ok h) ?_ ?_
  · intro s2 _ _ S2 hp2 h2 x2 _
    refine Rs.bind (R_use (told := 0) ok h2) ?_ ?_
    · rintro s3 u x S3 hp3 h3 x3 ⟨rfl, hu⟩
      have hu3 : s3.2.2.2.2[u]? = some (pl tk s2.1, va tk s2.1, 0, none, n) := by
        obtain ⟨_, _, rfl, rfl⟩ := pUse_inl hp3
        simp [sNx]
      by_cases h11 : d = 11
      · rw [if_neg (fun hh => e11.mp hh h11), sees_G ok h3, zbs]
        by_cases hb : kd tk s3.1 = 91
        · rw [if_pos ⟨h11, hb⟩, if_neg (fun hh => hh hb), hs0 h11]
          refine Rs.bind (R_between (r2 := r2) ok hl f1 hi (kd_nx hb (by decide) (by decide)) h3 ((x2.trans x3).fg hg)) ?_ ?_
          · intro s4 a _ S4 hp4 h4 x4 _
            have e4 := E_between el hp4
            have hu5 : s4.2.2.2.2[u]? = some (pl tk s2.1, va tk s2.1, 0, none, n) := by
              rw [e4.2.2.2.1 u (List.getElem?_eq_some_iff.mp hu3).1]; exact hu3
            refine Rs.bind (R_want (s := sSn s4 n (9, 0, Int32.ofNat a, 0)) ok (by decide) (by decide) h4) ?_ ?_
            · intro s6 _ _ S6 hp6 h6 _ _
              obtain ⟨_, rfl⟩ := pWant_inl hp6
              exact R_end (o' := none) h6 hu5
            · intro _ _ q S6 hq
              obtain ⟨c, S', w1, w2, w3⟩ := F_end (N := N) (d := 14) (w := Int32.ofNat 0) hu hq
              exact ⟨c, S', w1, w2, w3, trivial⟩
          · intro _ _ q S4 hq
            obtain ⟨c, S', w1, w2, w3⟩ := F_end (N := N) (d := 14) (w := Int32.ofNat 0) hu hq
            rw [want_F (by decide) hq, zbs]
            exact ⟨c, S', w1, w2, w3, trivial⟩
        · rw [if_neg (fun hh => hb hh.2), if_pos hb]
          exact R_end (o' := none) h3 hu3
      · rw [if_pos (e11.mpr h11), if_neg (fun hh => h11 hh.1)]
        exact R_end (o' := none) h3 hu3
    · rintro _ ⟨u, hu, rfl⟩ q S3 hq
      obtain ⟨a, S', w1, w2, w3⟩ := F_end (N := N) (d := Int32.ofNat d) (w := Int32.ofNat so) hu hq
      split
      · exact ⟨a, S', w1, w2, w3, trivial⟩
      · rw [sees_F hq, zbs, if_pos (by decide)]
        exact ⟨a, S', w1, w2, w3, trivial⟩
  · intro _ _ q S2 hq
    obtain ⟨u, hu, g1⟩ := readUse_F (N := N) (v := 0) hq
    obtain ⟨a, S', w1, w2, w3⟩ := F_end (N := N) (d := Int32.ofNat d) (w := Int32.ofNat so) hu hq
    rw [g1, zbs]
    split
    · exact ⟨a, S', w1, w2, w3, trivial⟩
    · rw [sees_F hq, zbs, if_pos (by decide)]
      exact ⟨a, S', w1, w2, w3, trivial⟩
theorem R_asked (ok : tkOK tk) (hl : RL tk fg rl r1) (el : ExtL rl) (f1 : F1 r1) {d i : Nat} (hd : d < 20) (hi : i ≤ 10) (hk : kd tk s.1 ≠ 0 ∧ kd tk s.1 ≠ 1) (h : CP tk s S) (hg : zI S 22 = Int32.ofNat fg) : Rs tk S TT T1 (pAsked tk rl d i s) (cP_readAsked r1 r2 N (Int32.ofNat d) (Int32.ofNat i) S) := by
  have e10 : Int32.ofNat d ≠ 10 ↔ d ≠ 10 := by rw [Ne, xi32_eq, yi_nat (by omega), show (10 : Int32).toInt = 10 by decide]; omega
  unfold cP_readAsked pAsked
  rcases sNd_or (s := s) (n := (Int32.ofNat (d - 3), 0, 0, 0)) with hnd | ⟨s1, n, hnd⟩
  · rw [hnd]; trivial
  have h1 : CP tk s1 S ∧ s1.1 = s.1 := by obtain ⟨_, rfl, _⟩ := sNd_inl hnd; exact ⟨h, rfl⟩
  rw [hnd]
  show Rs tk S TT T1 (pb (sNo s1) _) _
  refine Rs.bind (R_node ok h1.1) ?_ ?_
  · intro s2 _ _ S2 hp2 h2 x2 _
    have hk2 : s2.1 = s.1 := by obtain ⟨_, rfl⟩ := sNo_inl hp2; exact h1.2
    obtain ⟨n1, n2, n3⟩ := next_G (N := N) ok h2 (by rw [hk2]; exact hk.1) (by rw [hk2]; exact hk.2)
    rw [n1, zbs]
    refine Rs.base n3 ?_
    by_cases h10 : d = 10
    · rw [if_pos h10, if_neg (fun hh => e10.mp hh h10)]
      refine Rs.bind (R_sort ok n2) ?_ ?_
      · rintro s3 so x S3 hp3 h3 x3 ⟨rfl, _⟩
        exact R_asked13 (s := sSn s3 n (Int32.ofNat (d - 3), 0, Int32.ofNat so, 0)) ok hl el f1 hd hi h3 (((x2.trans n3).trans x3).fg hg) (fun hh => by omega)
      · rintro _ rfl q S3 hq
        obtain ⟨a, S', w1, w2, w3⟩ := F_asked13 (r1 := r1) (r2 := r2) (N := N) (l1 := Int32.ofNat d) (l2 := Int32.ofNat i) (l3 := Int32.ofNat d) (s0 := 0) q S3 hq
        exact ⟨a, S', w1, w2, w3, trivial⟩
    · rw [if_neg h10, if_pos (e10.mpr h10)]
      exact R_asked13 (s := sSn (sNx s2) n (Int32.ofNat (d - 3), 0, Int32.ofNat 0, 0)) (so := 0) ok hl el f1 hd hi n2 ((x2.trans n3).fg hg) (fun _ => rfl)
  · intro _ _ q S2 hq
    rw [next_F hq, zbs]
    split
    · obtain ⟨a, S', w1, w2, w3⟩ := F_asked13 (r1 := r1) (r2 := r2) (N := N) (l1 := Int32.ofNat d) (l2 := Int32.ofNat i) (l3 := Int32.ofNat d) (s0 := 0) q S2 hq
      exact ⟨a, S', w1, w2, w3, trivial⟩
    · rw [readSort_F hq, zbs]
      obtain ⟨a, S', w1, w2, w3⟩ := F_asked13 (r1 := r1) (r2 := r2) (N := N) (l1 := Int32.ofNat d) (l2 := Int32.ofNat i) (l3 := Int32.ofNat d) (s0 := 0) q S2 hq
      exact ⟨a, S', w1, w2, w3, trivial⟩
end CEXP
