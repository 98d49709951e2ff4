/-! THE START: the old cells, the classes, the statics as the abstract machine has them -/
theorem xZ_of {ad : Nat → Nat} {s : State} {q : String × String × String} {v : Value} (h : va_Z q.1 q.2.1 q.2.2 (xcn ad v) (fun q => s.heap.size ≤ q) s s.heap) : xZ ad s.heap.size s.heap q v s := by
  obtain ⟨cf, kf, fi, f, a, cell, h1, h2, h3, h4, h5, h6, h7, h8⟩ := h
  exact ⟨cf, kf, fi, f, a, cell, h1, h2, h3, h4, Nat.not_le.mp h8, h5, h6, h7⟩
theorem xZq_of {s : State} {q : String × String × String} (h : va_Zq q.1 q.2.1 q.2.2 (fun q => s.heap.size ≤ q) s s.heap) : xZq s.heap.size s.heap q s := by
  rcases h with h | ⟨t, h⟩
  · obtain ⟨cf, kf, fi, f, a, cell, h1, h2, h3, h4, h5, h6, h7, h8⟩ := h
    exact ⟨_, cf, kf, fi, f, a, cell, Or.inl rfl, h1, h2, h3, h4, Nat.not_le.mp h8, h5, h6, h7⟩
  · obtain ⟨cf, kf, fi, f, a, cell, h1, h2, h3, h4, h5, h6, h7, h8⟩ := h
    exact ⟨_, cf, kf, fi, f, a, cell, Or.inr ⟨t, rfl⟩, h1, h2, h3, h4, Nat.not_le.mp h8, h5, h6, h7⟩
/-- the classes at the start -/
theorem xcls_at {s : State} {b : Nat} (hts : ∀ w ∈ lw_tbl, w.before #[Value.ref b] s = true) {q0 : String × Nat × List Int32} {aK aV : Nat} (h0 : xSt s b q0 aK aV) : ∃ (dC : Nat → ClassId) (dI : Nat → Nat → Nat), (∀ (ci : Nat) (q : vw_C), xcls[ci]? = some q → xKr s q (dC ci) (dI ci)) ∧ ∀ (ci : Nat) (q : vw_C), ci < 15 → xcls[ci]? = some q → u_Kn s q.1 q.2.1 q.2.2 (dC ci) (dI ci) := by
  have hT : ∀ w ∈ xTs xpr xfl xml xic xxw, w.before #[Value.ref b] s = true := fun w hw => hts w (xsub_all w hw)
  have key : ∀ ci : Nat, ∃ d : ClassId × (Nat → Nat), ∀ q : vw_C, xcls[ci]? = some q → xKr s q d.1 d.2 ∧ (ci < 15 → u_Kn s q.1 q.2.1 q.2.2 d.1 d.2) := by
    intro ci
    cases hq : xcls[ci]? with
    | none => exact ⟨(0, fun _ => 0), fun q h => by cases h⟩
    | some q =>
      by_cases hc : ci < 15
      · obtain ⟨⟨k1, -, -⟩, k2⟩ := xcl_all ci q hc hq
        obtain ⟨cC, iS, hu⟩ := u_known (C := q.1) (T := q.2.1) (N := q.2.2) (n := q.2.2) hT k1 (hT _ k2)
        refine ⟨(cC, iS), fun q' h => ?_⟩
        cases h
        refine ⟨⟨hu.2.1, fun k hk => ?_⟩, fun _ => hu⟩
        obtain ⟨hS, hfc, kC, hkC, hkind⟩ := hu
        obtain ⟨cf, kf, fi, f, hi, hsl⟩ := hS k hk
        exact ⟨cf, kf, fi, f, hi, hsl, (u_facts hfc hkC (u_lays hT k1 hk) hi).1⟩
      · have hl : ci < xcls.length := (List.getElem?_eq_some_iff.mp hq).1
        have hl2 : xcls.length = 16 := by decide +kernel
        have e : ci = 15 := by omega
        subst e
        obtain ⟨-, ⟨cell, g1, g2, g3, -⟩, ⟨cf1, k1, i1, f1, c1, e1, s1, -⟩, ⟨cf2, k2, i2, f2, c2, e2, s2, -⟩, -⟩ := h0
        refine ⟨(cell.cls, fun j => if j = 0 then f2.slot else f1.slot), fun q' h => ?_⟩
        cases h
        have eq : q = ("java/lang/String", xT xt_15, 2) := Option.some.inj (hq.symm.trans rfl)
        subst eq
        refine ⟨⟨g3, fun k hk => ?_⟩, fun h => absurd h (by omega)⟩
        match k, hk with
        | 0, _ => exact ⟨cf2, k2, i2, f2, e2, rfl, s2⟩
        | 1, _ => exact ⟨cf1, k1, i1, f1, e1, rfl, s1⟩
        | k + 2, hk => exact absurd hk (by show ¬ k + 2 < 2; omega)
  obtain ⟨d, hd⟩ := Classical.axiomOfChoice key
  exact ⟨fun ci => (d ci).1, fun ci => (d ci).2, fun ci q hq => (hd ci q hq).1, fun ci q hc hq => (hd ci q hq).2 hc⟩
theorem xts_all {b : Nat} {s : State} (hts : ∀ w ∈ lw_tbl, w.before #[Value.ref b] s = true) (w : Jvm.Cond) (hw : w ∈ xTs xpr xfl xml xic xxw) (a : Array Value) : w.before a s = true := by
  have hk := xkeep_all w hw
  have hb := hts w (xsub_all w hw)
  unfold xkeep at hk
  split at hk
  · exact va_Nw.use rfl (va_Nw.of rfl hb)
  · exact va_Nw.use rfl (va_Nw.of rfl hb)
  · exact va_AO.use (va_AO.of hb)
  · exact xAOA (Vm.Alike.refl _) hb a
  · exact word_at (State.WarmedH.refl s) (good_of_word hk) hb
set_option maxHeartbeats 2000000 in
theorem xstart {p : Program} {s : State} {m : MethodId} {meth : Method} {c : Code} {b L : Nat} {xs : Nat → Int32} (C0 : lw_At p s m meth c b L xs) : ∃ (ad : Nat → Nat) (D : xD), xAd ad 78 s.heap.size ∧ xCx (xTs xpr xfl xml xic xxw) xcls xpr xsn xsr 15 D ad s.heap.size s.heap s ∧ xHR xcls D ad 78 s.heap.size s.heap (xh0 ((List.range L).map xs)) s.heap ∧ ad 0 = b := by
  obtain ⟨hx, hb, hr, hml, hown, hts, hX, hbl, hlocks, hgv⟩ := C0
  have hn := xnar_b hgv
  have hA : ∀ a : Nat, a < s.heap.size → ¬ (fun q => s.heap.size ≤ q) a := fun a ha hb => absurd ha (Nat.not_lt.mpr hb)
  obtain ⟨tA, hA1, hA2⟩ := xAS_of hn
  -- the texts
  have key : ∀ k : Nat, ∃ d : Nat × Nat, ∀ q, xstr[k]? = some q → xSt s b q d.1 d.2 := by
    intro k
    cases hq : xstr[k]? with
    | none => exact ⟨(0, 0), fun q h => by cases h⟩
    | some q =>
      obtain ⟨aK, aV, h⟩ := xSt_of hn (List.mem_of_getElem? hq)
      exact ⟨(aK, aV), fun q' h' => by cases h'; exact h⟩
  obtain ⟨d, hd⟩ := Classical.axiomOfChoice key
  have h0 := hd 0 _ rfl
  obtain ⟨dC, dI, hKr, hKw⟩ := xcls_at hts h0
  have elt : ∀ {k : Nat}, k < 38 → ∃ q, xstr[k]? = some q ∧ q ∈ xstr := fun {k} hk => by
    have : k < xstr.length := by rw [xstr_n]; exact hk
    exact ⟨xstr[k], List.getElem?_eq_getElem this, List.getElem_mem this⟩
  refine ⟨xad b tA (fun k => (d k).1) (fun k => (d k).2) s.heap.size, (dC, dI, fun t c => ∃ ty, xats[t]? = some ty ∧ xAw s ty c, fun t c => ∃ ty, xats[t]? = some ty ∧ xAs s ty c), ?_, ?_, ?_, rfl⟩
  · refine ⟨fun k hk => by unfold xad; rw [if_neg (by omega)], fun k hk => ?_⟩
    unfold xad
    rw [if_pos hk]
    by_cases e0 : k = 0
    · rw [if_pos e0]; exact hbl
    · rw [if_neg e0]
      by_cases e1 : k = 1
      · rw [if_pos e1]
        obtain ⟨cell, g1, -⟩ := hA2
        exact (Array.getElem?_eq_some_iff.mp g1).1
      · rw [if_neg e1]
        obtain ⟨q, hq, -⟩ := elt (k := (k - 2) / 2) (by omega)
        obtain ⟨-, ⟨c1, g1, -⟩, -, -, ⟨c2, g2, -⟩⟩ := hd _ q hq
        by_cases e2 : k % 2 = 0
        · rw [if_pos e2]; exact (Array.getElem?_eq_some_iff.mp g1).1
        · rw [if_neg e2]; exact (Array.getElem?_eq_some_iff.mp g2).1
  · refine ⟨fun w hw a => xts_all hts w hw a, ⟨hKr, fun t ty c ht => ⟨fun ⟨ty', h1, h2⟩ => by cases ht.symm.trans h1; exact h2, fun h => ⟨ty, ht, h⟩⟩, fun t ty c ht => ⟨fun ⟨ty', h1, h2⟩ => by cases ht.symm.trans h1; exact h2, fun h => ⟨ty, ht, h⟩⟩, hKw⟩, fun j q v hq hv => ?_, fun q hq => ?_, ?_⟩
    · match j, hq, hv with
      | 0, hq, hv =>
        cases hq; cases hv
        exact xZ_of (va_Zof (hts _ (by decide +kernel)) (hts _ (by decide +kernel)) hA1 hA)
      | 1, hq, hv =>
        cases hq; cases hv
        exact xZ_of (va_Zof (hts _ (by decide +kernel)) (hts _ (by decide +kernel)) (va_eqi (hn _ (List.mem_append_left _ (by simp)))) hA)
      | j + 2, hq, hv => cases hv
    · obtain ⟨k, hk⟩ := List.getElem?_of_mem hq
      have hkl : k < 38 := by rw [← xsr_n]; exact (List.getElem?_eq_some_iff.mp hk).1
      obtain ⟨q2, hq2, -⟩ := elt hkl
      have e1 := xsr_at k hkl
      rw [hk, hq2] at e1
      have e1 : q = (q2.1, q2.2.1, 2 + 2 * k) := Option.some.inj e1
      subst e1
      have e2 := xstp_at k hkl
      rw [hq2] at e2
      have hst := hd k q2 hq2
      have hxt : ∃ tx, Jvm.Cond.stringRef q2.1 q2.2.1 tx ∈ lw_tbl := by
        have hxn : k < xstx.length := by rw [show xstx.length = 38 by decide +kernel]; exact hkl
        rw [List.getElem?_eq_getElem hxn] at e2
        cases hp : xstp[k]? with
        | none => rw [hp] at e2; cases e2
        | some pp =>
          rw [hp] at e2
          exact ⟨_, List.mem_of_getElem? (e2 : lw_tbl[pp]? = _)⟩
      obtain ⟨tx, htx⟩ := hxt
      refine ⟨tx, ?_⟩
      have ea : xad b tA (fun k => (d k).1) (fun k => (d k).2) s.heap.size (2 + 2 * k) = (d k).1 := by
        unfold xad
        rw [if_pos (by omega), if_neg (by omega), if_neg (by omega), if_pos (by omega)]
        show (d ((2 + 2 * k - 2) / 2)).1 = (d k).1
        rw [show (2 + 2 * k - 2) / 2 = k by omega]
      dsimp only
      rw [ea]
      exact vk_R.of (hts _ htx) hst.1
    · exact xZq_of (va_Zqof (hts _ (by decide +kernel)) (hts _ (by decide +kernel)) (hn _ (List.mem_append_left _ (by simp [xSQ]))) hA)
  · have hlen : (xh0 ((List.range L).map xs)).length = 78 := by
      show xoldS.length + 1 + 1 = 78
      rw [xold_n]
    refine ⟨by rw [hlen]; omega, by rw [hlen]; exact Nat.le_refl _, fun k cc hk => ?_, fun q _ => rfl⟩
    have hkl : k < 78 := by rw [← hlen]; exact (List.getElem?_eq_some_iff.mp hk).1
    match k, hk, hkl with
    | 0, hk, _ =>
      cases hk
      obtain ⟨scr, g1, g2, g3, g4, g5⟩ := hX
      refine xCR_T (ty := .int) (A := fun q => s.heap.size ≤ q) (N := L) (by omega) ⟨scr, g1, g2, g3, by omega, by rw [g4], fun j hj => ?_, Nat.not_le.mpr hbl⟩ (by simp) (fun c h => ⟨.int, rfl, h⟩)
      rw [g5 j hj]
      show _ = some (Value.int (((List.range L).map xs).getD j 0))
      rw [List.getD_eq_getElem?_getD, List.getElem?_map, List.getElem?_range hj]
      rfl
    | 1, hk, _ =>
      cases hk
      exact xCR_T (ty := .int) (by omega) hA2 rfl (fun c h => ⟨.int, rfl, h⟩)
    | k + 2, hk, hkl =>
      have hk : xoldS[k]? = some cc := hk
      obtain ⟨q, hq, -⟩ := elt (k := k / 2) (by omega)
      obtain ⟨-, ⟨c1, g1, g2, g3, g4⟩, ⟨cf1, k1, i1, f1, cc1, e1, s1, r1, u1, v1, -⟩, ⟨cf2, k2, i2, f2, cc2, e2, s2, r2, u2, v2, -⟩, hT⟩ := hd _ q hq
      by_cases e : k % 2 = 0
      · have ek : k = 2 * (k / 2) := by omega
        have hk2 : k / 2 < 38 := by omega
        have ho := xcA_ok (xold_a (k / 2) hk2)
        rw [show xoldS[2 * (k / 2)]? = xoldS[k]? by rw [← ek]] at ho
        cases ho.symm.trans hk
        have ea : xad b tA (fun k => (d k).1) (fun k => (d k).2) s.heap.size (k + 2) = (d (k / 2)).1 := by
          unfold xad
          rw [if_pos (by omega), if_neg (by omega), if_neg (by omega), if_pos (by omega)]
          show (d ((k + 2 - 2) / 2)).1 = _
          rw [show k + 2 - 2 = k by omega]
        have eb : xad b tA (fun k => (d k).1) (fun k => (d k).2) s.heap.size (3 + 2 * (k / 2)) = (d (k / 2)).2 := by
          unfold xad
          rw [if_pos (by omega), if_neg (by omega), if_neg (by omega), if_neg (by omega)]
          show (d ((3 + 2 * (k / 2) - 2) / 2)).2 = _
          rw [show (3 + 2 * (k / 2) - 2) / 2 = k / 2 by omega]
        have hc1 : c1 = cc1 := Option.some.inj (g1.symm.trans r1)
        have hc2 : c1 = cc2 := Option.some.inj (g1.symm.trans r2)
        subst hc1
        subst hc2
        have hK15 := hKr 15 _ rfl
        refine ⟨c1, by rw [ea]; exact g1, g2, u1, fun z => absurd z (by omega), Option.some.inj (g3.symm.trans hK15.1), ⟨_, _, rfl⟩, fun j v hj => ?_⟩
        match j, hj with
        | 0, hj =>
          cases hj
          obtain ⟨cf, kf, fi, f, w1, w2, -⟩ := hK15.2 0 (by decide)
          have ef : f = f2 := by have := w1.symm.trans e2; simp only [Option.some.injEq, Prod.mk.injEq] at this; exact this.2.2.2
          show c1.slots[dI 15 0]? = some (Value.ref _)
          rw [← w2, ef, v2, eb]
        | 1, hj =>
          cases hj
          obtain ⟨cf, kf, fi, f, w1, w2, -⟩ := hK15.2 1 (by decide)
          have ef : f = f1 := by have := w1.symm.trans e1; simp only [Option.some.injEq, Prod.mk.injEq] at this; exact this.2.2.2
          show c1.slots[dI 15 1]? = some (Value.int 0)
          rw [← w2, ef, v1]
        | j + 2, hj => cases hj
      · have ek : k = 2 * (k / 2) + 1 := by omega
        have hk2 : k / 2 < 38 := by omega
        have ho := xold_b (k / 2) hk2
        rw [hq, show xoldS[2 * (k / 2) + 1]? = xoldS[k]? by rw [← ek]] at ho
        have ho := xcB_ok ho
        cases ho.symm.trans hk
        have ea : xad b tA (fun k => (d k).1) (fun k => (d k).2) s.heap.size (k + 2) = (d (k / 2)).2 := by
          unfold xad
          rw [if_pos (by omega), if_neg (by omega), if_neg (by omega), if_neg (by omega)]
          show (d ((k + 2 - 2) / 2)).2 = _
          rw [show k + 2 - 2 = k by omega]
        exact xCR_T (ty := .byte) (by omega) (by rw [ea]; exact hT) rfl (fun c h => ⟨.byte, rfl, h⟩)
