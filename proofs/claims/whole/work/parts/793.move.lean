/-! MOVE -/
/-- a part that can be asked for, of a form that is there -/
def mvA (Fs : List yF) (x p : Int32) : Bool := ((gI Fs x).bind fun F => askP F p).isSome
def mvGo (Fs : List yF) (n : Nat) (x p y q : Int32) : Bool := mvA Fs x p && mvA Fs y q && decide (n < 40)
def mvV (Fs : List yF) (n : Nat) (x p y q : Int32) : Int32 := if mvA Fs x p && mvA Fs y q then (if n < 40 then Int32.ofNat n else -3) else -1
theorem mvA_no1 {Fs : List yF} {x p : Int32} (h : gI Fs x = none) : mvA Fs x p = false := by unfold mvA; rw [h]; rfl
theorem mvA_no2 {Fs : List yF} {x p : Int32} {F : yF} (h : gI Fs x = some F) (h2 : askP F p = none) : mvA Fs x p = false := by unfold mvA; rw [h, Option.bind_some, h2]; rfl
theorem mvA_yes {Fs : List yF} {x p : Int32} {F : yF} {P : yPt} (h : gI Fs x = some F) (h2 : askP F p = some P) : mvA Fs x p = true := by unfold mvA; rw [h, Option.bind_some, h2]; rfl
theorem mv_b1 {Fs : List yF} {n : Nat} {x p y q : Int32} (h : mvA Fs x p = false) : mvV Fs n x p y q = -1 ∧ mvGo Fs n x p y q = false := by
  unfold mvV mvGo; rw [h]; exact ⟨rfl, rfl⟩
theorem mv_b2 {Fs : List yF} {n : Nat} {x p y q : Int32} (h : mvA Fs y q = false) : mvV Fs n x p y q = -1 ∧ mvGo Fs n x p y q = false := by
  unfold mvV mvGo; rw [h]; cases mvA Fs x p <;> exact ⟨rfl, rfl⟩
theorem mv_full {Fs : List yF} {n : Nat} {x p y q : Int32} (h : mvA Fs x p = true) (h2 : mvA Fs y q = true) (h3 : ¬ n < 40) : mvV Fs n x p y q = -3 ∧ mvGo Fs n x p y q = false := by
  unfold mvV mvGo; rw [h, h2, decide_eq_false h3, if_neg h3]; exact ⟨rfl, rfl⟩
theorem mv_go {Fs : List yF} {n : Nat} {x p y q : Int32} (h : mvA Fs x p = true) (h2 : mvA Fs y q = true) (h3 : n < 40) : mvV Fs n x p y q = Int32.ofNat n ∧ mvGo Fs n x p y q = true := by
  unfold mvV mvGo; rw [h, h2, decide_eq_true h3, if_pos h3]; exact ⟨rfl, rfl⟩
theorem kp_set {D0 : List xE} {k : Nat} {o n e : xE} (hk : D0[k]? = some o) (he : e ∈ D0) (hne : e ≠ o) : e ∈ D0.set k n := by
  obtain ⟨m, hm⟩ := List.mem_iff_getElem?.mp he
  have hmi : k ≠ m := by
    intro hh
    rw [← hh, hk] at hm
    injection hm with hm
    exact hne hm.symm
  exact List.mem_of_getElem? (i := m) (by rw [List.getElem?_set_ne hmi]; exact hm)
theorem sat_set {D0 : List xE} {k : Nat} {o n : xE} (hk : D0[k]? = some o) : (D0.set k n)[k]? = some n := List.getElem?_set_self (List.getElem?_eq_some_iff.mp hk).1
theorem ot_set {D0 : List xE} {k m : Nat} {o n e : xE} (hk : D0[k]? = some o) (hm : D0[m]? = some e) (hne : e ≠ o) : (D0.set k n)[m]? = some e := by
  rw [List.getElem?_set_ne]
  · exact hm
  · intro hh
    rw [← hh, hk] at hm
    injection hm with hm
    exact hne hm.symm
section MOVE
variable {X : List Int32} {D0 : List xE} {Fs : List yF} {x p y q : Int32} {n : Nat}
theorem cK_move (h20 : ∀ (i : Nat) F, Fs[i]? = some F → F.1.length ≤ 20) (hF : yFsC Fs D0) (hn : n ≤ 40) {j k : Nat} (hj : D0[j]? = some (78, .inl (11, 16, .int (Int32.ofNat n)))) (hk : n < 40 → ∃ a0 a1 a2 a3 : Int32, D0[k]? = some (127 + n, .inr (0, ([a0, a1, a2, a3] : List Int32).map Value.int))) : yK X 1 30 174 [.ref 78, .int x, .int p, .int y, .int q] D0 0 0 (fun a D => a = some (.int (mvV Fs n x p y q)) ∧ ((mvGo Fs n x p y q = false ∧ D = D0) ∨ (mvGo Fs n x p y q = true ∧ D = (D0.set k (127 + n, .inr (0, ([x, p, y, q] : List Int32).map Value.int))).set j (78, .inl (11, 16, .int (Int32.ofNat (n + 1))))))) := by
  refine yK.of rfl (yle rfl) (L := [_, _, _, _, _, _, _, _]) rfl ?_
  refine xt_pure rfl rfl rfl rfl ?_
  refine xt_pure rfl rfl rfl rfl ?_
  refine xt_callV rfl rfl rfl rfl (xmC 115 rfl) ⟨rfl, rfl, yle rfl, yle rfl, yle rfl, yle rfl⟩ (ck_formAt hF) (c2 := 0) (s2 := 0) ⟨yle rfl, yle rfl⟩ ?_
  rintro _ _ (⟨rfl, hx, rfl⟩ | ⟨rfl, F, a, hx, hC, rfl⟩)
  · skip
    refine xt_pure rfl rfl rfl (L1 := [_, _, _, _, _, _, _, _]) rfl ?_
    refine xt_pure rfl rfl rfl rfl ?_
    refine xt_pure rfl rfl rfl rfl ?_
    refine xt_callV rfl rfl rfl rfl (xmC 115 rfl) ⟨rfl, rfl, yle rfl, yle rfl, yle rfl, yle rfl⟩ (ck_formAt hF) (c2 := 0) (s2 := 0) ⟨yle rfl, yle rfl⟩ ?_
    rintro _ _ (⟨rfl, hy, rfl⟩ | ⟨rfl, G, b, hy, hB, rfl⟩)
    · skip
      refine xt_pure rfl rfl rfl (L1 := [_, _, _, _, _, _, _, _]) rfl ?_
      refine xt_pure rfl rfl rfl rfl ?_
      refine xt_pure rfl rfl rfl rfl ?_
      refine xt_pure rfl rfl rfl (st1 := .int (-1) :: _) rfl ?_
      have hv := mv_b1 (n := n) (x := x) (p := p) (y := y) (q := q) (mvA_no1 hx)
      refine xt_iret rfl rfl rfl rfl ⟨?_, Or.inl ⟨hv.2, rfl⟩⟩
      rw [hv.1]
    · skip
      refine xt_pure rfl rfl rfl (L1 := [_, _, _, _, _, _, _, _]) rfl ?_
      refine xt_pure rfl rfl rfl rfl ?_
      refine xt_pure rfl rfl rfl rfl ?_
      refine xt_pure rfl rfl rfl (st1 := .int (-1) :: _) rfl ?_
      have hv := mv_b1 (n := n) (x := x) (p := p) (y := y) (q := q) (mvA_no1 hx)
      refine xt_iret rfl rfl rfl rfl ⟨?_, Or.inl ⟨hv.2, rfl⟩⟩
      rw [hv.1]
  · skip
    refine xt_pure rfl rfl rfl (L1 := [_, _, _, _, _, _, _, _]) rfl ?_
    refine xt_pure rfl rfl rfl rfl ?_
    refine xt_pure rfl rfl rfl rfl ?_
    refine xt_callV rfl rfl rfl rfl (xmC 115 rfl) ⟨rfl, rfl, yle rfl, yle rfl, yle rfl, yle rfl⟩ (ck_formAt hF) (c2 := 0) (s2 := 0) ⟨yle rfl, yle rfl⟩ ?_
    rintro _ _ (⟨rfl, hy, rfl⟩ | ⟨rfl, G, b, hy, hB, rfl⟩)
    · skip
      refine xt_pure rfl rfl rfl (L1 := [_, _, _, _, _, _, _, _]) rfl ?_
      refine xt_pure rfl rfl rfl rfl ?_
      refine xt_pure rfl rfl rfl rfl ?_
      refine xt_pure rfl rfl rfl rfl ?_
      refine xt_pure rfl rfl rfl rfl ?_
      refine xt_pure rfl rfl rfl (st1 := .int (-1) :: _) rfl ?_
      have hv := mv_b2 (n := n) (x := x) (p := p) (y := y) (q := q) (mvA_no1 hy)
      refine xt_iret rfl rfl rfl rfl ⟨?_, Or.inl ⟨hv.2, rfl⟩⟩
      rw [hv.1]
    · obtain ⟨pp, qq, f1, _⟩ := id hC
      obtain ⟨pg, qg, f2, _⟩ := id hB
      refine xt_pure rfl rfl rfl (L1 := [_, _, _, _, _, _, _, _]) rfl ?_
      refine xt_pure rfl rfl rfl rfl ?_
      refine xt_pure rfl rfl rfl rfl ?_
      refine xt_pure rfl rfl rfl rfl ?_
      refine xt_pure rfl rfl rfl rfl ?_
      refine xt_pure rfl rfl rfl rfl ?_
      refine xt_pure rfl rfl rfl rfl ?_
      refine xt_callV rfl rfl rfl rfl (xmS 0 rfl (ymm f1 0 rfl)) ⟨rfl, rfl, yle rfl, yle rfl, yle rfl, yle rfl⟩ (ck_answered (h20 _ F (gI_some hx).2.2.1) hC) (c2 := 0) (s2 := 0) ⟨yle rfl, yle rfl⟩ ?_
      rintro _ _ (⟨rfl, ⟨P, hP⟩, rfl⟩ | ⟨rfl, hP, rfl⟩)
      rotate_left
      · skip
        refine xt_pure rfl rfl rfl rfl ?_
        refine xt_pure rfl rfl rfl (st1 := .int (-1) :: _) rfl ?_
        have hv := mv_b1 (n := n) (x := x) (p := p) (y := y) (q := q) (mvA_no2 hx hP)
        refine xt_iret rfl rfl rfl rfl ⟨?_, Or.inl ⟨hv.2, rfl⟩⟩
        rw [hv.1]
      · skip
        refine xt_pure rfl rfl rfl rfl ?_
        refine xt_pure rfl rfl rfl rfl ?_
        refine xt_pure rfl rfl rfl rfl ?_
        refine xt_callV rfl rfl rfl rfl (xmS 0 rfl (ymm f2 0 rfl)) ⟨rfl, rfl, yle rfl, yle rfl, yle rfl, yle rfl⟩ (ck_answered (h20 _ G (gI_some hy).2.2.1) hB) (c2 := 0) (s2 := 0) ⟨yle rfl, yle rfl⟩ ?_
        rintro _ _ (⟨rfl, ⟨P2, hP2⟩, rfl⟩ | ⟨rfl, hP2, rfl⟩)
        rotate_left
        · skip
          refine xt_pure rfl rfl rfl rfl ?_
          refine xt_pure rfl rfl rfl (st1 := .int (-1) :: _) rfl ?_
          have hv := mv_b2 (n := n) (x := x) (p := p) (y := y) (q := q) (mvA_no2 hy hP2)
          refine xt_iret rfl rfl rfl rfl ⟨?_, Or.inl ⟨hv.2, rfl⟩⟩
          rw [hv.1]
        · have y1 := mvA_yes hx hP
          have y2 := mvA_yes hy hP2
          refine xt_pure rfl rfl rfl rfl ?_
          refine xt_pure rfl rfl rfl rfl ?_
          refine xt_getf rfl rfl (xmS 0 rfl (List.mem_of_getElem? hj)) ?_
          refine xt_pure rfl rfl rfl (st1 := .int 40 :: _) rfl ?_
          refine yt_ic rfl rfl ?_ ?_
          rotate_left
          · intro (h7 : (40 : Int) ≤ Int32.toInt _)
            rw [yi_nat (by omega)] at h7
            refine xt_pure rfl rfl rfl (st1 := .int (-3) :: _) rfl ?_
            have hv := mv_full y1 y2 (n := n) (by omega)
            refine xt_iret rfl rfl rfl rfl ⟨?_, Or.inl ⟨hv.2, rfl⟩⟩
            rw [hv.1]
          · intro (h7 : Int32.toInt _ < (40 : Int))
            rw [yi_nat (by omega)] at h7
            have hv := mv_go y1 y2 (n := n) (by omega)
            obtain ⟨a0, a1, a2, a3, hk⟩ := hk (by omega)
            refine xt_pure rfl rfl rfl rfl ?_
            refine xt_getf rfl rfl (xmC 123 rfl) ?_
            refine xt_pure rfl rfl rfl rfl ?_
            refine xt_getf rfl rfl (xmS 0 rfl (List.mem_of_getElem? hj)) ?_
            refine xt_aald rfl rfl ⟨by decide, rfl⟩ (xmC 157 rfl) (v := .ref (127 + n)) (yjn (by rw [yi_nat (by omega)]; omega)).1 ?_ ?_
            · rw [(yjn (by rw [yi_nat (by omega)]; omega)).2, yi_nat (by omega)]
              show ((List.range 40).map fun i => Value.ref (127 + i))[((n : Int)).toNat]? = _
              rw [List.getElem?_map, List.getElem?_range (by omega)]
              rfl
            refine xt_pure rfl rfl rfl (L1 := [_, _, _, _, _, _, _, _]) rfl ?_
            refine xt_pure rfl rfl rfl rfl ?_
            refine xt_pure rfl rfl rfl (st1 := .int 0 :: _) rfl ?_
            refine xt_pure rfl rfl rfl rfl ?_
            refine xt_iast rfl rfl k hk ⟨by decide, yle rfl⟩ (D1 := D0.set k (127 + n, .inr (0, ([x, a1, a2, a3] : List Int32).map Value.int))) rfl ?_
            refine xt_pure rfl rfl rfl rfl ?_
            refine xt_pure rfl rfl rfl (st1 := .int 1 :: _) rfl ?_
            refine xt_pure rfl rfl rfl rfl ?_
            refine xt_iast rfl rfl k (sat_set hk) ⟨by decide, yle rfl⟩ (D1 := D0.set k (127 + n, .inr (0, ([x, p, a2, a3] : List Int32).map Value.int))) ((List.set_set _).trans rfl) ?_
            refine xt_pure rfl rfl rfl rfl ?_
            refine xt_pure rfl rfl rfl (st1 := .int 2 :: _) rfl ?_
            refine xt_pure rfl rfl rfl rfl ?_
            refine xt_iast rfl rfl k (sat_set hk) ⟨by decide, yle rfl⟩ (D1 := D0.set k (127 + n, .inr (0, ([x, p, y, a3] : List Int32).map Value.int))) ((List.set_set _).trans rfl) ?_
            refine xt_pure rfl rfl rfl rfl ?_
            refine xt_pure rfl rfl rfl (st1 := .int 3 :: _) rfl ?_
            refine xt_pure rfl rfl rfl rfl ?_
            refine xt_iast rfl rfl k (sat_set hk) ⟨by decide, yle rfl⟩ (D1 := D0.set k (127 + n, .inr (0, ([x, p, y, q] : List Int32).map Value.int))) ((List.set_set _).trans rfl) ?_
            have hne : ((78, .inl (11, 16, .int (Int32.ofNat n))) : xE) ≠ (127 + n, .inr (0, ([a0, a1, a2, a3] : List Int32).map Value.int)) := by simp
            have j2 := ot_set (n := (127 + n, .inr (0, ([x, p, y, q] : List Int32).map Value.int))) hk hj hne
            refine xt_pure rfl rfl rfl rfl ?_
            refine xt_pure rfl rfl rfl rfl ?_
            refine xt_getf rfl rfl (xmS 0 rfl (List.mem_of_getElem? j2)) ?_
            refine xt_pure rfl rfl rfl (st1 := .int 1 :: _) rfl ?_
            refine xt_pure rfl rfl rfl rfl ?_
            refine xt_putf rfl rfl rfl rfl j j2 rfl ?_
            refine xt_pure rfl rfl rfl rfl ?_
            refine xt_getf rfl rfl (xmS 0 rfl (List.mem_of_getElem? (sat_set j2))) ?_
            refine xt_pure rfl rfl rfl (st1 := .int 1 :: _) rfl ?_
            refine xt_pure rfl rfl rfl rfl ?_
            rw [yi_add1, yi_s1]
            refine xt_iret rfl rfl rfl rfl ⟨?_, Or.inr ⟨hv.2, rfl⟩⟩
            rw [hv.1]
theorem mk_isPart (h20 : ∀ (i : Nat) F, Fs[i]? = some F → F.1.length ≤ 20) (hFs : yFsM Fs D0) : yK X 2 46 253 [.ref 209, .int x, .int p] D0 0 0 (fun w D => (D0 = D ∧ (∃ F P, gI Fs x = some F ∧ gI F.1 p = some P) ∧ w = some (.int 1)) ∨ (D0 = D ∧ (∀ F, gI Fs x = some F → gI F.1 p = none) ∧ w = some (.int 0))) := by
  obtain ⟨fa, f1, f2, f3, f4, f5⟩ := hFs
  refine yK.of rfl (yle rfl) (L := [_, _, _]) rfl ?_
  refine xt_pure rfl rfl rfl rfl ?_
  refine xt_pure rfl rfl rfl rfl ?_
  refine xt_callV rfl rfl rfl rfl (xmC 176 rfl) ⟨rfl, rfl, yle rfl, yle rfl, yle rfl, yle rfl⟩ (mk_isForm (n := Fs.length) (by omega) f3) (c2 := 0) (s2 := 0) ⟨yle rfl, yle rfl⟩ ?_
  rintro _ _ (⟨rfl, hd, rfl⟩ | ⟨rfl, hd, rfl⟩)
  rotate_left
  · skip
    refine xt_pure rfl rfl rfl rfl ?_
    refine xt_pure rfl rfl rfl (st1 := .int 0 :: _) rfl ?_
    refine xt_iret rfl rfl rfl rfl (Or.inr ⟨rfl, fun F hF => ?_, rfl⟩)
    rw [gI_out (by omega)] at hF; cases hF
  · obtain ⟨F, hF⟩ := gI_iff.mpr (show 0 ≤ x.toInt ∧ x.toInt < Fs.length from hd)
    obtain ⟨g1, g2, g3, g4, g5⟩ := gI_some hF
    obtain ⟨a, ha⟩ := yfa g3 f1
    obtain ⟨nm1, nm2⟩ := yform g3 ha f1 f2
    rw [yi_id g1] at nm1 nm2
    obtain ⟨pp, qq, nm, fn, vl, fE, _⟩ := f5 _ F a g3 ha
    have hl := h20 _ F g3
    refine xt_pure rfl rfl rfl rfl ?_
    refine xt_pure rfl rfl rfl rfl ?_
    refine xt_pure rfl rfl rfl rfl ?_
    refine xt_pure rfl rfl rfl (st1 := .long 0 :: _) rfl ?_
    refine xt_pure rfl rfl rfl rfl ?_
    refine xt_getf rfl rfl (xmC 177 rfl) ?_
    refine xt_pure rfl rfl rfl rfl ?_
    refine xt_aald rfl rfl ⟨by decide, rfl⟩ (xmS 0 rfl f4) nm1 (v := .ref a) nm2 ?_
    refine xt_getf rfl rfl (xmS 0 rfl (ymm fE 0 rfl)) ?_
    refine xt_pure rfl rfl rfl (st1 := .int 1 :: _) rfl ?_
    refine xt_pure rfl rfl rfl rfl ?_
    refine xt_pure rfl rfl rfl rfl ?_
    refine xt_callS rfl rfl (by decide) rfl ⟨rfl, yle rfl, yle rfl, yle rfl, yle rfl⟩ mk_in (c2 := 0) (s2 := 0) ⟨yle rfl, yle rfl⟩ ?_
    rintro _ _ (⟨rfl, hy, rfl⟩ | ⟨rfl, hy, rfl⟩)
    · rw [y6432, y6432, y64_0, y_n1 (by omega)] at hy
      obtain ⟨P, hP⟩ := gI_iff.mpr (show 0 ≤ p.toInt ∧ p.toInt < F.1.length by omega)
      refine xt_pure rfl rfl rfl rfl ?_
      refine xt_pure rfl rfl rfl (st1 := .int 1 :: _) rfl ?_
      refine xt_pure rfl rfl rfl rfl ?_
      exact xt_iret rfl rfl rfl rfl (Or.inl ⟨rfl, ⟨F, P, hF, hP⟩, rfl⟩)
    · rw [y6432, y6432, y64_0, y_n1 (by omega)] at hy
      refine xt_pure rfl rfl rfl rfl ?_
      refine xt_pure rfl rfl rfl (st1 := .int 0 :: _) rfl ?_
      refine xt_iret rfl rfl rfl rfl (Or.inr ⟨rfl, fun F2 hF2 => ?_, rfl⟩)
      rw [hF] at hF2; cases hF2
      exact gI_out (by omega)
theorem mk_isAsked (h20 : ∀ (i : Nat) F, Fs[i]? = some F → F.1.length ≤ 20) (hFs : yFsM Fs D0) : yK X 3 68 331 [.ref 209, .int x, .int p] D0 0 0 (fun w D => (D0 = D ∧ mvA Fs x p = true ∧ w = some (.int 1)) ∨ (D0 = D ∧ mvA Fs x p = false ∧ w = some (.int 0))) := by
  have hFs0 := hFs
  obtain ⟨fa, f1, f2, f3, f4, f5⟩ := hFs
  refine yK.of rfl (yle rfl) (L := [_, _, _]) rfl ?_
  refine xt_pure rfl rfl rfl rfl ?_
  refine xt_pure rfl rfl rfl rfl ?_
  refine xt_pure rfl rfl rfl rfl ?_
  refine xt_callV rfl rfl rfl rfl (xmC 176 rfl) ⟨rfl, rfl, yle rfl, yle rfl, yle rfl, yle rfl⟩ (mk_isPart h20 hFs0) (c2 := 0) (s2 := 0) ⟨yle rfl, yle rfl⟩ ?_
  rintro _ _ (⟨rfl, ⟨F, P, hF, hP⟩, rfl⟩ | ⟨rfl, hd, rfl⟩)
  rotate_left
  · skip
    refine xt_pure rfl rfl rfl rfl ?_
    refine xt_pure rfl rfl rfl (st1 := .int 0 :: _) rfl ?_
    refine xt_iret rfl rfl rfl rfl (Or.inr ⟨rfl, ?_, rfl⟩)
    rcases hF : gI Fs x with _ | F
    · exact mvA_no1 hF
    · refine mvA_no2 hF ?_
      unfold askP
      rw [hd F hF]; rfl
  · obtain ⟨g1, g2, g3, g4, g5⟩ := gI_some hF
    obtain ⟨p1, p2, p3, p4, p5⟩ := gI_some hP
    obtain ⟨a, ha⟩ := yfa g3 f1
    obtain ⟨nm1, nm2⟩ := yform g3 ha f1 f2
    rw [yi_id g1] at nm1 nm2
    obtain ⟨pp, qq, nm, fn, vl, fE, _, fP, _⟩ := f5 _ F a g3 ha
    have hk := (fP _ P p3).1
    refine xt_pure rfl rfl rfl rfl ?_
    refine xt_pure rfl rfl rfl rfl ?_
    refine xt_getf rfl rfl (xmC 177 rfl) ?_
    refine xt_pure rfl rfl rfl rfl ?_
    refine xt_aald rfl rfl ⟨by decide, rfl⟩ (xmS 0 rfl f4) nm1 (v := .ref a) nm2 ?_
    refine xt_getf rfl rfl (xmS 0 rfl (ymm fE 2 rfl)) ?_
    refine xt_pure rfl rfl rfl rfl ?_
    refine xt_iald rfl rfl (xmS 0 rfl (ymm fE 24 rfl)) p5 (v := .int P.1) (by rw [p4, List.getElem?_map, hk]; rfl) ?_
    refine xt_pure rfl rfl rfl (st1 := .int 11 :: _) rfl ?_
    refine yt_ic rfl rfl ?_ ?_
    · intro (h : P.1 = 11)
      refine xt_pure rfl rfl rfl (st1 := .int 0 :: _) rfl ?_
      refine xt_iret rfl rfl rfl rfl (Or.inr ⟨rfl, mvA_no2 hF ?_, rfl⟩)
      unfold askP
      rw [hP, Option.bind_some, if_pos h]
    · intro (h : P.1 ≠ 11)
      refine xt_pure rfl rfl rfl (st1 := .int 1 :: _) rfl ?_
      refine xt_pure rfl rfl rfl rfl ?_
      refine xt_iret rfl rfl rfl rfl (Or.inl ⟨rfl, mvA_yes hF (P := P) ?_, rfl⟩)
      unfold askP
      rw [hP, Option.bind_some, if_neg h]
theorem mK_move (h20 : ∀ (i : Nat) F, Fs[i]? = some F → F.1.length ≤ 20) (hFs : yFsM Fs D0) (hn : n ≤ 40) {j : Nat} (hj : D0[j]? = some (209, .inl (14, 66, .int (Int32.ofNat n)))) {k0 : Nat} {l0 : List Int32} (hk0 : D0[k0]? = some (256, .inr (0, l0.map Value.int))) (hl0 : l0.length = 40) {k1 : Nat} {l1 : List Int32} (hk1 : D0[k1]? = some (257, .inr (0, l1.map Value.int))) (hl1 : l1.length = 40) {k2 : Nat} {l2 : List Int32} (hk2 : D0[k2]? = some (258, .inr (0, l2.map Value.int))) (hl2 : l2.length = 40) {k3 : Nat} {l3 : List Int32} (hk3 : D0[k3]? = some (259, .inr (0, l3.map Value.int))) (hl3 : l3.length = 40) {k4 : Nat} {l4 : List Int32} (hk4 : D0[k4]? = some (260, .inr (0, l4.map Value.int))) (hl4 : l4.length = 40) : yK X 4 100 330 [.ref 209, .int x, .int p, .int y, .int q] D0 0 0 (fun a D => a = some (.int (mvV Fs n x p y q)) ∧ ((mvGo Fs n x p y q = false ∧ D = D0) ∨ (mvGo Fs n x p y q = true ∧ D = ((((((D0.set k0 (256, .inr (0, (l0.set n x).map Value.int))).set k1 (257, .inr (0, (l1.set n p).map Value.int))).set k2 (258, .inr (0, (l2.set n y).map Value.int))).set k3 (259, .inr (0, (l3.set n q).map Value.int))).set k4 (260, .inr (0, (l4.set n (-9)).map Value.int))).set j (209, .inl (14, 66, .int (Int32.ofNat (n + 1)))))))) := by
  refine yK.of rfl (yle rfl) (L := [_, _, _, _, _]) rfl ?_
  refine xt_pure rfl rfl rfl rfl ?_
  refine xt_pure rfl rfl rfl rfl ?_
  refine xt_pure rfl rfl rfl rfl ?_
  refine xt_callV rfl rfl rfl rfl (xmC 176 rfl) ⟨rfl, rfl, yle rfl, yle rfl, yle rfl, yle rfl⟩ (mk_isAsked h20 hFs) (c2 := 0) (s2 := 0) ⟨yle rfl, yle rfl⟩ ?_
  rintro _ _ (⟨rfl, y1, rfl⟩ | ⟨rfl, y1, rfl⟩)
  rotate_left
  · skip
    refine xt_pure rfl rfl rfl rfl ?_
    refine xt_pure rfl rfl rfl (st1 := .int (-1) :: _) rfl ?_
    have hv := mv_b1 (n := n) (x := x) (p := p) (y := y) (q := q) y1
    refine xt_iret rfl rfl rfl rfl ⟨?_, Or.inl ⟨hv.2, rfl⟩⟩
    rw [hv.1]
  · skip
    refine xt_pure rfl rfl rfl rfl ?_
    refine xt_pure rfl rfl rfl rfl ?_
    refine xt_pure rfl rfl rfl rfl ?_
    refine xt_pure rfl rfl rfl rfl ?_
    refine xt_callV rfl rfl rfl rfl (xmC 176 rfl) ⟨rfl, rfl, yle rfl, yle rfl, yle rfl, yle rfl⟩ (mk_isAsked h20 hFs) (c2 := 0) (s2 := 0) ⟨yle rfl, yle rfl⟩ ?_
    rintro _ _ (⟨rfl, y2, rfl⟩ | ⟨rfl, y2, rfl⟩)
    rotate_left
    · skip
      refine xt_pure rfl rfl rfl rfl ?_
      refine xt_pure rfl rfl rfl (st1 := .int (-1) :: _) rfl ?_
      have hv := mv_b2 (n := n) (x := x) (p := p) (y := y) (q := q) y2
      refine xt_iret rfl rfl rfl rfl ⟨?_, Or.inl ⟨hv.2, rfl⟩⟩
      rw [hv.1]
    · skip
      refine xt_pure rfl rfl rfl rfl ?_
      refine xt_pure rfl rfl rfl rfl ?_
      refine xt_getf rfl rfl (xmS 0 rfl (List.mem_of_getElem? hj)) ?_
      refine xt_pure rfl rfl rfl (st1 := .int 40 :: _) rfl ?_
      refine yt_ic rfl rfl ?_ ?_
      rotate_left
      · intro (h7 : Int32.ofNat n = 40)
        have h8 := congrArg Int32.toInt h7
        rw [yi_nat (by omega), show (40 : Int32).toInt = 40 from rfl] at h8
        refine xt_pure rfl rfl rfl (st1 := .int (-3) :: _) rfl ?_
        have hv := mv_full y1 y2 (n := n) (by omega)
        refine xt_iret rfl rfl rfl rfl ⟨?_, Or.inl ⟨hv.2, rfl⟩⟩
        rw [hv.1]
      · intro (h7 : Int32.ofNat n ≠ 40)
        have h8 : n < 40 := by
          rcases Nat.lt_or_ge n 40 with h | h
          · exact h
          · exact absurd (by rw [show n = 40 by omega]; rfl) h7
        have hv := mv_go y1 y2 h8
        have tn : (Int32.ofNat n).toInt.toNat = n := yi_toNat (by omega)
        have ti := yi_nat (i := n) (by omega)
        refine xt_pure rfl rfl rfl rfl ?_
        refine xt_getf rfl rfl (xmC 205 rfl) ?_
        refine xt_pure rfl rfl rfl rfl ?_
        refine xt_getf rfl rfl (xmS 0 rfl (List.mem_of_getElem? hj)) ?_
        refine xt_pure rfl rfl rfl rfl ?_
        refine yt_ist rfl rfl k0 hk0 ⟨by rw [ti]; omega, by rw [ti]; omega⟩ (D1 := (D0.set k0 (256, .inr (0, (l0.set n x).map Value.int)))) (by rw [tn]) ?_
        have g1_1 := ot_set (n := (256, .inr (0, (l0.set n x).map Value.int))) hk0 hk1 (by simp)
        have g1_2 := ot_set (n := (256, .inr (0, (l0.set n x).map Value.int))) hk0 hk2 (by simp)
        have g1_3 := ot_set (n := (256, .inr (0, (l0.set n x).map Value.int))) hk0 hk3 (by simp)
        have g1_4 := ot_set (n := (256, .inr (0, (l0.set n x).map Value.int))) hk0 hk4 (by simp)
        have j1 := ot_set (n := (256, .inr (0, (l0.set n x).map Value.int))) hk0 hj (by simp)
        refine xt_pure rfl rfl rfl rfl ?_
        refine xt_getf rfl rfl (xmC 206 rfl) ?_
        refine xt_pure rfl rfl rfl rfl ?_
        refine xt_getf rfl rfl (xmS 0 rfl (List.mem_of_getElem? j1)) ?_
        refine xt_pure rfl rfl rfl rfl ?_
        refine yt_ist rfl rfl k1 g1_1 ⟨by rw [ti]; omega, by rw [ti]; omega⟩ (D1 := ((D0.set k0 (256, .inr (0, (l0.set n x).map Value.int))).set k1 (257, .inr (0, (l1.set n p).map Value.int)))) (by rw [tn]) ?_
        have g2_2 := ot_set (n := (257, .inr (0, (l1.set n p).map Value.int))) g1_1 g1_2 (by simp)
        have g2_3 := ot_set (n := (257, .inr (0, (l1.set n p).map Value.int))) g1_1 g1_3 (by simp)
        have g2_4 := ot_set (n := (257, .inr (0, (l1.set n p).map Value.int))) g1_1 g1_4 (by simp)
        have j2 := ot_set (n := (257, .inr (0, (l1.set n p).map Value.int))) g1_1 j1 (by simp)
        refine xt_pure rfl rfl rfl rfl ?_
        refine xt_getf rfl rfl (xmC 207 rfl) ?_
        refine xt_pure rfl rfl rfl rfl ?_
        refine xt_getf rfl rfl (xmS 0 rfl (List.mem_of_getElem? j2)) ?_
        refine xt_pure rfl rfl rfl rfl ?_
        refine yt_ist rfl rfl k2 g2_2 ⟨by rw [ti]; omega, by rw [ti]; omega⟩ (D1 := (((D0.set k0 (256, .inr (0, (l0.set n x).map Value.int))).set k1 (257, .inr (0, (l1.set n p).map Value.int))).set k2 (258, .inr (0, (l2.set n y).map Value.int)))) (by rw [tn]) ?_
        have g3_3 := ot_set (n := (258, .inr (0, (l2.set n y).map Value.int))) g2_2 g2_3 (by simp)
        have g3_4 := ot_set (n := (258, .inr (0, (l2.set n y).map Value.int))) g2_2 g2_4 (by simp)
        have j3 := ot_set (n := (258, .inr (0, (l2.set n y).map Value.int))) g2_2 j2 (by simp)
        refine xt_pure rfl rfl rfl rfl ?_
        refine xt_getf rfl rfl (xmC 208 rfl) ?_
        refine xt_pure rfl rfl rfl rfl ?_
        refine xt_getf rfl rfl (xmS 0 rfl (List.mem_of_getElem? j3)) ?_
        refine xt_pure rfl rfl rfl rfl ?_
        refine yt_ist rfl rfl k3 g3_3 ⟨by rw [ti]; omega, by rw [ti]; omega⟩ (D1 := ((((D0.set k0 (256, .inr (0, (l0.set n x).map Value.int))).set k1 (257, .inr (0, (l1.set n p).map Value.int))).set k2 (258, .inr (0, (l2.set n y).map Value.int))).set k3 (259, .inr (0, (l3.set n q).map Value.int)))) (by rw [tn]) ?_
        have g4_4 := ot_set (n := (259, .inr (0, (l3.set n q).map Value.int))) g3_3 g3_4 (by simp)
        have j4 := ot_set (n := (259, .inr (0, (l3.set n q).map Value.int))) g3_3 j3 (by simp)
        refine xt_pure rfl rfl rfl rfl ?_
        refine xt_getf rfl rfl (xmC 209 rfl) ?_
        refine xt_pure rfl rfl rfl rfl ?_
        refine xt_getf rfl rfl (xmS 0 rfl (List.mem_of_getElem? j4)) ?_
        refine xt_pure rfl rfl rfl (st1 := .int (-9) :: _) rfl ?_
        refine yt_ist rfl rfl k4 g4_4 ⟨by rw [ti]; omega, by rw [ti]; omega⟩ (D1 := (((((D0.set k0 (256, .inr (0, (l0.set n x).map Value.int))).set k1 (257, .inr (0, (l1.set n p).map Value.int))).set k2 (258, .inr (0, (l2.set n y).map Value.int))).set k3 (259, .inr (0, (l3.set n q).map Value.int))).set k4 (260, .inr (0, (l4.set n (-9)).map Value.int)))) (by rw [tn]) ?_
        have j5 := ot_set (n := (260, .inr (0, (l4.set n (-9)).map Value.int))) g4_4 j4 (by simp)
        refine xt_pure rfl rfl rfl rfl ?_
        refine xt_pure rfl rfl rfl rfl ?_
        refine xt_getf rfl rfl (xmS 0 rfl (List.mem_of_getElem? j5)) ?_
        refine xt_pure rfl rfl rfl (st1 := .int 1 :: _) rfl ?_
        refine xt_pure rfl rfl rfl rfl ?_
        refine xt_putf rfl rfl rfl rfl j j5 rfl ?_
        refine xt_pure rfl rfl rfl rfl ?_
        refine xt_getf rfl rfl (xmS 0 rfl (List.mem_of_getElem? (sat_set j5))) ?_
        refine xt_pure rfl rfl rfl (st1 := .int 1 :: _) rfl ?_
        refine xt_pure rfl rfl rfl rfl ?_
        rw [yi_add1, yi_s1]
        refine xt_iret rfl rfl rfl rfl ⟨?_, Or.inr ⟨hv.2, rfl⟩⟩
        rw [hv.1]
end MOVE
