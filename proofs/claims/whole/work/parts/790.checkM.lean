/-! CHECK, SHOWN, FIGURE: the reference -/
abbrev EM (S : zS) (u : Value) (D1 : List xE) : List xE := zD zTF zaF S (w1E u D1)
theorem inEM {S : zS} {u : Value} {D1 : List xE} : D1 ⊆ EM S u D1 := fun _ he => List.mem_append_right _ (List.mem_cons_of_mem _ he)
theorem EM_at {S : zS} {u : Value} {D1 : List xE} {i : Nat} : (EM S u D1)[21 + i]? = D1[i]? := by
  show (zE zaF S 0 zTF ++ _)[21 + i]? = _
  rw [List.getElem?_append_right (by rw [zE_len]; show 20 ≤ 21 + i; omega), zE_len, show 21 + i - zTF.length = i + 1 by show 21 + i - 20 = _; omega]
  rfl
theorem EM_set {S : zS} {u : Value} {D1 : List xE} {i : Nat} {e : xE} : (EM S u D1).set (21 + i) e = EM S u (D1.set i e) := by
  show (zE zaF S 0 zTF ++ _).set (21 + i) e = zE zaF S 0 zTF ++ _
  rw [List.set_append_right (21 + i) e (by rw [zE_len]; show 20 ≤ 21 + i; omega), zE_len, show 21 + i - zTF.length = i + 1 by show 21 + i - 20 = _; omega]
  rfl
/-- every draft of the reference has what working it reads -/
def DrM (Fs : List yF) (Dr : List yD) (As : List (List (Option yO))) (En : List (Int64 × Int32)) (D1 : List xE) : Prop := Dr.length ≤ 30 ∧ ((209, .inl (14, 26, .int (Int32.ofNat Dr.length))) : xE) ∈ D1 ∧ ∀ (i : Nat) d, Dr[i]? = some d → ∃ F fa, Fs[d.1]? = some F ∧ HM D1 fa i F As d.2.1 En
theorem R9.fl0 {S : zS} {w : yW} {d0 : Int32} (h : R9 S w d0) : zI S 0 = w.1 ∧ zI S 5 = w.2.1 ∧ zI S 6 = w.2.2.1 := by
  obtain ⟨R, ⟨a1, a2, a3, _⟩, _⟩ := h
  exact ⟨a1, a2, a3⟩
theorem R0.fl0 {S : zS} {w : yW} {d0 : Int32} (h : R0 S w d0) : zI S 0 = w.1 ∧ zI S 5 = w.2.1 ∧ zI S 6 = w.2.2.1 := h.out.fl0
section MCHECK
variable {X : List Int32} {D1 : List xE} {Fs : List yF} {Dr : List yD} {As : List (List (Option yO))} {En : List (Int64 × Int32)} {K : Nat} {Q S : zS} {w : yW} {sh : List Bool} {fd : List yFd} {u : Value} {d0 x y : Int32}
theorem mK_check (hKe : K = 300) (hR : DrM Fs Dr As En D1) (hW : R9 S w d0) (hI : insM Q S sh fd) (l18 : (zA S 18).length = 200) : yK X 1200 33000 293 [.ref 209, .int x] (EM S u D1) 0 0 (fun a D => (gI Dr x = none ∧ a = some (.int (-1)) ∧ D = EM S u D1) ∨ (∃ d, gI Dr x = some d ∧ 10000 ≤ w.1.toInt ∧ a = some (.int (-3)) ∧ D = EM S u D1) ∨ ∃ d F fa S', gI Dr x = some d ∧ ¬ 10000 ≤ w.1.toInt ∧ Fs[d.1]? = some F ∧ a = some (.int (Int32.ofNat (inspR F d.2.1 En K w.1).2.2.length)) ∧ D = EM S' (.ref fa) D1 ∧ R0 S' (inspR F d.2.1 En K w.1).1 x ∧ insM S' S' (inspR F d.2.1 En K w.1).2.1 (inspR F d.2.1 En K w.1).2.2 ∧ lsM S' (inspR F d.2.1 En K w.1).2.2 ∧ (zI S' 7 = (inspR F d.2.1 En K w.1).1.2.1 ∧ zI S' 8 = (inspR F d.2.1 En K w.1).1.2.2.1 ∧ zI S' 9 = -9) ∧ zJ S' 10 = zJ S 10) := by
  have h0 := hW.fl0.1
  refine yK.of rfl (yle rfl) (L := [_, _]) rfl ?_
  refine xt_pure rfl rfl rfl rfl ?_
  refine xt_pure rfl rfl rfl rfl ?_
  refine xt_callV rfl rfl rfl rfl (xmC 176 rfl) ⟨rfl, rfl, yle rfl, yle rfl, yle rfl, yle rfl⟩ (mk_isDraft (n := Dr.length) (by have := hR.1; omega) (inEM hR.2.1)) (c2 := 0) (s2 := 0) ⟨yle rfl, yle rfl⟩ ?_
  rintro _ _ (⟨rfl, hd, rfl⟩ | ⟨rfl, hd, rfl⟩)
  rotate_left
  · skip
    refine xt_pure rfl rfl rfl rfl ?_
    refine xt_pure rfl rfl rfl (st1 := .int (-1) :: _) rfl ?_
    exact xt_iret rfl rfl rfl rfl (Or.inl ⟨gI_out (by omega), rfl, rfl⟩)
  · skip
    obtain ⟨d, hg⟩ := gI_iff.mpr (show 0 ≤ x.toInt ∧ x.toInt < Dr.length from hd)
    obtain ⟨g1, g2, g3, g4, g5⟩ := gI_some hg
    obtain ⟨F, fa, d2, d3⟩ := hR.2.2 _ d g3
    obtain ⟨xn, hxn⟩ : ∃ xn, x.toInt.toNat = xn := ⟨_, rfl⟩
    have hx : x = Int32.ofNat xn := by rw [← hxn]; exact (yi_id g1).symm
    rw [hxn] at d3
    have d4 := d3
    obtain ⟨⟨oF, xf, al, q1, q2, q3, q4⟩, q5, hok, _⟩ := d4
    obtain ⟨pp, qq, nm, fn, vl, f1, _⟩ := q5
    obtain ⟨_, _, _, _, _, hl20, hl12, _⟩ := hok
    rw [← hx] at q2
    obtain ⟨_, _, o3, o4, o5⟩ := gI_some q2
    obtain ⟨_, _, l3, l4, l5⟩ := gI_some q4
    refine xt_pure rfl rfl rfl rfl ?_
    refine xt_pure rfl rfl rfl rfl ?_
    refine xt_callV rfl rfl rfl rfl (xmC 176 rfl) ⟨rfl, rfl, yle rfl, yle rfl, yle rfl, yle rfl⟩ (mk_isSpent (fl := zI S 0) (List.mem_of_getElem? (i := 0) rfl)) (c2 := 0) (s2 := 0) ⟨yle rfl, yle rfl⟩ ?_
    rintro _ _ (⟨rfl, hf, rfl⟩ | ⟨rfl, hf, rfl⟩)
    · rw [h0] at hf
      refine xt_pure rfl rfl rfl rfl ?_
      refine xt_pure rfl rfl rfl (st1 := .int (-3) :: _) rfl ?_
      exact xt_iret rfl rfl rfl rfl (Or.inr (Or.inl ⟨d, hg, hf, rfl, rfl⟩))
    · rw [h0] at hf
      subst hx
      refine xt_pure rfl rfl rfl rfl ?_
      refine xt_pure rfl rfl rfl rfl ?_
      refine xt_pure rfl rfl rfl rfl ?_
      refine xt_callV rfl rfl rfl rfl (xmC 176 rfl) ⟨rfl, rfl, yle rfl, yle rfl, yle rfl, yle rfl⟩ (mk_findAll hKe d3 hW hI) (c2 := 0) (s2 := 0) ⟨yle rfl, yle rfl⟩ ?_
      rintro _ _ ⟨S1, rfl, rfl, e1, e2, e3⟩
      refine xt_pure rfl rfl rfl rfl ?_
      have l18' : (zA S1 18).length = 200 := by rw [e2.2.2.2.2.2.2.2.2.2, ← hI.2.2.2.2.2.2.2.2.2]; exact l18
      refine xt_callV rfl rfl rfl rfl (xmC 176 rfl) ⟨rfl, rfl, yle rfl, yle rfl, yle rfl, yle rfl⟩ (mk_keepFindings d3 e1 e2 e3 l18') (c2 := 0) (s2 := 0) ⟨yle rfl, yle rfl⟩ ?_
      rintro _ _ ⟨S', rfl, rfl, k1, k2, k3, k4, k5, _⟩
      refine xt_pure rfl rfl rfl rfl ?_
      refine xt_getf rfl rfl (xmD 11 rfl) ?_
      rw [k2.1]
      exact xt_iret rfl rfl rfl rfl (Or.inr (Or.inr ⟨d, F, fa, S', hg, hf, d2, rfl, rfl, k1, k2, k3, k4, k5.trans (e2.2.2.2.2.2.2.2.1.trans hI.2.2.2.2.2.2.2.1.symm)⟩))
theorem mK_shown (hKe : K = 300) (hR : DrM Fs Dr As En D1) (hW : R9 S w d0) : yK X 1200 33000 319 [.ref 209, .int x, .int y] (EM S u D1) 0 0 (fun a D => (gI Dr x = none ∧ a = some (.int (-1)) ∧ D = EM S u D1) ∨ (∃ d F, gI Dr x = some d ∧ Fs[d.1]? = some F ∧ gI F.1 y = none ∧ a = some (.int (-1)) ∧ D = EM S u D1) ∨ (∃ d F P, gI Dr x = some d ∧ Fs[d.1]? = some F ∧ gI F.1 y = some P ∧ 10000 ≤ w.1.toInt ∧ a = some (.int (-3)) ∧ D = EM S u D1) ∨ ∃ d F P, gI Dr x = some d ∧ Fs[d.1]? = some F ∧ gI F.1 y = some P ∧ ¬ 10000 ≤ w.1.toInt ∧ ∃ fa S', a = some (.int (if (shR F d.2.1 En K 20 y.toInt.toNat (w0R w.1)).1 then 1 else 0)) ∧ D = EM S' (.ref fa) D1 ∧ R0 S' (shR F d.2.1 En K 20 y.toInt.toNat (w0R w.1)).2 x ∧ (zI S' 7 = (shR F d.2.1 En K 20 y.toInt.toNat (w0R w.1)).2.2.1 ∧ zI S' 8 = (shR F d.2.1 En K 20 y.toInt.toNat (w0R w.1)).2.2.2.1 ∧ zI S' 9 = -9) ∧ zJ S' 10 = zJ S 10 ∧ (zI S' 11 = zI S 11 ∧ zI S' 12 = zI S 12 ∧ zA S' 17 = zA S 17 ∧ zA S' 18 = zA S 18 ∧ zA S' 19 = zA S 19)) := by
  have h0 := hW.fl0.1
  refine yK.of rfl (yle rfl) (L := [_, _, _, _]) rfl ?_
  refine xt_pure rfl rfl rfl rfl ?_
  refine xt_pure rfl rfl rfl rfl ?_
  refine xt_callV rfl rfl rfl rfl (xmC 176 rfl) ⟨rfl, rfl, yle rfl, yle rfl, yle rfl, yle rfl⟩ (mk_isDraft (n := Dr.length) (by have := hR.1; omega) (inEM hR.2.1)) (c2 := 0) (s2 := 0) ⟨yle rfl, yle rfl⟩ ?_
  rintro _ _ (⟨rfl, hd, rfl⟩ | ⟨rfl, hd, rfl⟩)
  rotate_left
  · skip
    refine xt_pure rfl rfl rfl rfl ?_
    refine xt_pure rfl rfl rfl (st1 := .int (-1) :: _) rfl ?_
    exact xt_iret rfl rfl rfl rfl (Or.inl ⟨gI_out (by omega), rfl, rfl⟩)
  · skip
    obtain ⟨d, hg⟩ := gI_iff.mpr (show 0 ≤ x.toInt ∧ x.toInt < Dr.length from hd)
    obtain ⟨g1, g2, g3, g4, g5⟩ := gI_some hg
    obtain ⟨F, fa, d2, d3⟩ := hR.2.2 _ d g3
    obtain ⟨xn, hxn⟩ : ∃ xn, x.toInt.toNat = xn := ⟨_, rfl⟩
    have hx : x = Int32.ofNat xn := by rw [← hxn]; exact (yi_id g1).symm
    rw [hxn] at d3
    have d4 := d3
    obtain ⟨⟨oF, xf, al, q1, q2, q3, q4⟩, q5, hok, _⟩ := d4
    obtain ⟨pp, qq, nm, fn, vl, f1, _⟩ := q5
    obtain ⟨_, _, _, _, _, hl20, hl12, _⟩ := hok
    rw [← hx] at q2
    obtain ⟨_, _, o3, o4, o5⟩ := gI_some q2
    obtain ⟨_, _, l3, l4, l5⟩ := gI_some q4
    refine xt_pure rfl rfl rfl rfl ?_
    refine xt_pure rfl rfl rfl rfl ?_
    refine xt_pure rfl rfl rfl rfl ?_
    refine xt_pure rfl rfl rfl (st1 := .long 0 :: _) rfl ?_
    refine xt_pure rfl rfl rfl rfl ?_
    refine xt_getf rfl rfl (xmC 177 rfl) ?_
    refine xt_pure rfl rfl rfl rfl ?_
    refine xt_getf rfl rfl (xmC 187 rfl) ?_
    refine xt_pure rfl rfl rfl rfl ?_
    refine xt_iald rfl rfl (xmS 0 rfl (inEM q1)) o5 (v := .int xf) (by rw [o4, List.getElem?_map, o3]; rfl) ?_
    refine xt_aald rfl rfl ⟨by decide, rfl⟩ (xmS 0 rfl (inEM q3)) l5 (v := .ref fa) (by rw [l4, l3]) ?_
    refine xt_getf rfl rfl (xmS 0 rfl (inEM (ymm f1 0 rfl))) ?_
    refine xt_pure rfl rfl rfl (st1 := .int 1 :: _) rfl ?_
    refine xt_pure rfl rfl rfl rfl ?_
    refine xt_pure rfl rfl rfl rfl ?_
    refine xt_callS rfl rfl (by decide) rfl ⟨rfl, yle rfl, yle rfl, yle rfl, yle rfl⟩ mk_in (c2 := 0) (s2 := 0) ⟨yle rfl, yle rfl⟩ ?_
    rintro _ _ (⟨rfl, hy, rfl⟩ | ⟨rfl, hy, rfl⟩)
    rotate_left
    · rw [y6432, y6432, y64_0, y_n1 (by omega)] at hy
      refine xt_pure rfl rfl rfl rfl ?_
      refine xt_pure rfl rfl rfl (st1 := .int (-1) :: _) rfl ?_
      exact xt_iret rfl rfl rfl rfl (Or.inr (Or.inl ⟨d, F, hg, d2, gI_out (by omega), rfl, rfl⟩))
    · rw [y6432, y6432, y64_0, y_n1 (by omega)] at hy
      obtain ⟨P, hP⟩ := gI_iff.mpr (show 0 ≤ y.toInt ∧ y.toInt < F.1.length by omega)
      refine xt_pure rfl rfl rfl rfl ?_
      refine xt_pure rfl rfl rfl rfl ?_
      refine xt_callV rfl rfl rfl rfl (xmC 176 rfl) ⟨rfl, rfl, yle rfl, yle rfl, yle rfl, yle rfl⟩ (mk_isSpent (fl := zI S 0) (List.mem_of_getElem? (i := 0) rfl)) (c2 := 0) (s2 := 0) ⟨yle rfl, yle rfl⟩ ?_
      rintro _ _ (⟨rfl, hf, rfl⟩ | ⟨rfl, hf, rfl⟩)
      · rw [h0] at hf
        refine xt_pure rfl rfl rfl rfl ?_
        refine xt_pure rfl rfl rfl (st1 := .int (-3) :: _) rfl ?_
        exact xt_iret rfl rfl rfl rfl (Or.inr (Or.inr (Or.inl ⟨d, F, P, hg, d2, hP, hf, rfl, rfl⟩)))
      · rw [h0] at hf
        subst hx
        obtain ⟨yn, hyn⟩ : ∃ yn, y.toInt.toNat = yn := ⟨_, rfl⟩
        have hyy : y = Int32.ofNat yn := by rw [← hyn]; exact (yi_id hy.1).symm
        subst hyy
        refine xt_pure rfl rfl rfl rfl ?_
        refine xt_pure rfl rfl rfl rfl ?_
        refine xt_pure rfl rfl rfl rfl ?_
        refine xt_callV rfl rfl rfl rfl (xmC 176 rfl) ⟨rfl, rfl, yle rfl, yle rfl, yle rfl, yle rfl⟩ (mk_begin d3 hW) (c2 := 0) (s2 := 0) ⟨yle rfl, yle rfl⟩ ?_
        rintro _ _ ⟨S1, rfl, rfl, b1, b2, b3, b4⟩
        refine xt_pure rfl rfl rfl rfl ?_
        refine xt_pure rfl rfl rfl rfl ?_
        refine xt_callV rfl rfl rfl rfl (xmC 176 rfl) ⟨rfl, rfl, yle rfl, yle rfl, yle rfl, yle rfl⟩ (mk_seen hKe d3 b1 (pt := yn) (by omega)) (c2 := 0) (s2 := 0) ⟨yle rfl, yle rfl⟩ ?_
        rintro _ _ ⟨S2, rfl, rfl, e1, e2⟩
        have e3 := frM.tr b2 e2
        obtain ⟨_, k5, k6⟩ := e1.fl0
        rcases hb : (shR F d.2.1 En K 20 yn (w0R w.1)).1 with _ | _
        · skip
          refine xt_pure rfl rfl rfl rfl ?_
          refine xt_pure rfl rfl rfl (st1 := .int 0 :: _) rfl ?_
          refine xt_pure rfl rfl rfl (L1 := [_, _, _, _]) rfl ?_
          refine xt_pure rfl rfl rfl rfl ?_
          refine xt_pure rfl rfl rfl (st1 := .int (-9) :: _) rfl ?_
          refine xt_callV rfl rfl rfl rfl (xmC 176 rfl) ⟨rfl, rfl, yle rfl, yle rfl, yle rfl, yle rfl⟩ (mk_keepTold d3) (c2 := 0) (s2 := 0) ⟨yle rfl, yle rfl⟩ ?_
          rintro _ _ ⟨rfl, rfl⟩
          refine xt_pure rfl rfl rfl rfl ?_
          refine xt_iret rfl rfl rfl rfl (Or.inr (Or.inr (Or.inr ⟨d, F, P, hg, d2, hP, hf, fa, _, ?_, rfl, ?_, ⟨?_, ?_, rfl⟩, e3.1.2.2.2.1, ⟨e3.1.2.2.2.2.1, e3.1.2.2.2.2.2, e3.2.1, e3.2.2.1, e3.2.2.2⟩⟩)))
          · rw [hyn, hb]; rfl
          · rw [hyn]; exact R0.same (S := S2) ⟨rfl, rfl, rfl, rfl, rfl⟩ ⟨rfl, rfl, rfl, rfl⟩ e1
          · rw [hyn]; exact k5
          · rw [hyn]; exact k6
        · skip
          refine xt_pure rfl rfl rfl rfl ?_
          refine xt_pure rfl rfl rfl (st1 := .int 1 :: _) rfl ?_
          refine xt_pure rfl rfl rfl rfl ?_
          refine xt_pure rfl rfl rfl (L1 := [_, _, _, _]) rfl ?_
          refine xt_pure rfl rfl rfl rfl ?_
          refine xt_pure rfl rfl rfl (st1 := .int (-9) :: _) rfl ?_
          refine xt_callV rfl rfl rfl rfl (xmC 176 rfl) ⟨rfl, rfl, yle rfl, yle rfl, yle rfl, yle rfl⟩ (mk_keepTold d3) (c2 := 0) (s2 := 0) ⟨yle rfl, yle rfl⟩ ?_
          rintro _ _ ⟨rfl, rfl⟩
          refine xt_pure rfl rfl rfl rfl ?_
          refine xt_iret rfl rfl rfl rfl (Or.inr (Or.inr (Or.inr ⟨d, F, P, hg, d2, hP, hf, fa, _, ?_, rfl, ?_, ⟨?_, ?_, rfl⟩, e3.1.2.2.2.1, ⟨e3.1.2.2.2.2.1, e3.1.2.2.2.2.2, e3.2.1, e3.2.2.1, e3.2.2.2⟩⟩)))
          · rw [hyn, hb]; rfl
          · rw [hyn]; exact R0.same (S := S2) ⟨rfl, rfl, rfl, rfl, rfl⟩ ⟨rfl, rfl, rfl, rfl⟩ e1
          · rw [hyn]; exact k5
          · rw [hyn]; exact k6
theorem mK_figure (hKe : K = 300) (hR : DrM Fs Dr As En D1) (hW : R9 S w d0) : yK X 1200 33000 321 [.ref 209, .int x, .int y] (EM S u D1) 0 0 (fun a D => (gI Dr x = none ∧ a = some (.int (-1)) ∧ D = EM S u D1) ∨ (∃ d F, gI Dr x = some d ∧ Fs[d.1]? = some F ∧ gI F.2.1 y = none ∧ a = some (.int (-1)) ∧ D = EM S u D1) ∨ (∃ d F P, gI Dr x = some d ∧ Fs[d.1]? = some F ∧ gI F.2.1 y = some P ∧ 10000 ≤ w.1.toInt ∧ a = some (.int (-3)) ∧ D = EM S u D1) ∨ ∃ d F P, gI Dr x = some d ∧ Fs[d.1]? = some F ∧ gI F.2.1 y = some P ∧ ¬ 10000 ≤ w.1.toInt ∧ ∃ fa S', D = EM S' (.ref fa) D1 ∧ R0 S' (figx F d.2.1 En K 12 y (w0R w.1)).2 x ∧ (zI S' 7 = (figx F d.2.1 En K 12 y (w0R w.1)).2.2.1 ∧ zI S' 8 = (figx F d.2.1 En K 12 y (w0R w.1)).2.2.2.1) ∧ (zI S' 11 = zI S 11 ∧ zI S' 12 = zI S 12 ∧ zA S' 17 = zA S 17 ∧ zA S' 18 = zA S 18 ∧ zA S' 19 = zA S 19) ∧ ((∃ z, (figx F d.2.1 En K 12 y (w0R w.1)).1 = .inl z ∧ a = some (.int 0) ∧ zI S' 9 = -9 ∧ zJ S' 10 = z) ∨ ∃ z, (figx F d.2.1 En K 12 y (w0R w.1)).1 = .inr z ∧ a = some (.int z.1) ∧ zI S' 9 = z.2 ∧ zJ S' 10 = zJ S 10)) := by
  have h0 := hW.fl0.1
  refine yK.of rfl (yle rfl) (L := [_, _, _, _, _]) rfl ?_
  refine xt_pure rfl rfl rfl rfl ?_
  refine xt_pure rfl rfl rfl rfl ?_
  refine xt_callV rfl rfl rfl rfl (xmC 176 rfl) ⟨rfl, rfl, yle rfl, yle rfl, yle rfl, yle rfl⟩ (mk_isDraft (n := Dr.length) (by have := hR.1; omega) (inEM hR.2.1)) (c2 := 0) (s2 := 0) ⟨yle rfl, yle rfl⟩ ?_
  rintro _ _ (⟨rfl, hd, rfl⟩ | ⟨rfl, hd, rfl⟩)
  rotate_left
  · skip
    refine xt_pure rfl rfl rfl rfl ?_
    refine xt_pure rfl rfl rfl (st1 := .int (-1) :: _) rfl ?_
    exact xt_iret rfl rfl rfl rfl (Or.inl ⟨gI_out (by omega), rfl, rfl⟩)
  · skip
    obtain ⟨d, hg⟩ := gI_iff.mpr (show 0 ≤ x.toInt ∧ x.toInt < Dr.length from hd)
    obtain ⟨g1, g2, g3, g4, g5⟩ := gI_some hg
    obtain ⟨F, fa, d2, d3⟩ := hR.2.2 _ d g3
    obtain ⟨xn, hxn⟩ : ∃ xn, x.toInt.toNat = xn := ⟨_, rfl⟩
    have hx : x = Int32.ofNat xn := by rw [← hxn]; exact (yi_id g1).symm
    rw [hxn] at d3
    have d4 := d3
    obtain ⟨⟨oF, xf, al, q1, q2, q3, q4⟩, q5, hok, _⟩ := d4
    obtain ⟨pp, qq, nm, fn, vl, f1, _⟩ := q5
    obtain ⟨_, _, _, _, _, hl20, hl12, _⟩ := hok
    rw [← hx] at q2
    obtain ⟨_, _, o3, o4, o5⟩ := gI_some q2
    obtain ⟨_, _, l3, l4, l5⟩ := gI_some q4
    refine xt_pure rfl rfl rfl rfl ?_
    refine xt_pure rfl rfl rfl rfl ?_
    refine xt_pure rfl rfl rfl rfl ?_
    refine xt_pure rfl rfl rfl (st1 := .long 0 :: _) rfl ?_
    refine xt_pure rfl rfl rfl rfl ?_
    refine xt_getf rfl rfl (xmC 177 rfl) ?_
    refine xt_pure rfl rfl rfl rfl ?_
    refine xt_getf rfl rfl (xmC 187 rfl) ?_
    refine xt_pure rfl rfl rfl rfl ?_
    refine xt_iald rfl rfl (xmS 0 rfl (inEM q1)) o5 (v := .int xf) (by rw [o4, List.getElem?_map, o3]; rfl) ?_
    refine xt_aald rfl rfl ⟨by decide, rfl⟩ (xmS 0 rfl (inEM q3)) l5 (v := .ref fa) (by rw [l4, l3]) ?_
    refine xt_getf rfl rfl (xmS 0 rfl (inEM (ymm f1 9 rfl))) ?_
    refine xt_pure rfl rfl rfl (st1 := .int 1 :: _) rfl ?_
    refine xt_pure rfl rfl rfl rfl ?_
    refine xt_pure rfl rfl rfl rfl ?_
    refine xt_callS rfl rfl (by decide) rfl ⟨rfl, yle rfl, yle rfl, yle rfl, yle rfl⟩ mk_in (c2 := 0) (s2 := 0) ⟨yle rfl, yle rfl⟩ ?_
    rintro _ _ (⟨rfl, hy, rfl⟩ | ⟨rfl, hy, rfl⟩)
    rotate_left
    · rw [y6432, y6432, y64_0, y_n1 (by omega)] at hy
      refine xt_pure rfl rfl rfl rfl ?_
      refine xt_pure rfl rfl rfl (st1 := .int (-1) :: _) rfl ?_
      exact xt_iret rfl rfl rfl rfl (Or.inr (Or.inl ⟨d, F, hg, d2, gI_out (by omega), rfl, rfl⟩))
    · rw [y6432, y6432, y64_0, y_n1 (by omega)] at hy
      obtain ⟨P, hP⟩ := gI_iff.mpr (show 0 ≤ y.toInt ∧ y.toInt < F.2.1.length by omega)
      refine xt_pure rfl rfl rfl rfl ?_
      refine xt_pure rfl rfl rfl rfl ?_
      refine xt_callV rfl rfl rfl rfl (xmC 176 rfl) ⟨rfl, rfl, yle rfl, yle rfl, yle rfl, yle rfl⟩ (mk_isSpent (fl := zI S 0) (List.mem_of_getElem? (i := 0) rfl)) (c2 := 0) (s2 := 0) ⟨yle rfl, yle rfl⟩ ?_
      rintro _ _ (⟨rfl, hf, rfl⟩ | ⟨rfl, hf, rfl⟩)
      · rw [h0] at hf
        refine xt_pure rfl rfl rfl rfl ?_
        refine xt_pure rfl rfl rfl (st1 := .int (-3) :: _) rfl ?_
        exact xt_iret rfl rfl rfl rfl (Or.inr (Or.inr (Or.inl ⟨d, F, P, hg, d2, hP, hf, rfl, rfl⟩)))
      · rw [h0] at hf
        subst hx
        obtain ⟨yn, hyn⟩ : ∃ yn, y.toInt.toNat = yn := ⟨_, rfl⟩
        have hyy : y = Int32.ofNat yn := by rw [← hyn]; exact (yi_id hy.1).symm
        subst hyy
        refine xt_pure rfl rfl rfl rfl ?_
        refine xt_pure rfl rfl rfl rfl ?_
        refine xt_pure rfl rfl rfl rfl ?_
        refine xt_callV rfl rfl rfl rfl (xmC 176 rfl) ⟨rfl, rfl, yle rfl, yle rfl, yle rfl, yle rfl⟩ (mk_begin d3 hW) (c2 := 0) (s2 := 0) ⟨yle rfl, yle rfl⟩ ?_
        rintro _ _ ⟨S1, rfl, rfl, b1, b2, b3, b4⟩
        refine xt_pure rfl rfl rfl rfl ?_
        refine xt_pure rfl rfl rfl rfl ?_
        refine xt_callV rfl rfl rfl rfl (xmC 176 rfl) ⟨rfl, rfl, yle rfl, yle rfl, yle rfl, yle rfl⟩ (mk_figureValue hKe d3 b1 b3 (f := yn) (by omega)) (c2 := 0) (s2 := 0) ⟨yle rfl, yle rfl⟩ ?_
        intro a D
        rcases hv : figx F d.2.1 En K 12 (Int32.ofNat yn) (w0R w.1) with ⟨z | z, w'⟩
        · rintro ⟨S2, rfl, rfl, e1, e2, e4⟩
          have e3 := frM.tr b2 e2
          obtain ⟨_, k5, k6⟩ := e1.fl0
          refine xt_pure rfl rfl rfl (L1 := [_, _, _, _, _]) rfl ?_
          refine xt_pure rfl rfl rfl rfl ?_
          refine xt_pure rfl rfl rfl rfl ?_
          refine xt_getf rfl rfl (xmD 2 rfl) ?_
          refine yt_if rfl rfl (fun _ => ?_) (fun (hh : zI S2 2 ≠ 0) => absurd e4 hh)
          refine xt_pure rfl rfl rfl (st1 := .int (-9) :: _) rfl ?_
          refine xt_callV rfl rfl rfl rfl (xmC 176 rfl) ⟨rfl, rfl, yle rfl, yle rfl, yle rfl, yle rfl⟩ (mk_keepTold d3) (c2 := 0) (s2 := 0) ⟨yle rfl, yle rfl⟩ ?_
          rintro _ _ ⟨rfl, rfl⟩
          refine xt_pure rfl rfl rfl rfl ?_
          refine xt_pure rfl rfl rfl rfl ?_
          refine xt_getf rfl rfl (xmD 2 rfl) ?_
          refine yt_if rfl rfl (fun _ => ?_) (fun (hh : zI S2 2 ≠ 0) => absurd e4 hh)
          refine xt_pure rfl rfl rfl rfl ?_
          refine xt_putf rfl rfl rfl rfl 10 rfl (D1 := EM (zsJ (zsI (zsI (zsI S2 7 (zI S2 5)) 8 (zI S2 6)) 9 (-9)) 10 (z)) (.ref fa) D1) rfl ?_
          refine xt_pure rfl rfl rfl rfl ?_
          refine xt_getf rfl rfl (xmD 2 rfl) ?_
          refine xt_iret rfl rfl rfl rfl (Or.inr (Or.inr (Or.inr ⟨d, F, P, hg, d2, hP, hf, fa, _, rfl, ?_, ⟨?_, ?_⟩, ⟨e3.1.2.2.2.2.1, e3.1.2.2.2.2.2, e3.2.1, e3.2.2.1, e3.2.2.2⟩, Or.inl ⟨z, by rw [hv], ?_, rfl, rfl⟩⟩)))
          · rw [hv]; exact R0.same (S := S2) ⟨rfl, rfl, rfl, rfl, rfl⟩ ⟨rfl, rfl, rfl, rfl⟩ e1
          · rw [hv]; exact k5
          · rw [hv]; exact k6
          · show some (Value.int (zI S2 2)) = _
            rw [e4]
        · rintro ⟨xx, S2, rfl, rfl, e1, e2, e5, e6, e7⟩
          have hne : zI S2 2 ≠ 0 := by rw [e5]; exact e6
          have e3 := frM.tr b2 e2
          obtain ⟨_, k5, k6⟩ := e1.fl0
          refine xt_pure rfl rfl rfl (L1 := [_, _, _, _, _]) rfl ?_
          refine xt_pure rfl rfl rfl rfl ?_
          refine xt_pure rfl rfl rfl rfl ?_
          refine xt_getf rfl rfl (xmD 2 rfl) ?_
          refine yt_if rfl rfl (fun (hh : zI S2 2 = 0) => absurd hh hne) (fun _ => ?_)
          refine xt_pure rfl rfl rfl rfl ?_
          refine xt_getf rfl rfl (xmD 3 rfl) ?_
          refine xt_pure rfl rfl rfl rfl ?_
          refine xt_callV rfl rfl rfl rfl (xmC 176 rfl) ⟨rfl, rfl, yle rfl, yle rfl, yle rfl, yle rfl⟩ (mk_keepTold d3) (c2 := 0) (s2 := 0) ⟨yle rfl, yle rfl⟩ ?_
          rintro _ _ ⟨rfl, rfl⟩
          refine xt_pure rfl rfl rfl rfl ?_
          refine xt_pure rfl rfl rfl rfl ?_
          refine xt_getf rfl rfl (xmD 2 rfl) ?_
          refine yt_if rfl rfl (fun (hh : zI S2 2 = 0) => absurd hh hne) (fun _ => ?_)
          refine xt_pure rfl rfl rfl rfl ?_
          refine xt_getf rfl rfl (xmD 10 rfl) ?_
          refine xt_pure rfl rfl rfl rfl ?_
          refine xt_putf rfl rfl rfl rfl 10 rfl (D1 := EM (zsJ (zsI (zsI (zsI S2 7 (zI S2 5)) 8 (zI S2 6)) 9 (zI S2 3)) 10 (zJ S2 10)) (.ref fa) D1) rfl ?_
          refine xt_pure rfl rfl rfl rfl ?_
          refine xt_getf rfl rfl (xmD 2 rfl) ?_
          refine xt_iret rfl rfl rfl rfl (Or.inr (Or.inr (Or.inr ⟨d, F, P, hg, d2, hP, hf, fa, _, rfl, ?_, ⟨?_, ?_⟩, ⟨e3.1.2.2.2.2.1, e3.1.2.2.2.2.2, e3.2.1, e3.2.2.1, e3.2.2.2⟩, Or.inr ⟨z, by rw [hv], ?_, e7, e3.1.2.2.2.1⟩⟩)))
          · rw [hv]; exact R0.same (S := S2) ⟨rfl, rfl, rfl, rfl, rfl⟩ ⟨rfl, rfl, rfl, rfl⟩ e1
          · rw [hv]; exact k5
          · rw [hv]; exact k6
          · show some (Value.int (zI S2 2)) = _
            rw [e5]
end MCHECK
