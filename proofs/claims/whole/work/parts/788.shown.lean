/-! SHOWN, FIGURE, SUBMIT: the class -/
theorem yi_id {x : Int32} (h : 0 ≤ x.toInt) : Int32.ofNat x.toInt.toNat = x := by
  have := Int32.toInt_lt x
  rw [xi32_eq, yi_nat (by omega)]
  omega
theorem zE_len {ad : Nat → Nat} {S : zS} : ∀ (T : List (Nat × Nat × Nat)) (i : Nat), (zE ad S i T).length = T.length
  | [], _ => rfl
  | _ :: r, i => by rw [zE, List.length_cons, List.length_cons, zE_len r]
theorem EC_at {S : zS} {u v : Value} {t : List Int32} {D0 : List xE} {i : Nat} : (EC S u v t D0)[33 + i]? = D0[i]? := by
  show (zE zaE S 0 zTE ++ _)[33 + i]? = _
  rw [List.getElem?_append_right (by rw [zE_len]; show 30 ≤ 33 + i; omega), zE_len, show 33 + i - zTE.length = i + 1 + 1 + 1 by show 33 + i - 30 = _; omega]
  rfl
theorem EC_set {S : zS} {u v : Value} {t : List Int32} {D0 : List xE} {i : Nat} {e : xE} : (EC S u v t D0).set (33 + i) e = EC S u v t (D0.set i e) := by
  show (zE zaE S 0 zTE ++ _).set (33 + i) e = zE zaE S 0 zTE ++ _
  rw [List.set_append_right (33 + i) e (by rw [zE_len]; show 30 ≤ 33 + i; omega), zE_len, show 33 + i - zTE.length = i + 1 + 1 + 1 by show 33 + i - 30 = _; omega]
  rfl
section CSHOWN
variable {X : List Int32} {D0 : List xE} {Fs : List yF} {R : List yDR} {En : List (Int64 × Int32)} {K : Nat} {Q S : zS} {w : yW} {sh : List Bool} {fd : List yFd} {u v : Value} {t0 t1 t2 t3 x y : Int32}
theorem cK_shown (hKe : K = 300) (hR : DrC Fs R En D0) (hW : W0 S w) : yK X 200 5000 162 [.ref 78, .int x, .int y] (EC S u v [t0, t1, t2, t3] D0) 0 0 (fun a D => (gI R x = none ∧ a = some (.int (-1)) ∧ D = EC S u v [t0, t1, t2, t3] D0) ∨ (∃ r F, gI R x = some r ∧ Fs[r.2.2.2.2.2.1]? = some F ∧ gI F.1 y = none ∧ a = some (.int (-1)) ∧ D = EC S u v [t0, t1, t2, t3] D0) ∨ (∃ r F P, gI R x = some r ∧ Fs[r.2.2.2.2.2.1]? = some F ∧ gI F.1 y = some P ∧ 10000 ≤ w.1.toInt ∧ a = some (.int (-3)) ∧ D = EC S u v [t0, t1, t2, t3] D0) ∨ ∃ r F P, gI R x = some r ∧ Fs[r.2.2.2.2.2.1]? = some F ∧ gI F.1 y = some P ∧ ¬ 10000 ≤ w.1.toInt ∧ ∃ S', a = some (.int (if (shR F r.2.2.2.2.2.2.1 En K 20 y.toInt.toNat (w0R w.1)).1 then 1 else 0)) ∧ D = EC S' (.ref r.2.2.1) (.ref r.2.1) [(shR F r.2.2.2.2.2.2.1 En K 20 y.toInt.toNat (w0R w.1)).2.2.1, (shR F r.2.2.2.2.2.2.1 En K 20 y.toInt.toNat (w0R w.1)).2.2.1, (shR F r.2.2.2.2.2.2.1 En K 20 y.toInt.toNat (w0R w.1)).2.2.2.1, -9] D0 ∧ W0 S' (shR F r.2.2.2.2.2.2.1 En K 20 y.toInt.toNat (w0R w.1)).2 ∧ frC S S') := by
  refine yK.of rfl (yle rfl) (L := [_, _, _, _, _]) rfl ?_
  refine xt_pure rfl rfl rfl rfl ?_
  refine xt_pure rfl rfl rfl rfl ?_
  refine xt_callV rfl rfl rfl rfl (xmC 115 rfl) ⟨rfl, rfl, yle rfl, yle rfl, yle rfl, yle rfl⟩ (ck_draftAt (hR.1.mono inEC)) (c2 := 0) (s2 := 0) ⟨yle rfl, yle rfl⟩ ?_
  rintro _ _ (⟨rfl, hg, rfl⟩ | ⟨rfl, r, hg, rfl⟩)
  · skip
    refine xt_pure rfl rfl rfl (L1 := [_, _, _, _, _]) rfl ?_
    refine xt_pure rfl rfl rfl rfl ?_
    refine xt_pure rfl rfl rfl rfl ?_
    refine xt_pure rfl rfl rfl (st1 := .int (-1) :: _) rfl ?_
    exact xt_iret rfl rfl rfl rfl (Or.inl ⟨hg, rfl, rfl⟩)
  · skip
    obtain ⟨d1, F, d2, d3⟩ := hR.2 r (dr_mem hg)
    have d4 := d3.1
    obtain ⟨pp, qq, f1, _⟩ := d4
    have hok := d3.2.1
    obtain ⟨_, _, _, _, _, hl20, hl12, _⟩ := hok
    refine xt_pure rfl rfl rfl (L1 := [_, _, _, _, _]) rfl ?_
    refine xt_pure rfl rfl rfl rfl ?_
    refine xt_pure rfl rfl rfl rfl ?_
    refine xt_pure rfl rfl rfl rfl ?_
    refine yt_if rfl rfl ?_ ?_
    · intro (h6 : Int32.toInt _ < (0 : Int))
      refine xt_pure rfl rfl rfl (st1 := .int (-1) :: _) rfl ?_
      exact xt_iret rfl rfl rfl rfl (Or.inr (Or.inl ⟨r, F, hg, d2, gI_out (Or.inl h6), rfl, rfl⟩))
    · intro (h6 : (0 : Int) ≤ Int32.toInt _)
      refine xt_pure rfl rfl rfl rfl ?_
      refine xt_pure rfl rfl rfl rfl ?_
      refine xt_getf rfl rfl (xmS 0 rfl (inEC (ymm d1 1 rfl))) ?_
      refine xt_getf rfl rfl (xmS 0 rfl (inEC (ymm f1 0 rfl))) ?_
      refine yt_ic rfl rfl ?_ ?_
      rotate_left
      · intro (h7 : Int32.toInt _ ≤ Int32.toInt _)
        rw [yi_nat (by omega)] at h7
        refine xt_pure rfl rfl rfl (st1 := .int (-1) :: _) rfl ?_
        exact xt_iret rfl rfl rfl rfl (Or.inr (Or.inl ⟨r, F, hg, d2, gI_out (Or.inr h7), rfl, rfl⟩))
      · intro (h7 : Int32.toInt _ < Int32.toInt _)
        rw [yi_nat (by omega)] at h7
        obtain ⟨P, hP⟩ := gI_iff.mpr (show 0 ≤ y.toInt ∧ y.toInt < F.1.length from ⟨h6, h7⟩)
        refine xt_pure rfl rfl rfl rfl ?_
        refine xt_getf rfl rfl (xmC 120 rfl) ?_
        refine xt_callV rfl rfl rfl rfl (xmC 142 rfl) ⟨rfl, rfl, yle rfl, yle rfl, yle rfl, yle rfl⟩ (ck_isFull (fl := zI S 0) (List.mem_of_getElem? (i := 0) rfl)) (c2 := 0) (s2 := 0) ⟨yle rfl, yle rfl⟩ ?_
        have h0 := hW.tell.2.2.2
        rintro _ _ (⟨rfl, hf, rfl⟩ | ⟨rfl, hf, rfl⟩)
        · skip
          refine xt_pure rfl rfl rfl rfl ?_
          refine xt_pure rfl rfl rfl (st1 := .int (-3) :: _) rfl ?_
          rw [h0] at hf
          exact xt_iret rfl rfl rfl rfl (Or.inr (Or.inr (Or.inl ⟨r, F, P, hg, d2, hP, hf, rfl, rfl⟩)))
        · rw [h0] at hf
          refine xt_pure rfl rfl rfl rfl ?_
          refine xt_pure rfl rfl rfl rfl ?_
          refine xt_getf rfl rfl (xmC 121 rfl) ?_
          refine xt_pure rfl rfl rfl rfl ?_
          refine xt_getf rfl rfl (xmS 0 rfl (inEC (ymm d1 1 rfl))) ?_
          refine xt_pure rfl rfl rfl rfl ?_
          refine xt_getf rfl rfl (xmS 0 rfl (inEC (ymm d1 2 rfl))) ?_
          refine xt_pure rfl rfl rfl rfl ?_
          have hy : y = Int32.ofNat y.toInt.toNat := (yi_id h6).symm
          obtain ⟨yn, hyn⟩ : ∃ yn, y.toInt.toNat = yn := ⟨_, rfl⟩
          rw [hyn] at hy
          subst hy
          refine xt_callV rfl rfl rfl rfl (xmC 150 rfl) ⟨rfl, rfl, yle rfl, yle rfl, yle rfl, yle rfl⟩ (ck_shows hKe (d3.mono (fun _ he => List.mem_cons_of_mem _ he)) hW (pt := yn) (by omega)) (c2 := 0) (s2 := 0) ⟨yle rfl, yle rfl⟩ ?_
          rintro _ _ ⟨S', rfl, rfl, e1, e2⟩
          refine xt_pure rfl rfl rfl (L1 := [_, _, _, _, _]) rfl ?_
          refine xt_pure rfl rfl rfl rfl ?_
          refine xt_pure rfl rfl rfl (st1 := .int (-9) :: _) rfl ?_
          refine xt_callV rfl rfl rfl rfl (xmC 115 rfl) ⟨rfl, rfl, yle rfl, yle rfl, yle rfl, yle rfl⟩ ck_tell (c2 := 0) (s2 := 0) ⟨yle rfl, yle rfl⟩ ?_
          rintro _ _ ⟨rfl, rfl⟩
          obtain ⟨k1, k2, k3, _⟩ := e1.tell
          rw [k1, k2, k3]
          refine xt_pure rfl rfl rfl rfl ?_
          rcases hb : (shR F r.2.2.2.2.2.2.1 En K 20 yn (w0R w.1)).1 with _ | _
          · skip
            refine xt_pure rfl rfl rfl rfl ?_
            refine xt_pure rfl rfl rfl (st1 := .int 0 :: _) rfl ?_
            refine xt_iret rfl rfl rfl rfl (Or.inr (Or.inr (Or.inr ⟨r, F, P, hg, d2, hP, hf, S', ?_, ?_, ?_, e2⟩)))
            · rw [hyn, hb]; rfl
            · rw [hyn]
            · rw [hyn]; exact e1
          · skip
            refine xt_pure rfl rfl rfl rfl ?_
            refine xt_pure rfl rfl rfl (st1 := .int 1 :: _) rfl ?_
            refine xt_pure rfl rfl rfl rfl ?_
            refine xt_iret rfl rfl rfl rfl (Or.inr (Or.inr (Or.inr ⟨r, F, P, hg, d2, hP, hf, S', ?_, ?_, ?_, e2⟩)))
            · rw [hyn, hb]; rfl
            · rw [hyn]
            · rw [hyn]; exact e1
theorem cK_figure (hKe : K = 300) (hR : DrC Fs R En D0) (hW : W0 S w) {j : Nat} {v0 : Int64} (hj : D0[j]? = some (78, .inl (11, 13, .long v0))) : yK X 200 5000 165 [.ref 78, .int x, .int y] (EC S u v [t0, t1, t2, t3] D0) 0 0 (fun a D => (gI R x = none ∧ a = some (.int (-1)) ∧ D = EC S u v [t0, t1, t2, t3] D0) ∨ (∃ r F, gI R x = some r ∧ Fs[r.2.2.2.2.2.1]? = some F ∧ gI F.2.1 y = none ∧ a = some (.int (-1)) ∧ D = EC S u v [t0, t1, t2, t3] D0) ∨ (∃ r F P, gI R x = some r ∧ Fs[r.2.2.2.2.2.1]? = some F ∧ gI F.2.1 y = some P ∧ 10000 ≤ w.1.toInt ∧ a = some (.int (-3)) ∧ D = EC S u v [t0, t1, t2, t3] D0) ∨ ∃ r F P, gI R x = some r ∧ Fs[r.2.2.2.2.2.1]? = some F ∧ gI F.2.1 y = some P ∧ ¬ 10000 ≤ w.1.toInt ∧ ∃ S' j v0 m, D0[j]? = some (78, .inl (11, 13, .long v0)) ∧ W0 S' (figx F r.2.2.2.2.2.2.1 En K 12 y (w0R w.1)).2 ∧ frC S S' ∧ ((∃ z, (figx F r.2.2.2.2.2.2.1 En K 12 y (w0R w.1)).1 = .inl z ∧ a = some (.int 0) ∧ m = -9 ∧ D = EC S' (.ref r.2.2.1) (.ref r.2.1) [(figx F r.2.2.2.2.2.2.1 En K 12 y (w0R w.1)).2.2.1, (figx F r.2.2.2.2.2.2.1 En K 12 y (w0R w.1)).2.2.1, (figx F r.2.2.2.2.2.2.1 En K 12 y (w0R w.1)).2.2.2.1, m] (D0.set j (78, .inl (11, 13, .long z)))) ∨ ∃ z, (figx F r.2.2.2.2.2.2.1 En K 12 y (w0R w.1)).1 = .inr z ∧ a = some (.int z.1) ∧ m = z.2 ∧ D = EC S' (.ref r.2.2.1) (.ref r.2.1) [(figx F r.2.2.2.2.2.2.1 En K 12 y (w0R w.1)).2.2.1, (figx F r.2.2.2.2.2.2.1 En K 12 y (w0R w.1)).2.2.1, (figx F r.2.2.2.2.2.2.1 En K 12 y (w0R w.1)).2.2.2.1, m] D0)) := by
  refine yK.of rfl (yle rfl) (L := [_, _, _, _, _, _, _]) rfl ?_
  refine xt_pure rfl rfl rfl rfl ?_
  refine xt_pure rfl rfl rfl rfl ?_
  refine xt_callV rfl rfl rfl rfl (xmC 115 rfl) ⟨rfl, rfl, yle rfl, yle rfl, yle rfl, yle rfl⟩ (ck_draftAt (hR.1.mono inEC)) (c2 := 0) (s2 := 0) ⟨yle rfl, yle rfl⟩ ?_
  rintro _ _ (⟨rfl, hg, rfl⟩ | ⟨rfl, r, hg, rfl⟩)
  · skip
    refine xt_pure rfl rfl rfl (L1 := [_, _, _, _, _, _, _]) rfl ?_
    refine xt_pure rfl rfl rfl rfl ?_
    refine xt_pure rfl rfl rfl rfl ?_
    refine xt_pure rfl rfl rfl (st1 := .int (-1) :: _) rfl ?_
    exact xt_iret rfl rfl rfl rfl (Or.inl ⟨hg, rfl, rfl⟩)
  · skip
    obtain ⟨d1, F, d2, d3⟩ := hR.2 r (dr_mem hg)
    have d4 := d3.1
    obtain ⟨pp, qq, f1, _⟩ := d4
    have hok := d3.2.1
    obtain ⟨_, _, _, _, _, hl20, hl12, _⟩ := hok
    refine xt_pure rfl rfl rfl (L1 := [_, _, _, _, _, _, _]) rfl ?_
    refine xt_pure rfl rfl rfl rfl ?_
    refine xt_pure rfl rfl rfl rfl ?_
    refine xt_pure rfl rfl rfl rfl ?_
    refine yt_if rfl rfl ?_ ?_
    · intro (h6 : Int32.toInt _ < (0 : Int))
      refine xt_pure rfl rfl rfl (st1 := .int (-1) :: _) rfl ?_
      exact xt_iret rfl rfl rfl rfl (Or.inr (Or.inl ⟨r, F, hg, d2, gI_out (Or.inl h6), rfl, rfl⟩))
    · intro (h6 : (0 : Int) ≤ Int32.toInt _)
      refine xt_pure rfl rfl rfl rfl ?_
      refine xt_pure rfl rfl rfl rfl ?_
      refine xt_getf rfl rfl (xmS 0 rfl (inEC (ymm d1 1 rfl))) ?_
      refine xt_getf rfl rfl (xmS 0 rfl (inEC (ymm f1 8 rfl))) ?_
      refine yt_ic rfl rfl ?_ ?_
      rotate_left
      · intro (h7 : Int32.toInt _ ≤ Int32.toInt _)
        rw [yi_nat (by omega)] at h7
        refine xt_pure rfl rfl rfl (st1 := .int (-1) :: _) rfl ?_
        exact xt_iret rfl rfl rfl rfl (Or.inr (Or.inl ⟨r, F, hg, d2, gI_out (Or.inr h7), rfl, rfl⟩))
      · intro (h7 : Int32.toInt _ < Int32.toInt _)
        rw [yi_nat (by omega)] at h7
        obtain ⟨P, hP⟩ := gI_iff.mpr (show 0 ≤ y.toInt ∧ y.toInt < F.2.1.length from ⟨h6, h7⟩)
        refine xt_pure rfl rfl rfl rfl ?_
        refine xt_getf rfl rfl (xmC 120 rfl) ?_
        refine xt_callV rfl rfl rfl rfl (xmC 142 rfl) ⟨rfl, rfl, yle rfl, yle rfl, yle rfl, yle rfl⟩ (ck_isFull (fl := zI S 0) (List.mem_of_getElem? (i := 0) rfl)) (c2 := 0) (s2 := 0) ⟨yle rfl, yle rfl⟩ ?_
        have h0 := hW.tell.2.2.2
        rintro _ _ (⟨rfl, hf, rfl⟩ | ⟨rfl, hf, rfl⟩)
        · skip
          refine xt_pure rfl rfl rfl rfl ?_
          refine xt_pure rfl rfl rfl (st1 := .int (-3) :: _) rfl ?_
          rw [h0] at hf
          exact xt_iret rfl rfl rfl rfl (Or.inr (Or.inr (Or.inl ⟨r, F, P, hg, d2, hP, hf, rfl, rfl⟩)))
        · rw [h0] at hf
          refine xt_pure rfl rfl rfl rfl ?_
          refine xt_pure rfl rfl rfl rfl ?_
          refine xt_getf rfl rfl (xmC 120 rfl) ?_
          refine xt_pure rfl rfl rfl rfl ?_
          refine xt_getf rfl rfl (xmS 0 rfl (inEC (ymm d1 1 rfl))) ?_
          refine xt_pure rfl rfl rfl rfl ?_
          refine xt_getf rfl rfl (xmS 0 rfl (inEC (ymm d1 2 rfl))) ?_
          refine xt_callV rfl rfl rfl rfl (xmC 142 rfl) ⟨rfl, rfl, yle rfl, yle rfl, yle rfl, yle rfl⟩ (ck_begin hW) (c2 := 0) (s2 := 0) ⟨yle rfl, yle rfl⟩ ?_
          rintro _ _ ⟨S1, rfl, rfl, b1, b2, b3⟩
          refine xt_pure rfl rfl rfl rfl ?_
          refine xt_getf rfl rfl (xmC 120 rfl) ?_
          refine xt_pure rfl rfl rfl rfl ?_
          refine xt_pure rfl rfl rfl (st1 := .int 0 :: _) rfl ?_
          have hy : y = Int32.ofNat y.toInt.toNat := (yi_id h6).symm
          obtain ⟨yn, hyn⟩ : ∃ yn, y.toInt.toNat = yn := ⟨_, rfl⟩
          rw [hyn] at hy
          subst hy
          refine xt_callV rfl rfl rfl rfl (xmC 142 rfl) ⟨rfl, rfl, yle rfl, yle rfl, yle rfl, yle rfl⟩ (ck_worth hKe (d3.mono (fun _ he => List.mem_cons_of_mem _ he)) b1 b3 (f := yn) (by omega)) (c2 := 0) (s2 := 0) ⟨yle rfl, yle rfl⟩ ?_
          intro a D
          rcases hv : figx F r.2.2.2.2.2.2.1 En K 12 (Int32.ofNat yn) (w0R w.1) with ⟨z | z, w'⟩
          · rintro ⟨S2, rfl, rfl, e1, e2, e3⟩
            obtain ⟨k1, k2, k3, _⟩ := e1.tell
            refine xt_pure rfl rfl rfl (L1 := [_, _, _, _, _, _, _]) rfl ?_
            refine xt_pure rfl rfl rfl rfl ?_
            refine xt_getf rfl rfl (xmC 120 rfl) ?_
            refine xt_getf rfl rfl (xmD 1 rfl) ?_
            refine xt_pure rfl rfl rfl (L1 := [_, _, _, _, _, _, _]) rfl ?_
            refine xt_pure rfl rfl rfl rfl ?_
            refine yt_if rfl rfl (fun (hh : zI S2 1 ≠ 0) => absurd e3 hh) (fun _ => ?_)
            refine xt_pure rfl rfl rfl rfl ?_
            refine xt_pure rfl rfl rfl rfl ?_
            refine xt_putf rfl rfl rfl rfl (33 + j) (EC_at.trans hj) EC_set ?_
            refine xt_pure rfl rfl rfl rfl ?_
            refine xt_pure rfl rfl rfl rfl ?_
            refine yt_if rfl rfl (fun (hh : zI S2 1 ≠ 0) => absurd e3 hh) (fun _ => ?_)
            refine xt_pure rfl rfl rfl (st1 := .int (-9) :: _) rfl ?_
            refine xt_pure rfl rfl rfl rfl ?_
            refine xt_callV rfl rfl rfl rfl (xmC 115 rfl) ⟨rfl, rfl, yle rfl, yle rfl, yle rfl, yle rfl⟩ ck_tell (c2 := 0) (s2 := 0) ⟨yle rfl, yle rfl⟩ ?_
            rintro _ _ ⟨rfl, rfl⟩
            rw [k1, k2, k3]
            refine xt_pure rfl rfl rfl rfl ?_
            rw [e3]
            exact xt_iret rfl rfl rfl rfl (Or.inr (Or.inr (Or.inr ⟨r, F, P, hg, d2, hP, hf, S2, j, v0, -9, hj, by rw [hv]; exact e1, frC.tr b2 e2, Or.inl ⟨z, by rw [hv], rfl, rfl, by rw [hv]⟩⟩)))
          · rintro ⟨xx, S2, rfl, rfl, e1, e2, e3, e4, e5⟩
            obtain ⟨k1, k2, k3, _⟩ := e1.tell
            have hne : zI S2 1 ≠ 0 := by rw [e3]; exact e4
            refine xt_pure rfl rfl rfl (L1 := [_, _, _, _, _, _, _]) rfl ?_
            refine xt_pure rfl rfl rfl rfl ?_
            refine xt_getf rfl rfl (xmC 120 rfl) ?_
            refine xt_getf rfl rfl (xmD 1 rfl) ?_
            refine xt_pure rfl rfl rfl (L1 := [_, _, _, _, _, _, _]) rfl ?_
            refine xt_pure rfl rfl rfl rfl ?_
            refine yt_if rfl rfl (fun _ => ?_) (fun (hh : zI S2 1 = 0) => absurd hh hne)
            refine xt_pure rfl rfl rfl rfl ?_
            refine xt_pure rfl rfl rfl rfl ?_
            refine yt_if rfl rfl (fun _ => ?_) (fun (hh : zI S2 1 = 0) => absurd hh hne)
            refine xt_pure rfl rfl rfl rfl ?_
            refine xt_getf rfl rfl (xmC 120 rfl) ?_
            refine xt_getf rfl rfl (xmD 2 rfl) ?_
            refine xt_callV rfl rfl rfl rfl (xmC 115 rfl) ⟨rfl, rfl, yle rfl, yle rfl, yle rfl, yle rfl⟩ ck_tell (c2 := 0) (s2 := 0) ⟨yle rfl, yle rfl⟩ ?_
            rintro _ _ ⟨rfl, rfl⟩
            rw [k1, k2, k3]
            refine xt_pure rfl rfl rfl rfl ?_
            exact xt_iret rfl rfl rfl rfl (Or.inr (Or.inr (Or.inr ⟨r, F, P, hg, d2, hP, hf, S2, j, v0, z.2, hj, by rw [hv]; exact e1, frC.tr b2 e2, Or.inr ⟨z, by rw [hv], by rw [e3], rfl, by rw [hv, e5]⟩⟩)))
end CSHOWN
