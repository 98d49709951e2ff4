/-! about, part -/
theorem ymS {D D0 : List xE} {e : xE} (n : Nat) (hd : D.drop n = D0) (h : e ∈ D0) : e ∈ D := List.mem_of_mem_drop (hd.symm ▸ h)
theorem yss {D D0 : List xE} (n : Nat) (hd : D.drop n = D0) : D0 ⊆ D := fun _ h => ymS n hd h
def aboutV (Fs : List yF) (x w : Int32) : Int32 := match gI Fs x with
  | none => -100
  | some F => if w = 0 then Int32.ofNat F.1.length else if w = 1 then Int32.ofNat F.2.1.length else if w = 2 then Int32.ofNat F.2.2.1.length else if w = 3 then F.2.2.2.1.1 else if w = 4 then F.2.2.2.1.2.1 else if w = 5 then F.2.2.2.1.2.2 else -100
/-- a part of a form -/
def gPt (Fs : List yF) (x y : Int32) : Option yPt := (gI Fs x).bind fun F => gI F.1 y
def partV (Fs : List yF) (x y w : Int32) : Int32 := match gPt Fs x y with
  | none => -100
  | some P => if w = 0 then P.1 else if w = 1 then P.2.1 else if w = 2 then P.2.2.1 else -100
theorem cA_about {X : List Int32} {D0 : List xE} {Fs : List yF} {x y : Int32} (hFs : yFsC Fs D0) : yK X 1 21 86 [.ref 78, .int x, .int y] (D0) 0 0 (fun w D => w = some (.int (aboutV Fs x y)) ∧ D = D0) := by
  refine yK.of rfl (yle rfl) (L := [_, _, _, _]) rfl ?_
  refine xt_pure rfl rfl rfl rfl ?_
  refine xt_pure rfl rfl rfl rfl ?_
  refine xt_callV rfl rfl rfl rfl (xmC 115 rfl) ⟨rfl, rfl, yle rfl, yle rfl, yle rfl, yle rfl⟩ (ck_formAt hFs) (c2 := 0) (s2 := 0) ⟨yle rfl, yle rfl⟩ ?_
  rintro _ _ (⟨rfl, hg0, rfl⟩ | ⟨rfl, F0, a0, hg0, hC0, rfl⟩)
  · skip
    show yT _ _ _ _ _ _ (_ :: _) _ _ _ _
    refine xt_pure rfl rfl rfl (L1 := [_, _, _, _]) rfl ?_
    refine xt_pure rfl rfl rfl rfl ?_
    refine xt_pure rfl rfl rfl rfl ?_
    refine xt_pure rfl rfl rfl (st1 := .int (-100) :: _) rfl ?_
    refine xt_iret rfl rfl rfl rfl ?_
    exact ⟨by simp [aboutV, hg0, *], rfl⟩
  · skip
    obtain ⟨p0, q0, hE0, hL0, hP0, hQ0, hR0, hC0⟩ := hC0
    show yT _ _ _ _ _ _ (_ :: _) _ _ _ _
    refine xt_pure rfl rfl rfl (L1 := [_, _, _, _]) rfl ?_
    refine xt_pure rfl rfl rfl rfl ?_
    refine xt_pure rfl rfl rfl rfl ?_
    refine xt_pure rfl rfl rfl rfl ?_
    by_cases hw1_0 : y = 0
    · subst hw1_0
      refine xt_pure rfl rfl rfl rfl ?_
      refine xt_pure rfl rfl rfl rfl ?_
      refine xt_getf rfl rfl (xmS 0 rfl (ymm hE0 0 rfl)) ?_
      refine xt_iret rfl rfl rfl rfl ?_
      exact ⟨by simp [aboutV, hg0, *], rfl⟩
    by_cases hw1_1 : y = 1
    · subst hw1_1
      refine xt_pure rfl rfl rfl rfl ?_
      refine xt_pure rfl rfl rfl rfl ?_
      refine xt_getf rfl rfl (xmS 0 rfl (ymm hE0 8 rfl)) ?_
      refine xt_iret rfl rfl rfl rfl ?_
      exact ⟨by simp [aboutV, hg0, *], rfl⟩
    by_cases hw1_2 : y = 2
    · subst hw1_2
      refine xt_pure rfl rfl rfl rfl ?_
      refine xt_pure rfl rfl rfl rfl ?_
      refine xt_getf rfl rfl (xmS 0 rfl (ymm hE0 10 rfl)) ?_
      refine xt_iret rfl rfl rfl rfl ?_
      exact ⟨by simp [aboutV, hg0, *], rfl⟩
    by_cases hw1_3 : y = 3
    · subst hw1_3
      refine xt_pure rfl rfl rfl rfl ?_
      refine xt_pure rfl rfl rfl rfl ?_
      refine xt_getf rfl rfl (xmS 0 rfl (ymm hE0 13 rfl)) ?_
      refine xt_iret rfl rfl rfl rfl ?_
      exact ⟨by simp [aboutV, hg0, *], rfl⟩
    by_cases hw1_4 : y = 4
    · subst hw1_4
      refine xt_pure rfl rfl rfl rfl ?_
      refine xt_pure rfl rfl rfl rfl ?_
      refine xt_getf rfl rfl (xmS 0 rfl (ymm hE0 14 rfl)) ?_
      refine xt_iret rfl rfl rfl rfl ?_
      exact ⟨by simp [aboutV, hg0, *], rfl⟩
    by_cases hw1_5 : y = 5
    · subst hw1_5
      refine xt_pure rfl rfl rfl rfl ?_
      refine xt_pure rfl rfl rfl rfl ?_
      refine xt_getf rfl rfl (xmS 0 rfl (ymm hE0 15 rfl)) ?_
      refine xt_iret rfl rfl rfl rfl ?_
      exact ⟨by simp [aboutV, hg0, *], rfl⟩
    have hx1_0 : ¬ y.toInt = 0 := fun h => hw1_0 (by rw [xi32_eq, h]; rfl)
    have hx1_1 : ¬ y.toInt = 1 := fun h => hw1_1 (by rw [xi32_eq, h]; rfl)
    have hx1_2 : ¬ y.toInt = 2 := fun h => hw1_2 (by rw [xi32_eq, h]; rfl)
    have hx1_3 : ¬ y.toInt = 3 := fun h => hw1_3 (by rw [xi32_eq, h]; rfl)
    have hx1_4 : ¬ y.toInt = 4 := fun h => hw1_4 (by rw [xi32_eq, h]; rfl)
    have hx1_5 : ¬ y.toInt = 5 := fun h => hw1_5 (by rw [xi32_eq, h]; rfl)
    refine yt_tsd rfl rfl (by omega) rfl ?_
    refine xt_pure rfl rfl rfl (st1 := .int (-100) :: _) rfl ?_
    refine xt_iret rfl rfl rfl rfl ?_
    exact ⟨by simp [aboutV, hg0, *], rfl⟩
theorem mA_about {X : List Int32} {D0 : List xE} {Fs : List yF} {x y : Int32} (hFs : yFsM Fs D0) : yK X 2 46 249 [.ref 209, .int x, .int y] (D0) 0 0 (fun w D => w = some (.int (aboutV Fs x y)) ∧ D = D0) := by
  obtain ⟨fa, h1, h2, h3, h4, h5⟩ := hFs
  refine yK.of rfl (yle rfl) (L := [_, _, _, _]) rfl ?_
  refine xt_pure rfl rfl rfl rfl ?_
  refine xt_pure rfl rfl rfl rfl ?_
  refine xt_callV rfl rfl rfl rfl (xmC 176 rfl) ⟨rfl, rfl, yle rfl, yle rfl, yle rfl, yle rfl⟩ (mk_isForm (by omega) h3) (c2 := 0) (s2 := 0) ⟨yle rfl, yle rfl⟩ ?_
  rintro _ _ (⟨rfl, hp0, rfl⟩ | ⟨rfl, hp0, rfl⟩)
  · skip
    show yT _ _ _ _ _ _ (_ :: _) _ _ _ _
    refine xt_pure rfl rfl rfl rfl ?_
    refine xt_pure rfl rfl rfl rfl ?_
    refine xt_pure rfl rfl rfl rfl ?_
    refine xt_pure rfl rfl rfl (st1 := .long 0 :: _) rfl ?_
    refine xt_pure rfl rfl rfl (st1 := .long 5 :: _) rfl ?_
    refine xt_callS rfl rfl (by decide) rfl ⟨rfl, yle rfl, yle rfl, yle rfl, yle rfl⟩ mk_in (c2 := 0) (s2 := 0) ⟨yle rfl, yle rfl⟩ ?_
    rintro _ _ (⟨rfl, hp1, rfl⟩ | ⟨rfl, hp1, rfl⟩)
    · skip
      show yT _ _ _ _ _ _ (_ :: _) _ _ _ _
      refine xt_pure rfl rfl rfl rfl ?_
      refine xt_pure rfl rfl rfl rfl ?_
      refine xt_getf rfl rfl (xmC 177 rfl) ?_
      refine xt_pure rfl rfl rfl rfl ?_
      obtain ⟨F, hF⟩ := gI_iff.mpr hp0
      obtain ⟨g1, g2, g3, g4, g5⟩ := gI_some hF
      obtain ⟨a, ha⟩ : ∃ a, fa[x.toInt.toNat]? = some a := ⟨_, List.getElem?_eq_getElem (by omega)⟩
      obtain ⟨p, q, nm, fn, vl, hE, hL, hP, hQ, hR, hT⟩ := h5 _ F a g3 ha
      refine xt_aald rfl rfl ⟨by decide, rfl⟩ (xmS 0 rfl h4) g5 (v := .ref a) (by rw [g4, List.getElem?_append_left (by simp; omega), List.getElem?_map, ha]; rfl) ?_
      refine xt_pure rfl rfl rfl (L1 := [_, _, _, _]) rfl ?_
      refine xt_pure rfl rfl rfl rfl ?_
      refine yt_if rfl rfl ?_ ?_
      · intro (hb18_2 : (_ : Int32) ≠ 0)
        refine xt_pure rfl rfl rfl rfl ?_
        refine xt_pure rfl rfl rfl (st1 := .int 1 :: _) rfl ?_
        refine yt_ic rfl rfl ?_ ?_
        · intro (hb24_3 : (_ : Int32) ≠ 1)
          refine xt_pure rfl rfl rfl rfl ?_
          refine xt_pure rfl rfl rfl (st1 := .int 2 :: _) rfl ?_
          refine yt_ic rfl rfl ?_ ?_
          · intro (hb30_4 : (_ : Int32) ≠ 2)
            refine xt_pure rfl rfl rfl rfl ?_
            refine xt_pure rfl rfl rfl (st1 := .int 3 :: _) rfl ?_
            refine yt_ic rfl rfl ?_ ?_
            · intro (hb36_5 : (_ : Int32) ≠ 3)
              refine xt_pure rfl rfl rfl rfl ?_
              refine xt_pure rfl rfl rfl (st1 := .int 4 :: _) rfl ?_
              refine yt_ic rfl rfl ?_ ?_
              · intro (hb42_6 : (_ : Int32) ≠ 4)
                refine xt_pure rfl rfl rfl rfl ?_
                refine xt_getf rfl rfl (xmS 0 rfl (ymm hE 16 rfl)) ?_
                refine xt_iret rfl rfl rfl rfl ?_
                refine ⟨?_, rfl⟩
                simp only [aboutV, xi32_eq, xi64_eq, Int32.toInt_toInt64, Int32.reduceToInt, Int64.reduceToInt, y_m9, y_m1, y_m100, y64_m9, y64_m1, Ne, y_n1x, hF] at hp0 hp1 hb18_2 hb24_3 hb30_4 hb36_5 hb42_6 ⊢
                repeat' split
                all_goals first | rfl | (exfalso; omega)
              · intro (hb42_6 : (_ : Int32) = 4)
                refine xt_pure rfl rfl rfl rfl ?_
                refine xt_getf rfl rfl (xmS 0 rfl (ymm hE 15 rfl)) ?_
                refine xt_pure rfl rfl rfl rfl ?_
                refine xt_iret rfl rfl rfl rfl ?_
                refine ⟨?_, rfl⟩
                simp only [aboutV, xi32_eq, xi64_eq, Int32.toInt_toInt64, Int32.reduceToInt, Int64.reduceToInt, y_m9, y_m1, y_m100, y64_m9, y64_m1, Ne, y_n1x, hF] at hp0 hp1 hb18_2 hb24_3 hb30_4 hb36_5 hb42_6 ⊢
                repeat' split
                all_goals first | rfl | (exfalso; omega)
            · intro (hb36_5 : (_ : Int32) = 3)
              refine xt_pure rfl rfl rfl rfl ?_
              refine xt_getf rfl rfl (xmS 0 rfl (ymm hE 17 rfl)) ?_
              refine xt_pure rfl rfl rfl rfl ?_
              refine xt_iret rfl rfl rfl rfl ?_
              refine ⟨?_, rfl⟩
              simp only [aboutV, xi32_eq, xi64_eq, Int32.toInt_toInt64, Int32.reduceToInt, Int64.reduceToInt, y_m9, y_m1, y_m100, y64_m9, y64_m1, Ne, y_n1x, hF] at hp0 hp1 hb18_2 hb24_3 hb30_4 hb36_5 ⊢
              repeat' split
              all_goals first | rfl | (exfalso; omega)
          · intro (hb30_4 : (_ : Int32) = 2)
            refine xt_pure rfl rfl rfl rfl ?_
            refine xt_getf rfl rfl (xmS 0 rfl (ymm hE 12 rfl)) ?_
            refine xt_pure rfl rfl rfl rfl ?_
            refine xt_iret rfl rfl rfl rfl ?_
            refine ⟨?_, rfl⟩
            simp only [aboutV, xi32_eq, xi64_eq, Int32.toInt_toInt64, Int32.reduceToInt, Int64.reduceToInt, y_m9, y_m1, y_m100, y64_m9, y64_m1, Ne, y_n1x, hF] at hp0 hp1 hb18_2 hb24_3 hb30_4 ⊢
            repeat' split
            all_goals first | rfl | (exfalso; omega)
        · intro (hb24_3 : (_ : Int32) = 1)
          refine xt_pure rfl rfl rfl rfl ?_
          refine xt_getf rfl rfl (xmS 0 rfl (ymm hE 9 rfl)) ?_
          refine xt_pure rfl rfl rfl rfl ?_
          refine xt_iret rfl rfl rfl rfl ?_
          refine ⟨?_, rfl⟩
          simp only [aboutV, xi32_eq, xi64_eq, Int32.toInt_toInt64, Int32.reduceToInt, Int64.reduceToInt, y_m9, y_m1, y_m100, y64_m9, y64_m1, Ne, y_n1x, hF] at hp0 hp1 hb18_2 hb24_3 ⊢
          repeat' split
          all_goals first | rfl | (exfalso; omega)
      · intro (hb18_2 : (_ : Int32) = 0)
        refine xt_pure rfl rfl rfl rfl ?_
        refine xt_getf rfl rfl (xmS 0 rfl (ymm hE 0 rfl)) ?_
        refine xt_pure rfl rfl rfl rfl ?_
        refine xt_iret rfl rfl rfl rfl ?_
        refine ⟨?_, rfl⟩
        simp only [aboutV, xi32_eq, xi64_eq, Int32.toInt_toInt64, Int32.reduceToInt, Int64.reduceToInt, y_m9, y_m1, y_m100, y64_m9, y64_m1, Ne, y_n1x, hF] at hp0 hp1 hb18_2 ⊢
        repeat' split
        all_goals first | rfl | (exfalso; omega)
    · skip
      show yT _ _ _ _ _ _ (_ :: _) _ _ _ _
      refine xt_pure rfl rfl rfl rfl ?_
      refine xt_pure rfl rfl rfl (st1 := .int (-100) :: _) rfl ?_
      refine xt_iret rfl rfl rfl rfl ?_
      refine ⟨?_, rfl⟩
      cases hg : gI Fs x with
      | none => simp [aboutV, hg]
      | some F =>
        have hi := gI_some hg
        simp only [aboutV, hg, xi32_eq, xi64_eq, Int32.toInt_toInt64, Int32.reduceToInt, Int64.reduceToInt, y_m9, y_m1, y_m100, y64_m9, y64_m1, Ne, y_n1x] at hp0 hp1 ⊢
        repeat' split
        all_goals first | rfl | (exfalso; omega)
  · skip
    show yT _ _ _ _ _ _ (_ :: _) _ _ _ _
    refine xt_pure rfl rfl rfl rfl ?_
    refine xt_pure rfl rfl rfl (st1 := .int (-100) :: _) rfl ?_
    refine xt_iret rfl rfl rfl rfl ?_
    refine ⟨?_, rfl⟩
    cases hg : gI Fs x with
    | none => simp [aboutV, hg]
    | some F =>
      have hi := gI_some hg
      simp only [aboutV, hg, xi32_eq, xi64_eq, Int32.toInt_toInt64, Int32.reduceToInt, Int64.reduceToInt, y_m9, y_m1, y_m100, y64_m9, y64_m1, Ne, y_n1x] at hp0 ⊢
      repeat' split
      all_goals first | rfl | (exfalso; omega)
