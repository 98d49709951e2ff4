/-! CALLS OVER BLOCKS: the reference's drafts -/
section DRM
variable {X : List Int32} {N B B2 B3 B4 Rm : List xE} {Fs : List yF} {Dr : List yD} {En : List (Int64 × Int32)} {x y : Int32} {z : Option yO} {gv : Nat}
theorem oM_draft (hD : pDr Fs En Dr) (hF : mFs Fs N B2) (h : mDr Fs Dr N B) (s2 : B2 ⊆ Rm) : yK X 3 150 267 [.ref 209, .int x] (B ++ Rm) 0 0 (fun w D => w = some (.int (drfV Fs Dr x)) ∧ ∃ B', D.Perm (B' ++ Rm) ∧ mDr Fs (drfT Fs Dr x) N B') := by
  obtain ⟨fa, f1, f2, rfl, f4⟩ := hF
  have h0 := h
  have h30 := hD.1
  obtain ⟨of, fi, rc, sg, mr, sp, ⟨l1, l2, l3, l4, l5⟩, ⟨p1, p2⟩, rfl, h4, h5⟩ := h
  refine (mK_draft (Fs := Fs) (n := Dr.length) (j := 0) (k0 := 1) (k1 := 2) (k2 := 3) (k3 := 4) (k4 := 5) f2 (List.mem_append_right _ (s2 (by simp))) h30 rfl rfl l1 rfl l2 rfl l3 rfl l4 rfl l5).mono (Nat.le_refl _) (Nat.le_refl _) ?_
  rintro w D (⟨g1, rfl, rfl⟩ | ⟨F, g1, g2, rfl, rfl⟩ | ⟨F, g1, g2, rfl, rfl⟩)
  · rw [drfV, drfT, g1]
    exact ⟨rfl, _, .refl _, h0⟩
  · rw [drfV, drfT, g1]
    show _ = some (Value.int (if Dr.length < 30 then _ else _)) ∧ ∃ B', _ ∧ mDr Fs (if Dr.length < 30 then _ else _) N B'
    rw [if_neg (by omega), if_neg (by omega)]
    exact ⟨rfl, _, .refl _, h0⟩
  · rw [drfV, drfT, g1]
    show _ = some (Value.int (if Dr.length < 30 then _ else _)) ∧ ∃ B', _ ∧ mDr Fs (if Dr.length < 30 then _ else _) N B'
    rw [if_pos g2, if_pos g2]
    obtain ⟨x0, -, x2, -, -⟩ := gI_some g1
    refine ⟨rfl, (209, .inl (14, 26, .int (Int32.ofNat (Dr.length + 1)))) :: (238, .inr (0, (of.set Dr.length x).map Value.int)) :: (240, .inr (3, (fi.set Dr.length 0).map Value.int)) :: (241, .inr (0, (rc.set Dr.length (-9)).map Value.int)) :: (242, .inr (0, (sg.set Dr.length 0).map Value.int)) :: (239, .inr (10, nul mr (20 * Dr.length) 20)) :: (237, .inr (10, svl sp)) :: sD sp, .refl _, of.set Dr.length x, fi.set Dr.length 0, rc.set Dr.length (-9), sg.set Dr.length 0, nul mr (20 * Dr.length) 20, sp, ⟨by rw [List.length_set]; exact l1, by rw [List.length_set]; exact l2, by rw [List.length_set]; exact l3, by rw [List.length_set]; exact l4, by rw [nul_len]; exact l5⟩, ⟨p1, p2⟩, by rw [List.length_append]; rfl, fun i d hd => ?_, fun q v hq1 hq2 hv => ?_⟩
    · by_cases ei : Dr.length = i
      · subst ei
        rw [List.getElem?_append_right (Nat.le_refl _), Nat.sub_self] at hd
        injection hd with hd
        subst hd
        refine ⟨?_, ?_, ?_, ?_, fun p z hz => ?_⟩
        · rw [List.getElem?_set_self (by omega)]
          exact congrArg some (yi_id x0).symm
        · rw [List.getElem?_set_self (by omega)]
          rfl
        · rw [List.getElem?_set_self (by omega)]
          rfl
        · rw [List.getElem?_set_self (by omega)]
          rfl
        · have hz2 : (List.replicate 20 (none : Option yO))[p]? = some z := hz
          rw [List.getElem?_replicate] at hz2
          by_cases hp : p < 20
          · rw [if_pos hp] at hz2
            injection hz2 with hz2
            subst hz2
            exact ⟨.null, nul_in 20 hp (by omega), rfl⟩
          · rw [if_neg hp] at hz2
            cases hz2
      · have hil : i < Dr.length := by
          have := (List.getElem?_eq_some_iff.mp hd).1
          rw [List.length_append, List.length_singleton] at this
          omega
        rw [List.getElem?_append_left hil] at hd
        obtain ⟨q1, q2, q3, q4, q5⟩ := h4 i d hd
        refine ⟨?_, ?_, ?_, ?_, fun p z hz => ?_⟩
        · rw [List.getElem?_set_ne ei]; exact q1
        · rw [List.getElem?_set_ne ei]; exact q2
        · rw [List.getElem?_set_ne ei]; exact q3
        · rw [List.getElem?_set_ne ei]; exact q4
        · obtain ⟨v, w1, w2⟩ := q5 p z hz
          refine ⟨v, ?_, w2⟩
          rw [nul_out _ (.inl ?_)]
          · exact w1
          · have := (hD.2 d (List.mem_of_getElem? hd)).2.1
            have := (List.getElem?_eq_some_iff.mp hz).1
            omega
    · rw [List.length_append, List.length_singleton] at hq1
      rw [nul_out _ (.inr (by omega))] at hv
      exact .inl ((h5 q v (by omega) hq2 hv).resolve_right (fun h => by omega))
theorem oM_sign (hF : pFs Fs) (hD : pDr Fs En Dr) (hM : mFs Fs N B2) (h : mDr Fs Dr N B) (s2 : B2 ⊆ Rm) (sN : N ⊆ Rm) : yK X 2 46 327 [.ref 209, .int x, .int y] (B ++ Rm) 0 0 (fun w D => w = some (.int (sgV Fs Dr x y)) ∧ ∃ B', D.Perm (B' ++ Rm) ∧ mDr Fs (sgT Fs Dr x y) N B') := by
  have h0 := h
  have uN : N ⊆ B ++ Rm := fun e he => List.mem_append_right _ (sN he)
  have hFs := hM.use (D := B ++ Rm) (fun e he => List.mem_append_right _ (s2 he)) uN
  have hDs := h.use (D := B ++ Rm) hD (List.subset_append_left _ _) uN
  obtain ⟨of, fi, rc, sg, mr, sp, ⟨l1, l2, l3, l4, l5⟩, ⟨p1, p2⟩, rfl, h4, h5⟩ := h
  refine (mK_sign (k := 4) hF hFs hDs rfl l4 (fun i d hd => (h4 i d hd).2.2.2.1)).mono (Nat.le_refl _) (Nat.le_refl _) ?_
  rintro w D ⟨rfl, ⟨hno, rfl⟩ | ⟨⟨d, F, hs, k1, k2⟩, rfl⟩⟩
  · rw [sgT_no hno]
    exact ⟨rfl, _, .refl _, h0⟩
  · rw [sgT_yes hs k1 k2]
    obtain ⟨hd, -, -⟩ := sgR_inv hs
    obtain ⟨g1, g2, g3, -, -⟩ := gI_some hd
    have h30 := hD.1
    refine ⟨rfl, (209, .inl (14, 26, .int (Int32.ofNat Dr.length))) :: (238, .inr (0, of.map Value.int)) :: (240, .inr (3, fi.map Value.int)) :: (241, .inr (0, rc.map Value.int)) :: (242, .inr (0, (sg.set x.toInt.toNat (y + 1)).map Value.int)) :: (239, .inr (10, mr)) :: (237, .inr (10, svl sp)) :: sD sp, .refl _, of, fi, rc, sg.set x.toInt.toNat (y + 1), mr, sp, ⟨l1, l2, l3, by rw [List.length_set]; exact l4, l5⟩, ⟨p1, p2⟩, by rw [List.length_set], fun i d2 hd2 => ?_, by rw [List.length_set]; exact h5⟩
    by_cases ei : x.toInt.toNat = i
    · subst ei
      rw [List.getElem?_set_self (by omega)] at hd2
      injection hd2 with hd2
      subst hd2
      obtain ⟨q1, q2, q3, q4, q5⟩ := h4 _ d g3
      exact ⟨q1, q2, q3, by rw [List.getElem?_set_self (by omega)], q5⟩
    · rw [List.getElem?_set_ne ei] at hd2
      obtain ⟨q1, q2, q3, q4, q5⟩ := h4 _ d2 hd2
      exact ⟨q1, q2, q3, by rw [List.getElem?_set_ne ei]; exact q4, q5⟩
theorem mLg.sign (h : mLg Dr gv N B) : mLg (sgT Fs Dr x y) gv N B := by
  by_cases hs : sgOk Fs Dr x y
  rotate_left
  · rw [sgT_no hs]
    exact h
  · obtain ⟨d, F, hs, k1, k2⟩ := hs
    rw [sgT_yes hs k1 k2]
    obtain ⟨hd, -, -⟩ := sgR_inv hs
    obtain ⟨g1, g2, g3, -, -⟩ := gI_some hd
    obtain ⟨lg, gd, gp, gu, gw, h1, h2, h3, h4, h5⟩ := h
    refine ⟨lg, gd, gp, gu, gw, h1, h2, h3, fun i d2 hd2 => ?_, by rw [List.length_set]; exact h5⟩
    by_cases ei : x.toInt.toNat = i
    · subst ei
      rw [List.getElem?_set_self (by omega)] at hd2
      injection hd2 with hd2
      subst hd2
      exact h4 _ d g3
    · rw [List.getElem?_set_ne ei] at hd2
      exact h4 _ d2 hd2
theorem mLg.app {d : yD} (hc : d.2.2.1 = []) (h : mLg Dr gv N B) : mLg (Dr ++ [d]) gv N B := by
  obtain ⟨lg, gd, gp, gu, gw, h1, h2, h3, h4, h5⟩ := h
  refine ⟨lg, gd, gp, gu, gw, h1, h2, h3, fun i d2 hd2 => ?_, fun e he => ⟨by rw [List.length_append]; have := (h5 e he).1; omega, (h5 e he).2⟩⟩
  by_cases ei : Dr.length = i
  · subst ei
    rw [List.getElem?_append_right (Nat.le_refl _), Nat.sub_self] at hd2
    injection hd2 with hd2
    subst hd2
    rw [hc]
    exact chL_new (fun e he => (h5 e he).1)
  · have := (List.getElem?_eq_some_iff.mp hd2).1
    rw [List.length_append, List.length_singleton] at this
    rw [List.getElem?_append_left (by omega)] at hd2
    exact h4 _ d2 hd2
theorem mLg.draft (h : mLg Dr gv N B) : mLg (drfT Fs Dr x) gv N B := by
  rw [drfT]
  cases gI Fs x with
  | none => exact h
  | some F =>
    show mLg (if Dr.length < 30 then Dr ++ [nwD x] else Dr) gv N B
    by_cases h30 : Dr.length < 30
    · rw [if_pos h30]
      exact h.app rfl
    · rw [if_neg h30]
      exact h
end DRM
