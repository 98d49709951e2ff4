/-! PART: both sides -/
section PARTS
variable {X : List Int32} {D0 : List xE} {Fs : List yF} {x y w : Int32}
theorem cA_part (h20 : ∀ (i : Nat) F, Fs[i]? = some F → F.1.length ≤ 20) (hFs : yFsC Fs D0) : yK X 1 30 88 [.ref 78, .int x, .int y, .int w] D0 0 0 (fun a D => a = some (.int (partV Fs x y w)) ∧ D = D0) := by
  refine yK.of rfl (yle rfl) (L := [_, _, _, _, _]) rfl ?_
  refine xt_pure rfl rfl rfl rfl ?_
  refine xt_pure rfl rfl rfl rfl ?_
  refine xt_callV rfl rfl rfl rfl (xmC 115 rfl) ⟨rfl, rfl, yle rfl, yle rfl, yle rfl, yle rfl⟩ (ck_formAt2 (D1 := D0) (fun _ h => h) hFs) (c2 := 0) (s2 := 0) ⟨yle rfl, yle rfl⟩ ?_
  rintro _ _ (⟨rfl, hx, rfl⟩ | ⟨rfl, F, a0, hx, hC0, rfl⟩)
  · have hn : partV Fs x y w = -100 := by rw [partV, gPt, hx]; rfl
    rw [hn]
    refine xt_pure rfl rfl rfl (L1 := [_, _, _, _, _]) rfl ?_
    refine xt_pure rfl rfl rfl rfl ?_
    refine xt_pure rfl rfl rfl rfl ?_
    refine xt_pure rfl rfl rfl (st1 := .int (-100) :: _) rfl ?_
    exact xt_iret rfl rfl rfl rfl ⟨rfl, rfl⟩
  · obtain ⟨p0, q0, hE0, hL0, hP0, _⟩ := hC0
    have hl20 := h20 _ F (gI_some hx).2.2.1
    refine xt_pure rfl rfl rfl (L1 := [_, _, _, _, _]) rfl ?_
    refine xt_pure rfl rfl rfl rfl ?_
    refine xt_pure rfl rfl rfl rfl ?_
    have no : gI F.1 y = none → yT X 1 30 88 12 [some (.ref 78), some (.int x), some (.int y), some (.int w), some (.ref a0)] [] D0 0 0 (fun a D => a = some (.int (partV Fs x y w)) ∧ D = D0) := by
      intro hy
      have hn : partV Fs x y w = -100 := by rw [partV, gPt, hx, Option.bind_some, hy]
      rw [hn]
      refine xt_pure rfl rfl rfl (st1 := .int (-100) :: _) rfl ?_
      exact xt_iret rfl rfl rfl rfl ⟨rfl, rfl⟩
    refine xt_pure rfl rfl rfl rfl ?_
    refine yt_if rfl rfl (fun (h : Int32.toInt _ < (0 : Int)) => ?_) (fun (h : (0 : Int) ≤ Int32.toInt _) => ?_)
    · exact no (by cases hg : gI F.1 y with | none => rfl | some P => have := gI_some hg; omega)
    · skip
      refine xt_pure rfl rfl rfl rfl ?_
      refine xt_pure rfl rfl rfl rfl ?_
      refine xt_getf rfl rfl (xmS 0 rfl (ymm hE0 0 rfl)) ?_
      refine yt_ic rfl rfl (fun (h2 : Int32.toInt _ < Int32.toInt _) => ?_) (fun (h2 : Int32.toInt _ ≤ Int32.toInt _) => ?_)
      rotate_left
      · rw [yi_nat (by omega)] at h2
        exact no (by cases hg : gI F.1 y with | none => rfl | some P => have := gI_some hg; omega)
      · rw [yi_nat (by omega)] at h2
        obtain ⟨P, hP⟩ := (gI_iff (l := F.1)).mpr ⟨h, h2⟩
        have hpv : ∀ w, partV Fs x y w = if w = 0 then P.1 else if w = 1 then P.2.1 else if w = 2 then P.2.2.1 else -100 := by
          intro w
          rw [partV, gPt, hx, Option.bind_some, hP]
        have hPP := hP0 _ P (gI_some hP).2.2.1
        refine xt_pure rfl rfl rfl rfl ?_
        by_cases hw0 : w = 0
        · subst hw0
          refine xt_pure rfl rfl rfl rfl ?_
          refine xt_pure rfl rfl rfl rfl ?_
          refine xt_getf rfl rfl (xmS 0 rfl (ymm hE0 1 rfl)) ?_
          refine xt_pure rfl rfl rfl rfl ?_
          refine xt_iald rfl rfl (xmS 0 rfl (ymm hE0 19 rfl)) (gI_some hP).2.2.2.2 (v := .int P.1) (by rw [(gI_some hP).2.2.2.1, List.getElem?_map, hPP.1]; rfl) ?_
          refine xt_iret rfl rfl rfl rfl ?_
          exact ⟨by rw [hpv]; rfl, rfl⟩
        by_cases hw1 : w = 1
        · subst hw1
          refine xt_pure rfl rfl rfl rfl ?_
          refine xt_pure rfl rfl rfl rfl ?_
          refine xt_getf rfl rfl (xmS 0 rfl (ymm hE0 2 rfl)) ?_
          refine xt_pure rfl rfl rfl rfl ?_
          refine xt_iald rfl rfl (xmS 0 rfl (ymm hE0 20 rfl)) (gI_some hP).2.2.2.2 (v := .int P.2.1) (by rw [(gI_some hP).2.2.2.1, List.getElem?_map, hPP.2.1]; rfl) ?_
          refine xt_iret rfl rfl rfl rfl ?_
          exact ⟨by rw [hpv]; rfl, rfl⟩
        by_cases hw2 : w = 2
        · subst hw2
          refine xt_pure rfl rfl rfl rfl ?_
          refine xt_pure rfl rfl rfl rfl ?_
          refine xt_getf rfl rfl (xmS 0 rfl (ymm hE0 3 rfl)) ?_
          refine xt_pure rfl rfl rfl rfl ?_
          refine xt_iald rfl rfl (xmS 0 rfl (ymm hE0 21 rfl)) (gI_some hP).2.2.2.2 (v := .int P.2.2.1) (by rw [(gI_some hP).2.2.2.1, List.getElem?_map, hPP.2.2.1]; rfl) ?_
          refine xt_iret rfl rfl rfl rfl ?_
          exact ⟨by rw [hpv]; rfl, rfl⟩
        refine yt_tsd rfl rfl (by
          have e0 : w.toInt ≠ 0 := fun e => hw0 (xi32_eq.mpr e)
          have e1 : w.toInt ≠ 1 := fun e => hw1 (xi32_eq.mpr e)
          have e2 : w.toInt ≠ 2 := fun e => hw2 (xi32_eq.mpr e)
          omega) rfl ?_
        rw [hpv, if_neg hw0, if_neg hw1, if_neg hw2]
        refine xt_pure rfl rfl rfl (st1 := .int (-100) :: _) rfl ?_
        exact xt_iret rfl rfl rfl rfl ⟨rfl, rfl⟩
theorem mA_part (h20 : ∀ (i : Nat) F, Fs[i]? = some F → F.1.length ≤ 20) (h01 : ∀ (i : Nat) F, Fs[i]? = some F → ∀ P ∈ F.1, P.2.2.1 = 0 ∨ P.2.2.1 = 1) (hFs : yFsM Fs D0) : yK X 4 100 252 [.ref 209, .int x, .int y, .int w] D0 0 0 (fun a D => a = some (.int (partV Fs x y w)) ∧ D = D0) := by
  obtain ⟨fs, f1, f2, f3, f4, f5⟩ := id hFs
  refine yK.of rfl (yle rfl) (L := [_, _, _, _]) rfl ?_
  refine xt_pure rfl rfl rfl rfl ?_
  refine xt_pure rfl rfl rfl rfl ?_
  refine xt_pure rfl rfl rfl rfl ?_
  refine xt_callV rfl rfl rfl rfl (xmC 176 rfl) ⟨rfl, rfl, yle rfl, yle rfl, yle rfl, yle rfl⟩ (mk_isPart h20 hFs) (c2 := 0) (s2 := 0) ⟨yle rfl, yle rfl⟩ ?_
  rintro _ _ (⟨rfl, ⟨F, P, hx, hP⟩, rfl⟩ | ⟨rfl, hno, rfl⟩)
  rotate_left
  · have hn : partV Fs x y w = -100 := by
      rw [partV, gPt]
      cases hx : gI Fs x with
      | none => rfl
      | some F =>
        rw [Option.bind_some]
        cases hP : gI F.1 y with
        | none => rfl
        | some P => rw [hno F hx] at hP; cases hP
    rw [hn]
    refine xt_pure rfl rfl rfl rfl ?_
    refine xt_pure rfl rfl rfl (st1 := .int (-100) :: _) rfl ?_
    exact xt_iret rfl rfl rfl rfl ⟨rfl, rfl⟩
  · obtain ⟨g1, g2, g3, g4, g5⟩ := gI_some hx
    obtain ⟨fa, hfa⟩ := yfa g3 f1
    obtain ⟨nm1, nm2⟩ := yform g3 hfa f1 f2
    rw [yi_id g1] at nm1 nm2
    obtain ⟨p0, q0, nm, fn, vl, hE0, hL0, hP0, _⟩ := f5 _ F fa g3 hfa
    have hPP := hP0 _ P (gI_some hP).2.2.1
    have hpv : ∀ w, partV Fs x y w = if w = 0 then P.1 else if w = 1 then P.2.1 else if w = 2 then P.2.2.1 else -100 := by
      intro w
      rw [partV, gPt, hx, Option.bind_some, hP]
    have hm := h01 _ F g3 P (List.mem_of_getElem? (gI_some hP).2.2.1)
    refine xt_pure rfl rfl rfl rfl ?_
    refine xt_pure rfl rfl rfl rfl ?_
    refine xt_pure rfl rfl rfl rfl ?_
    refine xt_pure rfl rfl rfl (st1 := .long 0 :: _) rfl ?_
    refine xt_pure rfl rfl rfl (st1 := .long 2 :: _) rfl ?_
    refine xt_callS rfl rfl (by decide) rfl ⟨rfl, yle rfl, yle rfl, yle rfl, yle rfl⟩ mk_in (c2 := 0) (s2 := 0) ⟨yle2, yle2⟩ ?_
    rintro _ _ (⟨rfl, hw, rfl⟩ | ⟨rfl, hw, rfl⟩)
    rotate_left
    · rw [y6432, show (0 : Int64).toInt = 0 from rfl, show (2 : Int64).toInt = 2 from rfl] at hw
      refine xt_pure rfl rfl rfl rfl ?_
      have hn : partV Fs x y w = -100 := by rw [hpv, if_neg (fun (e : w = 0) => hw (by rw [e]; decide)), if_neg (fun (e : w = 1) => hw (by rw [e]; decide)), if_neg (fun (e : w = 2) => hw (by rw [e]; decide))]
      rw [hn]
      refine xt_pure rfl rfl rfl (st1 := .int (-100) :: _) rfl ?_
      exact xt_iret rfl rfl rfl rfl ⟨rfl, rfl⟩
    · rw [y6432, show (0 : Int64).toInt = 0 from rfl, show (2 : Int64).toInt = 2 from rfl] at hw
      refine xt_pure rfl rfl rfl rfl ?_
      refine xt_pure rfl rfl rfl rfl ?_
      by_cases hw0 : w = 0
      · subst hw0
        refine xt_pure rfl rfl rfl rfl ?_
        refine xt_pure rfl rfl rfl rfl ?_
        refine xt_getf rfl rfl (xmC 177 rfl) ?_
        refine xt_pure rfl rfl rfl rfl ?_
        refine xt_aald rfl rfl ⟨by decide, rfl⟩ (xmS 0 rfl f4) nm1 (v := .ref fa) nm2 ?_
        refine xt_getf rfl rfl (xmS 0 rfl (ymm hE0 2 rfl)) ?_
        refine xt_pure rfl rfl rfl rfl ?_
        refine xt_iald rfl rfl (xmS 0 rfl (ymm hE0 24 rfl)) (gI_some hP).2.2.2.2 (v := .int P.1) (by rw [(gI_some hP).2.2.2.1, List.getElem?_map, hPP.1]; rfl) ?_
        refine xt_pure rfl rfl rfl rfl ?_
        exact xt_iret rfl rfl rfl rfl ⟨by rw [hpv]; rfl, rfl⟩
      · refine yt_if rfl rfl (fun _ => ?_) (fun (h : w = 0) => absurd h hw0)
        refine xt_pure rfl rfl rfl rfl ?_
        refine xt_pure rfl rfl rfl (st1 := .int 1 :: _) rfl ?_
        by_cases hw1 : w = 1
        · subst hw1
          refine xt_pure rfl rfl rfl rfl ?_
          refine xt_pure rfl rfl rfl rfl ?_
          refine xt_getf rfl rfl (xmC 177 rfl) ?_
          refine xt_pure rfl rfl rfl rfl ?_
          refine xt_aald rfl rfl ⟨by decide, rfl⟩ (xmS 0 rfl f4) nm1 (v := .ref fa) nm2 ?_
          refine xt_getf rfl rfl (xmS 0 rfl (ymm hE0 3 rfl)) ?_
          refine xt_pure rfl rfl rfl rfl ?_
          refine xt_iald rfl rfl (xmS 0 rfl (ymm hE0 25 rfl)) (gI_some hP).2.2.2.2 (v := .int P.2.1) (by rw [(gI_some hP).2.2.2.1, List.getElem?_map, hPP.2.1]; rfl) ?_
          refine xt_pure rfl rfl rfl rfl ?_
          exact xt_iret rfl rfl rfl rfl ⟨by rw [hpv]; rfl, rfl⟩
        · refine yt_ic rfl rfl (fun _ => ?_) (fun (h : w = 1) => absurd h hw1)
          have hw2 : w = 2 := by
            have e0 : w.toInt ≠ 0 := fun e => hw0 (xi32_eq.mpr e)
            have e1 : w.toInt ≠ 1 := fun e => hw1 (xi32_eq.mpr e)
            exact xi32_eq.mpr (by show w.toInt = 2; omega)
          subst hw2
          refine xt_pure rfl rfl rfl rfl ?_
          refine xt_getf rfl rfl (xmC 177 rfl) ?_
          refine xt_pure rfl rfl rfl rfl ?_
          refine xt_aald rfl rfl ⟨by decide, rfl⟩ (xmS 0 rfl f4) nm1 (v := .ref fa) nm2 ?_
          refine xt_getf rfl rfl (xmS 0 rfl (ymm hE0 4 rfl)) ?_
          refine xt_pure rfl rfl rfl rfl ?_
          refine xt_bald rfl rfl (Or.inr rfl) (xmS 0 rfl (ymm hE0 26 rfl)) (gI_some hP).2.2.2.2 (v := .int P.2.2.1) (by rw [(gI_some hP).2.2.2.1, List.getElem?_map, hPP.2.2.1]; rfl) ?_
          have hpv2 : partV Fs x y 2 = P.2.2.1 := by rw [hpv]; rfl
          rcases hm with hm | hm
          · rw [hm]
            refine xt_pure rfl rfl rfl rfl ?_
            refine xt_pure rfl rfl rfl (st1 := .int 0 :: _) rfl ?_
            exact xt_iret rfl rfl rfl rfl ⟨by rw [hpv2, hm], rfl⟩
          · rw [hm]
            refine xt_pure rfl rfl rfl rfl ?_
            refine xt_pure rfl rfl rfl (st1 := .int 1 :: _) rfl ?_
            refine xt_pure rfl rfl rfl rfl ?_
            exact xt_iret rfl rfl rfl rfl ⟨by rw [hpv2, hm], rfl⟩
end PARTS
