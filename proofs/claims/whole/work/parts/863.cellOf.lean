/-! CELLOF: the class -/
theorem cR_cellOf {X : List Int32} {D0 : List xE} {Fs : List yF} {R : List yDR} {Dr : List yD} {En : List (Int64 × Int32)} {x y i j : Int32} (hok : ∀ (i : Nat) F, Fs[i]? = some F → F.1.length ≤ 20) (hR : R.map (fun r => r.2.2.2.2.2) = Dr) (hDs : yDsC Fs R D0) (hans : ∀ x y ob, answ Fs Dr x y = some (some ob) → yOk En ob) : yK X 3 100 119 [.ref 78, .int x, .int y, .int i, .int j] D0 0 0 (fun w D => w = some (.int (cellV Fs Dr x y i j)) ∧ D = D0) := by
  subst hR
  refine yK.of rfl (yle rfl) (L := [_, _, _, _, _, _, _]) rfl ?_
  refine xt_pure rfl rfl rfl rfl ?_
  refine xt_pure rfl rfl rfl rfl ?_
  refine xt_pure rfl rfl rfl rfl ?_
  refine xt_callV rfl rfl rfl rfl (xmC 115 rfl) ⟨rfl, rfl, yle rfl, yle rfl, yle rfl, yle rfl⟩ (ck_answerOf hok hDs) (c2 := 0) (s2 := 0) ⟨yle rfl, yle rfl⟩ ?_
  rintro _ _ (⟨rfl, ha, rfl⟩ | ⟨rfl, ob, oa, ha, hO, rfl⟩)
  · have hv : cellV Fs (R.map (fun r => r.2.2.2.2.2)) x y i j = 0 := by
      rw [cellV]
      rcases h : answ Fs (R.map (fun r => r.2.2.2.2.2)) x y with _ | _ | ob
      · rw [h]
      · rw [h]
      · exact absurd h (ha ob)
    rw [hv]
    refine xt_pure rfl rfl rfl (L1 := [_, _, _, _, _, _, _]) rfl ?_
    refine xt_pure rfl rfl rfl rfl ?_
    refine xt_pure rfl rfl rfl rfl ?_
    refine xt_pure rfl rfl rfl (st1 := .int 0 :: _) rfl ?_
    exact xt_iret rfl rfl rfl rfl ⟨rfl, rfl⟩
  · have hk := hans _ _ _ ha
    have hv : cellV Fs (R.map (fun r => r.2.2.2.2.2)) x y i j = celV ob i j := by rw [cellV, ha]
    rw [hv]
    obtain ⟨ia, ra, jk, rr, o1, o2, o3, o4, o5, o6, o7, o8⟩ := id hO
    refine xt_pure rfl rfl rfl (L1 := [_, _, _, _, _, _, _]) rfl ?_
    refine xt_pure rfl rfl rfl rfl ?_
    refine xt_pure rfl rfl rfl rfl ?_
    refine xt_pure rfl rfl rfl rfl ?_
    refine xt_getf rfl rfl (xmS 0 rfl o1) ?_
    refine xt_pure rfl rfl rfl (st1 := .int 4 :: _) rfl ?_
    by_cases e4 : ob.1 = 4
    rotate_left
    · have hc : celV ob i j = 0 := by rw [celV, if_neg (fun h => e4 h.1)]
      refine yt_ic rfl rfl (fun _ => ?_) (fun (h : Int32.ofNat ob.1 = 4) => absurd (yi_inj (b := 4) (by have := hk.1; omega) (by omega) h) e4)
      rw [hc]
      refine xt_pure rfl rfl rfl (st1 := .int 0 :: _) rfl ?_
      exact xt_iret rfl rfl rfl rfl ⟨rfl, rfl⟩
    · have hr6 := hk.2.1 e4
      have hsz : osz ob = ob.2.2.length := osz4 e4
      refine yt_ic rfl rfl (fun (h : Int32.ofNat ob.1 ≠ 4) => absurd (by rw [e4]; rfl) h) (fun _ => ?_)
      refine xt_pure rfl rfl rfl rfl ?_
      refine xt_pure rfl rfl rfl rfl ?_
      refine xt_callV rfl rfl rfl rfl (xmS 0 rfl o1) ⟨rfl, rfl, yle rfl, yle rfl, yle rfl, yle rfl⟩ (ck_holds (n := osz ob) (by omega) o2) (c2 := 0) (s2 := 0) ⟨yle rfl, yle rfl⟩ ?_
      rintro _ _ (⟨rfl, hi, rfl⟩ | ⟨rfl, hi, rfl⟩)
      rotate_left
      · have hc : celV ob i j = 0 := by rw [celV, if_neg (fun h => hi h.2)]
        rw [hc]
        refine xt_pure rfl rfl rfl rfl ?_
        refine xt_pure rfl rfl rfl (st1 := .int 0 :: _) rfl ?_
        exact xt_iret rfl rfl rfl rfl ⟨rfl, rfl⟩
      · refine xt_pure rfl rfl rfl rfl ?_
        obtain ⟨r, hr⟩ : ∃ r, ob.2.2[i.toInt.toNat]? = some r := ⟨_, List.getElem?_eq_getElem (by omega)⟩
        obtain ⟨v, hv⟩ : ∃ v, rr[i.toInt.toNat]? = some v := ⟨_, List.getElem?_eq_getElem (by rw [o7 e4]; omega)⟩
        have hw := o8 _ _ _ hv hr
        have gi : gI ob.2.2 i = some r := by rw [← yi_id hi.1, gI_nat (by omega)]; exact hr
        have tj := yjn (j := i) hi.1
        refine xt_pure rfl rfl rfl rfl ?_
        refine xt_getf rfl rfl (xmS 0 rfl o4) ?_
        refine xt_pure rfl rfl rfl rfl ?_
        refine xt_aald rfl rfl ⟨by decide, rfl⟩ (xmS 0 rfl o6) tj.1 (v := v) (by rw [tj.2]; exact hv) ?_
        cases r with
        | none =>
          have hc : celV ob i j = 0 := by
            rw [celV, if_pos ⟨e4, hi⟩, gi]
            rfl
          rw [hc]
          obtain rfl : v = .null := hw
          refine xt_pure rfl rfl rfl (L1 := [_, _, _, _, _, _, _]) rfl ?_
          refine xt_pure rfl rfl rfl rfl ?_
          refine xt_pure rfl rfl rfl rfl ?_
          refine xt_pure rfl rfl rfl (st1 := .int 0 :: _) rfl ?_
          refine xt_pure rfl rfl rfl rfl ?_
          exact xt_iret rfl rfl rfl rfl ⟨rfl, rfl⟩
        | some l =>
          have hc : celV ob i j = (gI l j).getD 0 := by
            rw [celV, if_pos ⟨e4, hi⟩, gi]
            rfl
          rw [hc]
          obtain ⟨k, rfl, hl⟩ := hw
          have hl6 := hr6.2.2 l (List.mem_of_getElem? hr)
          refine xt_pure rfl rfl rfl (L1 := [_, _, _, _, _, _, _]) rfl ?_
          refine xt_pure rfl rfl rfl rfl ?_
          refine xt_pure rfl rfl rfl rfl ?_
          have out : gI l j = none → yT X 3 100 119 30 [some (.ref 78), some (.int x), some (.int y), some (.int i), some (.int j), some (.ref oa), some (.ref k)] [] D0 0 0 (fun w D => w = some (.int ((gI l j).getD 0)) ∧ D = D0) := by
            intro h
            rw [h]
            refine xt_pure rfl rfl rfl (st1 := .int 0 :: _) rfl ?_
            refine xt_pure rfl rfl rfl rfl ?_
            exact xt_iret rfl rfl rfl rfl ⟨rfl, rfl⟩
          refine xt_pure rfl rfl rfl rfl ?_
          refine yt_if rfl rfl (fun (h : Int32.toInt _ < (0 : Int)) => ?_) (fun (h : (0 : Int) ≤ Int32.toInt _) => ?_)
          · exact out (gI_out (by omega))
          · skip
            refine xt_pure rfl rfl rfl rfl ?_
            refine xt_pure rfl rfl rfl rfl ?_
            refine xt_alen rfl rfl (xmS 0 rfl hl) rfl ?_
            rw [List.length_map]
            refine yt_ic rfl rfl (fun (h2 : Int32.toInt _ < Int32.toInt _) => ?_) (fun (h2 : Int32.toInt _ ≤ Int32.toInt _) => ?_)
            rotate_left
            · rw [yi_nat (by omega)] at h2
              exact out (gI_out (by omega))
            · rw [yi_nat (by omega)] at h2
              obtain ⟨w, hw⟩ := (gI_iff (l := l)).mpr ⟨h, h2⟩
              refine xt_pure rfl rfl rfl rfl ?_
              refine xt_pure rfl rfl rfl rfl ?_
              refine xt_iald rfl rfl (xmS 0 rfl hl) (gI_some hw).2.2.2.2 (v := .int w) (gI_int hw) ?_
              rw [hw]
              exact xt_iret rfl rfl rfl rfl ⟨rfl, rfl⟩
