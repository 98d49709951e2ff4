/-! CELLOF: the reference -/
theorem mc_tail {X : List Int32} {D0 : List xE} {ob : yO} {x y i j : Int32} {oa ra ca : Nat} {rs cs : List Int32} {r : Option (List Int32)} {V : Int32} (l20 : V = 0 → yT X 4 100 277 53 [some (.ref 209), some (.int x), some (.int y), some (.int i), some (.int j), some (.ref oa)] [] D0 0 0 (fun w D => w = some (.int V) ∧ D = D0)) (hi2 : 0 ≤ i.toInt ∧ i.toInt < osz ob) (ho : osz ob ≤ 6) (hr : ob.2.2[i.toInt.toNat]? = some r) (hrs : rs[i.toInt.toNat]? = some (rsz r)) (m4 : ((oa, .inl (13, 3, .ref ra)) : xE) ∈ D0) (m5 : ((oa, .inl (13, 4, .ref ca)) : xE) ∈ D0) (m8 : ((ra, .inr (0, rs.map Value.int)) : xE) ∈ D0) (m10 : ((ca, .inr (0, cs.map Value.int)) : xE) ∈ D0) (h6 : ∀ l, r = some l → l.length ≤ 6) (m13 : ∀ l, r = some l → ∀ (q : Nat) w, l[q]? = some w → cs[6 * i.toInt.toNat + q]? = some w) (hn : r = none → V = 0) (hs : ∀ l, r = some l → V = (gI l j).getD 0) : yT X 4 100 277 32 [some (.ref 209), some (.int x), some (.int y), some (.int i), some (.int j), some (.ref oa)] [] D0 0 0 (fun w D => w = some (.int V) ∧ D = D0) := by
  have tj := yjn (j := i) hi2.1
  refine xt_pure rfl rfl rfl rfl ?_
  refine xt_pure rfl rfl rfl rfl ?_
  refine xt_pure rfl rfl rfl (st1 := .long 0 :: _) rfl ?_
  refine xt_pure rfl rfl rfl rfl ?_
  refine xt_getf rfl rfl (xmS 0 rfl m4) ?_
  refine xt_pure rfl rfl rfl rfl ?_
  refine xt_iald rfl rfl (xmS 0 rfl m8) tj.1 (v := .int (rsz r)) (by rw [tj.2, List.getElem?_map, hrs]; rfl) ?_
  refine xt_pure rfl rfl rfl (st1 := .int 1 :: _) rfl ?_
  refine xt_pure rfl rfl rfl rfl ?_
  refine xt_pure rfl rfl rfl rfl ?_
  cases r with
  | none =>
    refine xt_callS rfl rfl (by decide) rfl ⟨rfl, yle rfl, yle rfl, yle rfl, yle rfl⟩ mk_in (c2 := 0) (s2 := 0) ⟨yle2, yle2⟩ ?_
    rintro _ _ (⟨rfl, hj2, rfl⟩ | ⟨rfl, hj2, rfl⟩)
    · exfalso
      have h1 := hj2.1
      have h2 := hj2.2
      have e1 : (rsz none - 1).toInt64.toInt = -2 := by
        rw [y6432]
        decide
      have e2 : (0 : Int64).toInt = 0 := rfl
      rw [e1] at h2
      rw [e2] at h1
      omega
    · refine xt_pure rfl rfl rfl rfl ?_
      exact l20 (hn rfl)
  | some l =>
    have hl6 := h6 l rfl
    have hc := hs l rfl
    have tl : (Int32.ofNat l.length - 1).toInt = (l.length : Int) - 1 := la_int (lst := l.length) (by omega)
    have erz : rsz (some l) = Int32.ofNat l.length := rfl
    rw [erz]
    refine xt_callS rfl rfl (by decide) rfl ⟨rfl, yle rfl, yle rfl, yle rfl, yle rfl⟩ mk_in (c2 := 0) (s2 := 0) ⟨yle2, yle2⟩ ?_
    rw [y6432, y6432, tl, show (0 : Int64).toInt = 0 from rfl]
    rintro _ _ (⟨rfl, hj2, rfl⟩ | ⟨rfl, hj2, rfl⟩)
    rotate_left
    · refine xt_pure rfl rfl rfl rfl ?_
      exact l20 (by rw [hc, gI_out (by omega)]; rfl)
    · refine xt_pure rfl rfl rfl rfl ?_
      obtain ⟨w, hw⟩ := (gI_iff (l := l)).mpr ⟨hj2.1, by omega⟩
      rw [hc, hw]
      refine xt_pure rfl rfl rfl rfl ?_
      refine xt_getf rfl rfl (xmS 0 rfl m5) ?_
      refine xt_pure rfl rfl rfl (st1 := .int 6 :: _) rfl ?_
      refine xt_pure rfl rfl rfl rfl ?_
      refine xt_pure rfl rfl rfl rfl ?_
      refine xt_pure rfl rfl rfl rfl ?_
      refine xt_pure rfl rfl rfl rfl ?_
      have tix : (6 * i + j) = Int32.ofNat (6 * i.toInt.toNat + j.toInt.toNat) := by
        rw [show (6 : Int32) = Int32.ofNat 6 from rfl, Int32.ofNat_add, Int32.ofNat_mul, yi_id hi2.1, yi_id hj2.1]
      rw [tix]
      have tj2 := yjn (j := Int32.ofNat (6 * i.toInt.toNat + j.toInt.toNat)) (by rw [yi_nat (by omega)]; omega)
      refine xt_iald rfl rfl (xmS 0 rfl m10) tj2.1 (v := .int w) (by rw [tj2.2, yi_toNat (by omega), List.getElem?_map, m13 l rfl _ _ (gI_some hw).2.2.1]; rfl) ?_
      refine xt_pure rfl rfl rfl rfl ?_
      exact xt_iret rfl rfl rfl rfl ⟨rfl, rfl⟩
theorem mR_cellOf {X : List Int32} {D0 : List xE} {Fs : List yF} {Dr : List yD} {En : List (Int64 × Int32)} {x y i j : Int32} (hok : ∀ (i : Nat) F, Fs[i]? = some F → F.1.length ≤ 20) (hFs : yFsM Fs D0) (hDs : yDsM Fs Dr D0) (hans : ∀ x y ob, answ Fs Dr x y = some (some ob) → yOk En ob) : yK X 4 100 277 [.ref 209, .int x, .int y, .int i, .int j] D0 0 0 (fun w D => w = some (.int (cellV Fs Dr x y i j)) ∧ D = D0) := by
  have hDs0 := hDs
  obtain ⟨of, fi, rc, sg, mr, d1, d2, d3, d4, d5, d6, d7, d8, hD⟩ := hDs
  refine yK.of rfl (yle rfl) (L := [_, _, _, _, _, _]) rfl ?_
  refine xt_pure rfl rfl rfl rfl ?_
  refine xt_pure rfl rfl rfl rfl ?_
  refine xt_pure rfl rfl rfl rfl ?_
  refine xt_callV rfl rfl rfl rfl (xmC 176 rfl) ⟨rfl, rfl, yle rfl, yle rfl, yle rfl, yle rfl⟩ (mk_isAnswer hok hFs hDs0) (c2 := 0) (s2 := 0) ⟨yle rfl, yle rfl⟩ ?_
  rintro _ _ (⟨rfl, ⟨⟨d, F, P⟩, ht0⟩, rfl⟩ | ⟨rfl, ht0, rfl⟩)
  rotate_left
  · have hv : cellV Fs Dr x y i j = 0 := by rw [cellV, answ_none3 ht0]
    rw [hv]
    refine xt_pure rfl rfl rfl rfl ?_
    refine xt_pure rfl rfl rfl rfl ?_
    refine xt_pure rfl rfl rfl (L1 := [_, _, _, _, _, _]) rfl ?_
    refine xt_pure rfl rfl rfl rfl ?_
    refine xt_pure rfl rfl rfl rfl ?_
    refine xt_pure rfl rfl rfl (st1 := .int 0 :: _) rfl ?_
    exact xt_iret rfl rfl rfl rfl ⟨rfl, rfl⟩
  · obtain ⟨t1, t2, t3⟩ := ansP_inv ht0
    obtain ⟨b1, b2, b3, b4⟩ := askP_some t3
    obtain ⟨c1, c2, c3, -, -⟩ := gI_some t1
    obtain ⟨o1, -, o3, o4, o5, o6, o7⟩ := hD _ d c3
    have b5 := hok _ _ t2
    refine xt_pure rfl rfl rfl rfl ?_
    refine xt_pure rfl rfl rfl rfl ?_
    refine xt_getf rfl rfl (xmC 188 rfl) ?_
    refine xt_pure rfl rfl rfl (st1 := .int 20 :: _) rfl ?_
    refine xt_pure rfl rfl rfl rfl ?_
    refine xt_pure rfl rfl rfl rfl ?_
    refine xt_pure rfl rfl rfl rfl ?_
    refine xt_pure rfl rfl rfl rfl ?_
    have hj : (20 * x + y).toInt = 20 * x.toInt + y.toInt := by
      have em : (20 * x).toInt = 20 * x.toInt := yi_mul (x := 20) (by simp only [Int32.reduceToInt]; omega) (by simp only [Int32.reduceToInt]; omega)
      rw [yi_plus (by rw [em]; omega) (by rw [em]; omega), em]
    refine yt_ald rfl rfl ⟨by decide, rfl⟩ (xmS 0 rfl d8) ⟨by rw [hj]; omega, by rw [hj]; omega⟩ ?_
    intro x1 hx1
    rw [hj, show (20 * x.toInt + y.toInt).toNat = 20 * x.toInt.toNat + y.toInt.toNat by omega] at hx1
    obtain ⟨z, hz⟩ := ynth (l := d.2.1) (x := y) (by omega)
    obtain ⟨v, v1, v2⟩ := o7 _ _ hz
    cases v1.symm.trans hx1
    have ha := answ_some t1 t2 t3 hz
    refine xt_pure rfl rfl rfl rfl ?_
    rcases z with _ | ob
    · obtain rfl : _ = Value.null := v2
      have hv : cellV Fs Dr x y i j = 0 := by rw [cellV, ha]
      rw [hv]
      refine xt_pure rfl rfl rfl (L1 := [_, _, _, _, _, _]) rfl ?_
      refine xt_pure rfl rfl rfl rfl ?_
      refine xt_pure rfl rfl rfl rfl ?_
      refine xt_pure rfl rfl rfl (st1 := .int 0 :: _) rfl ?_
      exact xt_iret rfl rfl rfl rfl ⟨rfl, rfl⟩
    · obtain ⟨oa, rfl, ia, ra, ca, jk, rs, cs, m1, m2, m3, m4, m5, m6, m7, m8, m9, m10, m11, m12, m13⟩ := v2
      have hk := hans _ _ _ ha
      have hv : cellV Fs Dr x y i j = celV ob i j := by rw [cellV, ha]
      rw [hv]
      refine xt_pure rfl rfl rfl (L1 := [_, _, _, _, _, _]) rfl ?_
      refine xt_pure rfl rfl rfl rfl ?_
      refine xt_pure rfl rfl rfl rfl ?_
      have out : celV ob i j = 0 → yT X 4 100 277 53 [some (.ref 209), some (.int x), some (.int y), some (.int i), some (.int j), some (.ref oa)] [] D0 0 0 (fun w D => w = some (.int (celV ob i j)) ∧ D = D0) := by
        intro h
        rw [h]
        refine xt_pure rfl rfl rfl (st1 := .int 0 :: _) rfl ?_
        exact xt_iret rfl rfl rfl rfl ⟨rfl, rfl⟩
      refine xt_pure rfl rfl rfl rfl ?_
      refine xt_getf rfl rfl (xmS 0 rfl m1) ?_
      refine xt_pure rfl rfl rfl (st1 := .int 4 :: _) rfl ?_
      by_cases e4 : ob.1 = 4
      rotate_left
      · refine yt_ic rfl rfl (fun _ => ?_) (fun (h : Int32.ofNat ob.1 = 4) => absurd (yi_inj (b := 4) (by have := hk.1; omega) (by omega) h) e4)
        exact out (by rw [celV, if_neg (fun h => e4 h.1)])
      · have hr6 := hk.2.1 e4
        have hsz : osz ob = ob.2.2.length := osz4 e4
        refine yt_ic rfl rfl (fun (h : Int32.ofNat ob.1 ≠ 4) => absurd (by rw [e4]; rfl) h) (fun _ => ?_)
        refine xt_pure rfl rfl rfl rfl ?_
        refine xt_pure rfl rfl rfl rfl ?_
        refine xt_pure rfl rfl rfl (st1 := .long 0 :: _) rfl ?_
        refine xt_pure rfl rfl rfl rfl ?_
        refine xt_getf rfl rfl (xmS 0 rfl m2) ?_
        refine xt_pure rfl rfl rfl (st1 := .int 1 :: _) rfl ?_
        refine xt_pure rfl rfl rfl rfl ?_
        refine xt_pure rfl rfl rfl rfl ?_
        have tsz : (Int32.ofNat (osz ob) - 1).toInt = (osz ob : Int) - 1 := la_int (by omega)
        refine xt_callS rfl rfl (by decide) rfl ⟨rfl, yle rfl, yle rfl, yle rfl, yle rfl⟩ mk_in (c2 := 0) (s2 := 0) ⟨yle2, yle2⟩ ?_
        rw [y6432, y6432, tsz, show (0 : Int64).toInt = 0 from rfl]
        rintro _ _ (⟨rfl, hi, rfl⟩ | ⟨rfl, hi, rfl⟩)
        rotate_left
        · refine xt_pure rfl rfl rfl rfl ?_
          exact out (by rw [celV, if_neg (fun h => hi (by omega))])
        · refine xt_pure rfl rfl rfl rfl ?_
          have hi2 : 0 ≤ i.toInt ∧ i.toInt < osz ob := by omega
          obtain ⟨r, hr⟩ : ∃ r, ob.2.2[i.toInt.toNat]? = some r := ⟨_, List.getElem?_eq_getElem (by omega)⟩
          have gi : gI ob.2.2 i = some r := by rw [← yi_id hi2.1, gI_nat (by omega)]; exact hr
          have tj := yjn (j := i) hi2.1
          exact mc_tail (l20 := out) hi2 (by omega) hr (m12 _ _ hr) m4 m5 m8 m10 (fun l e => hr6.2.2 l (by rw [← e]; exact List.mem_of_getElem? hr)) (fun l e q w hw => m13 _ _ _ _ (by rw [hr, e]) hw) (fun e => by rw [celV, if_pos ⟨e4, hi2⟩, gi, e]; rfl) (fun l e => by rw [celV, if_pos ⟨e4, hi2⟩, gi, e]; rfl)
