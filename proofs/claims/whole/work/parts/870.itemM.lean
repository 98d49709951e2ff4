/-! ITEM: the reference -/
theorem mi_end {X : List Int32} {D0 : List xE} {ob : yO} {x y i : Int32} {oa : Nat} {w V : Int64} (k7 : ob.1 ≤ 7) (m1 : ((oa, .inl (13, 0, .int (Int32.ofNat ob.1))) : xE) ∈ D0) (hn : 3 < ob.1 → w.toInt < 0 → V = -9) (hs : ob.1 ≤ 3 ∨ 0 ≤ w.toInt → V = w) : yT X 4 100 276 50 [some (.ref 209), some (.int x), some (.int y), some (.int i), some (.ref oa), none, none] [.long w] D0 0 0 (fun w D => w = some (.long V) ∧ D = D0) := by
  have t3 : (3 : Int32).toInt = 3 := rfl
  have t0 : (0 : Int64).toInt = 0 := rfl
  refine xt_pure rfl rfl rfl (L1 := [_, _, _, _, _, _, _]) rfl ?_
  refine xt_pure rfl rfl rfl rfl ?_
  refine xt_getf rfl rfl (xmS 0 rfl m1) ?_
  refine xt_pure rfl rfl rfl (st1 := .int 3 :: _) rfl ?_
  refine yt_ic rfl rfl (fun (h : (Int32.ofNat ob.1).toInt ≤ (3 : Int32).toInt) => ?_) (fun (h : (3 : Int32).toInt < (Int32.ofNat ob.1).toInt) => ?_)
  · rw [yi_nat (by omega), t3] at h
    rw [hs (.inl (by omega))]
    refine xt_pure rfl rfl rfl rfl ?_
    exact xt_lret rfl rfl rfl ⟨rfl, rfl⟩
  · rw [yi_nat (by omega), t3] at h
    refine xt_pure rfl rfl rfl rfl ?_
    refine xt_pure rfl rfl rfl (st1 := .long 0 :: _) rfl ?_
    refine yt_lc rfl rfl rfl (fun (h2 : (0 : Int64).toInt ≤ w.toInt) => ?_) (fun (h2 : w.toInt < (0 : Int64).toInt) => ?_)
    · rw [hs (.inr (by omega))]
      refine xt_pure rfl rfl rfl rfl ?_
      exact xt_lret rfl rfl rfl ⟨rfl, rfl⟩
    · rw [hn (by omega) (by omega)]
      refine xt_pure rfl rfl rfl (st1 := .long (-9) :: _) rfl ?_
      refine xt_pure rfl rfl rfl rfl ?_
      exact xt_lret rfl rfl rfl ⟨rfl, rfl⟩
theorem mR_item {X : List Int32} {D0 : List xE} {Fs : List yF} {Dr : List yD} {En : List (Int64 × Int32)} {x y i : Int32} (hE : En.length ≤ 100) (hok : ∀ (i : Nat) F, Fs[i]? = some F → F.1.length ≤ 20) (hFs : yFsM Fs D0) (hDs : yDsM Fs Dr D0) (hans : ∀ x y ob, answ Fs Dr x y = some (some ob) → yOk En ob) : yK X 4 100 276 [.ref 209, .int x, .int y, .int i] D0 0 0 (fun w D => w = some (.long (itemV Fs Dr x y i)) ∧ D = D0) := by
  have hDs0 := hDs
  obtain ⟨of, fi, rc, sg, mr, d1, d2, d3, d4, d5, d6, d7, d8, hD⟩ := hDs
  refine yK.of rfl (yle rfl) (L := [_, _, _, _, _, _, _]) rfl ?_
  refine xt_pure rfl rfl rfl rfl ?_
  refine xt_pure rfl rfl rfl rfl ?_
  refine xt_pure rfl rfl rfl rfl ?_
  refine xt_callV rfl rfl rfl rfl (xmC 176 rfl) ⟨rfl, rfl, yle rfl, yle rfl, yle rfl, yle rfl⟩ (mk_isAnswer hok hFs hDs0) (c2 := 0) (s2 := 0) ⟨yle rfl, yle rfl⟩ ?_
  rintro _ _ (⟨rfl, ⟨⟨d, F, P⟩, ht0⟩, rfl⟩ | ⟨rfl, ht0, rfl⟩)
  rotate_left
  · have hv : itemV Fs Dr x y i = -100 := by rw [itemV, answ_none3 ht0]
    rw [hv]
    refine xt_pure rfl rfl rfl rfl ?_
    refine xt_pure rfl rfl rfl rfl ?_
    refine xt_pure rfl rfl rfl (L1 := [_, _, _, _, _, _, _]) rfl ?_
    refine xt_pure rfl rfl rfl rfl ?_
    refine xt_pure rfl rfl rfl rfl ?_
    refine xt_pure rfl rfl rfl (st1 := .long (-100) :: _) rfl ?_
    exact xt_lret rfl rfl rfl ⟨rfl, rfl⟩
  · obtain ⟨t1, t2, t3⟩ := ansP_inv ht0
    obtain ⟨b1, b2, b3, b4⟩ := askP_some t3
    obtain ⟨c1, c2, c3, -, -⟩ := gI_some t1
    obtain ⟨o1, -, o3, o4, o5, o6, o7⟩ := hD _ d c3
    have b5 := hok _ _ t2
    refine xt_pure rfl rfl rfl rfl ?_
    refine xt_pure rfl rfl rfl rfl ?_
    refine xt_getf rfl rfl (xmC 188 rfl) ?_
    refine xt_pure rfl rfl rfl (st1 := .int 20 :: _) rfl ?_
    refine xt_pure rfl rfl rfl rfl ?_
    refine xt_pure rfl rfl rfl rfl ?_
    refine xt_pure rfl rfl rfl rfl ?_
    refine xt_pure rfl rfl rfl rfl ?_
    have hj : (20 * x + y).toInt = 20 * x.toInt + y.toInt := by
      have em : (20 * x).toInt = 20 * x.toInt := yi_mul (x := 20) (by simp only [Int32.reduceToInt]; omega) (by simp only [Int32.reduceToInt]; omega)
      rw [yi_plus (by rw [em]; omega) (by rw [em]; omega), em]
    refine yt_ald rfl rfl ⟨by decide, rfl⟩ (xmS 0 rfl d8) ⟨by rw [hj]; omega, by rw [hj]; omega⟩ ?_
    intro x1 hx1
    rw [hj, show (20 * x.toInt + y.toInt).toNat = 20 * x.toInt.toNat + y.toInt.toNat by omega] at hx1
    obtain ⟨z, hz⟩ := ynth (l := d.2.1) (x := y) (by omega)
    obtain ⟨v, v1, v2⟩ := o7 _ _ hz
    cases v1.symm.trans hx1
    have ha := answ_some t1 t2 t3 hz
    refine xt_pure rfl rfl rfl rfl ?_
    rcases z with _ | ob
    · obtain rfl : _ = Value.null := v2
      have hv : itemV Fs Dr x y i = -100 := by rw [itemV, ha]
      rw [hv]
      refine xt_pure rfl rfl rfl (L1 := [_, _, _, _, _, _, _]) rfl ?_
      refine xt_pure rfl rfl rfl rfl ?_
      refine xt_pure rfl rfl rfl rfl ?_
      refine xt_pure rfl rfl rfl (st1 := .long (-100) :: _) rfl ?_
      exact xt_lret rfl rfl rfl ⟨rfl, rfl⟩
    · obtain ⟨oa, rfl, ia, ra, ca, jk, rs, cs, m1, m2, m3, m4, m5, m6, m7, m8, m9, m10, m11, m12, m13⟩ := v2
      have hk := hans _ _ _ ha
      have hz12 := osz_le hk.1 hk.2.1 hk.2.2.1
      have hv : itemV Fs Dr x y i = itmV ob i := by rw [itemV, ha]
      rw [hv]
      refine xt_pure rfl rfl rfl (L1 := [_, _, _, _, _, _, _]) rfl ?_
      refine xt_pure rfl rfl rfl rfl ?_
      refine xt_pure rfl rfl rfl rfl ?_
      refine xt_pure rfl rfl rfl rfl ?_
      refine xt_pure rfl rfl rfl rfl ?_
      refine xt_pure rfl rfl rfl (st1 := .long (-1) :: _) rfl ?_
      refine xt_pure rfl rfl rfl rfl ?_
      refine xt_getf rfl rfl (xmS 0 rfl m2) ?_
      refine xt_pure rfl rfl rfl (st1 := .int 1 :: _) rfl ?_
      refine xt_pure rfl rfl rfl rfl ?_
      refine xt_pure rfl rfl rfl rfl ?_
      have tsz : (Int32.ofNat (osz ob) - 1).toInt = (osz ob : Int) - 1 := la_int (by omega)
      refine xt_callS rfl rfl (by decide) rfl ⟨rfl, yle rfl, yle rfl, yle rfl, yle rfl⟩ mk_in (c2 := 0) (s2 := 0) ⟨yle2, yle2⟩ ?_
      rw [y6432, y6432, tsz, show (-1 : Int64).toInt = -1 from rfl]
      rintro _ _ (⟨rfl, hi, rfl⟩ | ⟨rfl, hi, rfl⟩)
      rotate_left
      · refine xt_pure rfl rfl rfl rfl ?_
        rw [show itmV ob i = -100 by rw [itmV, if_neg (by omega), if_pos (by omega)]]
        refine xt_pure rfl rfl rfl (st1 := .long (-100) :: _) rfl ?_
        exact xt_lret rfl rfl rfl ⟨rfl, rfl⟩
      · refine xt_pure rfl rfl rfl rfl ?_
        refine xt_pure rfl rfl rfl rfl ?_
        have t00 : (0 : Int32).toInt = 0 := rfl
        refine yt_if rfl rfl (fun (h : (0 : Int32).toInt ≤ i.toInt) => ?_) (fun (h : i.toInt < (0 : Int32).toInt) => ?_)
        rotate_left
        · rw [show itmV ob i = (Int32.ofNat (osz ob)).toInt64 by rw [itmV, if_pos (by omega)]]
          refine xt_pure rfl rfl rfl rfl ?_
          refine xt_getf rfl rfl (xmS 0 rfl m2) ?_
          refine xt_pure rfl rfl rfl rfl ?_
          exact xt_lret rfl rfl rfl ⟨rfl, rfl⟩
        · have hi2 : 0 ≤ i.toInt ∧ i.toInt < osz ob := by omega
          have tj := yjn (j := i) hi2.1
          refine xt_pure rfl rfl rfl rfl ?_
          refine xt_getf rfl rfl (xmS 0 rfl m1) ?_
          refine xt_pure rfl rfl rfl (st1 := .int 4 :: _) rfl ?_
          by_cases e4 : ob.1 = 4
          · have hr6 := hk.2.1 e4
            have hsz : osz ob = ob.2.2.length := osz4 e4
            obtain ⟨r, hr⟩ : ∃ r, ob.2.2[i.toInt.toNat]? = some r := ⟨_, List.getElem?_eq_getElem (by omega)⟩
            have gi : gI ob.2.2 i = some r := by rw [← yi_id hi2.1, gI_nat (by omega)]; exact hr
            have iv : itmV ob i = rowV r := by rw [itmV, if_neg (by omega), if_neg (fun h => h hi2), if_pos e4, gi]; rfl
            refine yt_ic rfl rfl (fun (h : Int32.ofNat ob.1 ≠ 4) => absurd (by rw [e4]; rfl) h) (fun _ => ?_)
            refine xt_pure rfl rfl rfl rfl ?_
            refine xt_getf rfl rfl (xmS 0 rfl m4) ?_
            refine xt_pure rfl rfl rfl rfl ?_
            refine xt_iald rfl rfl (xmS 0 rfl m8) tj.1 (v := .int (rsz r)) (by rw [tj.2, List.getElem?_map, m12 _ _ hr]; rfl) ?_
            refine xt_pure rfl rfl rfl rfl ?_
            refine xt_pure rfl rfl rfl rfl ?_
            rw [iv]
            cases r with
            | none => exact mi_end hk.1 m1 (fun _ _ => rfl) (fun h => absurd h (by rw [y6432]; exact fun h => h.elim (fun h => by omega) (fun h => absurd h (by decide))))
            | some l =>
              have hl6 := hr6.2.2 l (List.mem_of_getElem? hr)
              exact mi_end hk.1 m1 (fun _ h => absurd h (by rw [y6432]; show ¬ (Int32.ofNat l.length).toInt < 0; rw [yi_nat (by omega)]; omega)) (fun _ => rfl)
          · have hsz : osz ob = ob.2.1.length := osz_n4 e4
            have h12 := (hk.2.2.1 e4).2
            obtain ⟨v, hv⟩ : ∃ v, ob.2.1[i.toInt.toNat]? = some v := ⟨_, List.getElem?_eq_getElem (by omega)⟩
            have gi : gI (cit ob) i = some (if ob.1 = 5 ∨ ob.1 = 6 then cnv v else v) := by
              rw [← yi_id hi2.1, gI_nat (by omega)]
              have := cit_ix (jk := []) hv
              rwa [List.append_nil] at this
            have iv : itmV ob i = if ob.1 = 5 ∨ ob.1 = 6 then cnv v else v := by rw [itmV, if_neg (by omega), if_neg (fun h => h hi2), if_neg e4, gi]; rfl
            refine yt_ic rfl rfl (fun _ => ?_) (fun (h : Int32.ofNat ob.1 = 4) => absurd (yi_inj (b := 4) (by have := hk.1; omega) (by omega) h) e4)
            refine xt_pure rfl rfl rfl rfl ?_
            refine xt_getf rfl rfl (xmS 0 rfl m3) ?_
            refine xt_pure rfl rfl rfl rfl ?_
            refine xt_lald rfl rfl (xmS 0 rfl m6) tj.1 (v := .long v) (by rw [tj.2, List.getElem?_map, List.getElem?_append_left (by omega), hv]; rfl) ?_
            have mem := List.mem_of_getElem? hv
            have nn : ∀ n : Nat, n < En.length → ¬ (Int64.ofNat n).toInt < 0 := fun n h => by rw [Int64.toInt_ofNat_of_lt (by omega)]; omega
            have nz : ∀ n : Nat, n < En.length → ¬ Int64.ofNat n = -1 := fun n h e => nn n h (by rw [e]; decide)
            have k56 : ob.1 = 5 ∨ ob.1 = 6 → v = -1 ∨ ∃ n, n < En.length ∧ v = Int64.ofNat n := by
              rintro (e | e)
              · exact hk.2.2.2.2.1 e v mem
              · rcases hk.2.2.2.2.2.1 e v mem with h | ⟨n, p, h1, -, h3⟩
                · exact .inl h
                · exact .inr ⟨n, (List.getElem?_eq_some_iff.mp h1).1, h3⟩
            rw [iv]
            refine mi_end hk.1 m1 (fun h3 h0 => ?_) (fun h => ?_)
            · by_cases e56 : ob.1 = 5 ∨ ob.1 = 6
              · rw [if_pos e56]
                rcases k56 e56 with rfl | ⟨n, h1, rfl⟩
                · rfl
                · exact absurd h0 (nn n h1)
              · obtain ⟨n, h1, h2⟩ := hk.2.2.2.1 (by have := hk.1; omega)
                rw [h2] at mem
                obtain rfl := List.mem_singleton.mp mem
                exact absurd h0 (nn n h1)
            · by_cases e56 : ob.1 = 5 ∨ ob.1 = 6
              · rw [if_pos e56]
                rcases k56 e56 with rfl | ⟨n, h1, rfl⟩
                · exact absurd h (by rintro (h | h); omega; exact absurd h (by decide))
                · rw [cnv, if_neg (nz n h1)]
              · rw [if_neg e56]
