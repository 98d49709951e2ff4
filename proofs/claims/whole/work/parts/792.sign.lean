/-! SIGN -/
def sgR (Fs : List yF) (Dr : List yD) (x y : Int32) : Option (yD × yF) := (gI Dr x).bind fun d => (Fs[d.1]?).bind fun F => if 0 ≤ y.toInt ∧ y.toInt < F.2.2.2.1.2.2.toInt then some (d, F) else none
def sgOk (Fs : List yF) (Dr : List yD) (x y : Int32) : Prop := ∃ d F, sgR Fs Dr x y = some (d, F) ∧ d.2.2.2.1 ≠ -9 ∧ y = d.2.2.2.2
def sgV (Fs : List yF) (Dr : List yD) (x y : Int32) : Int32 := match sgR Fs Dr x y with
  | none => -1
  | some (d, F) => if d.2.2.2.1 ≠ -9 ∧ y = d.2.2.2.2 then F.2.2.2.1.2.2 - (d.2.2.2.2 + 1) else -2
theorem sgR_no1 {Fs : List yF} {Dr : List yD} {x y : Int32} (h : gI Dr x = none) : sgR Fs Dr x y = none := by unfold sgR; rw [h]; rfl
theorem sgR_no2 {Fs : List yF} {Dr : List yD} {x y : Int32} {d : yD} {F : yF} (h : gI Dr x = some d) (h2 : Fs[d.1]? = some F) (h3 : ¬ (0 ≤ y.toInt ∧ y.toInt < F.2.2.2.1.2.2.toInt)) : sgR Fs Dr x y = none := by
  unfold sgR
  rw [h, Option.bind_some, h2, Option.bind_some, if_neg h3]
theorem sgR_yes {Fs : List yF} {Dr : List yD} {x y : Int32} {d : yD} {F : yF} (h : gI Dr x = some d) (h2 : Fs[d.1]? = some F) (h3 : 0 ≤ y.toInt ∧ y.toInt < F.2.2.2.1.2.2.toInt) : sgR Fs Dr x y = some (d, F) := by
  unfold sgR
  rw [h, Option.bind_some, h2, Option.bind_some, if_pos h3]
theorem sg_none {Fs : List yF} {Dr : List yD} {x y : Int32} (h : sgR Fs Dr x y = none) : sgV Fs Dr x y = -1 ∧ ¬ sgOk Fs Dr x y := by
  refine ⟨by unfold sgV; rw [h], ?_⟩
  rintro ⟨d, F, h1, _⟩
  rw [h] at h1; cases h1
theorem sg_bad {Fs : List yF} {Dr : List yD} {x y : Int32} {d : yD} {F : yF} (h : sgR Fs Dr x y = some (d, F)) (h2 : ¬ (d.2.2.2.1 ≠ -9 ∧ y = d.2.2.2.2)) : sgV Fs Dr x y = -2 ∧ ¬ sgOk Fs Dr x y := by
  refine ⟨?_, ?_⟩
  · unfold sgV
    rw [h]
    show (if d.2.2.2.1 ≠ -9 ∧ y = d.2.2.2.2 then F.2.2.2.1.2.2 - (d.2.2.2.2 + 1) else -2) = _
    rw [if_neg h2]
  · rintro ⟨d', F', h1, h3⟩
    rw [h] at h1; cases h1
    exact h2 h3
theorem sg_ok {Fs : List yF} {Dr : List yD} {x y : Int32} {d : yD} {F : yF} (h : sgR Fs Dr x y = some (d, F)) (h2 : d.2.2.2.1 ≠ -9 ∧ y = d.2.2.2.2) : sgV Fs Dr x y = F.2.2.2.1.2.2 - (d.2.2.2.2 + 1) ∧ sgOk Fs Dr x y := by
  refine ⟨?_, d, F, h, h2⟩
  unfold sgV
  rw [h]
  show (if d.2.2.2.1 ≠ -9 ∧ y = d.2.2.2.2 then F.2.2.2.1.2.2 - (d.2.2.2.2 + 1) else -2) = _
  rw [if_pos h2]
section SIGN
variable {X : List Int32} {D0 : List xE} {Fs : List yF} {R : List yDR} {Dr : List yD} {x y : Int32}
theorem cK_sign (hR : R.map (fun r => r.2.2.2.2.2) = Dr) (hDs : yDsC Fs R D0) : yK X 1 21 171 [.ref 78, .int x, .int y] D0 0 0 (fun a D => a = some (.int (sgV Fs Dr x y)) ∧ ((¬ sgOk Fs Dr x y ∧ D = D0) ∨ (sgOk Fs Dr x y ∧ ∃ r i, gI R x = some r ∧ D0[i]? = some (r.1, .inl (1, 6, .int r.2.2.2.2.2.2.2.2.2)) ∧ D = D0.set i (r.1, .inl (1, 6, .int (r.2.2.2.2.2.2.2.2.2 + 1)))))) := by
  refine yK.of rfl (yle rfl) (L := [_, _, _, _]) rfl ?_
  refine xt_pure rfl rfl rfl rfl ?_
  refine xt_pure rfl rfl rfl rfl ?_
  refine xt_callV rfl rfl rfl rfl (xmC 115 rfl) ⟨rfl, rfl, yle rfl, yle rfl, yle rfl, yle rfl⟩ (ck_draftAt hDs.1) (c2 := 0) (s2 := 0) ⟨yle rfl, yle rfl⟩ ?_
  rintro _ _ (⟨rfl, hg, rfl⟩ | ⟨rfl, r, hg, rfl⟩)
  · skip
    refine xt_pure rfl rfl rfl (L1 := [_, _, _, _]) rfl ?_
    refine xt_pure rfl rfl rfl rfl ?_
    refine xt_pure rfl rfl rfl rfl ?_
    refine xt_pure rfl rfl rfl (st1 := .int (-1) :: _) rfl ?_
    have hn := sg_none (Fs := Fs) (y := y) (sgR_no1 (hR ▸ gI_R0 hg))
    refine xt_iret rfl rfl rfl rfl ⟨?_, Or.inl ⟨hn.2, rfl⟩⟩
    rw [hn.1]
  · obtain ⟨d1, F, d2, d3, _⟩ := hDs.2 r (dr_mem hg)
    have hgD : gI Dr x = some r.2.2.2.2.2 := hR ▸ gI_R hg
    obtain ⟨pp, qq, f1, _⟩ := d3
    refine xt_pure rfl rfl rfl (L1 := [_, _, _, _]) rfl ?_
    refine xt_pure rfl rfl rfl rfl ?_
    refine xt_pure rfl rfl rfl rfl ?_
    refine xt_pure rfl rfl rfl rfl ?_
    refine yt_if rfl rfl ?_ ?_
    · intro (h6 : Int32.toInt _ < (0 : Int))
      refine xt_pure rfl rfl rfl (st1 := .int (-1) :: _) rfl ?_
      have hn := sg_none (sgR_no2 hgD d2 (y := y) (by omega))
      refine xt_iret rfl rfl rfl rfl ⟨?_, Or.inl ⟨hn.2, rfl⟩⟩
      rw [hn.1]
    · intro (h6 : (0 : Int) ≤ Int32.toInt _)
      refine xt_pure rfl rfl rfl rfl ?_
      refine xt_pure rfl rfl rfl rfl ?_
      refine xt_getf rfl rfl (xmS 0 rfl (ymm d1 1 rfl)) ?_
      refine xt_getf rfl rfl (xmS 0 rfl (ymm f1 15 rfl)) ?_
      refine yt_ic rfl rfl ?_ ?_
      rotate_left
      · intro (h7 : Int32.toInt _ ≤ Int32.toInt _)
        refine xt_pure rfl rfl rfl (st1 := .int (-1) :: _) rfl ?_
        have hn := sg_none (sgR_no2 hgD d2 (y := y) (by omega))
        refine xt_iret rfl rfl rfl rfl ⟨?_, Or.inl ⟨hn.2, rfl⟩⟩
        rw [hn.1]
      · intro (h7 : Int32.toInt _ < Int32.toInt _)
        have hs := sgR_yes hgD d2 ⟨h6, h7⟩
        refine xt_pure rfl rfl rfl rfl ?_
        refine xt_getf rfl rfl (xmS 0 rfl (ymm d1 5 rfl)) ?_
        refine xt_pure rfl rfl rfl (st1 := .int (-9) :: _) rfl ?_
        refine yt_ic rfl rfl ?_ ?_
        · intro (h8 : r.2.2.2.2.2.2.2.2.1 = -9)
          refine xt_pure rfl rfl rfl (st1 := .int (-2) :: _) rfl ?_
          have hn := sg_bad hs (fun hh => hh.1 h8)
          refine xt_iret rfl rfl rfl rfl ⟨?_, Or.inl ⟨hn.2, rfl⟩⟩
          rw [hn.1]
        · intro (h8 : r.2.2.2.2.2.2.2.2.1 ≠ -9)
          refine xt_pure rfl rfl rfl rfl ?_
          refine xt_pure rfl rfl rfl rfl ?_
          refine xt_getf rfl rfl (xmS 0 rfl (ymm d1 6 rfl)) ?_
          refine yt_ic rfl rfl ?_ ?_
          rotate_left
          · intro (h9 : y ≠ r.2.2.2.2.2.2.2.2.2)
            refine xt_pure rfl rfl rfl (st1 := .int (-2) :: _) rfl ?_
            have hn := sg_bad hs (fun hh => h9 hh.2)
            refine xt_iret rfl rfl rfl rfl ⟨?_, Or.inl ⟨hn.2, rfl⟩⟩
            rw [hn.1]
          · intro (h9 : y = r.2.2.2.2.2.2.2.2.2)
            have hn := sg_ok hs ⟨h8, h9⟩
            obtain ⟨i, hi⟩ : ∃ i : Nat, D0[i]? = some ((r.1, .inl (1, 6, .int r.2.2.2.2.2.2.2.2.2)) : xE) := List.mem_iff_getElem?.mp (ymm d1 6 rfl)
            have hi2 : (D0.set i (r.1, .inl (1, 6, .int (r.2.2.2.2.2.2.2.2.2 + 1))))[i]? = some (r.1, .inl (1, 6, .int (r.2.2.2.2.2.2.2.2.2 + 1))) := List.getElem?_set_self (List.getElem?_eq_some_iff.mp hi).1
            have keep : ∀ e : xE, e ∈ D0 → e ≠ (r.1, .inl (1, 6, .int r.2.2.2.2.2.2.2.2.2)) → e ∈ D0.set i (r.1, .inl (1, 6, .int (r.2.2.2.2.2.2.2.2.2 + 1))) := by
              intro e he hne
              obtain ⟨m, hm⟩ := List.mem_iff_getElem?.mp he
              have hmi : i ≠ m := by
                intro hh
                rw [← hh, hi] at hm
                injection hm with hm
                exact hne hm.symm
              exact List.mem_of_getElem? (i := m) (by rw [List.getElem?_set_ne hmi]; exact hm)
            refine xt_pure rfl rfl rfl rfl ?_
            refine xt_pure rfl rfl rfl rfl ?_
            refine xt_getf rfl rfl (xmS 0 rfl (ymm d1 6 rfl)) ?_
            refine xt_pure rfl rfl rfl (st1 := .int 1 :: _) rfl ?_
            refine xt_pure rfl rfl rfl rfl ?_
            refine xt_putf rfl rfl rfl rfl i hi rfl ?_
            refine xt_pure rfl rfl rfl rfl ?_
            refine xt_getf rfl rfl (xmS 0 rfl (keep _ (ymm d1 1 rfl) (by simp))) ?_
            refine xt_getf rfl rfl (xmS 0 rfl (keep _ (ymm f1 15 rfl) (by simp))) ?_
            refine xt_pure rfl rfl rfl rfl ?_
            refine xt_getf rfl rfl (xmS 0 rfl (List.mem_of_getElem? hi2)) ?_
            refine xt_pure rfl rfl rfl rfl ?_
            refine xt_iret rfl rfl rfl rfl ⟨?_, Or.inr ⟨hn.2, r, i, hg, hi, rfl⟩⟩
            rw [hn.1]
theorem mK_sign (hok : ∀ (i : Nat) F, Fs[i]? = some F → yFok F) (hFs : yFsM Fs D0) (hDs : yDsM Fs Dr D0) {k : Nat} {sg : List Int32} (hk : D0[k]? = some (242, .inr (0, sg.map Value.int))) (lsg : sg.length = 31) (hsg : ∀ (i : Nat) d, Dr[i]? = some d → sg[i]? = some d.2.2.2.2) : yK X 2 46 327 [.ref 209, .int x, .int y] D0 0 0 (fun a D => a = some (.int (sgV Fs Dr x y)) ∧ ((¬ sgOk Fs Dr x y ∧ D = D0) ∨ (sgOk Fs Dr x y ∧ D = D0.set k (242, .inr (0, (sg.set x.toInt.toNat (y + 1)).map Value.int))))) := by
  obtain ⟨fa, f1, f2, f3, f4, f5⟩ := hFs
  obtain ⟨of, fi, rc, sg0, mr, d1, d2, d3, d4, d5, d6, d7, d8, hD⟩ := hDs
  refine yK.of rfl (yle rfl) (L := [_, _, _]) rfl ?_
  refine xt_pure rfl rfl rfl rfl ?_
  refine xt_pure rfl rfl rfl rfl ?_
  refine xt_callV rfl rfl rfl rfl (xmC 176 rfl) ⟨rfl, rfl, yle rfl, yle rfl, yle rfl, yle rfl⟩ (mk_isDraft (by omega) d3) (c2 := 0) (s2 := 0) ⟨yle rfl, yle rfl⟩ ?_
  rintro _ _ (⟨rfl, hp0, rfl⟩ | ⟨rfl, hp0, rfl⟩)
  rotate_left
  · skip
    refine xt_pure rfl rfl rfl rfl ?_
    refine xt_pure rfl rfl rfl (st1 := .int (-1) :: _) rfl ?_
    have hn := sg_none (Fs := Fs) (y := y) (sgR_no1 (gI_out (l := Dr) (x := x) (by omega)))
    refine xt_iret rfl rfl rfl rfl ⟨?_, Or.inl ⟨hn.2, rfl⟩⟩
    rw [hn.1]
  · obtain ⟨d, hgD⟩ := gI_iff.mpr (show 0 ≤ x.toInt ∧ x.toInt < Dr.length from hp0)
    obtain ⟨g1, g2, g3, g4, g5⟩ := gI_some hgD
    obtain ⟨o1, ⟨F, o2⟩, o3, o4, o5, o6, o7⟩ := hD _ d g3
    obtain ⟨a, ha⟩ := yfa o2 f1
    obtain ⟨nm1, nm2⟩ := yform o2 ha f1 f2
    obtain ⟨pp, qq, nm, fn, vl, fE, _⟩ := f5 _ F a o2 ha
    have hs31 := hsg _ d g3
    obtain ⟨_, _, _, _, _, _, _, _, hs5, _⟩ := hok _ F o2
    have hs1 : (F.2.2.2.1.2.2 - 1).toInt = F.2.2.2.1.2.2.toInt - 1 := by
      rw [Int32.toInt_sub, show (1 : Int32).toInt = 1 from rfl]
      exact Int.bmod_eq_of_le (by omega) (by omega)
    refine xt_pure rfl rfl rfl rfl ?_
    refine xt_pure rfl rfl rfl rfl ?_
    refine xt_pure rfl rfl rfl rfl ?_
    refine xt_pure rfl rfl rfl (st1 := .long 0 :: _) rfl ?_
    refine xt_pure rfl rfl rfl rfl ?_
    refine xt_getf rfl rfl (xmC 177 rfl) ?_
    refine xt_pure rfl rfl rfl rfl ?_
    refine xt_getf rfl rfl (xmC 187 rfl) ?_
    refine xt_pure rfl rfl rfl rfl ?_
    refine xt_iald rfl rfl (xmS 0 rfl d4) g5 (v := .int (Int32.ofNat d.1)) (by rw [g4, List.getElem?_map, o1]; rfl) ?_
    refine xt_aald rfl rfl ⟨by decide, rfl⟩ (xmS 0 rfl f4) nm1 (v := .ref a) nm2 ?_
    refine xt_getf rfl rfl (xmS 0 rfl (ymm fE 16 rfl)) ?_
    refine xt_pure rfl rfl rfl (st1 := .int 1 :: _) rfl ?_
    refine xt_pure rfl rfl rfl rfl ?_
    refine xt_pure rfl rfl rfl rfl ?_
    refine xt_callS rfl rfl (by decide) rfl ⟨rfl, yle rfl, yle rfl, yle rfl, yle rfl⟩ mk_in (c2 := 0) (s2 := 0) ⟨yle rfl, yle rfl⟩ ?_
    rintro _ _ (⟨rfl, hy, rfl⟩ | ⟨rfl, hy, rfl⟩)
    rotate_left
    · rw [y6432, y6432, y64_0, hs1] at hy
      refine xt_pure rfl rfl rfl rfl ?_
      refine xt_pure rfl rfl rfl (st1 := .int (-1) :: _) rfl ?_
      have hn := sg_none (sgR_no2 hgD o2 (y := y) (by omega))
      refine xt_iret rfl rfl rfl rfl ⟨?_, Or.inl ⟨hn.2, rfl⟩⟩
      rw [hn.1]
    · rw [y6432, y6432, y64_0, hs1] at hy
      have hs := sgR_yes hgD o2 (y := y) (by omega)
      refine xt_pure rfl rfl rfl rfl ?_
      refine xt_pure rfl rfl rfl rfl ?_
      refine xt_getf rfl rfl (xmC 189 rfl) ?_
      refine xt_pure rfl rfl rfl rfl ?_
      refine xt_bald rfl rfl (by decide) (xmS 0 rfl d5) g5 (v := .int (if d.2.2.2.1 = -9 then 0 else 1)) (by rw [g4, List.getElem?_map, o3]; rfl) ?_
      by_cases h8 : d.2.2.2.1 = -9
      · rw [if_pos h8]
        refine xt_pure rfl rfl rfl rfl ?_
        refine xt_pure rfl rfl rfl (st1 := .int (-2) :: _) rfl ?_
        have hn := sg_bad hs (fun hh => hh.1 h8)
        refine xt_iret rfl rfl rfl rfl ⟨?_, Or.inl ⟨hn.2, rfl⟩⟩
        rw [hn.1]
      · rw [if_neg h8]
        refine xt_pure rfl rfl rfl rfl ?_
        refine xt_pure rfl rfl rfl rfl ?_
        refine xt_getf rfl rfl (xmC 191 rfl) ?_
        refine xt_pure rfl rfl rfl rfl ?_
        refine xt_iald rfl rfl (xmS 0 rfl (List.mem_of_getElem? hk)) g5 (v := .int d.2.2.2.2) (by rw [g4, List.getElem?_map, hs31]; rfl) ?_
        refine xt_pure rfl rfl rfl rfl ?_
        refine yt_ic rfl rfl ?_ ?_
        rotate_left
        · intro (h9 : d.2.2.2.2 ≠ y)
          refine xt_pure rfl rfl rfl (st1 := .int (-2) :: _) rfl ?_
          have hn := sg_bad hs (fun hh => h9 hh.2.symm)
          refine xt_iret rfl rfl rfl rfl ⟨?_, Or.inl ⟨hn.2, rfl⟩⟩
          rw [hn.1]
        · intro (h9 : d.2.2.2.2 = y)
          have hn := sg_ok hs ⟨h8, h9.symm⟩
          have hi2 : (D0.set k (242, .inr (0, (sg.set x.toInt.toNat (y + 1)).map Value.int)))[k]? = some (242, .inr (0, (sg.set x.toInt.toNat (y + 1)).map Value.int)) := List.getElem?_set_self (List.getElem?_eq_some_iff.mp hk).1
          have keep : ∀ e : xE, e ∈ D0 → e ≠ (242, .inr (0, sg.map Value.int)) → e ∈ D0.set k (242, .inr (0, (sg.set x.toInt.toNat (y + 1)).map Value.int)) := by
            intro e he hne
            obtain ⟨m, hm⟩ := List.mem_iff_getElem?.mp he
            have hmi : k ≠ m := by
              intro hh
              rw [← hh, hk] at hm
              injection hm with hm
              exact hne hm.symm
            exact List.mem_of_getElem? (i := m) (by rw [List.getElem?_set_ne hmi]; exact hm)
          refine xt_pure rfl rfl rfl rfl ?_
          refine xt_getf rfl rfl (xmC 191 rfl) ?_
          refine xt_pure rfl rfl rfl rfl ?_
          refine xt_pure rfl rfl rfl rfl ?_
          refine xt_iald rfl rfl (xmS 0 rfl (List.mem_of_getElem? hk)) g5 (v := .int d.2.2.2.2) (by rw [g4, List.getElem?_map, hs31]; rfl) ?_
          refine xt_pure rfl rfl rfl (st1 := .int 1 :: _) rfl ?_
          refine xt_pure rfl rfl rfl rfl ?_
          rw [h9]
          refine yt_ist rfl rfl k hk ⟨by omega, by omega⟩ rfl ?_
          refine xt_pure rfl rfl rfl rfl ?_
          refine xt_getf rfl rfl (xmC 177 rfl) ?_
          refine xt_pure rfl rfl rfl rfl ?_
          refine xt_getf rfl rfl (xmC 187 rfl) ?_
          refine xt_pure rfl rfl rfl rfl ?_
          refine xt_iald rfl rfl (xmS 0 rfl (keep _ d4 (by simp))) g5 (v := .int (Int32.ofNat d.1)) (by rw [g4, List.getElem?_map, o1]; rfl) ?_
          refine xt_aald rfl rfl ⟨by decide, rfl⟩ (xmS 0 rfl (keep _ f4 (by simp))) nm1 (v := .ref a) nm2 ?_
          refine xt_getf rfl rfl (xmS 0 rfl (keep _ (ymm fE 16 rfl) (by simp))) ?_
          refine xt_pure rfl rfl rfl rfl ?_
          refine xt_getf rfl rfl (xmC 191 rfl) ?_
          refine xt_pure rfl rfl rfl rfl ?_
          refine xt_iald rfl rfl (xmS 0 rfl (List.mem_of_getElem? hi2)) g5 (v := .int (y + 1)) (by rw [g4, List.getElem?_map, List.getElem?_set_self (by omega)]; rfl) ?_
          refine xt_pure rfl rfl rfl rfl ?_
          refine xt_iret rfl rfl rfl rfl ⟨?_, Or.inr ⟨hn.2, rfl⟩⟩
          rw [hn.1, h9]
end SIGN
