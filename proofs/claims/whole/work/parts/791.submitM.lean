/-! SUBMIT: the reference -/
section MSUBMIT
variable {X : List Int32} {D1 : List xE} {Fs : List yF} {Dr : List yD} {As : List (List (Option yO))} {En : List (Int64 × Int32)} {K : Nat} {Q S : zS} {w : yW} {sh : List Bool} {fd : List yFd} {u : Value} {d0 x y : Int32}
def QsM (Fs : List yF) (Dr : List yD) (En : List (Int64 × Int32)) (K : Nat) (S : zS) (w : yW) (u : Value) (x y : Int32) (D1 : List xE) (j k1 k2 : Nat) (n0 : Int32) (fi rc : List Int32) (a : Option Value) (D : List xE) : Prop := (gI Dr x = none ∧ a = some (.int (-1)) ∧ D = EM S u D1) ∨ (∃ d, gI Dr x = some d ∧ ¬ (0 ≤ y.toInt ∧ y.toInt ≤ 9999) ∧ a = some (.int (-1)) ∧ D = EM S u D1) ∨ (∃ d, gI Dr x = some d ∧ (0 ≤ y.toInt ∧ y.toInt ≤ 9999) ∧ 10000 ≤ w.1.toInt ∧ a = some (.int (-3)) ∧ D = EM S u D1) ∨ (∃ d, gI Dr x = some d ∧ (0 ≤ y.toInt ∧ y.toInt ≤ 9999) ∧ ¬ 10000 ≤ w.1.toInt ∧ d.2.2.2.1 ≠ -9 ∧ a = some (.int (-2)) ∧ D = EM S u D1) ∨ (∃ d F, gI Dr x = some d ∧ (0 ≤ y.toInt ∧ y.toInt ≤ 9999) ∧ ¬ 10000 ≤ w.1.toInt ∧ d.2.2.2.1 = -9 ∧ Fs[d.1]? = some F ∧ (F.2.2.2.1.2.1 ≠ -9 ∧ F.2.2.2.1.2.1.toInt < y.toInt) ∧ a = some (.int (-4)) ∧ D = EM S u D1) ∨ ∃ d F fa S', gI Dr x = some d ∧ (0 ≤ y.toInt ∧ y.toInt ≤ 9999) ∧ ¬ 10000 ≤ w.1.toInt ∧ d.2.2.2.1 = -9 ∧ Fs[d.1]? = some F ∧ ¬ (F.2.2.2.1.2.1 ≠ -9 ∧ F.2.2.2.1.2.1.toInt < y.toInt) ∧ R0 S' (inspR F d.2.1 En K w.1).1 x ∧ insM S' S' (inspR F d.2.1 En K w.1).2.1 (inspR F d.2.1 En K w.1).2.2 ∧ lsM S' (inspR F d.2.1 En K w.1).2.2 ∧ (zI S' 7 = (inspR F d.2.1 En K w.1).1.2.1 ∧ zI S' 8 = (inspR F d.2.1 En K w.1).1.2.2.1 ∧ zI S' 9 = -9) ∧ zJ S' 10 = zJ S 10 ∧ (inspR F d.2.1 En K w.1).2.2.length ≤ 32 ∧ (((inspR F d.2.1 En K w.1).2.2 ≠ [] ∧ a = some (.int (-10 - Int32.ofNat (inspR F d.2.1 En K w.1).2.2.length)) ∧ D = EM S' (.ref fa) D1) ∨ ((inspR F d.2.1 En K w.1).2.2 = [] ∧ a = some (.int (n0 + 1)) ∧ D = EM S' (.ref fa) (((D1.set j (209, .inl (14, 65, .int (n0 + 1)))).set k1 (240, .inr (3, (fi.set x.toInt.toNat 1).map Value.int))).set k2 (241, .inr (0, (rc.set x.toInt.toNat (n0 + 1)).map Value.int)))))
theorem mK_submit (hKe : K = 300) (hR : DrM Fs Dr As En D1) (hW : R9 S w d0) (hI : insM Q S sh fd) (l18 : (zA S 18).length = 200) {j k1 k2 : Nat} {n0 : Int32} {fi rc : List Int32} (hj : D1[j]? = some (209, .inl (14, 65, .int n0))) (hk1 : D1[k1]? = some (240, .inr (3, fi.map Value.int))) (hk2 : D1[k2]? = some (241, .inr (0, rc.map Value.int))) (lf : fi.length = 31) (lr : rc.length = 31) (hfi : ∀ (i : Nat) d, Dr[i]? = some d → fi[i]? = some (if d.2.2.2.1 = -9 then 0 else 1)) : yK X 1200 33000 324 [.ref 209, .int x, .int y] (EM S u D1) 0 0 (QsM Fs Dr En K S w u x y D1 j k1 k2 n0 fi rc) := by
  have h0 := hW.fl0.1
  refine yK.of rfl (yle rfl) (L := [_, _, _, _]) rfl ?_
  refine xt_pure rfl rfl rfl rfl ?_
  refine xt_pure rfl rfl rfl rfl ?_
  refine xt_callV rfl rfl rfl rfl (xmC 176 rfl) ⟨rfl, rfl, yle rfl, yle rfl, yle rfl, yle rfl⟩ (mk_isDraft (n := Dr.length) (by have := hR.1; omega) (inEM hR.2.1)) (c2 := 0) (s2 := 0) ⟨yle rfl, yle rfl⟩ ?_
  rintro _ _ (⟨rfl, hd, rfl⟩ | ⟨rfl, hd, rfl⟩)
  rotate_left
  · skip
    refine xt_pure rfl rfl rfl rfl ?_
    refine xt_pure rfl rfl rfl (st1 := .int (-1) :: _) rfl ?_
    exact xt_iret rfl rfl rfl rfl (Or.inl ⟨gI_out (by omega), rfl, rfl⟩)
  · skip
    obtain ⟨d, hg⟩ := gI_iff.mpr (show 0 ≤ x.toInt ∧ x.toInt < Dr.length from hd)
    obtain ⟨g1, g2, g3, g4, g5⟩ := gI_some hg
    obtain ⟨F, fa, d2, d3⟩ := hR.2.2 _ d g3
    obtain ⟨xn, hxn⟩ : ∃ xn, x.toInt.toNat = xn := ⟨_, rfl⟩
    have hx : x = Int32.ofNat xn := by rw [← hxn]; exact (yi_id g1).symm
    rw [hxn] at d3
    have d4 := d3
    obtain ⟨⟨oF, xf, al, q1, q2, q3, q4⟩, q5, hok, _⟩ := d4
    obtain ⟨pp, qq, nm, fn, vl, f1, _⟩ := q5
    obtain ⟨_, _, _, _, _, hl20, hl12, _⟩ := hok
    rw [← hx] at q2
    obtain ⟨_, _, o3, o4, o5⟩ := gI_some q2
    obtain ⟨_, _, l3, l4, l5⟩ := gI_some q4
    have hfd := hfi _ d g3
    have h30 := hR.1
    refine xt_pure rfl rfl rfl rfl ?_
    refine xt_pure rfl rfl rfl rfl ?_
    refine xt_pure rfl rfl rfl rfl ?_
    refine xt_pure rfl rfl rfl (st1 := .long 0 :: _) rfl ?_
    refine xt_pure rfl rfl rfl (st1 := .long 9999 :: _) rfl ?_
    refine xt_callS rfl rfl (by decide) rfl ⟨rfl, yle rfl, yle rfl, yle rfl, yle rfl⟩ mk_in (c2 := 0) (s2 := 0) ⟨yle rfl, yle rfl⟩ ?_
    rintro _ _ (⟨rfl, hy, rfl⟩ | ⟨rfl, hy, rfl⟩)
    rotate_left
    · rw [y6432, y64_0, show (9999 : Int64).toInt = 9999 from rfl] at hy
      refine xt_pure rfl rfl rfl rfl ?_
      refine xt_pure rfl rfl rfl (st1 := .int (-1) :: _) rfl ?_
      exact xt_iret rfl rfl rfl rfl (Or.inr (Or.inl ⟨d, hg, hy, rfl, rfl⟩))
    · rw [y6432, y64_0, show (9999 : Int64).toInt = 9999 from rfl] at hy
      refine xt_pure rfl rfl rfl rfl ?_
      refine xt_pure rfl rfl rfl rfl ?_
      refine xt_callV rfl rfl rfl rfl (xmC 176 rfl) ⟨rfl, rfl, yle rfl, yle rfl, yle rfl, yle rfl⟩ (mk_isSpent (fl := zI S 0) (List.mem_of_getElem? (i := 0) rfl)) (c2 := 0) (s2 := 0) ⟨yle rfl, yle rfl⟩ ?_
      rintro _ _ (⟨rfl, hf, rfl⟩ | ⟨rfl, hf, rfl⟩)
      · rw [h0] at hf
        refine xt_pure rfl rfl rfl rfl ?_
        refine xt_pure rfl rfl rfl (st1 := .int (-3) :: _) rfl ?_
        exact xt_iret rfl rfl rfl rfl (Or.inr (Or.inr (Or.inl ⟨d, hg, hy, hf, rfl, rfl⟩)))
      · rw [h0] at hf
        refine xt_pure rfl rfl rfl rfl ?_
        refine xt_pure rfl rfl rfl rfl ?_
        refine xt_getf rfl rfl (xmC 189 rfl) ?_
        refine xt_pure rfl rfl rfl rfl ?_
        refine xt_bald rfl rfl (by decide) (xmS 0 rfl (inEM (List.mem_of_getElem? hk1))) g5 (v := .int (if d.2.2.2.1 = -9 then 0 else 1)) (by rw [g4, List.getElem?_map, hfd]; rfl) ?_
        by_cases h8 : d.2.2.2.1 = -9
        rotate_left
        · rw [if_neg h8]
          refine xt_pure rfl rfl rfl rfl ?_
          refine xt_pure rfl rfl rfl (st1 := .int (-2) :: _) rfl ?_
          exact xt_iret rfl rfl rfl rfl (Or.inr (Or.inr (Or.inr (Or.inl ⟨d, hg, hy, hf, h8, rfl, rfl⟩))))
        · rw [if_pos h8]
          have run : ¬ (F.2.2.2.1.2.1 ≠ -9 ∧ F.2.2.2.1.2.1.toInt < y.toInt) → ∀ (L3 : Option Value), yT X 1200 33000 324 41 [some (.ref 209), some (.int x), some (.int y), L3] [] (EM S u D1) 0 0 (QsM Fs Dr En K S w u x y D1 j k1 k2 n0 fi rc) := by
            intro h9 L3
            refine xt_pure rfl rfl rfl rfl ?_
            refine xt_pure rfl rfl rfl rfl ?_
            have ff := mk_findAll (X := X) (uu := u) hKe d3 hW hI
            rw [← hx] at ff
            refine xt_callV rfl rfl rfl rfl (xmC 176 rfl) ⟨rfl, rfl, yle rfl, yle rfl, yle rfl, yle rfl⟩ ff (c2 := 0) (s2 := 0) ⟨yle rfl, yle rfl⟩ ?_
            rintro _ _ ⟨S1, rfl, rfl, e1, e2, e3⟩
            refine xt_pure rfl rfl rfl rfl ?_
            have l18' : (zA S1 18).length = 200 := by rw [e2.2.2.2.2.2.2.2.2.2, ← hI.2.2.2.2.2.2.2.2.2]; exact l18
            refine xt_callV rfl rfl rfl rfl (xmC 176 rfl) ⟨rfl, rfl, yle rfl, yle rfl, yle rfl, yle rfl⟩ (mk_keepFindings d3 e1 e2 e3 l18') (c2 := 0) (s2 := 0) ⟨yle rfl, yle rfl⟩ ?_
            rintro _ _ ⟨S', rfl, rfl, m1, m2, m3, m4, m5, _⟩
            have m6 := m5.trans (e2.2.2.2.2.2.2.2.1.trans hI.2.2.2.2.2.2.2.1.symm)
            refine xt_pure rfl rfl rfl rfl ?_
            refine xt_getf rfl rfl (xmD 11 rfl) ?_
            refine yt_if rfl rfl ?_ ?_
            · intro (h10 : Int32.toInt (zI S' 11) ≤ (0 : Int))
              rw [m2.1, yi_nat (by omega)] at h10
              have hn : (inspR F d.2.1 En K w.1).2.2 = [] := List.eq_nil_of_length_eq_zero (by omega)
              have n1 : j ≠ k1 := by
                intro hh
                rw [hh, hk1] at hj
                simp only [Option.some.injEq, Prod.mk.injEq] at hj
                exact absurd hj.1 (by decide)
              have n2 : j ≠ k2 := by
                intro hh
                rw [hh, hk2] at hj
                simp only [Option.some.injEq, Prod.mk.injEq] at hj
                exact absurd hj.1 (by decide)
              have n3 : k1 ≠ k2 := by
                intro hh
                rw [hh, hk2] at hk1
                simp only [Option.some.injEq, Prod.mk.injEq] at hk1
                exact absurd hk1.1 (by decide)
              have j2 : (D1.set j (209, .inl (14, 65, .int (n0 + 1))))[j]? = some (209, .inl (14, 65, .int (n0 + 1))) := List.getElem?_set_self (List.getElem?_eq_some_iff.mp hj).1
              have k12 : (D1.set j (209, .inl (14, 65, .int (n0 + 1))))[k1]? = some (240, .inr (3, fi.map Value.int)) := by rw [List.getElem?_set_ne n1]; exact hk1
              have k22 : ((D1.set j (209, .inl (14, 65, .int (n0 + 1)))).set k1 (240, .inr (3, (fi.set x.toInt.toNat 1).map Value.int)))[k2]? = some (241, .inr (0, rc.map Value.int)) := by rw [List.getElem?_set_ne n3, List.getElem?_set_ne n2]; exact hk2
              have j3 : ((D1.set j (209, .inl (14, 65, .int (n0 + 1)))).set k1 (240, .inr (3, (fi.set x.toInt.toNat 1).map Value.int)))[j]? = some (209, .inl (14, 65, .int (n0 + 1))) := by rw [List.getElem?_set_ne (Ne.symm n1)]; exact j2
              have j4 : (((D1.set j (209, .inl (14, 65, .int (n0 + 1)))).set k1 (240, .inr (3, (fi.set x.toInt.toNat 1).map Value.int))).set k2 (241, .inr (0, (rc.set x.toInt.toNat (n0 + 1)).map Value.int)))[j]? = some (209, .inl (14, 65, .int (n0 + 1))) := by rw [List.getElem?_set_ne (Ne.symm n2)]; exact j3
              refine xt_pure rfl rfl rfl rfl ?_
              refine xt_pure rfl rfl rfl rfl ?_
              refine xt_getf rfl rfl (xmS 0 rfl (inEM (List.mem_of_getElem? hj))) ?_
              refine xt_pure rfl rfl rfl (st1 := .int 1 :: _) rfl ?_
              refine xt_pure rfl rfl rfl rfl ?_
              refine xt_putf rfl rfl rfl rfl (21 + j) (EM_at.trans hj) EM_set ?_
              refine xt_pure rfl rfl rfl rfl ?_
              refine xt_getf rfl rfl (xmC 189 rfl) ?_
              refine xt_pure rfl rfl rfl rfl ?_
              refine xt_pure rfl rfl rfl (st1 := .int 1 :: _) rfl ?_
              refine yt_bst rfl rfl (21 + k1) (EM_at.trans k12) (by decide) ⟨by omega, by omega⟩ EM_set ?_
              refine xt_pure rfl rfl rfl rfl ?_
              refine xt_getf rfl rfl (xmC 190 rfl) ?_
              refine xt_pure rfl rfl rfl rfl ?_
              refine xt_pure rfl rfl rfl rfl ?_
              refine xt_getf rfl rfl (xmS 0 rfl (inEM (List.mem_of_getElem? j3))) ?_
              refine yt_ist rfl rfl (21 + k2) (EM_at.trans k22) ⟨by omega, by omega⟩ EM_set ?_
              refine xt_pure rfl rfl rfl rfl ?_
              refine xt_getf rfl rfl (xmS 0 rfl (inEM (List.mem_of_getElem? j4))) ?_
              exact xt_iret rfl rfl rfl rfl (Or.inr (Or.inr (Or.inr (Or.inr (Or.inr ⟨d, F, fa, S', hg, hy, hf, h8, d2, h9, m1, m2, m3, m4, m6, e3, Or.inr ⟨hn, rfl, rfl⟩⟩)))))
            · intro (h10 : (0 : Int) < Int32.toInt (zI S' 11))
              rw [m2.1, yi_nat (by omega)] at h10
              have hn : (inspR F d.2.1 En K w.1).2.2 ≠ [] := by
                intro hh
                rw [hh] at h10
                exact absurd h10 (by decide)
              refine xt_pure rfl rfl rfl (st1 := .int (-10) :: _) rfl ?_
              refine xt_pure rfl rfl rfl rfl ?_
              refine xt_getf rfl rfl (xmD 11 rfl) ?_
              refine xt_pure rfl rfl rfl rfl ?_
              rw [m2.1]
              exact xt_iret rfl rfl rfl rfl (Or.inr (Or.inr (Or.inr (Or.inr (Or.inr ⟨d, F, fa, S', hg, hy, hf, h8, d2, h9, m1, m2, m3, m4, m6, e3, Or.inl ⟨hn, rfl, rfl⟩⟩)))))
          refine xt_pure rfl rfl rfl rfl ?_
          refine xt_pure rfl rfl rfl rfl ?_
          refine xt_getf rfl rfl (xmC 177 rfl) ?_
          refine xt_pure rfl rfl rfl rfl ?_
          refine xt_getf rfl rfl (xmC 187 rfl) ?_
          refine xt_pure rfl rfl rfl rfl ?_
          refine xt_iald rfl rfl (xmS 0 rfl (inEM q1)) o5 (v := .int xf) (by rw [o4, List.getElem?_map, o3]; rfl) ?_
          refine xt_aald rfl rfl ⟨by decide, rfl⟩ (xmS 0 rfl (inEM q3)) l5 (v := .ref fa) (by rw [l4, l3]) ?_
          refine xt_getf rfl rfl (xmS 0 rfl (inEM (ymm f1 15 rfl))) ?_
          refine xt_pure rfl rfl rfl (L1 := [_, _, _, _]) rfl ?_
          refine xt_pure rfl rfl rfl rfl ?_
          refine xt_pure rfl rfl rfl (st1 := .int (-9) :: _) rfl ?_
          refine yt_ic rfl rfl ?_ ?_
          · intro (h9 : F.2.2.2.1.2.1 = -9)
            exact run (fun hh => hh.1 h9) _
          · intro (h9 : F.2.2.2.1.2.1 ≠ -9)
            refine xt_pure rfl rfl rfl rfl ?_
            refine xt_pure rfl rfl rfl rfl ?_
            refine yt_ic rfl rfl ?_ ?_
            · intro (h10 : Int32.toInt _ ≤ Int32.toInt _)
              exact run (fun hh => by have := hh.2; omega) _
            · intro (h10 : Int32.toInt _ < Int32.toInt _)
              refine xt_pure rfl rfl rfl (st1 := .int (-4) :: _) rfl ?_
              exact xt_iret rfl rfl rfl rfl (Or.inr (Or.inr (Or.inr (Or.inr (Or.inl ⟨d, F, hg, hy, hf, h8, d2, ⟨h9, h10⟩, rfl, rfl⟩)))))
end MSUBMIT
