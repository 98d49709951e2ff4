/-! GIVE: the reference, the call -/
section GIVEM2
variable {X : List Int32} {D0 : List xE} {Fs : List yF} {Dr : List yD} {x y : Int32} {n : Nat}
theorem yVM_ob {D : List xE} {v : Value} {z : Option yO} (h : yVM D v z) : obM D v := by
  cases z with
  | none => exact Or.inl h
  | some o =>
    obtain ⟨a, h1, _, _, _, _, _, _, h2, _⟩ := h
    exact Or.inr ⟨a, _, h1, h2⟩
theorem mK_give (h20 : ∀ (i : Nat) F, Fs[i]? = some F → F.1.length ≤ 20) (hFs : yFsM Fs D0) (hDs : yDsM Fs Dr D0) (hn : n ≤ 400) {kd kp kw ku jn km : Nat} {gd gp gu : List Int32} {gw mr : List Value} (f0_0 : D0[kd]? = some (243, .inr (0, gd.map Value.int))) (f0_1 : D0[kp]? = some (244, .inr (0, gp.map Value.int))) (f0_2 : D0[kw]? = some (245, .inr (10, gw))) (f0_3 : D0[ku]? = some (246, .inr (3, gu.map Value.int))) (f0_4 : D0[jn]? = some (209, .inl (14, 32, .int (Int32.ofNat n)))) (f0_5 : D0[km]? = some (239, .inr (10, mr))) (l0 : gd.length = 400) (l1 : gp.length = 400) (l2 : gw.length = 400) (l3 : gu.length = 400) (l5 : mr.length = 620) {jh : Nat} {ov : Value} (eh : D0[jh]? = some (209, .inl (14, 23, ov))) (ob1 : obM D0 ov) (hmr : ∀ (i : Nat) d, Dr[i]? = some d → ∀ (p : Nat) z, d.2.1[p]? = some z → ∃ v, mr[20 * i + p]? = some v ∧ yVM D0 v z) : yK X 3 160 269 [.ref 209, .int x, .int y] D0 0 0 (fun a D => (ansP Fs Dr x y = none ∧ a = some (.int (-1)) ∧ D = D0) ∨ (∃ d F P, ansP Fs Dr x y = some (d, F, P) ∧ d.2.2.2.1 ≠ -9 ∧ a = some (.int (-2)) ∧ D = D0) ∨ (∃ d F P, ansP Fs Dr x y = some (d, F, P) ∧ d.2.2.2.1 = -9 ∧ n = 400 ∧ a = some (.int (-3)) ∧ D = D0) ∨ ∃ d F P v0, ansP Fs Dr x y = some (d, F, P) ∧ d.2.2.2.1 = -9 ∧ n < 400 ∧ mr[20 * x.toInt.toNat + y.toInt.toNat]? = some v0 ∧ a = some (.int (Int32.ofNat (opC (gd.set n x) (gu.set n 0) x (n + 1)))) ∧ D = ((((((D0.set kd (243, .inr (0, (gd.set n (x)).map Value.int))).set kp (244, .inr (0, (gp.set n (y)).map Value.int))).set kw (245, .inr (10, gw.set n v0))).set ku (246, .inr (3, (gu.set n 0).map Value.int))).set jn (209, .inl (14, 32, .int (Int32.ofNat (n + 1))))).set km (239, .inr (10, mr.set (20 * x.toInt.toNat + y.toInt.toNat) ov))).set jh (209, .inl (14, 23, .null))) := by
  have hDs0 := hDs
  obtain ⟨of, fi, rc, sg, mr', d1, d2, d3, d4, d5, d6, d7, d8, hD⟩ := hDs
  have ti := yi_nat (i := n) (by omega)
  refine yK.of rfl (yle rfl) (L := [_, _, _]) rfl ?_
  refine xt_pure rfl rfl rfl rfl ?_
  refine xt_pure rfl rfl rfl rfl ?_
  refine xt_pure rfl rfl rfl rfl ?_
  refine xt_callV rfl rfl rfl rfl (xmC 176 rfl) ⟨rfl, rfl, yle rfl, yle rfl, yle rfl, yle rfl⟩ (mk_isAnswer h20 hFs hDs0) (c2 := 0) (s2 := 0) ⟨yle rfl, yle rfl⟩ ?_
  rintro _ _ (⟨rfl, ⟨⟨d, F, P⟩, hA⟩, rfl⟩ | ⟨rfl, hA, rfl⟩)
  rotate_left
  · skip
    refine xt_pure rfl rfl rfl rfl ?_
    refine xt_pure rfl rfl rfl (st1 := .int (-1) :: _) rfl ?_
    exact xt_iret rfl rfl rfl rfl (Or.inl ⟨hA, rfl, rfl⟩)
  · obtain ⟨hgD, hF, hP⟩ := ansP_inv hA
    obtain ⟨g1, g2, g3, g4, g5⟩ := gI_some hgD
    obtain ⟨o1, o2, o3, o4, o5, o6, o7⟩ := hD _ d g3
    obtain ⟨p1, p2, p3, p4⟩ := askP_some hP
    have hl := h20 _ F hF
    refine xt_pure rfl rfl rfl rfl ?_
    refine xt_pure rfl rfl rfl rfl ?_
    refine xt_getf rfl rfl (xmC 189 rfl) ?_
    refine xt_pure rfl rfl rfl rfl ?_
    refine xt_bald rfl rfl (by decide) (xmS 0 rfl d5) g5 (v := .int (if d.2.2.2.1 = -9 then 0 else 1)) (by rw [g4, List.getElem?_map, o3]; rfl) ?_
    by_cases h8 : d.2.2.2.1 = -9
    rotate_left
    · rw [if_neg h8]
      refine xt_pure rfl rfl rfl rfl ?_
      refine xt_pure rfl rfl rfl (st1 := .int (-2) :: _) rfl ?_
      exact xt_iret rfl rfl rfl rfl (Or.inr (Or.inl ⟨d, F, P, hA, h8, rfl, rfl⟩))
    · rw [if_pos h8]
      refine xt_pure rfl rfl rfl rfl ?_
      refine xt_pure rfl rfl rfl rfl ?_
      refine xt_getf rfl rfl (xmS 0 rfl (List.mem_of_getElem? f0_4)) ?_
      refine xt_pure rfl rfl rfl (st1 := .int 400 :: _) rfl ?_
      refine yt_ic rfl rfl ?_ ?_
      rotate_left
      · intro (h7 : Int32.ofNat n = 400)
        have h9 := congrArg Int32.toInt h7
        rw [ti, show (400 : Int32).toInt = 400 from rfl] at h9
        refine xt_pure rfl rfl rfl (st1 := .int (-3) :: _) rfl ?_
        exact xt_iret rfl rfl rfl rfl (Or.inr (Or.inr (Or.inl ⟨d, F, P, hA, h8, by omega, rfl, rfl⟩)))
      · intro (h7 : Int32.ofNat n ≠ 400)
        have h9 : n < 400 := by
          rcases Nat.lt_or_ge n 400 with h | h
          · exact h
          · exact absurd (by rw [show n = 400 by omega]; rfl) h7
        obtain ⟨z, hz⟩ : ∃ z, d.2.1[y.toInt.toNat]? = some z := ⟨_, List.getElem?_eq_getElem (by omega)⟩
        obtain ⟨v0, hv0, hv1⟩ := hmr _ d g3 _ z hz
        have ob0 := yVM_ob hv1
        have hG := mk_given (X := X) (d := x.toInt.toNat) (p := y.toInt.toNat) (by omega) (by omega) h9 f0_0 f0_1 f0_2 f0_3 f0_4 f0_5 l0 l1 l2 l3 l5 hv0 ob0 ob1
        rw [yi_id g1, yi_id p1] at hG
        have f1_1 := ot_set (n := (243, .inr (0, (gd.set n (x)).map Value.int))) f0_0 f0_1 (by simp)
        have f1_2 := ot_set (n := (243, .inr (0, (gd.set n (x)).map Value.int))) f0_0 f0_2 (by simp)
        have f1_3 := ot_set (n := (243, .inr (0, (gd.set n (x)).map Value.int))) f0_0 f0_3 (by simp)
        have f1_4 := ot_set (n := (243, .inr (0, (gd.set n (x)).map Value.int))) f0_0 f0_4 (by simp)
        have f1_5 := ot_set (n := (243, .inr (0, (gd.set n (x)).map Value.int))) f0_0 f0_5 (by simp)
        have h1_ := ot_set (n := (243, .inr (0, (gd.set n (x)).map Value.int))) f0_0 eh (by simp)
        have f2_2 := ot_set (n := (244, .inr (0, (gp.set n (y)).map Value.int))) f1_1 f1_2 (by simp)
        have f2_3 := ot_set (n := (244, .inr (0, (gp.set n (y)).map Value.int))) f1_1 f1_3 (by simp)
        have f2_4 := ot_set (n := (244, .inr (0, (gp.set n (y)).map Value.int))) f1_1 f1_4 (by simp)
        have f2_5 := ot_set (n := (244, .inr (0, (gp.set n (y)).map Value.int))) f1_1 f1_5 (by simp)
        have h2_ := ot_set (n := (244, .inr (0, (gp.set n (y)).map Value.int))) f1_1 h1_ (by simp)
        have f3_3 := ot_set (n := (245, .inr (10, gw.set n v0))) f2_2 f2_3 (by simp)
        have f3_4 := ot_set (n := (245, .inr (10, gw.set n v0))) f2_2 f2_4 (by simp)
        have f3_5 := ot_set (n := (245, .inr (10, gw.set n v0))) f2_2 f2_5 (by simp)
        have h3_ := ot_set (n := (245, .inr (10, gw.set n v0))) f2_2 h2_ (by simp)
        have f4_4 := ot_set (n := (246, .inr (3, (gu.set n 0).map Value.int))) f3_3 f3_4 (by simp)
        have f4_5 := ot_set (n := (246, .inr (3, (gu.set n 0).map Value.int))) f3_3 f3_5 (by simp)
        have h4_ := ot_set (n := (246, .inr (3, (gu.set n 0).map Value.int))) f3_3 h3_ (by simp)
        have f5_5 := ot_set (n := (209, .inl (14, 32, .int (Int32.ofNat (n + 1))))) f4_4 f4_5 (by simp)
        have h5_ := ot_set (n := (209, .inl (14, 32, .int (Int32.ofNat (n + 1))))) f4_4 h4_ (by simp)
        have h6_ := ot_set (n := (239, .inr (10, mr.set (20 * x.toInt.toNat + y.toInt.toNat) ov))) f5_5 h5_ (by simp)
        have q0_1 := sat_set (n := (243, .inr (0, (gd.set n (x)).map Value.int))) f0_0
        have q0_2 := ot_set (n := (244, .inr (0, (gp.set n (y)).map Value.int))) f1_1 q0_1 (by simp)
        have q0_3 := ot_set (n := (245, .inr (10, gw.set n v0))) f2_2 q0_2 (by simp)
        have q0_4 := ot_set (n := (246, .inr (3, (gu.set n 0).map Value.int))) f3_3 q0_3 (by simp)
        have q0_5 := ot_set (n := (209, .inl (14, 32, .int (Int32.ofNat (n + 1))))) f4_4 q0_4 (by simp)
        have q0_6 := ot_set (n := (239, .inr (10, mr.set (20 * x.toInt.toNat + y.toInt.toNat) ov))) f5_5 q0_5 (by simp)
        have q0_7 := ot_set (n := (209, .inl (14, 23, .null))) h6_ q0_6 (by simp)
        have q3_4 := sat_set (n := (246, .inr (3, (gu.set n 0).map Value.int))) f3_3
        have q3_5 := ot_set (n := (209, .inl (14, 32, .int (Int32.ofNat (n + 1))))) f4_4 q3_4 (by simp)
        have q3_6 := ot_set (n := (239, .inr (10, mr.set (20 * x.toInt.toNat + y.toInt.toNat) ov))) f5_5 q3_5 (by simp)
        have q3_7 := ot_set (n := (209, .inl (14, 23, .null))) h6_ q3_6 (by simp)
        have q4_5 := sat_set (n := (209, .inl (14, 32, .int (Int32.ofNat (n + 1))))) f4_4
        have q4_6 := ot_set (n := (239, .inr (10, mr.set (20 * x.toInt.toNat + y.toInt.toNat) ov))) f5_5 q4_5 (by simp)
        have q4_7 := ot_set (n := (209, .inl (14, 23, .null))) h6_ q4_6 (by simp)
        refine xt_pure rfl rfl rfl rfl ?_
        refine xt_pure rfl rfl rfl rfl ?_
        refine xt_pure rfl rfl rfl rfl ?_
        refine xt_pure rfl rfl rfl rfl ?_
        refine xt_getf rfl rfl (xmS 0 rfl (List.mem_of_getElem? eh)) ?_
        refine xt_callV rfl rfl rfl rfl (xmC 176 rfl) ⟨rfl, rfl, yle rfl, yle rfl, yle rfl, yle rfl⟩ hG (c2 := 0) (s2 := 0) ⟨yle rfl, yle rfl⟩ ?_
        rintro _ _ ⟨rfl, rfl⟩
        refine xt_pure rfl rfl rfl rfl ?_
        refine xt_pure rfl rfl rfl rfl ?_
        refine xt_putf rfl rfl rfl rfl jh h6_ rfl ?_
        refine xt_pure rfl rfl rfl rfl ?_
        refine xt_pure rfl rfl rfl rfl ?_
        refine xt_callV rfl rfl rfl rfl (xmC 176 rfl) ⟨rfl, rfl, yle rfl, yle rfl, yle rfl, yle rfl⟩ (mk_open (n := n + 1) (by omega) (List.mem_of_getElem? q0_7) (List.mem_of_getElem? q3_7) (List.mem_of_getElem? q4_7) (by rw [List.length_set]; exact l0) (by rw [List.length_set]; exact l3)) (c2 := 0) (s2 := 0) ⟨yle rfl, yle rfl⟩ ?_
        rintro _ _ ⟨rfl, rfl⟩
        exact xt_iret rfl rfl rfl rfl (Or.inr (Or.inr (Or.inr ⟨d, F, P, v0, hA, h8, h9, hv0, rfl, rfl⟩)))
end GIVEM2
