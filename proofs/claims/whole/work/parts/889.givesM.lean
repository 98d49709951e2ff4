/-! CALLS OVER BLOCKS: the reference: give, take back -/
section GVM
variable {X : List Int32} {N B B2 B3 B4 Rm : List xE} {Fs : List yF} {Dr : List yD} {En : List (Int64 × Int32)} {x y : Int32} {z : Option yO} {gv : Nat}
theorem mDk.ob (h : mDk z N B) : ∃ ov E, B = (209, .inl (14, 23, ov)) :: E ∧ (∀ D, E ⊆ D → obM D ov) ∧ yVM (E ++ N) ov z := by
  cases z with
  | none =>
    obtain rfl : B = _ := h
    exact ⟨.null, [], rfl, fun _ _ => .inl rfl, rfl⟩
  | some ob =>
    obtain ⟨b, ia, ra, ca, S, rfl, hv, h3, h4, h5⟩ := h
    refine ⟨.ref b, _, rfl, fun D s => .inr ⟨b, _, rfl, s (List.mem_of_getElem? (i := 0) rfl)⟩, b, rfl, (hv.om (b := b) (ia := ia) (ra := ra) (ca := ca)).mono ?_⟩
    intro e he
    simp only [thE, List.mem_cons, List.not_mem_nil, or_false] at he
    have m : ∀ (i : Nat) (e : xE), (zE (zad b ia ra ca) S 0 (zTd.take 5))[i]? = some e → e ∈ zE (zad b ia ra ca) S 0 (zTd.take 5) ++ N := fun i e h => List.mem_append_left _ (List.mem_of_getElem? h)
    rcases he with rfl | rfl | rfl | rfl | rfl | rfl | rfl | rfl
    all_goals first | exact m 0 _ rfl | exact m 1 _ rfl | exact m 2 _ rfl | exact m 3 _ rfl | exact m 4 _ rfl | exact List.mem_append_right _ h3 | exact List.mem_append_right _ h4 | exact List.mem_append_right _ h5
theorem oM_give (hF : pFs Fs) (hD : pDr Fs En Dr) (hg4 : gv ≤ 400) (hM : mFs Fs N B4) (h1 : mDk z N B) (h2 : mDr Fs Dr N B2) (h3 : mLg Dr gv N B3) (s4 : B4 ⊆ Rm) (sN : N ⊆ Rm) : yK X 3 160 269 [.ref 209, .int x, .int y] (B ++ (B2 ++ (B3 ++ Rm))) 0 0 (fun w D => w = some (.int (gvV Fs Dr gv x y)) ∧ ∃ B' B2' B3' G, D.Perm (B' ++ (B2' ++ (B3' ++ (G ++ Rm)))) ∧ mDk (if gvG Fs Dr gv x y then none else z) (G ++ N) B' ∧ mDr Fs (if gvG Fs Dr gv x y then updD Dr x (gvD y z) else Dr) (G ++ N) B2' ∧ mLg (if gvG Fs Dr gv x y then updD Dr x (gvD y z) else Dr) (if gvG Fs Dr gv x y then gv + 1 else gv) (G ++ N) B3') := by
  have h10 := h1
  have h20 := h2
  have h30 := h3
  obtain ⟨ov, E, rfl, ho, hvM⟩ := h1.ob
  obtain ⟨lg, gd, gp, gu, gw, rfl, hL, rfl, c1, c2⟩ := h3
  obtain ⟨of, fi, rc, sg, mr, sp, ⟨l1, l2, l3, l4, l5⟩, ⟨p1, p2⟩, rfl, h4, h5⟩ := h2
  have hD30 := hD.1
  refine yK.perm (D2 := (209, .inl (14, 23, ov)) :: (209, .inl (14, 32, .int (Int32.ofNat lg.length))) :: (243, .inr (0, gd.map Value.int)) :: (244, .inr (0, gp.map Value.int)) :: (245, .inr (10, gw)) :: (246, .inr (3, gu.map Value.int)) :: (239, .inr (10, mr)) :: (E ++ ((209, .inl (14, 26, .int (Int32.ofNat Dr.length))) :: (238, .inr (0, of.map Value.int)) :: (240, .inr (3, fi.map Value.int)) :: (241, .inr (0, rc.map Value.int)) :: (242, .inr (0, sg.map Value.int)) :: (237, .inr (10, svl sp)) :: (sD sp ++ Rm)))) (pq fun φ => by simp only [cn_c, cn_a, cn_n]; omega) ?_
  have uR : Rm ⊆ (209, .inl (14, 23, ov)) :: (209, .inl (14, 32, .int (Int32.ofNat lg.length))) :: (243, .inr (0, gd.map Value.int)) :: (244, .inr (0, gp.map Value.int)) :: (245, .inr (10, gw)) :: (246, .inr (3, gu.map Value.int)) :: (239, .inr (10, mr)) :: (E ++ ((209, .inl (14, 26, .int (Int32.ofNat Dr.length))) :: (238, .inr (0, of.map Value.int)) :: (240, .inr (3, fi.map Value.int)) :: (241, .inr (0, rc.map Value.int)) :: (242, .inr (0, sg.map Value.int)) :: (237, .inr (10, svl sp)) :: (sD sp ++ Rm))) := fun e he => by simp [he]
  have u2 : ((209, .inl (14, 26, .int (Int32.ofNat Dr.length))) :: (238, .inr (0, of.map Value.int)) :: (240, .inr (3, fi.map Value.int)) :: (241, .inr (0, rc.map Value.int)) :: (242, .inr (0, sg.map Value.int)) :: (239, .inr (10, mr)) :: (237, .inr (10, svl sp)) :: sD sp) ⊆ (209, .inl (14, 23, ov)) :: (209, .inl (14, 32, .int (Int32.ofNat lg.length))) :: (243, .inr (0, gd.map Value.int)) :: (244, .inr (0, gp.map Value.int)) :: (245, .inr (10, gw)) :: (246, .inr (3, gu.map Value.int)) :: (239, .inr (10, mr)) :: (E ++ ((209, .inl (14, 26, .int (Int32.ofNat Dr.length))) :: (238, .inr (0, of.map Value.int)) :: (240, .inr (3, fi.map Value.int)) :: (241, .inr (0, rc.map Value.int)) :: (242, .inr (0, sg.map Value.int)) :: (237, .inr (10, svl sp)) :: (sD sp ++ Rm))) := fun e he => by
    simp only [List.mem_cons] at he
    simp only [List.mem_cons, List.mem_append]
    rcases he with rfl | rfl | rfl | rfl | rfl | rfl | rfl | he
    all_goals simp_all
  have uE : E ⊆ (209, .inl (14, 23, ov)) :: (209, .inl (14, 32, .int (Int32.ofNat lg.length))) :: (243, .inr (0, gd.map Value.int)) :: (244, .inr (0, gp.map Value.int)) :: (245, .inr (10, gw)) :: (246, .inr (3, gu.map Value.int)) :: (239, .inr (10, mr)) :: (E ++ ((209, .inl (14, 26, .int (Int32.ofNat Dr.length))) :: (238, .inr (0, of.map Value.int)) :: (240, .inr (3, fi.map Value.int)) :: (241, .inr (0, rc.map Value.int)) :: (242, .inr (0, sg.map Value.int)) :: (237, .inr (10, svl sp)) :: (sD sp ++ Rm))) := fun e he => by simp [he]
  refine (mK_give (n := lg.length) (jh := 0) (jn := 1) (kd := 2) (kp := 3) (kw := 4) (ku := 5) (km := 6) hF.l20 (hM.use (fun e he => uR (s4 he)) (fun e he => uR (sN he))) (h20.use hD u2 (fun e he => uR (sN he))) hg4 rfl rfl rfl rfl rfl rfl hL.1.1 hL.1.2.1 hL.1.2.2.2 hL.1.2.2.1 l5 rfl (ho _ uE) (fun i d hd p z hz => by
    obtain ⟨v, w1, w2⟩ := (h4 i d hd).2.2.2.2 p z hz
    exact ⟨v, w1, w2.mono (fun e he => uR (sN he))⟩)).mono (Nat.le_refl _) (Nat.le_refl _) ?_
  have same : ∀ {V : Int32}, gvV Fs Dr lg.length x y = V ∧ gvG Fs Dr lg.length x y = false → (some (.int V) : Option Value) = some (.int (gvV Fs Dr lg.length x y)) ∧ ∃ B' B2' B3' G, ((209, .inl (14, 23, ov)) :: (209, .inl (14, 32, .int (Int32.ofNat lg.length))) :: (243, .inr (0, gd.map Value.int)) :: (244, .inr (0, gp.map Value.int)) :: (245, .inr (10, gw)) :: (246, .inr (3, gu.map Value.int)) :: (239, .inr (10, mr)) :: (E ++ ((209, .inl (14, 26, .int (Int32.ofNat Dr.length))) :: (238, .inr (0, of.map Value.int)) :: (240, .inr (3, fi.map Value.int)) :: (241, .inr (0, rc.map Value.int)) :: (242, .inr (0, sg.map Value.int)) :: (237, .inr (10, svl sp)) :: (sD sp ++ Rm)))).Perm (B' ++ (B2' ++ (B3' ++ (G ++ Rm)))) ∧ mDk (if gvG Fs Dr lg.length x y then none else z) (G ++ N) B' ∧ mDr Fs (if gvG Fs Dr lg.length x y then updD Dr x (gvD y z) else Dr) (G ++ N) B2' ∧ mLg (if gvG Fs Dr lg.length x y then updD Dr x (gvD y z) else Dr) (if gvG Fs Dr lg.length x y then lg.length + 1 else lg.length) (G ++ N) B3' := by
    rintro V ⟨hV, h⟩
    rw [hV, h]
    exact ⟨rfl, _, _, _, [], pq fun φ => by simp only [cn_c, cn_a, cn_n]; omega, h10, h20, h30⟩
  rintro w D (⟨g1, rfl, rfl⟩ | ⟨d, F, P, g1, g2, rfl, rfl⟩ | ⟨d, F, P, g1, g2, g3, rfl, rfl⟩ | ⟨d, F, P, v0, g1, g2, g3, g4, rfl, rfl⟩)
  · exact same (by rw [gvV, gvG, g1]; exact ⟨rfl, rfl⟩)
  · exact same (gv_2 g1 g2)
  · exact same (gv_3 g1 g2 (by omega))
  · obtain ⟨e1, e2⟩ := gv_ok g1 g2 g3
    obtain ⟨t1, t2, t3⟩ := ansP_inv g1
    obtain ⟨x1, x2, x3, -, -⟩ := gI_some t1
    obtain ⟨y1, y2, y3, y4⟩ := askP_some t3
    have y20 := hF.l20 _ _ t2
    have hA20 := (hD.2 d (List.mem_of_getElem? x3)).2.1
    obtain ⟨z0, hz0⟩ : ∃ z0, d.2.1[y.toInt.toNat]? = some z0 := ⟨_, List.getElem?_eq_getElem (by omega)⟩
    have hv0 : yVM N v0 z0 := by
      obtain ⟨v, w1, w2⟩ := (h4 _ d x3).2.2.2.2 _ _ hz0
      rw [g4] at w1
      injection w1 with w1
      rw [w1]
      exact w2
    have hup : updD Dr x (gvD y z) = Dr.set x.toInt.toNat (gvD y z d) := by rw [updD, t1]
    have hgv : gvD y z d = (d.1, d.2.1.set y.toInt.toNat z, (y.toInt.toNat, z0) :: d.2.2.1, d.2.2.2.1, d.2.2.2.2) := by rw [gvD, hz0]; rfl
    have sG : N ⊆ E ++ N := List.subset_append_right _ _
    have hL2 := hL.push (d := x.toInt.toNat) (p := y.toInt.toNat) g3 hv0
    rw [yi_id x1, yi_id y1] at hL2
    have hop : opC (gd.set lg.length x) (gu.set lg.length 0) x (lg.length + 1) = d.2.2.1.length + 1 := by
      have q := opC_ch (i := x.toInt.toNat) hL2 (by omega) (fun e he => by
        rcases List.mem_append.mp he with he | he
        · have := (c2 e he).1; omega
        · obtain rfl := List.mem_singleton.mp he
          show x.toInt.toNat < 1000
          omega) (lg.length + 1) (by rw [List.length_append]; exact Nat.le_refl _)
      rw [yi_id x1, List.take_of_length_le (by rw [List.length_append]; exact Nat.le_refl _)] at q
      have q2 := congrArg List.length (chL_push (lg := lg) (i := x.toInt.toNat) (d := x.toInt.toNat) (p := y.toInt.toNat) (z := z0))
      rw [if_pos rfl, chL_eq, List.length_reverse, List.length_map, List.length_cons, c1 _ d x3] at q2
      rw [q, q2]
    rw [e1, e2, hop]
    refine ⟨by rw [Int32.ofNat_add]; rfl, [(209, .inl (14, 23, .null))], (209, .inl (14, 26, .int (Int32.ofNat Dr.length))) :: (238, .inr (0, of.map Value.int)) :: (240, .inr (3, fi.map Value.int)) :: (241, .inr (0, rc.map Value.int)) :: (242, .inr (0, sg.map Value.int)) :: (239, .inr (10, mr.set (20 * x.toInt.toNat + y.toInt.toNat) ov)) :: (237, .inr (10, svl sp)) :: sD sp, [(209, .inl (14, 32, .int (Int32.ofNat (lg.length + 1)))), (243, .inr (0, (gd.set lg.length x).map Value.int)), (244, .inr (0, (gp.set lg.length y).map Value.int)), (245, .inr (10, gw.set lg.length v0)), (246, .inr (3, (gu.set lg.length 0).map Value.int))], E, ?_, rfl, ?_, ?_⟩
    · show ((209, .inl (14, 23, .null)) :: (209, .inl (14, 32, .int (Int32.ofNat (lg.length + 1)))) :: (243, .inr (0, (gd.set lg.length x).map Value.int)) :: (244, .inr (0, (gp.set lg.length y).map Value.int)) :: (245, .inr (10, gw.set lg.length v0)) :: (246, .inr (3, (gu.set lg.length 0).map Value.int)) :: (239, .inr (10, mr.set (20 * x.toInt.toNat + y.toInt.toNat) ov)) :: (E ++ ((209, .inl (14, 26, .int (Int32.ofNat Dr.length))) :: (238, .inr (0, of.map Value.int)) :: (240, .inr (3, fi.map Value.int)) :: (241, .inr (0, rc.map Value.int)) :: (242, .inr (0, sg.map Value.int)) :: (237, .inr (10, svl sp)) :: (sD sp ++ Rm)))).Perm _
      exact pq fun φ => by simp only [cn_c, cn_a, cn_n]; omega
    · show mDr Fs (updD Dr x (gvD y z)) (E ++ N) _
      rw [hup, hgv]
      refine ⟨of, fi, rc, sg, mr.set (20 * x.toInt.toNat + y.toInt.toNat) ov, sp, ⟨l1, l2, l3, l4, by rw [List.length_set]; exact l5⟩, ⟨p1, p2⟩, by rw [List.length_set], fun i d2 hd2 => ?_, fun q v hq1 hq2 hv => ?_⟩
      · by_cases ei : x.toInt.toNat = i
        · subst ei
          rw [List.getElem?_set_self (by omega)] at hd2
          injection hd2 with hd2
          subst hd2
          obtain ⟨q1, q2, q3, q4, q5⟩ := h4 _ d x3
          refine ⟨q1, q2, q3, q4, fun p zz hz => ?_⟩
          have hz : (d.2.1.set y.toInt.toNat z)[p]? = some zz := hz
          by_cases ep : y.toInt.toNat = p
          · subst ep
            rw [List.getElem?_set_self (by omega)] at hz
            injection hz with hz
            subst hz
            exact ⟨ov, List.getElem?_set_self (by omega), hvM⟩
          · rw [List.getElem?_set_ne ep] at hz
            obtain ⟨v, w1, w2⟩ := q5 p zz hz
            exact ⟨v, by rw [List.getElem?_set_ne (by omega)]; exact w1, w2.mono sG⟩
        · rw [List.getElem?_set_ne ei] at hd2
          obtain ⟨q1, q2, q3, q4, q5⟩ := h4 _ d2 hd2
          refine ⟨q1, q2, q3, q4, fun p zz hz => ?_⟩
          obtain ⟨v, w1, w2⟩ := q5 p zz hz
          have := (hD.2 d2 (List.mem_of_getElem? hd2)).2.1
          have := (List.getElem?_eq_some_iff.mp hz).1
          exact ⟨v, by rw [List.getElem?_set_ne (by omega)]; exact w1, w2.mono sG⟩
      · rw [List.length_set] at hq1 ⊢
        rw [List.getElem?_set_ne (by omega)] at hv
        exact h5 q v hq1 hq2 hv
    · show mLg (updD Dr x (gvD y z)) (lg.length + 1) (E ++ N) _
      rw [hup, hgv]
      refine ⟨lg ++ [(x.toInt.toNat, y.toInt.toNat, z0, false)], gd.set lg.length x, gp.set lg.length y, gu.set lg.length 0, gw.set lg.length v0, by rw [List.length_append]; rfl, hL2.mono sG, rfl, fun i d2 hd2 => ?_, fun e he => ?_⟩
      · rw [chL_push]
        by_cases ei : x.toInt.toNat = i
        · subst ei
          rw [List.getElem?_set_self (by omega)] at hd2
          injection hd2 with hd2
          subst hd2
          rw [if_pos rfl, c1 _ d x3]
        · rw [List.getElem?_set_ne ei] at hd2
          rw [if_neg ei, c1 _ d2 hd2]
      · rw [List.length_set]
        rcases List.mem_append.mp he with he | he
        · exact c2 e he
        · obtain rfl := List.mem_singleton.mp he
          exact ⟨by show x.toInt.toNat < _; omega, by show y.toInt.toNat < 20; omega⟩
theorem oM_back (hD : pDr Fs En Dr) (hg4 : gv ≤ 400) (h2 : mDr Fs Dr N B2) (h3 : mLg Dr gv N B3) (sN : N ⊆ Rm) : yK X 2 60 274 [.ref 209, .int x] (B2 ++ (B3 ++ Rm)) 0 0 (fun w D => w = some (.int (bkV Dr x)) ∧ ∃ B2' B3', D.Perm (B2' ++ (B3' ++ Rm)) ∧ mDr Fs (updD Dr x bkD) N B2' ∧ mLg (updD Dr x bkD) gv N B3') := by
  have h20 := h2
  have h30 := h3
  obtain ⟨lg, gd, gp, gu, gw, rfl, hL, rfl, c1, c2⟩ := h3
  obtain ⟨of, fi, rc, sg, mr, sp, ⟨l1, l2, l3, l4, l5⟩, ⟨p1, p2⟩, rfl, h4, h5⟩ := h2
  have hD30 := hD.1
  refine yK.perm (D2 := (246, .inr (3, gu.map Value.int)) :: (239, .inr (10, mr)) :: (209, .inl (14, 32, .int (Int32.ofNat lg.length))) :: (243, .inr (0, gd.map Value.int)) :: (244, .inr (0, gp.map Value.int)) :: (245, .inr (10, gw)) :: (209, .inl (14, 26, .int (Int32.ofNat Dr.length))) :: (238, .inr (0, of.map Value.int)) :: (240, .inr (3, fi.map Value.int)) :: (241, .inr (0, rc.map Value.int)) :: (242, .inr (0, sg.map Value.int)) :: (237, .inr (10, svl sp)) :: (sD sp ++ Rm)) (pq fun φ => by simp only [cn_c, cn_a, cn_n]; omega) ?_
  refine (mK_takeBack (n := lg.length) (fi := fi) (gd := gd) (gp := gp) (gu := gu) (gw := gw) (mr := mr) (ku := 0) (km := 1) hD30 (by simp) (by simp) (fun i d hd => (h4 i d hd).2.1) hg4 (by simp) (by simp) (by simp) rfl (by simp) rfl hL.1.1 hL.1.2.2.1 l5 (fun k hk => by
    obtain ⟨e, he⟩ : ∃ e, lg[k]? = some e := ⟨_, List.getElem?_eq_getElem hk⟩
    obtain ⟨q1, q2, q3, v, q4, q5⟩ := hL.2.2 k e he
    exact ⟨e.2.1, v, q2, (c2 e (List.mem_of_getElem? he)).2, q4, yVM_ob (q5.mono (fun e he => by simp [sN he]))⟩)).mono (Nat.le_refl _) (Nat.le_refl _) ?_
  have self : ∀ {d : yD}, gI Dr x = some d → bkD d = d → updD Dr x bkD = Dr := by
    intro d hd hb
    rw [updD, hd]
    show Dr.set x.toInt.toNat (bkD d) = Dr
    rw [hb]
    obtain ⟨x1, x2, x3, -, -⟩ := gI_some hd
    have := map_set1 (f := fun d : yD => d) x3 (a2 := d) rfl
    simpa using this
  rintro w D (⟨g1, rfl, rfl⟩ | ⟨d, g1, g2, rfl, rfl⟩ | ⟨d, k, p, v, g1, g2, g3, g4, g5, g6, rfl, rfl⟩)
  · rw [bkV, updD, g1]
    exact ⟨rfl, _, _, pq fun φ => by simp only [cn_c, cn_a, cn_n]; omega, h20, h30⟩
  · have hch : d.2.2.2.1 = -9 → d.2.2.1 = [] := by
      intro hr
      obtain ⟨x1, x2, x3, -, -⟩ := gI_some g1
      rcases g2 with g2 | g2
      · exact absurd hr g2
      · rw [← c1 _ d x3]
        refine chL_none hL (by omega) (fun e he => by have := (c2 e he).1; omega) ?_
        rw [yi_id x1]
        exact g2
    have hb : bkD d = d := by
      rw [bkD]
      by_cases hr : d.2.2.2.1 = -9
      · rw [if_neg (fun h => h hr), hch hr]
      · rw [if_pos hr]
    rw [self g1 hb, bkV, g1]
    refine ⟨?_, _, _, pq fun φ => by simp only [cn_c, cn_a, cn_n]; omega, h20, h30⟩
    show _ = some (Value.int (if d.2.2.2.1 ≠ -9 then -2 else match d.2.2.1 with
      | [] => -2
      | (p, _) :: _ => Int32.ofNat p))
    by_cases hr : d.2.2.2.1 = -9
    · rw [if_neg (fun h => h hr), hch hr]
    · rw [if_pos hr]
  · obtain ⟨x1, x2, x3, -, -⟩ := gI_some g1
    obtain ⟨e, he, ei, ch1, ch2⟩ := chL_some (i := x.toInt.toNat) hL (by omega) (fun e he => by have := (c2 e he).1; omega) (by rw [yi_id x1]; exact g3)
    obtain ⟨q1, q2, q3, v', q4, q5⟩ := hL.2.2 k e he
    rw [q4] at g6
    injection g6 with g6
    subst g6
    have ep : e.2.1 = p := by
      rw [q2] at g4
      injection g4 with g4
      exact yi_inj (by have := (c2 e (List.mem_of_getElem? he)).2; omega) (by omega) g4
    rw [c1 _ d x3] at ch1
    have hcd : d.2.2.1 = (p, e.2.2.1) :: chL (lg.set k (e.1, e.2.1, e.2.2.1, true)) x.toInt.toNat := by
      rw [ch1, lgF, ep]
    have hb : bkD d = (d.1, d.2.1.set p e.2.2.1, chL (lg.set k (e.1, e.2.1, e.2.2.1, true)) x.toInt.toNat, d.2.2.2.1, d.2.2.2.2) := by
      rw [bkD, if_neg (fun h => h g2), hcd]
    have hup : updD Dr x bkD = Dr.set x.toInt.toNat (bkD d) := by rw [updD, g1]
    have hA20 := (hD.2 d (List.mem_of_getElem? x3)).2.1
    refine ⟨?_, (209, .inl (14, 26, .int (Int32.ofNat Dr.length))) :: (238, .inr (0, of.map Value.int)) :: (240, .inr (3, fi.map Value.int)) :: (241, .inr (0, rc.map Value.int)) :: (242, .inr (0, sg.map Value.int)) :: (239, .inr (10, mr.set (20 * x.toInt.toNat + p) v')) :: (237, .inr (10, svl sp)) :: sD sp, [(209, .inl (14, 32, .int (Int32.ofNat lg.length))), (243, .inr (0, gd.map Value.int)), (244, .inr (0, gp.map Value.int)), (245, .inr (10, gw)), (246, .inr (3, (gu.set k 1).map Value.int))], ?_, ?_, ?_⟩
    · rw [bkV, g1]
      show _ = some (Value.int (if d.2.2.2.1 ≠ -9 then -2 else match d.2.2.1 with
        | [] => -2
        | (p, _) :: _ => Int32.ofNat p))
      rw [if_neg (fun h => h g2), hcd]
    · show ((246, .inr (3, (gu.set k 1).map Value.int)) :: (239, .inr (10, mr.set (20 * x.toInt.toNat + p) v')) :: (209, .inl (14, 32, .int (Int32.ofNat lg.length))) :: (243, .inr (0, gd.map Value.int)) :: (244, .inr (0, gp.map Value.int)) :: (245, .inr (10, gw)) :: (209, .inl (14, 26, .int (Int32.ofNat Dr.length))) :: (238, .inr (0, of.map Value.int)) :: (240, .inr (3, fi.map Value.int)) :: (241, .inr (0, rc.map Value.int)) :: (242, .inr (0, sg.map Value.int)) :: (237, .inr (10, svl sp)) :: (sD sp ++ Rm)).Perm _
      exact pq fun φ => by simp only [cn_c, cn_a, cn_n]; omega
    · rw [hup, hb]
      refine ⟨of, fi, rc, sg, mr.set (20 * x.toInt.toNat + p) v', sp, ⟨l1, l2, l3, l4, by rw [List.length_set]; exact l5⟩, ⟨p1, p2⟩, by rw [List.length_set], fun i d2 hd2 => ?_, fun q v hq1 hq2 hv => ?_⟩
      · by_cases ei : x.toInt.toNat = i
        · subst ei
          rw [List.getElem?_set_self (by omega)] at hd2
          injection hd2 with hd2
          subst hd2
          obtain ⟨r1, r2, r3, r4, r5⟩ := h4 _ d x3
          refine ⟨r1, r2, r3, r4, fun p2 zz hz => ?_⟩
          have hz : (d.2.1.set p e.2.2.1)[p2]? = some zz := hz
          by_cases ep2 : p = p2
          · subst ep2
            rw [List.getElem?_set_self (by omega)] at hz
            injection hz with hz
            subst hz
            exact ⟨v', List.getElem?_set_self (by omega), q5⟩
          · rw [List.getElem?_set_ne ep2] at hz
            obtain ⟨v, w1, w2⟩ := r5 p2 zz hz
            exact ⟨v, by rw [List.getElem?_set_ne (by omega)]; exact w1, w2⟩
        · rw [List.getElem?_set_ne ei] at hd2
          obtain ⟨r1, r2, r3, r4, r5⟩ := h4 _ d2 hd2
          refine ⟨r1, r2, r3, r4, fun p2 zz hz => ?_⟩
          obtain ⟨v, w1, w2⟩ := r5 p2 zz hz
          have := (hD.2 d2 (List.mem_of_getElem? hd2)).2.1
          have := (List.getElem?_eq_some_iff.mp hz).1
          exact ⟨v, by rw [List.getElem?_set_ne (by omega)]; exact w1, w2⟩
      · rw [List.length_set] at hq1 ⊢
        rw [List.getElem?_set_ne (by omega)] at hv
        exact h5 q v hq1 hq2 hv
    · rw [hup, hb]
      have hkl := (List.getElem?_eq_some_iff.mp he).1
      refine ⟨lg.set k (e.1, e.2.1, e.2.2.1, true), gd, gp, gu.set k 1, gw, List.length_set, lg_undo hL he, rfl, fun i d2 hd2 => ?_, fun e2 he2 => ?_⟩
      · by_cases ei2 : x.toInt.toNat = i
        · subst ei2
          rw [List.getElem?_set_self (by omega)] at hd2
          injection hd2 with hd2
          subst hd2
          rfl
        · rw [List.getElem?_set_ne ei2] at hd2
          rw [ch2 i (fun h => ei2 h.symm), c1 _ d2 hd2]
      · rw [List.length_set]
        rcases List.mem_or_eq_of_mem_set he2 with he2 | rfl
        · exact c2 e2 he2
        · exact c2 e (List.mem_of_getElem? he)
end GVM
