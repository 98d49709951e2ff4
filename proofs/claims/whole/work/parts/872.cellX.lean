/-! THE DESK, class: cell, a row that is not there -/
theorem cD_cellX {X : List Int32} {D0 : List xE} {i j v : Int32} {fl x1 x2 : Int32} (hfn : ((110, .inl (10, 6, .int (-9))) : xE) ∈ D0) {a ia ra : Nat} {ob : yO} (hs : ob.1 ≤ 7) (hz : osz ob ≤ 12) (hh : ((78, .inl (11, 6, .ref a)) : xE) ∈ D0) (k0 : ((a, .inl (6, 0, .int (Int32.ofNat ob.1))) : xE) ∈ D0) (k1 : ((a, .inl (6, 1, .int (Int32.ofNat (osz ob)))) : xE) ∈ D0) (k2 : ((a, .inl (6, 2, .ref ia)) : xE) ∈ D0) (k3 : ((a, .inl (6, 3, .ref ra)) : xE) ∈ D0) {rr : List Value} (kr : ((ra, .inr (4, rr)) : xE) ∈ D0) (hrr : ob.1 = 4 → rr.length = ob.2.2.length) (hno : rwO ob i = none) (hnx : ¬ (0 ≤ i.toInt ∧ i.toInt < osz ob)) : yK X 2 43 103 [.ref 78, .int i, .int j, .int v] ((110, .inl (10, 1, .int fl)) :: (110, .inl (10, 4, .int x1)) :: (110, .inl (10, 5, .int x2)) :: D0) 0 0 (fun w D => ∃ y1 y2 : Int32, w = some (.int (ceV (some ob) fl i j)) ∧ D = (110, .inl (10, 1, .int (flW fl (ceV (some ob) fl i j)))) :: (110, .inl (10, 4, .int y1)) :: (110, .inl (10, 5, .int y2)) :: D0) := by
  have es := yi_nat (i := ob.1) (by omega)
  have ez := yi_nat (i := osz ob) (by omega)
  refine yK.of rfl (yle rfl) (L := [_, _, _, _, _, _]) rfl ?_
  refine xt_pure rfl rfl rfl rfl ?_
  refine xt_getf rfl rfl (xmC 120 rfl) ?_
  refine xt_callV rfl rfl rfl rfl (xmD 0 rfl) ⟨rfl, rfl, yle rfl, yle rfl, yle rfl, yle rfl⟩ (ck_isFull (List.mem_of_getElem? (i := 0) rfl)) (c2 := 0) (s2 := 0) ⟨yle rfl, yle rfl⟩ ?_
  rintro _ _ (⟨rfl, hp0, rfl⟩ | ⟨rfl, hp0, rfl⟩)
  · skip
    show yT _ _ _ _ _ _ (_ :: _) _ _ _ _
    refine xt_pure rfl rfl rfl rfl ?_
    refine xt_pure rfl rfl rfl (st1 := .int (-3) :: _) rfl ?_
    refine xt_iret rfl rfl rfl rfl ?_
    try simp only [xi32_eq, xi64_eq, Int32.toInt_toInt64, Int32.reduceToInt, Int64.reduceToInt, y_m9, y_m1, y_m100, y64_m9, y64_m1, Ne, y_n1x] at hp0
    have hc : ceV (some ob) fl i j = (-3) := by
      unfold ceV
      try dsimp only
      try rw [hno]
      try dsimp only
      repeat' split
      all_goals first | rfl | (exfalso; omega)
    rw [hc]
    exact ⟨x1, x2, rfl, by simp [flW]⟩
  · skip
    show yT _ _ _ _ _ _ (_ :: _) _ _ _ _
    refine xt_pure rfl rfl rfl rfl ?_
    refine xt_pure rfl rfl rfl rfl ?_
    refine xt_pure rfl rfl rfl rfl ?_
    refine xt_pure rfl rfl rfl (st1 := .int 4 :: _) rfl ?_
    refine xt_callV rfl rfl rfl rfl (xmC 115 rfl) ⟨rfl, rfl, yle rfl, yle rfl, yle rfl, yle rfl⟩ (ck_deskF hs hz (ymS 3 rfl hh) (ymS 3 rfl k0) (ymS 3 rfl k1)) (c2 := 0) (s2 := 0) ⟨yle rfl, yle rfl⟩ ?_
    rintro _ _ (⟨rfl, hp1, rfl⟩ | ⟨rfl, hp1, rfl⟩ | ⟨rfl, hp1, rfl⟩)
    · skip
      try simp only [Int32.reduceToInt, and_true, and_false, or_false, false_or] at hp1
      show yT _ _ _ _ _ _ (_ :: _) _ _ _ _
      refine xt_pure rfl rfl rfl (L1 := [_, _, _, _, _, _]) rfl ?_
      refine xt_pure rfl rfl rfl rfl ?_
      refine xt_pure rfl rfl rfl rfl ?_
      refine xt_pure rfl rfl rfl rfl ?_
      refine xt_pure rfl rfl rfl rfl ?_
      refine yt_inV (c1 := 0) (s1 := 0) (c2 := 0) (s2 := 0) (fr1 := 1) (lo1 := 21) rfl rfl rfl rfl (xmC 115 rfl) ⟨rfl, rfl, yle rfl, yle rfl, yle rfl, yle rfl⟩ (yle rfl) (L1 := [_, _]) rfl ⟨yle rfl, yle rfl⟩ ?_
      refine xt_pure rfl rfl rfl rfl ?_
      refine xt_getf rfl rfl (xmC 120 rfl) ?_
      refine xt_pure rfl rfl rfl rfl ?_
      refine yt_inV (c1 := 0) (s1 := 0) (c2 := 0) (s2 := 0) (fr1 := 0) (lo1 := 0) rfl rfl rfl rfl (xmD 0 rfl) ⟨rfl, rfl, yle rfl, yle rfl, yle rfl, yle rfl⟩ (yle rfl) (L1 := [_, _]) rfl ⟨yle rfl, yle rfl⟩ ?_
      refine xt_pure rfl rfl rfl rfl ?_
      refine xt_pure rfl rfl rfl rfl ?_
      refine xt_getf rfl rfl (xmD 0 rfl) ?_
      refine xt_pure rfl rfl rfl (st1 := .int 1 :: _) rfl ?_
      refine xt_pure rfl rfl rfl rfl ?_
      refine xt_putf rfl rfl rfl rfl 0 rfl (D1 := _ :: _ :: _ :: _) rfl ?_
      refine xt_pure rfl rfl rfl rfl ?_
      refine xt_pure rfl rfl rfl rfl ?_
      refine xt_putf rfl rfl rfl rfl 1 rfl (D1 := _ :: _ :: _ :: _) rfl ?_
      refine xt_pure rfl rfl rfl rfl ?_
      refine xt_pure rfl rfl rfl rfl ?_
      refine xt_getf rfl rfl (xmS 3 rfl hfn) ?_
      refine xt_putf rfl rfl rfl rfl 2 rfl (D1 := _ :: _ :: _ :: _) rfl ?_
      refine xt_vret rfl rfl rfl ?_
      show yT _ _ _ _ _ _ (_) _ _ _ _
      refine xt_pure rfl rfl rfl (st1 := .int (-10) :: _) rfl ?_
      refine xt_pure rfl rfl rfl rfl ?_
      refine xt_pure rfl rfl rfl (st1 := .int (-12) :: _) rfl ?_
      refine xt_iret rfl rfl rfl rfl ?_
      show yT _ _ _ _ _ _ (_ :: _) _ _ _ _
      refine xt_iret rfl rfl rfl rfl ?_
      try simp only [xi32_eq, xi64_eq, Int32.toInt_toInt64, Int32.reduceToInt, Int64.reduceToInt, y_m9, y_m1, y_m100, y64_m9, y64_m1, Ne, y_n1x] at hp0 hp1
      have hc : ceV (some ob) fl i j = (-12) := by
        unfold ceV
        try dsimp only
        try rw [hno]
        try dsimp only
        repeat' split
        all_goals first | rfl | (exfalso; omega)
      rw [hc]
      exact ⟨2, (-9), rfl, by simp [flW]⟩
    · skip
      try simp only [Int32.reduceToInt, and_true, and_false, or_false, false_or] at hp1
      show yT _ _ _ _ _ _ (_ :: _) _ _ _ _
      refine xt_pure rfl rfl rfl (L1 := [_, _, _, _, _, _]) rfl ?_
      refine xt_pure rfl rfl rfl rfl ?_
      refine xt_pure rfl rfl rfl rfl ?_
      refine xt_pure rfl rfl rfl rfl ?_
      refine xt_pure rfl rfl rfl rfl ?_
      refine yt_inV (c1 := 0) (s1 := 0) (c2 := 0) (s2 := 0) (fr1 := 1) (lo1 := 21) rfl rfl rfl rfl (xmC 115 rfl) ⟨rfl, rfl, yle rfl, yle rfl, yle rfl, yle rfl⟩ (yle rfl) (L1 := [_, _]) rfl ⟨yle rfl, yle rfl⟩ ?_
      refine xt_pure rfl rfl rfl rfl ?_
      refine xt_getf rfl rfl (xmC 120 rfl) ?_
      refine xt_pure rfl rfl rfl rfl ?_
      refine yt_inV (c1 := 0) (s1 := 0) (c2 := 0) (s2 := 0) (fr1 := 0) (lo1 := 0) rfl rfl rfl rfl (xmD 0 rfl) ⟨rfl, rfl, yle rfl, yle rfl, yle rfl, yle rfl⟩ (yle rfl) (L1 := [_, _]) rfl ⟨yle rfl, yle rfl⟩ ?_
      refine xt_pure rfl rfl rfl rfl ?_
      refine xt_pure rfl rfl rfl rfl ?_
      refine xt_getf rfl rfl (xmD 0 rfl) ?_
      refine xt_pure rfl rfl rfl (st1 := .int 1 :: _) rfl ?_
      refine xt_pure rfl rfl rfl rfl ?_
      refine xt_putf rfl rfl rfl rfl 0 rfl (D1 := _ :: _ :: _ :: _) rfl ?_
      refine xt_pure rfl rfl rfl rfl ?_
      refine xt_pure rfl rfl rfl rfl ?_
      refine xt_putf rfl rfl rfl rfl 1 rfl (D1 := _ :: _ :: _ :: _) rfl ?_
      refine xt_pure rfl rfl rfl rfl ?_
      refine xt_pure rfl rfl rfl rfl ?_
      refine xt_getf rfl rfl (xmS 3 rfl hfn) ?_
      refine xt_putf rfl rfl rfl rfl 2 rfl (D1 := _ :: _ :: _ :: _) rfl ?_
      refine xt_vret rfl rfl rfl ?_
      show yT _ _ _ _ _ _ (_) _ _ _ _
      refine xt_pure rfl rfl rfl (st1 := .int (-10) :: _) rfl ?_
      refine xt_pure rfl rfl rfl rfl ?_
      refine xt_pure rfl rfl rfl (st1 := .int (-13) :: _) rfl ?_
      refine xt_iret rfl rfl rfl rfl ?_
      show yT _ _ _ _ _ _ (_ :: _) _ _ _ _
      refine xt_iret rfl rfl rfl rfl ?_
      try simp only [xi32_eq, xi64_eq, Int32.toInt_toInt64, Int32.reduceToInt, Int64.reduceToInt, y_m9, y_m1, y_m100, y64_m9, y64_m1, Ne, y_n1x] at hp0 hp1
      have hc : ceV (some ob) fl i j = (-13) := by
        unfold ceV
        try dsimp only
        try rw [hno]
        try dsimp only
        repeat' split
        all_goals first | rfl | (exfalso; omega)
      rw [hc]
      exact ⟨3, (-9), rfl, by simp [flW]⟩
    · skip
      try simp only [Int32.reduceToInt, and_true, and_false, or_false, false_or] at hp1
      exact absurd ⟨by omega, by omega⟩ hnx
