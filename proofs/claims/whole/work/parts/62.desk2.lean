/-! THE DESK, class: line, cell, desk -/
theorem cD_line0 {X : List Int32} {D0 : List xE} {i n : Int32} {fl x1 x2 : Int32} (hfn : ((110, .inl (10, 6, .int (-9))) : xE) ∈ D0) (hh : ((78, .inl (11, 6, .null)) : xE) ∈ D0) : yK X 2 43 100 [.ref 78, .int i, .int n] ((110, .inl (10, 1, .int fl)) :: (110, .inl (10, 4, .int x1)) :: (110, .inl (10, 5, .int x2)) :: D0) 1 6 (fun w D => ∃ y1 y2 : Int32, w = some (.int (liV none fl i n)) ∧ D = (110, .inl (10, 1, .int (flW fl (liV none fl i n)))) :: (110, .inl (10, 4, .int y1)) :: (110, .inl (10, 5, .int y2)) :: D0) := by
  refine yK.of rfl (yle rfl) (L := [_, _, _, _]) rfl ?_
  refine xt_pure rfl rfl rfl rfl ?_
  refine xt_pure rfl rfl rfl (st1 := .int 6 :: _) rfl ?_
  refine yt_ic rfl rfl ?_ ?_
  · intro (hb2_0 : Int32.toInt _ ≤ (6 : Int))
    refine xt_pure rfl rfl rfl rfl ?_
    refine xt_getf rfl rfl (xmC 120 rfl) ?_
    refine xt_callV rfl rfl rfl rfl (xmD 0 rfl) ⟨rfl, rfl, yle rfl, yle rfl, yle rfl, yle rfl⟩ (ck_isFull (List.mem_of_getElem? (i := 0) rfl)) (c2 := 1) (s2 := 6) ⟨yle rfl, yle rfl⟩ ?_
    rintro _ _ (⟨rfl, hp1, rfl⟩ | ⟨rfl, hp1, rfl⟩)
    · skip
      show yT _ _ _ _ _ _ (_ :: _) _ _ _ _
      refine xt_pure rfl rfl rfl rfl ?_
      refine xt_pure rfl rfl rfl (st1 := .int (-3) :: _) rfl ?_
      refine xt_iret rfl rfl rfl rfl ?_
      try simp only [xi32_eq, xi64_eq, Int32.toInt_toInt64, Int32.reduceToInt, Int64.reduceToInt, y_m9, y_m1, y_m100, y64_m9, y64_m1, Ne, y_n1x] at hb2_0 hp1
      have hc : liV none fl i n = (-3) := by
        unfold liV
        try dsimp only
        repeat' split
        all_goals first | rfl | (exfalso; omega)
      rw [hc]
      exact ⟨x1, x2, rfl, by simp [flW]⟩
    · skip
      show yT _ _ _ _ _ _ (_ :: _) _ _ _ _
      refine xt_pure rfl rfl rfl rfl ?_
      refine xt_pure rfl rfl rfl rfl ?_
      refine yt_if rfl rfl ?_ ?_
      · intro (hb12_2 : (0 : Int) ≤ Int32.toInt _)
        refine xt_pure rfl rfl rfl rfl ?_
        refine xt_pure rfl rfl rfl rfl ?_
        refine xt_pure rfl rfl rfl (st1 := .int 4 :: _) rfl ?_
        refine yt_inV (c1 := 0) (s1 := 0) (c2 := 1) (s2 := 6) (fr1 := 1) (lo1 := 21) rfl rfl rfl rfl (xmC 115 rfl) ⟨rfl, rfl, yle rfl, yle rfl, yle rfl, yle rfl⟩ (yle rfl) (L1 := [_, _, _]) rfl ⟨yle rfl, yle rfl⟩ ?_
        refine xt_pure rfl rfl rfl rfl ?_
        refine xt_getf rfl rfl (xmS 3 rfl hh) ?_
        refine xt_pure rfl rfl rfl rfl ?_
        refine xt_pure rfl rfl rfl (st1 := .int 1 :: _) rfl ?_
        refine xt_iret rfl rfl rfl rfl ?_
        show yT _ _ _ _ _ _ (_ :: _) _ _ _ _
        refine xt_pure rfl rfl rfl (L1 := [_, _, _, _]) rfl ?_
        refine xt_pure rfl rfl rfl rfl ?_
        refine xt_pure rfl rfl rfl rfl ?_
        refine xt_pure rfl rfl rfl rfl ?_
        refine xt_pure rfl rfl rfl rfl ?_
        refine yt_inV (c1 := 0) (s1 := 0) (c2 := 1) (s2 := 6) (fr1 := 1) (lo1 := 21) rfl rfl rfl rfl (xmC 115 rfl) ⟨rfl, rfl, yle rfl, yle rfl, yle rfl, yle rfl⟩ (yle rfl) (L1 := [_, _]) rfl ⟨yle rfl, yle rfl⟩ ?_
        refine xt_pure rfl rfl rfl rfl ?_
        refine xt_getf rfl rfl (xmC 120 rfl) ?_
        refine xt_pure rfl rfl rfl rfl ?_
        refine yt_inV (c1 := 0) (s1 := 0) (c2 := 0) (s2 := 0) (fr1 := 0) (lo1 := 0) rfl rfl rfl rfl (xmD 0 rfl) ⟨rfl, rfl, yle rfl, yle rfl, yle rfl, yle rfl⟩ (yle rfl) (L1 := [_, _]) rfl ⟨yle rfl, yle rfl⟩ ?_
        refine xt_pure rfl rfl rfl rfl ?_
        refine xt_pure rfl rfl rfl rfl ?_
        refine xt_getf rfl rfl (xmD 0 rfl) ?_
        refine xt_pure rfl rfl rfl (st1 := .int 1 :: _) rfl ?_
        refine xt_pure rfl rfl rfl rfl ?_
        refine xt_putf rfl rfl rfl rfl 0 rfl (D1 := _ :: _ :: _ :: _) rfl ?_
        refine xt_pure rfl rfl rfl rfl ?_
        refine xt_pure rfl rfl rfl rfl ?_
        refine xt_putf rfl rfl rfl rfl 1 rfl (D1 := _ :: _ :: _ :: _) rfl ?_
        refine xt_pure rfl rfl rfl rfl ?_
        refine xt_pure rfl rfl rfl rfl ?_
        refine xt_getf rfl rfl (xmS 3 rfl hfn) ?_
        refine xt_putf rfl rfl rfl rfl 2 rfl (D1 := _ :: _ :: _ :: _) rfl ?_
        refine xt_vret rfl rfl rfl ?_
        show yT _ _ _ _ _ _ (_) _ _ _ _
        refine xt_pure rfl rfl rfl (st1 := .int (-10) :: _) rfl ?_
        refine xt_pure rfl rfl rfl rfl ?_
        refine xt_pure rfl rfl rfl (st1 := .int (-11) :: _) rfl ?_
        refine xt_iret rfl rfl rfl rfl ?_
        show yT _ _ _ _ _ _ (_ :: _) _ _ _ _
        refine xt_iret rfl rfl rfl rfl ?_
        try simp only [xi32_eq, xi64_eq, Int32.toInt_toInt64, Int32.reduceToInt, Int64.reduceToInt, y_m9, y_m1, y_m100, y64_m9, y64_m1, Ne, y_n1x] at hb2_0 hp1 hb12_2
        have hc : liV none fl i n = (-11) := by
          unfold liV
          try dsimp only
          repeat' split
          all_goals first | rfl | (exfalso; omega)
        rw [hc]
        exact ⟨1, (-9), rfl, by simp [flW]⟩
      · intro (hb12_2 : Int32.toInt _ < (0 : Int))
        refine xt_pure rfl rfl rfl rfl ?_
        refine xt_pure rfl rfl rfl (st1 := .int 6 :: _) rfl ?_
        refine yt_inV (c1 := 0) (s1 := 0) (c2 := 1) (s2 := 6) (fr1 := 1) (lo1 := 21) rfl rfl rfl rfl (xmC 115 rfl) ⟨rfl, rfl, yle rfl, yle rfl, yle rfl, yle rfl⟩ (yle rfl) (L1 := [_, _]) rfl ⟨yle rfl, yle rfl⟩ ?_
        refine xt_pure rfl rfl rfl rfl ?_
        refine xt_getf rfl rfl (xmC 120 rfl) ?_
        refine xt_pure rfl rfl rfl rfl ?_
        refine yt_inV (c1 := 0) (s1 := 0) (c2 := 0) (s2 := 0) (fr1 := 0) (lo1 := 0) rfl rfl rfl rfl (xmD 0 rfl) ⟨rfl, rfl, yle rfl, yle rfl, yle rfl, yle rfl⟩ (yle rfl) (L1 := [_, _]) rfl ⟨yle rfl, yle rfl⟩ ?_
        refine xt_pure rfl rfl rfl rfl ?_
        refine xt_pure rfl rfl rfl rfl ?_
        refine xt_getf rfl rfl (xmD 0 rfl) ?_
        refine xt_pure rfl rfl rfl (st1 := .int 1 :: _) rfl ?_
        refine xt_pure rfl rfl rfl rfl ?_
        refine xt_putf rfl rfl rfl rfl 0 rfl (D1 := _ :: _ :: _ :: _) rfl ?_
        refine xt_pure rfl rfl rfl rfl ?_
        refine xt_pure rfl rfl rfl rfl ?_
        refine xt_putf rfl rfl rfl rfl 1 rfl (D1 := _ :: _ :: _ :: _) rfl ?_
        refine xt_pure rfl rfl rfl rfl ?_
        refine xt_pure rfl rfl rfl rfl ?_
        refine xt_getf rfl rfl (xmS 3 rfl hfn) ?_
        refine xt_putf rfl rfl rfl rfl 2 rfl (D1 := _ :: _ :: _ :: _) rfl ?_
        refine xt_vret rfl rfl rfl ?_
        show yT _ _ _ _ _ _ (_) _ _ _ _
        refine xt_pure rfl rfl rfl (st1 := .int (-10) :: _) rfl ?_
        refine xt_pure rfl rfl rfl rfl ?_
        refine xt_pure rfl rfl rfl (st1 := .int (-16) :: _) rfl ?_
        refine xt_iret rfl rfl rfl rfl ?_
        show yT _ _ _ _ _ _ (_ :: _) _ _ _ _
        refine xt_iret rfl rfl rfl rfl ?_
        try simp only [xi32_eq, xi64_eq, Int32.toInt_toInt64, Int32.reduceToInt, Int64.reduceToInt, y_m9, y_m1, y_m100, y64_m9, y64_m1, Ne, y_n1x] at hb2_0 hp1 hb12_2
        have hc : liV none fl i n = (-16) := by
          unfold liV
          try dsimp only
          repeat' split
          all_goals first | rfl | (exfalso; omega)
        rw [hc]
        exact ⟨6, (-9), rfl, by simp [flW]⟩
  · intro (hb2_0 : (6 : Int) < Int32.toInt _)
    refine xt_pure rfl rfl rfl (st1 := .int (-1) :: _) rfl ?_
    refine xt_iret rfl rfl rfl rfl ?_
    try simp only [xi32_eq, xi64_eq, Int32.toInt_toInt64, Int32.reduceToInt, Int64.reduceToInt, y_m9, y_m1, y_m100, y64_m9, y64_m1, Ne, y_n1x] at hb2_0
    have hc : liV none fl i n = (-1) := by
      unfold liV
      try dsimp only
      repeat' split
      all_goals first | rfl | (exfalso; omega)
    rw [hc]
    exact ⟨x1, x2, rfl, by simp [flW]⟩
theorem cD_line1 {X : List Int32} {D0 : List xE} {i n : Int32} {rr : List Value} {fl x1 x2 : Int32} (hfn : ((110, .inl (10, 6, .int (-9))) : xE) ∈ D0) {a ia ra : Nat} {ob : yO} (hs : ob.1 ≤ 7) (hz : osz ob ≤ 12) (hh : ((78, .inl (11, 6, .ref a)) : xE) ∈ D0) (k0 : ((a, .inl (6, 0, .int (Int32.ofNat ob.1))) : xE) ∈ D0) (k1 : ((a, .inl (6, 1, .int (Int32.ofNat (osz ob)))) : xE) ∈ D0) (k2 : ((a, .inl (6, 2, .ref ia)) : xE) ∈ D0) (k3 : ((a, .inl (6, 3, .ref ra)) : xE) ∈ D0) (hrr : ob.1 = 4 → rr.length = ob.2.2.length) : yK X 2 43 100 [.ref 78, .int i, .int n] ((110, .inl (10, 1, .int fl)) :: (110, .inl (10, 4, .int x1)) :: (110, .inl (10, 5, .int x2)) :: (ra, .inr (4, rr)) :: D0) 1 6 (fun w D => ∃ y1 y2 : Int32, w = some (.int (liV (some ob) fl i n)) ∧ ((liV (some ob) fl i n ≠ 0 ∧ D = (110, .inl (10, 1, .int (flW fl (liV (some ob) fl i n)))) :: (110, .inl (10, 4, .int y1)) :: (110, .inl (10, 5, .int y2)) :: (ra, .inr (4, rr)) :: D0) ∨ (liV (some ob) fl i n = 0 ∧ ∃ k, D = (k, .inr (0, (List.replicate n.toInt.toNat (0 : Int32)).map Value.int)) :: (110, .inl (10, 1, .int (flW fl (liV (some ob) fl i n)))) :: (110, .inl (10, 4, .int y1)) :: (110, .inl (10, 5, .int y2)) :: (ra, .inr (4, rr.set i.toInt.toNat (.ref k))) :: D0))) := by
  have es := yi_nat (i := ob.1) (by omega)
  have ez := yi_nat (i := osz ob) (by omega)
  refine yK.of rfl (yle rfl) (L := [_, _, _, _]) rfl ?_
  refine xt_pure rfl rfl rfl rfl ?_
  refine xt_pure rfl rfl rfl (st1 := .int 6 :: _) rfl ?_
  refine yt_ic rfl rfl ?_ ?_
  · intro (hb2_0 : Int32.toInt _ ≤ (6 : Int))
    refine xt_pure rfl rfl rfl rfl ?_
    refine xt_getf rfl rfl (xmC 120 rfl) ?_
    refine xt_callV rfl rfl rfl rfl (xmD 0 rfl) ⟨rfl, rfl, yle rfl, yle rfl, yle rfl, yle rfl⟩ (ck_isFull (List.mem_of_getElem? (i := 0) rfl)) (c2 := 1) (s2 := 6) ⟨yle rfl, yle rfl⟩ ?_
    rintro _ _ (⟨rfl, hp1, rfl⟩ | ⟨rfl, hp1, rfl⟩)
    · skip
      show yT _ _ _ _ _ _ (_ :: _) _ _ _ _
      refine xt_pure rfl rfl rfl rfl ?_
      refine xt_pure rfl rfl rfl (st1 := .int (-3) :: _) rfl ?_
      refine xt_iret rfl rfl rfl rfl ?_
      try simp only [xi32_eq, xi64_eq, Int32.toInt_toInt64, Int32.reduceToInt, Int64.reduceToInt, y_m9, y_m1, y_m100, y64_m9, y64_m1, Ne, y_n1x] at hb2_0 hp1
      have hc : liV (some ob) fl i n = (-3) := by
        unfold liV
        try dsimp only
        repeat' split
        all_goals first | rfl | (exfalso; omega)
      rw [hc]
      exact ⟨_, _, rfl, Or.inl ⟨by decide, rfl⟩⟩
    · skip
      show yT _ _ _ _ _ _ (_ :: _) _ _ _ _
      refine xt_pure rfl rfl rfl rfl ?_
      refine xt_pure rfl rfl rfl rfl ?_
      refine yt_if rfl rfl ?_ ?_
      · intro (hb12_2 : (0 : Int) ≤ Int32.toInt _)
        refine xt_pure rfl rfl rfl rfl ?_
        refine xt_pure rfl rfl rfl rfl ?_
        refine xt_pure rfl rfl rfl (st1 := .int 4 :: _) rfl ?_
        refine xt_callV rfl rfl rfl rfl (xmC 115 rfl) ⟨rfl, rfl, yle rfl, yle rfl, yle rfl, yle rfl⟩ (ck_deskF hs hz (ymS 4 rfl hh) (ymS 4 rfl k0) (ymS 4 rfl k1)) (c2 := 1) (s2 := 6) ⟨yle rfl, yle rfl⟩ ?_
        rintro _ _ (⟨rfl, hp3, rfl⟩ | ⟨rfl, hp3, rfl⟩ | ⟨rfl, hp3, rfl⟩)
        · skip
          try simp only [Int32.reduceToInt, and_true, and_false, or_false, false_or] at hp3
          show yT _ _ _ _ _ _ (_ :: _) _ _ _ _
          refine xt_pure rfl rfl rfl (L1 := [_, _, _, _]) rfl ?_
          refine xt_pure rfl rfl rfl rfl ?_
          refine xt_pure rfl rfl rfl rfl ?_
          refine xt_pure rfl rfl rfl rfl ?_
          refine xt_pure rfl rfl rfl rfl ?_
          refine yt_inV (c1 := 0) (s1 := 0) (c2 := 1) (s2 := 6) (fr1 := 1) (lo1 := 21) rfl rfl rfl rfl (xmC 115 rfl) ⟨rfl, rfl, yle rfl, yle rfl, yle rfl, yle rfl⟩ (yle rfl) (L1 := [_, _]) rfl ⟨yle rfl, yle rfl⟩ ?_
          refine xt_pure rfl rfl rfl rfl ?_
          refine xt_getf rfl rfl (xmC 120 rfl) ?_
          refine xt_pure rfl rfl rfl rfl ?_
          refine yt_inV (c1 := 0) (s1 := 0) (c2 := 0) (s2 := 0) (fr1 := 0) (lo1 := 0) rfl rfl rfl rfl (xmD 0 rfl) ⟨rfl, rfl, yle rfl, yle rfl, yle rfl, yle rfl⟩ (yle rfl) (L1 := [_, _]) rfl ⟨yle rfl, yle rfl⟩ ?_
          refine xt_pure rfl rfl rfl rfl ?_
          refine xt_pure rfl rfl rfl rfl ?_
          refine xt_getf rfl rfl (xmD 0 rfl) ?_
          refine xt_pure rfl rfl rfl (st1 := .int 1 :: _) rfl ?_
          refine xt_pure rfl rfl rfl rfl ?_
          refine xt_putf rfl rfl rfl rfl 0 rfl (D1 := _ :: _ :: _ :: _ :: _) rfl ?_
          refine xt_pure rfl rfl rfl rfl ?_
          refine xt_pure rfl rfl rfl rfl ?_
          refine xt_putf rfl rfl rfl rfl 1 rfl (D1 := _ :: _ :: _ :: _ :: _) rfl ?_
          refine xt_pure rfl rfl rfl rfl ?_
          refine xt_pure rfl rfl rfl rfl ?_
          refine xt_getf rfl rfl (xmS 4 rfl hfn) ?_
          refine xt_putf rfl rfl rfl rfl 2 rfl (D1 := _ :: _ :: _ :: _ :: _) rfl ?_
          refine xt_vret rfl rfl rfl ?_
          show yT _ _ _ _ _ _ (_) _ _ _ _
          refine xt_pure rfl rfl rfl (st1 := .int (-10) :: _) rfl ?_
          refine xt_pure rfl rfl rfl rfl ?_
          refine xt_pure rfl rfl rfl (st1 := .int (-12) :: _) rfl ?_
          refine xt_iret rfl rfl rfl rfl ?_
          show yT _ _ _ _ _ _ (_ :: _) _ _ _ _
          refine xt_iret rfl rfl rfl rfl ?_
          try simp only [xi32_eq, xi64_eq, Int32.toInt_toInt64, Int32.reduceToInt, Int64.reduceToInt, y_m9, y_m1, y_m100, y64_m9, y64_m1, Ne, y_n1x] at hb2_0 hp1 hb12_2 hp3
          have hc : liV (some ob) fl i n = (-12) := by
            unfold liV
            try dsimp only
            repeat' split
            all_goals first | rfl | (exfalso; omega)
          rw [hc]
          exact ⟨_, _, rfl, Or.inl ⟨by decide, rfl⟩⟩
        · skip
          try simp only [Int32.reduceToInt, and_true, and_false, or_false, false_or] at hp3
          show yT _ _ _ _ _ _ (_ :: _) _ _ _ _
          refine xt_pure rfl rfl rfl (L1 := [_, _, _, _]) rfl ?_
          refine xt_pure rfl rfl rfl rfl ?_
          refine xt_pure rfl rfl rfl rfl ?_
          refine xt_pure rfl rfl rfl rfl ?_
          refine xt_pure rfl rfl rfl rfl ?_
          refine yt_inV (c1 := 0) (s1 := 0) (c2 := 1) (s2 := 6) (fr1 := 1) (lo1 := 21) rfl rfl rfl rfl (xmC 115 rfl) ⟨rfl, rfl, yle rfl, yle rfl, yle rfl, yle rfl⟩ (yle rfl) (L1 := [_, _]) rfl ⟨yle rfl, yle rfl⟩ ?_
          refine xt_pure rfl rfl rfl rfl ?_
          refine xt_getf rfl rfl (xmC 120 rfl) ?_
          refine xt_pure rfl rfl rfl rfl ?_
          refine yt_inV (c1 := 0) (s1 := 0) (c2 := 0) (s2 := 0) (fr1 := 0) (lo1 := 0) rfl rfl rfl rfl (xmD 0 rfl) ⟨rfl, rfl, yle rfl, yle rfl, yle rfl, yle rfl⟩ (yle rfl) (L1 := [_, _]) rfl ⟨yle rfl, yle rfl⟩ ?_
          refine xt_pure rfl rfl rfl rfl ?_
          refine xt_pure rfl rfl rfl rfl ?_
          refine xt_getf rfl rfl (xmD 0 rfl) ?_
          refine xt_pure rfl rfl rfl (st1 := .int 1 :: _) rfl ?_
          refine xt_pure rfl rfl rfl rfl ?_
          refine xt_putf rfl rfl rfl rfl 0 rfl (D1 := _ :: _ :: _ :: _ :: _) rfl ?_
          refine xt_pure rfl rfl rfl rfl ?_
          refine xt_pure rfl rfl rfl rfl ?_
          refine xt_putf rfl rfl rfl rfl 1 rfl (D1 := _ :: _ :: _ :: _ :: _) rfl ?_
          refine xt_pure rfl rfl rfl rfl ?_
          refine xt_pure rfl rfl rfl rfl ?_
          refine xt_getf rfl rfl (xmS 4 rfl hfn) ?_
          refine xt_putf rfl rfl rfl rfl 2 rfl (D1 := _ :: _ :: _ :: _ :: _) rfl ?_
          refine xt_vret rfl rfl rfl ?_
          show yT _ _ _ _ _ _ (_) _ _ _ _
          refine xt_pure rfl rfl rfl (st1 := .int (-10) :: _) rfl ?_
          refine xt_pure rfl rfl rfl rfl ?_
          refine xt_pure rfl rfl rfl (st1 := .int (-13) :: _) rfl ?_
          refine xt_iret rfl rfl rfl rfl ?_
          show yT _ _ _ _ _ _ (_ :: _) _ _ _ _
          refine xt_iret rfl rfl rfl rfl ?_
          try simp only [xi32_eq, xi64_eq, Int32.toInt_toInt64, Int32.reduceToInt, Int64.reduceToInt, y_m9, y_m1, y_m100, y64_m9, y64_m1, Ne, y_n1x] at hb2_0 hp1 hb12_2 hp3
          have hc : liV (some ob) fl i n = (-13) := by
            unfold liV
            try dsimp only
            repeat' split
            all_goals first | rfl | (exfalso; omega)
          rw [hc]
          exact ⟨_, _, rfl, Or.inl ⟨by decide, rfl⟩⟩
        · skip
          try simp only [Int32.reduceToInt, and_true, and_false, or_false, false_or] at hp3
          show yT _ _ _ _ _ _ (_ :: _) _ _ _ _
          refine xt_pure rfl rfl rfl (L1 := [_, _, _, _]) rfl ?_
          refine xt_pure rfl rfl rfl rfl ?_
          refine xt_pure rfl rfl rfl rfl ?_
          refine xt_pure rfl rfl rfl rfl ?_
          refine xt_getf rfl rfl (xmS 4 rfl hh) ?_
          refine xt_getf rfl rfl (xmS 4 rfl k3) ?_
          refine xt_pure rfl rfl rfl rfl ?_
          refine xt_pure rfl rfl rfl rfl ?_
          refine yt_newI rfl rfl ⟨by omega, by omega⟩ (c1 := 0) (s1 := 0) (yle rfl) (by omega) ?_
          intro k
          refine yt_ast rfl rfl 4 rfl rfl (by decide) (Or.inr ⟨_, 0, _, rfl, rfl, List.mem_of_getElem? (i := 0) rfl⟩) ⟨by omega, by have h1 := hrr (by omega); have h2 := osz4 (o := ob) (by omega); omega⟩ (D1 := _ :: _ :: _ :: _ :: _ :: _) rfl ?_
          refine xt_pure rfl rfl rfl (st1 := .int 0 :: _) rfl ?_
          refine xt_iret rfl rfl rfl rfl ?_
          try simp only [xi32_eq, xi64_eq, Int32.toInt_toInt64, Int32.reduceToInt, Int64.reduceToInt, y_m9, y_m1, y_m100, y64_m9, y64_m1, Ne, y_n1x] at hb2_0 hp1 hb12_2 hp3
          have hc : liV (some ob) fl i n = 0 := by
            unfold liV
            try dsimp only
            repeat' split
            all_goals first | rfl | (exfalso; omega)
          rw [hc]
          exact ⟨_, _, rfl, Or.inr ⟨rfl, k, rfl⟩⟩
      · intro (hb12_2 : Int32.toInt _ < (0 : Int))
        refine xt_pure rfl rfl rfl rfl ?_
        refine xt_pure rfl rfl rfl (st1 := .int 6 :: _) rfl ?_
        refine yt_inV (c1 := 0) (s1 := 0) (c2 := 1) (s2 := 6) (fr1 := 1) (lo1 := 21) rfl rfl rfl rfl (xmC 115 rfl) ⟨rfl, rfl, yle rfl, yle rfl, yle rfl, yle rfl⟩ (yle rfl) (L1 := [_, _]) rfl ⟨yle rfl, yle rfl⟩ ?_
        refine xt_pure rfl rfl rfl rfl ?_
        refine xt_getf rfl rfl (xmC 120 rfl) ?_
        refine xt_pure rfl rfl rfl rfl ?_
        refine yt_inV (c1 := 0) (s1 := 0) (c2 := 0) (s2 := 0) (fr1 := 0) (lo1 := 0) rfl rfl rfl rfl (xmD 0 rfl) ⟨rfl, rfl, yle rfl, yle rfl, yle rfl, yle rfl⟩ (yle rfl) (L1 := [_, _]) rfl ⟨yle rfl, yle rfl⟩ ?_
        refine xt_pure rfl rfl rfl rfl ?_
        refine xt_pure rfl rfl rfl rfl ?_
        refine xt_getf rfl rfl (xmD 0 rfl) ?_
        refine xt_pure rfl rfl rfl (st1 := .int 1 :: _) rfl ?_
        refine xt_pure rfl rfl rfl rfl ?_
        refine xt_putf rfl rfl rfl rfl 0 rfl (D1 := _ :: _ :: _ :: _ :: _) rfl ?_
        refine xt_pure rfl rfl rfl rfl ?_
        refine xt_pure rfl rfl rfl rfl ?_
        refine xt_putf rfl rfl rfl rfl 1 rfl (D1 := _ :: _ :: _ :: _ :: _) rfl ?_
        refine xt_pure rfl rfl rfl rfl ?_
        refine xt_pure rfl rfl rfl rfl ?_
        refine xt_getf rfl rfl (xmS 4 rfl hfn) ?_
        refine xt_putf rfl rfl rfl rfl 2 rfl (D1 := _ :: _ :: _ :: _ :: _) rfl ?_
        refine xt_vret rfl rfl rfl ?_
        show yT _ _ _ _ _ _ (_) _ _ _ _
        refine xt_pure rfl rfl rfl (st1 := .int (-10) :: _) rfl ?_
        refine xt_pure rfl rfl rfl rfl ?_
        refine xt_pure rfl rfl rfl (st1 := .int (-16) :: _) rfl ?_
        refine xt_iret rfl rfl rfl rfl ?_
        show yT _ _ _ _ _ _ (_ :: _) _ _ _ _
        refine xt_iret rfl rfl rfl rfl ?_
        try simp only [xi32_eq, xi64_eq, Int32.toInt_toInt64, Int32.reduceToInt, Int64.reduceToInt, y_m9, y_m1, y_m100, y64_m9, y64_m1, Ne, y_n1x] at hb2_0 hp1 hb12_2
        have hc : liV (some ob) fl i n = (-16) := by
          unfold liV
          try dsimp only
          repeat' split
          all_goals first | rfl | (exfalso; omega)
        rw [hc]
        exact ⟨_, _, rfl, Or.inl ⟨by decide, rfl⟩⟩
  · intro (hb2_0 : (6 : Int) < Int32.toInt _)
    refine xt_pure rfl rfl rfl (st1 := .int (-1) :: _) rfl ?_
    refine xt_iret rfl rfl rfl rfl ?_
    try simp only [xi32_eq, xi64_eq, Int32.toInt_toInt64, Int32.reduceToInt, Int64.reduceToInt, y_m9, y_m1, y_m100, y64_m9, y64_m1, Ne, y_n1x] at hb2_0
    have hc : liV (some ob) fl i n = (-1) := by
      unfold liV
      try dsimp only
      repeat' split
      all_goals first | rfl | (exfalso; omega)
    rw [hc]
    exact ⟨_, _, rfl, Or.inl ⟨by decide, rfl⟩⟩
theorem cD_cell0 {X : List Int32} {D0 : List xE} {i j v : Int32} {fl x1 x2 : Int32} (hfn : ((110, .inl (10, 6, .int (-9))) : xE) ∈ D0) (hh : ((78, .inl (11, 6, .null)) : xE) ∈ D0) : yK X 2 43 103 [.ref 78, .int i, .int j, .int v] ((110, .inl (10, 1, .int fl)) :: (110, .inl (10, 4, .int x1)) :: (110, .inl (10, 5, .int x2)) :: D0) 0 0 (fun w D => ∃ y1 y2 : Int32, w = some (.int (ceV none fl i j)) ∧ D = (110, .inl (10, 1, .int (flW fl (ceV none fl i j)))) :: (110, .inl (10, 4, .int y1)) :: (110, .inl (10, 5, .int y2)) :: D0) := by
  refine yK.of rfl (yle rfl) (L := [_, _, _, _, _, _]) rfl ?_
  refine xt_pure rfl rfl rfl rfl ?_
  refine xt_getf rfl rfl (xmC 120 rfl) ?_
  refine xt_callV rfl rfl rfl rfl (xmD 0 rfl) ⟨rfl, rfl, yle rfl, yle rfl, yle rfl, yle rfl⟩ (ck_isFull (List.mem_of_getElem? (i := 0) rfl)) (c2 := 0) (s2 := 0) ⟨yle rfl, yle rfl⟩ ?_
  rintro _ _ (⟨rfl, hp0, rfl⟩ | ⟨rfl, hp0, rfl⟩)
  · skip
    show yT _ _ _ _ _ _ (_ :: _) _ _ _ _
    refine xt_pure rfl rfl rfl rfl ?_
    refine xt_pure rfl rfl rfl (st1 := .int (-3) :: _) rfl ?_
    refine xt_iret rfl rfl rfl rfl ?_
    try simp only [xi32_eq, xi64_eq, Int32.toInt_toInt64, Int32.reduceToInt, Int64.reduceToInt, y_m9, y_m1, y_m100, y64_m9, y64_m1, Ne, y_n1x] at hp0
    have hc : ceV none fl i j = (-3) := by
      unfold ceV
      try dsimp only
      repeat' split
      all_goals first | rfl | (exfalso; omega)
    rw [hc]
    exact ⟨x1, x2, rfl, by simp [flW]⟩
  · skip
    show yT _ _ _ _ _ _ (_ :: _) _ _ _ _
    refine xt_pure rfl rfl rfl rfl ?_
    refine xt_pure rfl rfl rfl rfl ?_
    refine xt_pure rfl rfl rfl rfl ?_
    refine xt_pure rfl rfl rfl (st1 := .int 4 :: _) rfl ?_
    refine yt_inV (c1 := 0) (s1 := 0) (c2 := 0) (s2 := 0) (fr1 := 1) (lo1 := 21) rfl rfl rfl rfl (xmC 115 rfl) ⟨rfl, rfl, yle rfl, yle rfl, yle rfl, yle rfl⟩ (yle rfl) (L1 := [_, _, _]) rfl ⟨yle rfl, yle rfl⟩ ?_
    refine xt_pure rfl rfl rfl rfl ?_
    refine xt_getf rfl rfl (xmS 3 rfl hh) ?_
    refine xt_pure rfl rfl rfl rfl ?_
    refine xt_pure rfl rfl rfl (st1 := .int 1 :: _) rfl ?_
    refine xt_iret rfl rfl rfl rfl ?_
    show yT _ _ _ _ _ _ (_ :: _) _ _ _ _
    refine xt_pure rfl rfl rfl (L1 := [_, _, _, _, _, _]) rfl ?_
    refine xt_pure rfl rfl rfl rfl ?_
    refine xt_pure rfl rfl rfl rfl ?_
    refine xt_pure rfl rfl rfl rfl ?_
    refine xt_pure rfl rfl rfl rfl ?_
    refine yt_inV (c1 := 0) (s1 := 0) (c2 := 0) (s2 := 0) (fr1 := 1) (lo1 := 21) rfl rfl rfl rfl (xmC 115 rfl) ⟨rfl, rfl, yle rfl, yle rfl, yle rfl, yle rfl⟩ (yle rfl) (L1 := [_, _]) rfl ⟨yle rfl, yle rfl⟩ ?_
    refine xt_pure rfl rfl rfl rfl ?_
    refine xt_getf rfl rfl (xmC 120 rfl) ?_
    refine xt_pure rfl rfl rfl rfl ?_
    refine yt_inV (c1 := 0) (s1 := 0) (c2 := 0) (s2 := 0) (fr1 := 0) (lo1 := 0) rfl rfl rfl rfl (xmD 0 rfl) ⟨rfl, rfl, yle rfl, yle rfl, yle rfl, yle rfl⟩ (yle rfl) (L1 := [_, _]) rfl ⟨yle rfl, yle rfl⟩ ?_
    refine xt_pure rfl rfl rfl rfl ?_
    refine xt_pure rfl rfl rfl rfl ?_
    refine xt_getf rfl rfl (xmD 0 rfl) ?_
    refine xt_pure rfl rfl rfl (st1 := .int 1 :: _) rfl ?_
    refine xt_pure rfl rfl rfl rfl ?_
    refine xt_putf rfl rfl rfl rfl 0 rfl (D1 := _ :: _ :: _ :: _) rfl ?_
    refine xt_pure rfl rfl rfl rfl ?_
    refine xt_pure rfl rfl rfl rfl ?_
    refine xt_putf rfl rfl rfl rfl 1 rfl (D1 := _ :: _ :: _ :: _) rfl ?_
    refine xt_pure rfl rfl rfl rfl ?_
    refine xt_pure rfl rfl rfl rfl ?_
    refine xt_getf rfl rfl (xmS 3 rfl hfn) ?_
    refine xt_putf rfl rfl rfl rfl 2 rfl (D1 := _ :: _ :: _ :: _) rfl ?_
    refine xt_vret rfl rfl rfl ?_
    show yT _ _ _ _ _ _ (_) _ _ _ _
    refine xt_pure rfl rfl rfl (st1 := .int (-10) :: _) rfl ?_
    refine xt_pure rfl rfl rfl rfl ?_
    refine xt_pure rfl rfl rfl (st1 := .int (-11) :: _) rfl ?_
    refine xt_iret rfl rfl rfl rfl ?_
    show yT _ _ _ _ _ _ (_ :: _) _ _ _ _
    refine xt_iret rfl rfl rfl rfl ?_
    try simp only [xi32_eq, xi64_eq, Int32.toInt_toInt64, Int32.reduceToInt, Int64.reduceToInt, y_m9, y_m1, y_m100, y64_m9, y64_m1, Ne, y_n1x] at hp0
    have hc : ceV none fl i j = (-11) := by
      unfold ceV
      try dsimp only
      repeat' split
      all_goals first | rfl | (exfalso; omega)
    rw [hc]
    exact ⟨1, (-9), rfl, by simp [flW]⟩
theorem cD_cellN {X : List Int32} {D0 : List xE} {i j v : Int32} {fl x1 x2 : Int32} (hfn : ((110, .inl (10, 6, .int (-9))) : xE) ∈ D0) {a ia ra : Nat} {ob : yO} (hs : ob.1 ≤ 7) (hz : osz ob ≤ 12) (hh : ((78, .inl (11, 6, .ref a)) : xE) ∈ D0) (k0 : ((a, .inl (6, 0, .int (Int32.ofNat ob.1))) : xE) ∈ D0) (k1 : ((a, .inl (6, 1, .int (Int32.ofNat (osz ob)))) : xE) ∈ D0) (k2 : ((a, .inl (6, 2, .ref ia)) : xE) ∈ D0) (k3 : ((a, .inl (6, 3, .ref ra)) : xE) ∈ D0) {rr : List Value} (kr : ((ra, .inr (4, rr)) : xE) ∈ D0) (hrr : ob.1 = 4 → rr.length = ob.2.2.length) (hno : rwO ob i = none) (hnl : ∀ x, rr[i.toInt.toNat]? = some x → x = .null) : yK X 2 43 103 [.ref 78, .int i, .int j, .int v] ((110, .inl (10, 1, .int fl)) :: (110, .inl (10, 4, .int x1)) :: (110, .inl (10, 5, .int x2)) :: D0) 0 0 (fun w D => ∃ y1 y2 : Int32, w = some (.int (ceV (some ob) fl i j)) ∧ D = (110, .inl (10, 1, .int (flW fl (ceV (some ob) fl i j)))) :: (110, .inl (10, 4, .int y1)) :: (110, .inl (10, 5, .int y2)) :: D0) := by
  have es := yi_nat (i := ob.1) (by omega)
  have ez := yi_nat (i := osz ob) (by omega)
  refine yK.of rfl (yle rfl) (L := [_, _, _, _, _, _]) rfl ?_
  refine xt_pure rfl rfl rfl rfl ?_
  refine xt_getf rfl rfl (xmC 120 rfl) ?_
  refine xt_callV rfl rfl rfl rfl (xmD 0 rfl) ⟨rfl, rfl, yle rfl, yle rfl, yle rfl, yle rfl⟩ (ck_isFull (List.mem_of_getElem? (i := 0) rfl)) (c2 := 0) (s2 := 0) ⟨yle rfl, yle rfl⟩ ?_
  rintro _ _ (⟨rfl, hp0, rfl⟩ | ⟨rfl, hp0, rfl⟩)
  · skip
    show yT _ _ _ _ _ _ (_ :: _) _ _ _ _
    refine xt_pure rfl rfl rfl rfl ?_
    refine xt_pure rfl rfl rfl (st1 := .int (-3) :: _) rfl ?_
    refine xt_iret rfl rfl rfl rfl ?_
    try simp only [xi32_eq, xi64_eq, Int32.toInt_toInt64, Int32.reduceToInt, Int64.reduceToInt, y_m9, y_m1, y_m100, y64_m9, y64_m1, Ne, y_n1x] at hp0
    have hc : ceV (some ob) fl i j = (-3) := by
      unfold ceV
      try dsimp only
      try rw [hno]
      try dsimp only
      repeat' split
      all_goals first | rfl | (exfalso; omega)
    rw [hc]
    exact ⟨x1, x2, rfl, by simp [flW]⟩
  · skip
    show yT _ _ _ _ _ _ (_ :: _) _ _ _ _
    refine xt_pure rfl rfl rfl rfl ?_
    refine xt_pure rfl rfl rfl rfl ?_
    refine xt_pure rfl rfl rfl rfl ?_
    refine xt_pure rfl rfl rfl (st1 := .int 4 :: _) rfl ?_
    refine xt_callV rfl rfl rfl rfl (xmC 115 rfl) ⟨rfl, rfl, yle rfl, yle rfl, yle rfl, yle rfl⟩ (ck_deskF hs hz (ymS 3 rfl hh) (ymS 3 rfl k0) (ymS 3 rfl k1)) (c2 := 0) (s2 := 0) ⟨yle rfl, yle rfl⟩ ?_
    rintro _ _ (⟨rfl, hp1, rfl⟩ | ⟨rfl, hp1, rfl⟩ | ⟨rfl, hp1, rfl⟩)
    · skip
      try simp only [Int32.reduceToInt, and_true, and_false, or_false, false_or] at hp1
      show yT _ _ _ _ _ _ (_ :: _) _ _ _ _
      refine xt_pure rfl rfl rfl (L1 := [_, _, _, _, _, _]) rfl ?_
      refine xt_pure rfl rfl rfl rfl ?_
      refine xt_pure rfl rfl rfl rfl ?_
      refine xt_pure rfl rfl rfl rfl ?_
      refine xt_pure rfl rfl rfl rfl ?_
      refine yt_inV (c1 := 0) (s1 := 0) (c2 := 0) (s2 := 0) (fr1 := 1) (lo1 := 21) rfl rfl rfl rfl (xmC 115 rfl) ⟨rfl, rfl, yle rfl, yle rfl, yle rfl, yle rfl⟩ (yle rfl) (L1 := [_, _]) rfl ⟨yle rfl, yle rfl⟩ ?_
      refine xt_pure rfl rfl rfl rfl ?_
      refine xt_getf rfl rfl (xmC 120 rfl) ?_
      refine xt_pure rfl rfl rfl rfl ?_
      refine yt_inV (c1 := 0) (s1 := 0) (c2 := 0) (s2 := 0) (fr1 := 0) (lo1 := 0) rfl rfl rfl rfl (xmD 0 rfl) ⟨rfl, rfl, yle rfl, yle rfl, yle rfl, yle rfl⟩ (yle rfl) (L1 := [_, _]) rfl ⟨yle rfl, yle rfl⟩ ?_
      refine xt_pure rfl rfl rfl rfl ?_
      refine xt_pure rfl rfl rfl rfl ?_
      refine xt_getf rfl rfl (xmD 0 rfl) ?_
      refine xt_pure rfl rfl rfl (st1 := .int 1 :: _) rfl ?_
      refine xt_pure rfl rfl rfl rfl ?_
      refine xt_putf rfl rfl rfl rfl 0 rfl (D1 := _ :: _ :: _ :: _) rfl ?_
      refine xt_pure rfl rfl rfl rfl ?_
      refine xt_pure rfl rfl rfl rfl ?_
      refine xt_putf rfl rfl rfl rfl 1 rfl (D1 := _ :: _ :: _ :: _) rfl ?_
      refine xt_pure rfl rfl rfl rfl ?_
      refine xt_pure rfl rfl rfl rfl ?_
      refine xt_getf rfl rfl (xmS 3 rfl hfn) ?_
      refine xt_putf rfl rfl rfl rfl 2 rfl (D1 := _ :: _ :: _ :: _) rfl ?_
      refine xt_vret rfl rfl rfl ?_
      show yT _ _ _ _ _ _ (_) _ _ _ _
      refine xt_pure rfl rfl rfl (st1 := .int (-10) :: _) rfl ?_
      refine xt_pure rfl rfl rfl rfl ?_
      refine xt_pure rfl rfl rfl (st1 := .int (-12) :: _) rfl ?_
      refine xt_iret rfl rfl rfl rfl ?_
      show yT _ _ _ _ _ _ (_ :: _) _ _ _ _
      refine xt_iret rfl rfl rfl rfl ?_
      try simp only [xi32_eq, xi64_eq, Int32.toInt_toInt64, Int32.reduceToInt, Int64.reduceToInt, y_m9, y_m1, y_m100, y64_m9, y64_m1, Ne, y_n1x] at hp0 hp1
      have hc : ceV (some ob) fl i j = (-12) := by
        unfold ceV
        try dsimp only
        try rw [hno]
        try dsimp only
        repeat' split
        all_goals first | rfl | (exfalso; omega)
      rw [hc]
      exact ⟨2, (-9), rfl, by simp [flW]⟩
    · skip
      try simp only [Int32.reduceToInt, and_true, and_false, or_false, false_or] at hp1
      show yT _ _ _ _ _ _ (_ :: _) _ _ _ _
      refine xt_pure rfl rfl rfl (L1 := [_, _, _, _, _, _]) rfl ?_
      refine xt_pure rfl rfl rfl rfl ?_
      refine xt_pure rfl rfl rfl rfl ?_
      refine xt_pure rfl rfl rfl rfl ?_
      refine xt_pure rfl rfl rfl rfl ?_
      refine yt_inV (c1 := 0) (s1 := 0) (c2 := 0) (s2 := 0) (fr1 := 1) (lo1 := 21) rfl rfl rfl rfl (xmC 115 rfl) ⟨rfl, rfl, yle rfl, yle rfl, yle rfl, yle rfl⟩ (yle rfl) (L1 := [_, _]) rfl ⟨yle rfl, yle rfl⟩ ?_
      refine xt_pure rfl rfl rfl rfl ?_
      refine xt_getf rfl rfl (xmC 120 rfl) ?_
      refine xt_pure rfl rfl rfl rfl ?_
      refine yt_inV (c1 := 0) (s1 := 0) (c2 := 0) (s2 := 0) (fr1 := 0) (lo1 := 0) rfl rfl rfl rfl (xmD 0 rfl) ⟨rfl, rfl, yle rfl, yle rfl, yle rfl, yle rfl⟩ (yle rfl) (L1 := [_, _]) rfl ⟨yle rfl, yle rfl⟩ ?_
      refine xt_pure rfl rfl rfl rfl ?_
      refine xt_pure rfl rfl rfl rfl ?_
      refine xt_getf rfl rfl (xmD 0 rfl) ?_
      refine xt_pure rfl rfl rfl (st1 := .int 1 :: _) rfl ?_
      refine xt_pure rfl rfl rfl rfl ?_
      refine xt_putf rfl rfl rfl rfl 0 rfl (D1 := _ :: _ :: _ :: _) rfl ?_
      refine xt_pure rfl rfl rfl rfl ?_
      refine xt_pure rfl rfl rfl rfl ?_
      refine xt_putf rfl rfl rfl rfl 1 rfl (D1 := _ :: _ :: _ :: _) rfl ?_
      refine xt_pure rfl rfl rfl rfl ?_
      refine xt_pure rfl rfl rfl rfl ?_
      refine xt_getf rfl rfl (xmS 3 rfl hfn) ?_
      refine xt_putf rfl rfl rfl rfl 2 rfl (D1 := _ :: _ :: _ :: _) rfl ?_
      refine xt_vret rfl rfl rfl ?_
      show yT _ _ _ _ _ _ (_) _ _ _ _
      refine xt_pure rfl rfl rfl (st1 := .int (-10) :: _) rfl ?_
      refine xt_pure rfl rfl rfl rfl ?_
      refine xt_pure rfl rfl rfl (st1 := .int (-13) :: _) rfl ?_
      refine xt_iret rfl rfl rfl rfl ?_
      show yT _ _ _ _ _ _ (_ :: _) _ _ _ _
      refine xt_iret rfl rfl rfl rfl ?_
      try simp only [xi32_eq, xi64_eq, Int32.toInt_toInt64, Int32.reduceToInt, Int64.reduceToInt, y_m9, y_m1, y_m100, y64_m9, y64_m1, Ne, y_n1x] at hp0 hp1
      have hc : ceV (some ob) fl i j = (-13) := by
        unfold ceV
        try dsimp only
        try rw [hno]
        try dsimp only
        repeat' split
        all_goals first | rfl | (exfalso; omega)
      rw [hc]
      exact ⟨3, (-9), rfl, by simp [flW]⟩
    · skip
      try simp only [Int32.reduceToInt, and_true, and_false, or_false, false_or] at hp1
      show yT _ _ _ _ _ _ (_ :: _) _ _ _ _
      refine xt_pure rfl rfl rfl (L1 := [_, _, _, _, _, _]) rfl ?_
      refine xt_pure rfl rfl rfl rfl ?_
      refine xt_pure rfl rfl rfl rfl ?_
      refine xt_pure rfl rfl rfl rfl ?_
      refine xt_getf rfl rfl (xmS 3 rfl hh) ?_
      refine xt_getf rfl rfl (xmS 3 rfl k3) ?_
      refine xt_pure rfl rfl rfl rfl ?_
      refine yt_ald rfl rfl ⟨by decide, rfl⟩ (xmS 3 rfl kr) ⟨by omega, by have h1 := hrr (by omega); have h2 := osz4 (o := ob) (by omega); omega⟩ ?_
      intro x2 hx2
      obtain rfl := hnl _ hx2
      · skip
        refine xt_pure rfl rfl rfl (L1 := [_, _, _, _, _, _]) rfl ?_
        refine xt_pure rfl rfl rfl rfl ?_
        refine xt_pure rfl rfl rfl rfl ?_
        refine xt_pure rfl rfl rfl rfl ?_
        refine xt_pure rfl rfl rfl (st1 := .int 1 :: _) rfl ?_
        refine yt_inV (c1 := 0) (s1 := 0) (c2 := 0) (s2 := 0) (fr1 := 1) (lo1 := 21) rfl rfl rfl rfl (xmC 115 rfl) ⟨rfl, rfl, yle rfl, yle rfl, yle rfl, yle rfl⟩ (yle rfl) (L1 := [_, _]) rfl ⟨yle rfl, yle rfl⟩ ?_
        refine xt_pure rfl rfl rfl rfl ?_
        refine xt_getf rfl rfl (xmC 120 rfl) ?_
        refine xt_pure rfl rfl rfl rfl ?_
        refine yt_inV (c1 := 0) (s1 := 0) (c2 := 0) (s2 := 0) (fr1 := 0) (lo1 := 0) rfl rfl rfl rfl (xmD 0 rfl) ⟨rfl, rfl, yle rfl, yle rfl, yle rfl, yle rfl⟩ (yle rfl) (L1 := [_, _]) rfl ⟨yle rfl, yle rfl⟩ ?_
        refine xt_pure rfl rfl rfl rfl ?_
        refine xt_pure rfl rfl rfl rfl ?_
        refine xt_getf rfl rfl (xmD 0 rfl) ?_
        refine xt_pure rfl rfl rfl (st1 := .int 1 :: _) rfl ?_
        refine xt_pure rfl rfl rfl rfl ?_
        refine xt_putf rfl rfl rfl rfl 0 rfl (D1 := _ :: _ :: _ :: _) rfl ?_
        refine xt_pure rfl rfl rfl rfl ?_
        refine xt_pure rfl rfl rfl rfl ?_
        refine xt_putf rfl rfl rfl rfl 1 rfl (D1 := _ :: _ :: _ :: _) rfl ?_
        refine xt_pure rfl rfl rfl rfl ?_
        refine xt_pure rfl rfl rfl rfl ?_
        refine xt_getf rfl rfl (xmS 3 rfl hfn) ?_
        refine xt_putf rfl rfl rfl rfl 2 rfl (D1 := _ :: _ :: _ :: _) rfl ?_
        refine xt_vret rfl rfl rfl ?_
        show yT _ _ _ _ _ _ (_) _ _ _ _
        refine xt_pure rfl rfl rfl (st1 := .int (-10) :: _) rfl ?_
        refine xt_pure rfl rfl rfl rfl ?_
        refine xt_pure rfl rfl rfl (st1 := .int (-11) :: _) rfl ?_
        refine xt_iret rfl rfl rfl rfl ?_
        show yT _ _ _ _ _ _ (_ :: _) _ _ _ _
        refine xt_iret rfl rfl rfl rfl ?_
        try simp only [xi32_eq, xi64_eq, Int32.toInt_toInt64, Int32.reduceToInt, Int64.reduceToInt, y_m9, y_m1, y_m100, y64_m9, y64_m1, Ne, y_n1x] at hp0 hp1
        have hc : ceV (some ob) fl i j = (-11) := by
          unfold ceV
          try dsimp only
          try rw [hno]
          try dsimp only
          repeat' split
          all_goals first | rfl | (exfalso; omega)
        rw [hc]
        exact ⟨1, (-9), rfl, by simp [flW]⟩
theorem cD_cellR {X : List Int32} {D0 : List xE} {i j v : Int32} {k : Nat} {l : List Int32} {fl x1 x2 : Int32} (hfn : ((110, .inl (10, 6, .int (-9))) : xE) ∈ D0) {a ia ra : Nat} {ob : yO} (hs : ob.1 ≤ 7) (hz : osz ob ≤ 12) (hh : ((78, .inl (11, 6, .ref a)) : xE) ∈ D0) (k0 : ((a, .inl (6, 0, .int (Int32.ofNat ob.1))) : xE) ∈ D0) (k1 : ((a, .inl (6, 1, .int (Int32.ofNat (osz ob)))) : xE) ∈ D0) (k2 : ((a, .inl (6, 2, .ref ia)) : xE) ∈ D0) (k3 : ((a, .inl (6, 3, .ref ra)) : xE) ∈ D0) {rr : List Value} (kr : ((ra, .inr (4, rr)) : xE) ∈ D0) (hrr : ob.1 = 4 → rr.length = ob.2.2.length) (hl : l.length ≤ 6) (hro : rwO ob i = some l) (hk : rr[i.toInt.toNat]? = some (.ref k)) : yK X 2 43 103 [.ref 78, .int i, .int j, .int v] ((110, .inl (10, 1, .int fl)) :: (110, .inl (10, 4, .int x1)) :: (110, .inl (10, 5, .int x2)) :: (k, .inr (0, l.map Value.int)) :: D0) 0 0 (fun w D => ∃ y1 y2 : Int32, w = some (.int (ceV (some ob) fl i j)) ∧ D = (110, .inl (10, 1, .int (flW fl (ceV (some ob) fl i j)))) :: (110, .inl (10, 4, .int y1)) :: (110, .inl (10, 5, .int y2)) :: (k, .inr (0, (if ceV (some ob) fl i j = 0 then l.set j.toInt.toNat v else l).map Value.int)) :: D0) := by
  have es := yi_nat (i := ob.1) (by omega)
  have ez := yi_nat (i := osz ob) (by omega)
  have el := yi_nat (i := l.length) (by omega)
  refine yK.of rfl (yle rfl) (L := [_, _, _, _, _, _]) rfl ?_
  refine xt_pure rfl rfl rfl rfl ?_
  refine xt_getf rfl rfl (xmC 120 rfl) ?_
  refine xt_callV rfl rfl rfl rfl (xmD 0 rfl) ⟨rfl, rfl, yle rfl, yle rfl, yle rfl, yle rfl⟩ (ck_isFull (List.mem_of_getElem? (i := 0) rfl)) (c2 := 0) (s2 := 0) ⟨yle rfl, yle rfl⟩ ?_
  rintro _ _ (⟨rfl, hp0, rfl⟩ | ⟨rfl, hp0, rfl⟩)
  · skip
    show yT _ _ _ _ _ _ (_ :: _) _ _ _ _
    refine xt_pure rfl rfl rfl rfl ?_
    refine xt_pure rfl rfl rfl (st1 := .int (-3) :: _) rfl ?_
    refine xt_iret rfl rfl rfl rfl ?_
    try simp only [xi32_eq, xi64_eq, Int32.toInt_toInt64, Int32.reduceToInt, Int64.reduceToInt, y_m9, y_m1, y_m100, y64_m9, y64_m1, Ne, y_n1x] at hp0
    have hc : ceV (some ob) fl i j = (-3) := by
      unfold ceV
      try dsimp only
      try rw [hro]
      try dsimp only
      repeat' split
      all_goals first | rfl | (exfalso; omega)
    rw [hc]
    exact ⟨x1, x2, rfl, by simp [flW]⟩
  · skip
    show yT _ _ _ _ _ _ (_ :: _) _ _ _ _
    refine xt_pure rfl rfl rfl rfl ?_
    refine xt_pure rfl rfl rfl rfl ?_
    refine xt_pure rfl rfl rfl rfl ?_
    refine xt_pure rfl rfl rfl (st1 := .int 4 :: _) rfl ?_
    refine xt_callV rfl rfl rfl rfl (xmC 115 rfl) ⟨rfl, rfl, yle rfl, yle rfl, yle rfl, yle rfl⟩ (ck_deskF hs hz (ymS 4 rfl hh) (ymS 4 rfl k0) (ymS 4 rfl k1)) (c2 := 0) (s2 := 0) ⟨yle rfl, yle rfl⟩ ?_
    rintro _ _ (⟨rfl, hp1, rfl⟩ | ⟨rfl, hp1, rfl⟩ | ⟨rfl, hp1, rfl⟩)
    · skip
      try simp only [Int32.reduceToInt, and_true, and_false, or_false, false_or] at hp1
      show yT _ _ _ _ _ _ (_ :: _) _ _ _ _
      refine xt_pure rfl rfl rfl (L1 := [_, _, _, _, _, _]) rfl ?_
      refine xt_pure rfl rfl rfl rfl ?_
      refine xt_pure rfl rfl rfl rfl ?_
      refine xt_pure rfl rfl rfl rfl ?_
      refine xt_pure rfl rfl rfl rfl ?_
      refine yt_inV (c1 := 0) (s1 := 0) (c2 := 0) (s2 := 0) (fr1 := 1) (lo1 := 21) rfl rfl rfl rfl (xmC 115 rfl) ⟨rfl, rfl, yle rfl, yle rfl, yle rfl, yle rfl⟩ (yle rfl) (L1 := [_, _]) rfl ⟨yle rfl, yle rfl⟩ ?_
      refine xt_pure rfl rfl rfl rfl ?_
      refine xt_getf rfl rfl (xmC 120 rfl) ?_
      refine xt_pure rfl rfl rfl rfl ?_
      refine yt_inV (c1 := 0) (s1 := 0) (c2 := 0) (s2 := 0) (fr1 := 0) (lo1 := 0) rfl rfl rfl rfl (xmD 0 rfl) ⟨rfl, rfl, yle rfl, yle rfl, yle rfl, yle rfl⟩ (yle rfl) (L1 := [_, _]) rfl ⟨yle rfl, yle rfl⟩ ?_
      refine xt_pure rfl rfl rfl rfl ?_
      refine xt_pure rfl rfl rfl rfl ?_
      refine xt_getf rfl rfl (xmD 0 rfl) ?_
      refine xt_pure rfl rfl rfl (st1 := .int 1 :: _) rfl ?_
      refine xt_pure rfl rfl rfl rfl ?_
      refine xt_putf rfl rfl rfl rfl 0 rfl (D1 := _ :: _ :: _ :: _ :: _) rfl ?_
      refine xt_pure rfl rfl rfl rfl ?_
      refine xt_pure rfl rfl rfl rfl ?_
      refine xt_putf rfl rfl rfl rfl 1 rfl (D1 := _ :: _ :: _ :: _ :: _) rfl ?_
      refine xt_pure rfl rfl rfl rfl ?_
      refine xt_pure rfl rfl rfl rfl ?_
      refine xt_getf rfl rfl (xmS 4 rfl hfn) ?_
      refine xt_putf rfl rfl rfl rfl 2 rfl (D1 := _ :: _ :: _ :: _ :: _) rfl ?_
      refine xt_vret rfl rfl rfl ?_
      show yT _ _ _ _ _ _ (_) _ _ _ _
      refine xt_pure rfl rfl rfl (st1 := .int (-10) :: _) rfl ?_
      refine xt_pure rfl rfl rfl rfl ?_
      refine xt_pure rfl rfl rfl (st1 := .int (-12) :: _) rfl ?_
      refine xt_iret rfl rfl rfl rfl ?_
      show yT _ _ _ _ _ _ (_ :: _) _ _ _ _
      refine xt_iret rfl rfl rfl rfl ?_
      try simp only [xi32_eq, xi64_eq, Int32.toInt_toInt64, Int32.reduceToInt, Int64.reduceToInt, y_m9, y_m1, y_m100, y64_m9, y64_m1, Ne, y_n1x] at hp0 hp1
      have hc : ceV (some ob) fl i j = (-12) := by
        unfold ceV
        try dsimp only
        try rw [hro]
        try dsimp only
        repeat' split
        all_goals first | rfl | (exfalso; omega)
      rw [hc]
      exact ⟨2, (-9), rfl, by simp [flW]⟩
    · skip
      try simp only [Int32.reduceToInt, and_true, and_false, or_false, false_or] at hp1
      show yT _ _ _ _ _ _ (_ :: _) _ _ _ _
      refine xt_pure rfl rfl rfl (L1 := [_, _, _, _, _, _]) rfl ?_
      refine xt_pure rfl rfl rfl rfl ?_
      refine xt_pure rfl rfl rfl rfl ?_
      refine xt_pure rfl rfl rfl rfl ?_
      refine xt_pure rfl rfl rfl rfl ?_
      refine yt_inV (c1 := 0) (s1 := 0) (c2 := 0) (s2 := 0) (fr1 := 1) (lo1 := 21) rfl rfl rfl rfl (xmC 115 rfl) ⟨rfl, rfl, yle rfl, yle rfl, yle rfl, yle rfl⟩ (yle rfl) (L1 := [_, _]) rfl ⟨yle rfl, yle rfl⟩ ?_
      refine xt_pure rfl rfl rfl rfl ?_
      refine xt_getf rfl rfl (xmC 120 rfl) ?_
      refine xt_pure rfl rfl rfl rfl ?_
      refine yt_inV (c1 := 0) (s1 := 0) (c2 := 0) (s2 := 0) (fr1 := 0) (lo1 := 0) rfl rfl rfl rfl (xmD 0 rfl) ⟨rfl, rfl, yle rfl, yle rfl, yle rfl, yle rfl⟩ (yle rfl) (L1 := [_, _]) rfl ⟨yle rfl, yle rfl⟩ ?_
      refine xt_pure rfl rfl rfl rfl ?_
      refine xt_pure rfl rfl rfl rfl ?_
      refine xt_getf rfl rfl (xmD 0 rfl) ?_
      refine xt_pure rfl rfl rfl (st1 := .int 1 :: _) rfl ?_
      refine xt_pure rfl rfl rfl rfl ?_
      refine xt_putf rfl rfl rfl rfl 0 rfl (D1 := _ :: _ :: _ :: _ :: _) rfl ?_
      refine xt_pure rfl rfl rfl rfl ?_
      refine xt_pure rfl rfl rfl rfl ?_
      refine xt_putf rfl rfl rfl rfl 1 rfl (D1 := _ :: _ :: _ :: _ :: _) rfl ?_
      refine xt_pure rfl rfl rfl rfl ?_
      refine xt_pure rfl rfl rfl rfl ?_
      refine xt_getf rfl rfl (xmS 4 rfl hfn) ?_
      refine xt_putf rfl rfl rfl rfl 2 rfl (D1 := _ :: _ :: _ :: _ :: _) rfl ?_
      refine xt_vret rfl rfl rfl ?_
      show yT _ _ _ _ _ _ (_) _ _ _ _
      refine xt_pure rfl rfl rfl (st1 := .int (-10) :: _) rfl ?_
      refine xt_pure rfl rfl rfl rfl ?_
      refine xt_pure rfl rfl rfl (st1 := .int (-13) :: _) rfl ?_
      refine xt_iret rfl rfl rfl rfl ?_
      show yT _ _ _ _ _ _ (_ :: _) _ _ _ _
      refine xt_iret rfl rfl rfl rfl ?_
      try simp only [xi32_eq, xi64_eq, Int32.toInt_toInt64, Int32.reduceToInt, Int64.reduceToInt, y_m9, y_m1, y_m100, y64_m9, y64_m1, Ne, y_n1x] at hp0 hp1
      have hc : ceV (some ob) fl i j = (-13) := by
        unfold ceV
        try dsimp only
        try rw [hro]
        try dsimp only
        repeat' split
        all_goals first | rfl | (exfalso; omega)
      rw [hc]
      exact ⟨3, (-9), rfl, by simp [flW]⟩
    · skip
      try simp only [Int32.reduceToInt, and_true, and_false, or_false, false_or] at hp1
      show yT _ _ _ _ _ _ (_ :: _) _ _ _ _
      refine xt_pure rfl rfl rfl (L1 := [_, _, _, _, _, _]) rfl ?_
      refine xt_pure rfl rfl rfl rfl ?_
      refine xt_pure rfl rfl rfl rfl ?_
      refine xt_pure rfl rfl rfl rfl ?_
      refine xt_getf rfl rfl (xmS 4 rfl hh) ?_
      refine xt_getf rfl rfl (xmS 4 rfl k3) ?_
      refine xt_pure rfl rfl rfl rfl ?_
      refine yt_ald rfl rfl ⟨by decide, rfl⟩ (xmS 4 rfl kr) ⟨by omega, by have h1 := hrr (by omega); have h2 := osz4 (o := ob) (by omega); omega⟩ ?_
      intro x2 hx2
      obtain rfl := Option.some.inj (hk.symm.trans hx2)
      · skip
        refine xt_pure rfl rfl rfl (L1 := [_, _, _, _, _, _]) rfl ?_
        refine xt_pure rfl rfl rfl rfl ?_
        refine xt_pure rfl rfl rfl rfl ?_
        refine xt_pure rfl rfl rfl rfl ?_
        refine yt_if rfl rfl ?_ ?_
        · intro (hb30_3 : Int32.toInt _ < (0 : Int))
          refine xt_pure rfl rfl rfl rfl ?_
          refine xt_pure rfl rfl rfl (st1 := .int 3 :: _) rfl ?_
          refine yt_inV (c1 := 0) (s1 := 0) (c2 := 0) (s2 := 0) (fr1 := 1) (lo1 := 21) rfl rfl rfl rfl (xmC 115 rfl) ⟨rfl, rfl, yle rfl, yle rfl, yle rfl, yle rfl⟩ (yle rfl) (L1 := [_, _]) rfl ⟨yle rfl, yle rfl⟩ ?_
          refine xt_pure rfl rfl rfl rfl ?_
          refine xt_getf rfl rfl (xmC 120 rfl) ?_
          refine xt_pure rfl rfl rfl rfl ?_
          refine yt_inV (c1 := 0) (s1 := 0) (c2 := 0) (s2 := 0) (fr1 := 0) (lo1 := 0) rfl rfl rfl rfl (xmD 0 rfl) ⟨rfl, rfl, yle rfl, yle rfl, yle rfl, yle rfl⟩ (yle rfl) (L1 := [_, _]) rfl ⟨yle rfl, yle rfl⟩ ?_
          refine xt_pure rfl rfl rfl rfl ?_
          refine xt_pure rfl rfl rfl rfl ?_
          refine xt_getf rfl rfl (xmD 0 rfl) ?_
          refine xt_pure rfl rfl rfl (st1 := .int 1 :: _) rfl ?_
          refine xt_pure rfl rfl rfl rfl ?_
          refine xt_putf rfl rfl rfl rfl 0 rfl (D1 := _ :: _ :: _ :: _ :: _) rfl ?_
          refine xt_pure rfl rfl rfl rfl ?_
          refine xt_pure rfl rfl rfl rfl ?_
          refine xt_putf rfl rfl rfl rfl 1 rfl (D1 := _ :: _ :: _ :: _ :: _) rfl ?_
          refine xt_pure rfl rfl rfl rfl ?_
          refine xt_pure rfl rfl rfl rfl ?_
          refine xt_getf rfl rfl (xmS 4 rfl hfn) ?_
          refine xt_putf rfl rfl rfl rfl 2 rfl (D1 := _ :: _ :: _ :: _ :: _) rfl ?_
          refine xt_vret rfl rfl rfl ?_
          show yT _ _ _ _ _ _ (_) _ _ _ _
          refine xt_pure rfl rfl rfl (st1 := .int (-10) :: _) rfl ?_
          refine xt_pure rfl rfl rfl rfl ?_
          refine xt_pure rfl rfl rfl (st1 := .int (-13) :: _) rfl ?_
          refine xt_iret rfl rfl rfl rfl ?_
          show yT _ _ _ _ _ _ (_ :: _) _ _ _ _
          refine xt_iret rfl rfl rfl rfl ?_
          try simp only [xi32_eq, xi64_eq, Int32.toInt_toInt64, Int32.reduceToInt, Int64.reduceToInt, y_m9, y_m1, y_m100, y64_m9, y64_m1, Ne, y_n1x] at hp0 hp1 hb30_3
          have hc : ceV (some ob) fl i j = (-13) := by
            unfold ceV
            try dsimp only
            try rw [hro]
            try dsimp only
            repeat' split
            all_goals first | rfl | (exfalso; omega)
          rw [hc]
          exact ⟨3, (-9), rfl, by simp [flW]⟩
        · intro (hb30_3 : (0 : Int) ≤ Int32.toInt _)
          refine xt_pure rfl rfl rfl rfl ?_
          refine xt_pure rfl rfl rfl rfl ?_
          refine xt_alen rfl rfl (xmD 3 rfl) rfl ?_
          rw [List.length_map]
          refine yt_ic rfl rfl ?_ ?_
          · intro (hb34_4 : Int32.toInt _ < Int32.toInt _)
            refine xt_pure rfl rfl rfl rfl ?_
            refine xt_pure rfl rfl rfl rfl ?_
            refine xt_pure rfl rfl rfl rfl ?_
            refine yt_ist rfl rfl 3 rfl ⟨by first | omega | (simp only [List.length_append, List.length_set, List.length_map, List.length_replicate, List.length_cons, List.length_nil, Int32.reduceToInt]; omega), by first | omega | (simp only [List.length_append, List.length_set, List.length_map, List.length_replicate, List.length_cons, List.length_nil, Int32.reduceToInt]; omega)⟩ (D1 := _ :: _ :: _ :: _ :: _) rfl ?_
            refine xt_pure rfl rfl rfl (st1 := .int 0 :: _) rfl ?_
            refine xt_iret rfl rfl rfl rfl ?_
            try simp only [xi32_eq, xi64_eq, Int32.toInt_toInt64, Int32.reduceToInt, Int64.reduceToInt, y_m9, y_m1, y_m100, y64_m9, y64_m1, Ne, y_n1x] at hp0 hp1 hb30_3 hb34_4
            have hc : ceV (some ob) fl i j = 0 := by
              unfold ceV
              try dsimp only
              try rw [hro]
              try dsimp only
              repeat' split
              all_goals first | rfl | (exfalso; omega)
            rw [hc]
            exact ⟨x1, x2, rfl, by simp [flW]⟩
          · intro (hb34_4 : Int32.toInt _ ≤ Int32.toInt _)
            refine xt_pure rfl rfl rfl rfl ?_
            refine xt_pure rfl rfl rfl (st1 := .int 3 :: _) rfl ?_
            refine yt_inV (c1 := 0) (s1 := 0) (c2 := 0) (s2 := 0) (fr1 := 1) (lo1 := 21) rfl rfl rfl rfl (xmC 115 rfl) ⟨rfl, rfl, yle rfl, yle rfl, yle rfl, yle rfl⟩ (yle rfl) (L1 := [_, _]) rfl ⟨yle rfl, yle rfl⟩ ?_
            refine xt_pure rfl rfl rfl rfl ?_
            refine xt_getf rfl rfl (xmC 120 rfl) ?_
            refine xt_pure rfl rfl rfl rfl ?_
            refine yt_inV (c1 := 0) (s1 := 0) (c2 := 0) (s2 := 0) (fr1 := 0) (lo1 := 0) rfl rfl rfl rfl (xmD 0 rfl) ⟨rfl, rfl, yle rfl, yle rfl, yle rfl, yle rfl⟩ (yle rfl) (L1 := [_, _]) rfl ⟨yle rfl, yle rfl⟩ ?_
            refine xt_pure rfl rfl rfl rfl ?_
            refine xt_pure rfl rfl rfl rfl ?_
            refine xt_getf rfl rfl (xmD 0 rfl) ?_
            refine xt_pure rfl rfl rfl (st1 := .int 1 :: _) rfl ?_
            refine xt_pure rfl rfl rfl rfl ?_
            refine xt_putf rfl rfl rfl rfl 0 rfl (D1 := _ :: _ :: _ :: _ :: _) rfl ?_
            refine xt_pure rfl rfl rfl rfl ?_
            refine xt_pure rfl rfl rfl rfl ?_
            refine xt_putf rfl rfl rfl rfl 1 rfl (D1 := _ :: _ :: _ :: _ :: _) rfl ?_
            refine xt_pure rfl rfl rfl rfl ?_
            refine xt_pure rfl rfl rfl rfl ?_
            refine xt_getf rfl rfl (xmS 4 rfl hfn) ?_
            refine xt_putf rfl rfl rfl rfl 2 rfl (D1 := _ :: _ :: _ :: _ :: _) rfl ?_
            refine xt_vret rfl rfl rfl ?_
            show yT _ _ _ _ _ _ (_) _ _ _ _
            refine xt_pure rfl rfl rfl (st1 := .int (-10) :: _) rfl ?_
            refine xt_pure rfl rfl rfl rfl ?_
            refine xt_pure rfl rfl rfl (st1 := .int (-13) :: _) rfl ?_
            refine xt_iret rfl rfl rfl rfl ?_
            show yT _ _ _ _ _ _ (_ :: _) _ _ _ _
            refine xt_iret rfl rfl rfl rfl ?_
            try simp only [xi32_eq, xi64_eq, Int32.toInt_toInt64, Int32.reduceToInt, Int64.reduceToInt, y_m9, y_m1, y_m100, y64_m9, y64_m1, Ne, y_n1x] at hp0 hp1 hb30_3 hb34_4
            have hc : ceV (some ob) fl i j = (-13) := by
              unfold ceV
              try dsimp only
              try rw [hro]
              try dsimp only
              repeat' split
              all_goals first | rfl | (exfalso; omega)
            rw [hc]
            exact ⟨3, (-9), rfl, by simp [flW]⟩
theorem deO7 {s n : Int32} (h : s.toInt = 7) : (deO s n).2.2.length = 0 ∧ cit (deO s n) = [n.toInt64] ∧ osz (deO s n) = 1 := by
  have h2 : s.toInt.toNat = 7 := by omega
  simp [deO, cit, osz, h]
theorem deOn {s n : Int32} (h : 0 ≤ s.toInt ∧ s.toInt < 7) (hn : 0 ≤ n.toInt) : List.replicate (deO s n).2.2.length Value.null = newR s.toInt.toNat n.toInt.toNat ∧ cit (deO s n) = newI s.toInt.toNat n.toInt.toNat ∧ osz (deO s n) = n.toInt.toNat := by
  have hc : s.toInt = 0 ∨ s.toInt = 1 ∨ s.toInt = 2 ∨ s.toInt = 3 ∨ s.toInt = 4 ∨ s.toInt = 5 ∨ s.toInt = 6 := by omega
  rcases hc with hc | hc | hc | hc | hc | hc | hc <;> simp [deO, cit, osz, newR, newI, hc, cnv]
theorem cD_desk {X : List Int32} {D0 : List xE} {s n : Int32} {u : Value} {fl x1 x2 : Int32} (hfn : ((110, .inl (10, 6, .int (-9))) : xE) ∈ D0) {En : List (Int64 × Int32)} (hE : En.length ≤ 100) (hc0 : ((106, .inl (5, 2, .int (Int32.ofNat En.length))) : xE) ∈ D0) : yK X 2 123 91 [.ref 78, .int s, .int n] ((110, .inl (10, 1, .int fl)) :: (110, .inl (10, 4, .int x1)) :: (110, .inl (10, 5, .int x2)) :: (78, .inl (11, 6, u)) :: D0) 3 28 (fun w D => ∃ y1 y2 : Int32, w = some (.int (deV En fl s n)) ∧ ((deV En fl s n ≠ 0 ∧ D = (110, .inl (10, 1, .int (flW fl (deV En fl s n)))) :: (110, .inl (10, 4, .int y1)) :: (110, .inl (10, 5, .int y2)) :: (78, .inl (11, 6, u)) :: D0) ∨ (deV En fl s n = 0 ∧ ∃ a ia ra, D = (ra, .inr (4, List.replicate (deO s n).2.2.length .null)) :: (ia, .inr (1, (cit (deO s n)).map Value.long)) :: (a, .inl (6, 0, .int s)) :: (a, .inl (6, 1, .int (Int32.ofNat (osz (deO s n))))) :: (a, .inl (6, 2, .ref ia)) :: (a, .inl (6, 3, .ref ra)) :: (110, .inl (10, 1, .int (flW fl (deV En fl s n)))) :: (110, .inl (10, 4, .int y1)) :: (110, .inl (10, 5, .int y2)) :: (78, .inl (11, 6, .ref a)) :: D0))) := by
  have en := yi_nat (i := En.length) (by omega)
  refine yK.of rfl (yle rfl) (L := [_, _, _]) rfl ?_
  refine xt_pure rfl rfl rfl rfl ?_
  refine yt_if rfl rfl ?_ ?_
  · intro (hb1_0 : Int32.toInt _ < (0 : Int))
    refine xt_pure rfl rfl rfl (st1 := .int (-1) :: _) rfl ?_
    refine xt_iret rfl rfl rfl rfl ?_
    try simp only [xi32_eq, xi64_eq, Int32.toInt_toInt64, Int32.reduceToInt, Int64.reduceToInt, y_m9, y_m1, y_m100, y64_m9, y64_m1, Ne, y_n1x] at hb1_0
    have hc : deV En fl s n = (-1) := by
      unfold deV
      try dsimp only
      repeat' split
      all_goals first | rfl | (exfalso; omega)
    rw [hc]
    exact ⟨_, _, rfl, Or.inl ⟨by decide, rfl⟩⟩
  · intro (hb1_0 : (0 : Int) ≤ Int32.toInt _)
    refine xt_pure rfl rfl rfl rfl ?_
    refine xt_pure rfl rfl rfl (st1 := .int 7 :: _) rfl ?_
    refine yt_ic rfl rfl ?_ ?_
    · intro (hb4_1 : Int32.toInt _ ≤ (7 : Int))
      refine xt_pure rfl rfl rfl rfl ?_
      refine xt_pure rfl rfl rfl (st1 := .int 7 :: _) rfl ?_
      refine yt_ic rfl rfl ?_ ?_
      · intro (hb9_2 : (_ : Int32) ≠ 7)
        have hb9_2z : ¬ Int32.toInt _ = (7 : Int) := fun h => hb9_2 (Int32.toInt_inj.mp h)
        refine xt_pure rfl rfl rfl rfl ?_
        refine xt_pure rfl rfl rfl rfl ?_
        refine xt_pure rfl rfl rfl (st1 := .int 4 :: _) rfl ?_
        refine yt_ic rfl rfl ?_ ?_
        · intro (hb20_3 : (_ : Int32) ≠ 4)
          have hb20_3z : ¬ Int32.toInt _ = (4 : Int) := fun h => hb20_3 (Int32.toInt_inj.mp h)
          refine xt_pure rfl rfl rfl (st1 := .int 12 :: _) rfl ?_
          refine yt_ic rfl rfl ?_ ?_
          · intro (hb24_4 : Int32.toInt _ ≤ (12 : Int))
            refine xt_pure rfl rfl rfl rfl ?_
            refine xt_getf rfl rfl (xmC 120 rfl) ?_
            refine xt_callV rfl rfl rfl rfl (xmD 0 rfl) ⟨rfl, rfl, yle rfl, yle rfl, yle rfl, yle rfl⟩ (ck_isFull (List.mem_of_getElem? (i := 0) rfl)) (c2 := 3) (s2 := 28) ⟨yle rfl, yle rfl⟩ ?_
            rintro _ _ (⟨rfl, hp5, rfl⟩ | ⟨rfl, hp5, rfl⟩)
            · skip
              show yT _ _ _ _ _ _ (_ :: _) _ _ _ _
              refine xt_pure rfl rfl rfl rfl ?_
              refine xt_pure rfl rfl rfl (st1 := .int (-3) :: _) rfl ?_
              refine xt_iret rfl rfl rfl rfl ?_
              try simp only [xi32_eq, xi64_eq, Int32.toInt_toInt64, Int32.reduceToInt, Int64.reduceToInt, y_m9, y_m1, y_m100, y64_m9, y64_m1, Ne, y_n1x] at hb1_0 hb4_1 hb9_2 hb20_3 hb24_4 hp5
              have hc : deV En fl s n = (-3) := by
                unfold deV
                try dsimp only
                repeat' split
                all_goals first | rfl | (exfalso; omega)
              rw [hc]
              exact ⟨_, _, rfl, Or.inl ⟨by decide, rfl⟩⟩
            · skip
              show yT _ _ _ _ _ _ (_ :: _) _ _ _ _
              refine xt_pure rfl rfl rfl rfl ?_
              refine xt_pure rfl rfl rfl rfl ?_
              refine yt_if rfl rfl ?_ ?_
              · intro (hb34_6 : (0 : Int) ≤ Int32.toInt _)
                refine xt_pure rfl rfl rfl rfl ?_
                refine xt_pure rfl rfl rfl rfl ?_
                refine xt_pure rfl rfl rfl (st1 := .int 7 :: _) rfl ?_
                refine yt_ic rfl rfl ?_ ?_
                · intro (h42 : (_ : Int32) ≠ 7)
                  have h42z : ¬ Int32.toInt _ = (7 : Int) := fun h => h42 (Int32.toInt_inj.mp h)
                  obtain ⟨sN, s1, rfl, e4⟩ := yi_of (x := s) (by omega)
                  obtain ⟨nN, n1, rfl, e5⟩ := yi_of (x := n) (by omega)
                  refine xt_new rfl rfl rfl (c1 := 2) (s1 := 24) (by decide) (by decide) ?_
                  intro oa
                  show yT _ _ _ _ _ _ _ (_ :: _ :: _ :: _ :: _ :: _ :: _ :: _ :: _) _ _ _
                  refine xt_pure rfl rfl rfl rfl ?_
                  refine xt_pure rfl rfl rfl rfl ?_
                  refine xt_pure rfl rfl rfl rfl ?_
                  refine yT.mv 3 rfl (D1 := _ :: _ :: _ :: _ :: _ :: _ :: _ :: _) rfl ?_
                  refine yT.mv 3 rfl (D1 := _ :: _ :: _ :: _ :: _ :: _ :: _ :: _) rfl ?_
                  refine yT.mv 3 rfl (D1 := _ :: _ :: _ :: _ :: _ :: _ :: _ :: _) rfl ?_
                  refine yT.mv 3 rfl (D1 := _ :: _ :: _ :: _ :: _ :: _ :: _ :: _) rfl ?_
                  refine xt_callI rfl rfl (by decide) rfl rfl ⟨rfl, yle rfl, yle rfl, yle rfl, yle rfl⟩ (yObj (by omega) (by omega)) (c2 := 0) (s2 := 0) ⟨yle rfl, yle rfl⟩ ?_
                  rintro _ _ ⟨ia, ra, rfl, rfl⟩
                  refine xt_putf rfl rfl rfl rfl 9 rfl (D1 := _ :: _ :: _ :: _ :: _ :: _ :: _ :: _ :: _ :: _ :: _) rfl ?_
                  refine xt_pure rfl rfl rfl rfl ?_
                  refine xt_pure rfl rfl rfl (st1 := .int 7 :: _) rfl ?_
                  refine yt_ic rfl rfl ?_ ?_
                  · intro (h57 : (_ : Int32) ≠ 7)
                    have h57z : ¬ Int32.toInt _ = (7 : Int) := fun h => h57 (Int32.toInt_inj.mp h)
                    refine xt_pure rfl rfl rfl (st1 := .int 0 :: _) rfl ?_
                    refine xt_iret rfl rfl rfl rfl ?_
                    try simp only [xi32_eq, xi64_eq, Int32.toInt_toInt64, Int32.reduceToInt, Int64.reduceToInt, y_m9, y_m1, y_m100, y64_m9, y64_m1, Ne, y_n1x] at hb1_0 hb4_1 hb9_2 hb20_3 hb24_4 hp5 hb34_6 h42 h57
                    have hc : deV En fl (Int32.ofNat sN) (Int32.ofNat nN) = 0 := by
                      unfold deV
                      try dsimp only
                      repeat' split
                      all_goals first | rfl | (exfalso; omega)
                    rw [hc]
                    refine ⟨x1, x2, rfl, Or.inr ⟨rfl, oa, ia, ra, ?_⟩⟩
                    obtain ⟨e1, e2, e3⟩ := deOn (s := Int32.ofNat sN) (n := Int32.ofNat nN) (by omega) (by omega)
                    rw [e1, e2, e3, e4, e5]
                    rfl
                  · intro (h57 : (_ : Int32) = 7)
                    have h57z : Int32.toInt _ = (7 : Int) := congrArg Int32.toInt h57
                    exact absurd h57 h42
                · intro (h42 : (_ : Int32) = 7)
                  have h42z : Int32.toInt _ = (7 : Int) := congrArg Int32.toInt h42
                  refine xt_new rfl rfl rfl (c1 := 2) (s1 := 24) (by decide) (by decide) ?_
                  intro oa
                  show yT _ _ _ _ _ _ _ (_ :: _ :: _ :: _ :: _ :: _ :: _ :: _ :: _) _ _ _
                  refine xt_pure rfl rfl rfl rfl ?_
                  refine xt_pure rfl rfl rfl (st1 := .int 7 :: _) rfl ?_
                  refine xt_pure rfl rfl rfl (st1 := .int 1 :: _) rfl ?_
                  refine yT.mv 3 rfl (D1 := _ :: _ :: _ :: _ :: _ :: _ :: _ :: _) rfl ?_
                  refine yT.mv 3 rfl (D1 := _ :: _ :: _ :: _ :: _ :: _ :: _ :: _) rfl ?_
                  refine yT.mv 3 rfl (D1 := _ :: _ :: _ :: _ :: _ :: _ :: _ :: _) rfl ?_
                  refine yT.mv 3 rfl (D1 := _ :: _ :: _ :: _ :: _ :: _ :: _ :: _) rfl ?_
                  refine xt_callI rfl rfl (by decide) rfl rfl ⟨rfl, yle rfl, yle rfl, yle rfl, yle rfl⟩ (yObj (s := 7) (n := 1) (by omega) (by omega)) (c2 := 0) (s2 := 0) ⟨yle rfl, yle rfl⟩ ?_
                  rintro _ _ ⟨ia, ra, rfl, rfl⟩
                  refine xt_pure rfl rfl rfl rfl ?_
                  refine xt_putf rfl rfl rfl rfl 9 rfl (D1 := _ :: _ :: _ :: _ :: _ :: _ :: _ :: _ :: _ :: _ :: _) rfl ?_
                  refine xt_pure rfl rfl rfl rfl ?_
                  refine xt_pure rfl rfl rfl (st1 := .int 7 :: _) rfl ?_
                  refine yt_ic rfl rfl ?_ ?_
                  · intro (h57 : (_ : Int32) ≠ 7)
                    have h57z : ¬ Int32.toInt _ = (7 : Int) := fun h => h57 (Int32.toInt_inj.mp h)
                    exact absurd h42 h57
                  · intro (h57 : (_ : Int32) = 7)
                    have h57z : Int32.toInt _ = (7 : Int) := congrArg Int32.toInt h57
                    refine xt_pure rfl rfl rfl rfl ?_
                    refine xt_getf rfl rfl (xmD 9 rfl) ?_
                    refine xt_pure rfl rfl rfl (st1 := .int 0 :: _) rfl ?_
                    refine xt_pure rfl rfl rfl rfl ?_
                    refine xt_pure rfl rfl rfl rfl ?_
                    refine yT.mv 1 rfl (D1 := _ :: _ :: _ :: _ :: _ :: _ :: _ :: _ :: _ :: _) rfl ?_
                    refine xt_callV rfl rfl rfl rfl (xmD 2 rfl) ⟨rfl, rfl, yle rfl, yle rfl, yle rfl, yle rfl⟩ (yput (s := 7) (by omega) (by decide) (List.mem_of_getElem? (i := 1) rfl) (List.mem_of_getElem? (i := 3) rfl)) (c2 := 0) (s2 := 0) ⟨yle rfl, yle rfl⟩ ?_
                    rintro _ _ ⟨rfl, rfl⟩
                    refine yT.mv 1 rfl (D1 := _ :: _ :: _ :: _ :: _ :: _ :: _ :: _ :: _ :: _) rfl ?_
                    refine xt_pure rfl rfl rfl (st1 := .int 0 :: _) rfl ?_
                    refine xt_iret rfl rfl rfl rfl ?_
                    try simp only [xi32_eq, xi64_eq, Int32.toInt_toInt64, Int32.reduceToInt, Int64.reduceToInt, y_m9, y_m1, y_m100, y64_m9, y64_m1, Ne, y_n1x] at hb1_0 hb4_1 hb9_2 hb20_3 hb24_4 hp5 hb34_6 h42 h57
                    have hc : deV En fl s n = 0 := by
                      unfold deV
                      try dsimp only
                      repeat' split
                      all_goals first | rfl | (exfalso; omega)
                    rw [hc]
                    refine ⟨x1, x2, rfl, Or.inr ⟨rfl, oa, ia, ra, ?_⟩⟩
                    obtain ⟨e1, e2, e3⟩ := deO7 (n := n) (by omega : s.toInt = 7)
                    obtain rfl : s = 7 := by rw [xi32_eq]; assumption
                    rw [e1, e2, e3]
                    rfl
              · intro (hb34_6 : Int32.toInt _ < (0 : Int))
                refine xt_pure rfl rfl rfl rfl ?_
                refine xt_pure rfl rfl rfl (st1 := .int 6 :: _) rfl ?_
                refine yt_inV (c1 := 0) (s1 := 0) (c2 := 3) (s2 := 28) (fr1 := 1) (lo1 := 21) rfl rfl rfl rfl (xmD 3 rfl) ⟨rfl, rfl, yle rfl, yle rfl, yle rfl, yle rfl⟩ (yle rfl) (L1 := [_, _]) rfl ⟨yle rfl, yle rfl⟩ ?_
                refine xt_pure rfl rfl rfl rfl ?_
                refine xt_getf rfl rfl (xmC 120 rfl) ?_
                refine xt_pure rfl rfl rfl rfl ?_
                refine yt_inV (c1 := 0) (s1 := 0) (c2 := 0) (s2 := 0) (fr1 := 0) (lo1 := 0) rfl rfl rfl rfl (xmD 0 rfl) ⟨rfl, rfl, yle rfl, yle rfl, yle rfl, yle rfl⟩ (yle rfl) (L1 := [_, _]) rfl ⟨yle rfl, yle rfl⟩ ?_
                refine xt_pure rfl rfl rfl rfl ?_
                refine xt_pure rfl rfl rfl rfl ?_
                refine xt_getf rfl rfl (xmD 0 rfl) ?_
                refine xt_pure rfl rfl rfl (st1 := .int 1 :: _) rfl ?_
                refine xt_pure rfl rfl rfl rfl ?_
                refine xt_putf rfl rfl rfl rfl 0 rfl (D1 := _ :: _ :: _ :: _ :: _) rfl ?_
                refine xt_pure rfl rfl rfl rfl ?_
                refine xt_pure rfl rfl rfl rfl ?_
                refine xt_putf rfl rfl rfl rfl 1 rfl (D1 := _ :: _ :: _ :: _ :: _) rfl ?_
                refine xt_pure rfl rfl rfl rfl ?_
                refine xt_pure rfl rfl rfl rfl ?_
                refine xt_getf rfl rfl (xmS 4 rfl hfn) ?_
                refine xt_putf rfl rfl rfl rfl 2 rfl (D1 := _ :: _ :: _ :: _ :: _) rfl ?_
                refine xt_vret rfl rfl rfl ?_
                show yT _ _ _ _ _ _ (_) _ _ _ _
                refine xt_pure rfl rfl rfl (st1 := .int (-10) :: _) rfl ?_
                refine xt_pure rfl rfl rfl rfl ?_
                refine xt_pure rfl rfl rfl (st1 := .int (-16) :: _) rfl ?_
                refine xt_iret rfl rfl rfl rfl ?_
                show yT _ _ _ _ _ _ (_ :: _) _ _ _ _
                refine xt_iret rfl rfl rfl rfl ?_
                try simp only [xi32_eq, xi64_eq, Int32.toInt_toInt64, Int32.reduceToInt, Int64.reduceToInt, y_m9, y_m1, y_m100, y64_m9, y64_m1, Ne, y_n1x] at hb1_0 hb4_1 hb9_2 hb20_3 hb24_4 hp5 hb34_6
                have hc : deV En fl s n = (-16) := by
                  unfold deV
                  try dsimp only
                  repeat' split
                  all_goals first | rfl | (exfalso; omega)
                rw [hc]
                exact ⟨_, _, rfl, Or.inl ⟨by decide, rfl⟩⟩
          · intro (hb24_4 : (12 : Int) < Int32.toInt _)
            refine xt_pure rfl rfl rfl (st1 := .int (-1) :: _) rfl ?_
            refine xt_iret rfl rfl rfl rfl ?_
            try simp only [xi32_eq, xi64_eq, Int32.toInt_toInt64, Int32.reduceToInt, Int64.reduceToInt, y_m9, y_m1, y_m100, y64_m9, y64_m1, Ne, y_n1x] at hb1_0 hb4_1 hb9_2 hb20_3 hb24_4
            have hc : deV En fl s n = (-1) := by
              unfold deV
              try dsimp only
              repeat' split
              all_goals first | rfl | (exfalso; omega)
            rw [hc]
            exact ⟨_, _, rfl, Or.inl ⟨by decide, rfl⟩⟩
        · intro (hb20_3 : (_ : Int32) = 4)
          have hb20_3z : Int32.toInt _ = (4 : Int) := congrArg Int32.toInt hb20_3
          refine xt_pure rfl rfl rfl (st1 := .int 6 :: _) rfl ?_
          refine xt_pure rfl rfl rfl rfl ?_
          refine yt_ic rfl rfl ?_ ?_
          · intro (hb24_12 : Int32.toInt _ ≤ (6 : Int))
            refine xt_pure rfl rfl rfl rfl ?_
            refine xt_getf rfl rfl (xmC 120 rfl) ?_
            refine xt_callV rfl rfl rfl rfl (xmD 0 rfl) ⟨rfl, rfl, yle rfl, yle rfl, yle rfl, yle rfl⟩ (ck_isFull (List.mem_of_getElem? (i := 0) rfl)) (c2 := 3) (s2 := 28) ⟨yle rfl, yle rfl⟩ ?_
            rintro _ _ (⟨rfl, hp13, rfl⟩ | ⟨rfl, hp13, rfl⟩)
            · skip
              show yT _ _ _ _ _ _ (_ :: _) _ _ _ _
              refine xt_pure rfl rfl rfl rfl ?_
              refine xt_pure rfl rfl rfl (st1 := .int (-3) :: _) rfl ?_
              refine xt_iret rfl rfl rfl rfl ?_
              try simp only [xi32_eq, xi64_eq, Int32.toInt_toInt64, Int32.reduceToInt, Int64.reduceToInt, y_m9, y_m1, y_m100, y64_m9, y64_m1, Ne, y_n1x] at hb1_0 hb4_1 hb9_2 hb20_3 hb24_12 hp13
              have hc : deV En fl s n = (-3) := by
                unfold deV
                try dsimp only
                repeat' split
                all_goals first | rfl | (exfalso; omega)
              rw [hc]
              exact ⟨_, _, rfl, Or.inl ⟨by decide, rfl⟩⟩
            · skip
              show yT _ _ _ _ _ _ (_ :: _) _ _ _ _
              refine xt_pure rfl rfl rfl rfl ?_
              refine xt_pure rfl rfl rfl rfl ?_
              refine yt_if rfl rfl ?_ ?_
              · intro (hb34_14 : (0 : Int) ≤ Int32.toInt _)
                refine xt_pure rfl rfl rfl rfl ?_
                refine xt_pure rfl rfl rfl rfl ?_
                refine xt_pure rfl rfl rfl (st1 := .int 7 :: _) rfl ?_
                refine yt_ic rfl rfl ?_ ?_
                · intro (h42 : (_ : Int32) ≠ 7)
                  have h42z : ¬ Int32.toInt _ = (7 : Int) := fun h => h42 (Int32.toInt_inj.mp h)
                  obtain ⟨sN, s1, rfl, e4⟩ := yi_of (x := s) (by omega)
                  obtain ⟨nN, n1, rfl, e5⟩ := yi_of (x := n) (by omega)
                  refine xt_new rfl rfl rfl (c1 := 2) (s1 := 24) (by decide) (by decide) ?_
                  intro oa
                  show yT _ _ _ _ _ _ _ (_ :: _ :: _ :: _ :: _ :: _ :: _ :: _ :: _) _ _ _
                  refine xt_pure rfl rfl rfl rfl ?_
                  refine xt_pure rfl rfl rfl rfl ?_
                  refine xt_pure rfl rfl rfl rfl ?_
                  refine yT.mv 3 rfl (D1 := _ :: _ :: _ :: _ :: _ :: _ :: _ :: _) rfl ?_
                  refine yT.mv 3 rfl (D1 := _ :: _ :: _ :: _ :: _ :: _ :: _ :: _) rfl ?_
                  refine yT.mv 3 rfl (D1 := _ :: _ :: _ :: _ :: _ :: _ :: _ :: _) rfl ?_
                  refine yT.mv 3 rfl (D1 := _ :: _ :: _ :: _ :: _ :: _ :: _ :: _) rfl ?_
                  refine xt_callI rfl rfl (by decide) rfl rfl ⟨rfl, yle rfl, yle rfl, yle rfl, yle rfl⟩ (yObj (by omega) (by omega)) (c2 := 0) (s2 := 0) ⟨yle rfl, yle rfl⟩ ?_
                  rintro _ _ ⟨ia, ra, rfl, rfl⟩
                  refine xt_putf rfl rfl rfl rfl 9 rfl (D1 := _ :: _ :: _ :: _ :: _ :: _ :: _ :: _ :: _ :: _ :: _) rfl ?_
                  refine xt_pure rfl rfl rfl rfl ?_
                  refine xt_pure rfl rfl rfl (st1 := .int 7 :: _) rfl ?_
                  refine yt_ic rfl rfl ?_ ?_
                  · intro (h57 : (_ : Int32) ≠ 7)
                    have h57z : ¬ Int32.toInt _ = (7 : Int) := fun h => h57 (Int32.toInt_inj.mp h)
                    refine xt_pure rfl rfl rfl (st1 := .int 0 :: _) rfl ?_
                    refine xt_iret rfl rfl rfl rfl ?_
                    try simp only [xi32_eq, xi64_eq, Int32.toInt_toInt64, Int32.reduceToInt, Int64.reduceToInt, y_m9, y_m1, y_m100, y64_m9, y64_m1, Ne, y_n1x] at hb1_0 hb4_1 hb9_2 hb20_3 hb24_12 hp13 hb34_14 h42 h57
                    have hc : deV En fl (Int32.ofNat sN) (Int32.ofNat nN) = 0 := by
                      unfold deV
                      try dsimp only
                      repeat' split
                      all_goals first | rfl | (exfalso; omega)
                    rw [hc]
                    refine ⟨x1, x2, rfl, Or.inr ⟨rfl, oa, ia, ra, ?_⟩⟩
                    obtain ⟨e1, e2, e3⟩ := deOn (s := Int32.ofNat sN) (n := Int32.ofNat nN) (by omega) (by omega)
                    rw [e1, e2, e3, e4, e5]
                    rfl
                  · intro (h57 : (_ : Int32) = 7)
                    have h57z : Int32.toInt _ = (7 : Int) := congrArg Int32.toInt h57
                    exact absurd h57 h42
                · intro (h42 : (_ : Int32) = 7)
                  have h42z : Int32.toInt _ = (7 : Int) := congrArg Int32.toInt h42
                  refine xt_new rfl rfl rfl (c1 := 2) (s1 := 24) (by decide) (by decide) ?_
                  intro oa
                  show yT _ _ _ _ _ _ _ (_ :: _ :: _ :: _ :: _ :: _ :: _ :: _ :: _) _ _ _
                  refine xt_pure rfl rfl rfl rfl ?_
                  refine xt_pure rfl rfl rfl (st1 := .int 7 :: _) rfl ?_
                  refine xt_pure rfl rfl rfl (st1 := .int 1 :: _) rfl ?_
                  refine yT.mv 3 rfl (D1 := _ :: _ :: _ :: _ :: _ :: _ :: _ :: _) rfl ?_
                  refine yT.mv 3 rfl (D1 := _ :: _ :: _ :: _ :: _ :: _ :: _ :: _) rfl ?_
                  refine yT.mv 3 rfl (D1 := _ :: _ :: _ :: _ :: _ :: _ :: _ :: _) rfl ?_
                  refine yT.mv 3 rfl (D1 := _ :: _ :: _ :: _ :: _ :: _ :: _ :: _) rfl ?_
                  refine xt_callI rfl rfl (by decide) rfl rfl ⟨rfl, yle rfl, yle rfl, yle rfl, yle rfl⟩ (yObj (s := 7) (n := 1) (by omega) (by omega)) (c2 := 0) (s2 := 0) ⟨yle rfl, yle rfl⟩ ?_
                  rintro _ _ ⟨ia, ra, rfl, rfl⟩
                  refine xt_pure rfl rfl rfl rfl ?_
                  refine xt_putf rfl rfl rfl rfl 9 rfl (D1 := _ :: _ :: _ :: _ :: _ :: _ :: _ :: _ :: _ :: _ :: _) rfl ?_
                  refine xt_pure rfl rfl rfl rfl ?_
                  refine xt_pure rfl rfl rfl (st1 := .int 7 :: _) rfl ?_
                  refine yt_ic rfl rfl ?_ ?_
                  · intro (h57 : (_ : Int32) ≠ 7)
                    have h57z : ¬ Int32.toInt _ = (7 : Int) := fun h => h57 (Int32.toInt_inj.mp h)
                    exact absurd h42 h57
                  · intro (h57 : (_ : Int32) = 7)
                    have h57z : Int32.toInt _ = (7 : Int) := congrArg Int32.toInt h57
                    refine xt_pure rfl rfl rfl rfl ?_
                    refine xt_getf rfl rfl (xmD 9 rfl) ?_
                    refine xt_pure rfl rfl rfl (st1 := .int 0 :: _) rfl ?_
                    refine xt_pure rfl rfl rfl rfl ?_
                    refine xt_pure rfl rfl rfl rfl ?_
                    refine yT.mv 1 rfl (D1 := _ :: _ :: _ :: _ :: _ :: _ :: _ :: _ :: _ :: _) rfl ?_
                    refine xt_callV rfl rfl rfl rfl (xmD 2 rfl) ⟨rfl, rfl, yle rfl, yle rfl, yle rfl, yle rfl⟩ (yput (s := 7) (by omega) (by decide) (List.mem_of_getElem? (i := 1) rfl) (List.mem_of_getElem? (i := 3) rfl)) (c2 := 0) (s2 := 0) ⟨yle rfl, yle rfl⟩ ?_
                    rintro _ _ ⟨rfl, rfl⟩
                    refine yT.mv 1 rfl (D1 := _ :: _ :: _ :: _ :: _ :: _ :: _ :: _ :: _ :: _) rfl ?_
                    refine xt_pure rfl rfl rfl (st1 := .int 0 :: _) rfl ?_
                    refine xt_iret rfl rfl rfl rfl ?_
                    try simp only [xi32_eq, xi64_eq, Int32.toInt_toInt64, Int32.reduceToInt, Int64.reduceToInt, y_m9, y_m1, y_m100, y64_m9, y64_m1, Ne, y_n1x] at hb1_0 hb4_1 hb9_2 hb20_3 hb24_12 hp13 hb34_14 h42 h57
                    have hc : deV En fl s n = 0 := by
                      unfold deV
                      try dsimp only
                      repeat' split
                      all_goals first | rfl | (exfalso; omega)
                    rw [hc]
                    refine ⟨x1, x2, rfl, Or.inr ⟨rfl, oa, ia, ra, ?_⟩⟩
                    obtain ⟨e1, e2, e3⟩ := deO7 (n := n) (by omega : s.toInt = 7)
                    obtain rfl : s = 7 := by rw [xi32_eq]; assumption
                    rw [e1, e2, e3]
                    rfl
              · intro (hb34_14 : Int32.toInt _ < (0 : Int))
                refine xt_pure rfl rfl rfl rfl ?_
                refine xt_pure rfl rfl rfl (st1 := .int 6 :: _) rfl ?_
                refine yt_inV (c1 := 0) (s1 := 0) (c2 := 3) (s2 := 28) (fr1 := 1) (lo1 := 21) rfl rfl rfl rfl (xmD 3 rfl) ⟨rfl, rfl, yle rfl, yle rfl, yle rfl, yle rfl⟩ (yle rfl) (L1 := [_, _]) rfl ⟨yle rfl, yle rfl⟩ ?_
                refine xt_pure rfl rfl rfl rfl ?_
                refine xt_getf rfl rfl (xmC 120 rfl) ?_
                refine xt_pure rfl rfl rfl rfl ?_
                refine yt_inV (c1 := 0) (s1 := 0) (c2 := 0) (s2 := 0) (fr1 := 0) (lo1 := 0) rfl rfl rfl rfl (xmD 0 rfl) ⟨rfl, rfl, yle rfl, yle rfl, yle rfl, yle rfl⟩ (yle rfl) (L1 := [_, _]) rfl ⟨yle rfl, yle rfl⟩ ?_
                refine xt_pure rfl rfl rfl rfl ?_
                refine xt_pure rfl rfl rfl rfl ?_
                refine xt_getf rfl rfl (xmD 0 rfl) ?_
                refine xt_pure rfl rfl rfl (st1 := .int 1 :: _) rfl ?_
                refine xt_pure rfl rfl rfl rfl ?_
                refine xt_putf rfl rfl rfl rfl 0 rfl (D1 := _ :: _ :: _ :: _ :: _) rfl ?_
                refine xt_pure rfl rfl rfl rfl ?_
                refine xt_pure rfl rfl rfl rfl ?_
                refine xt_putf rfl rfl rfl rfl 1 rfl (D1 := _ :: _ :: _ :: _ :: _) rfl ?_
                refine xt_pure rfl rfl rfl rfl ?_
                refine xt_pure rfl rfl rfl rfl ?_
                refine xt_getf rfl rfl (xmS 4 rfl hfn) ?_
                refine xt_putf rfl rfl rfl rfl 2 rfl (D1 := _ :: _ :: _ :: _ :: _) rfl ?_
                refine xt_vret rfl rfl rfl ?_
                show yT _ _ _ _ _ _ (_) _ _ _ _
                refine xt_pure rfl rfl rfl (st1 := .int (-10) :: _) rfl ?_
                refine xt_pure rfl rfl rfl rfl ?_
                refine xt_pure rfl rfl rfl (st1 := .int (-16) :: _) rfl ?_
                refine xt_iret rfl rfl rfl rfl ?_
                show yT _ _ _ _ _ _ (_ :: _) _ _ _ _
                refine xt_iret rfl rfl rfl rfl ?_
                try simp only [xi32_eq, xi64_eq, Int32.toInt_toInt64, Int32.reduceToInt, Int64.reduceToInt, y_m9, y_m1, y_m100, y64_m9, y64_m1, Ne, y_n1x] at hb1_0 hb4_1 hb9_2 hb20_3 hb24_12 hp13 hb34_14
                have hc : deV En fl s n = (-16) := by
                  unfold deV
                  try dsimp only
                  repeat' split
                  all_goals first | rfl | (exfalso; omega)
                rw [hc]
                exact ⟨_, _, rfl, Or.inl ⟨by decide, rfl⟩⟩
          · intro (hb24_12 : (6 : Int) < Int32.toInt _)
            refine xt_pure rfl rfl rfl (st1 := .int (-1) :: _) rfl ?_
            refine xt_iret rfl rfl rfl rfl ?_
            try simp only [xi32_eq, xi64_eq, Int32.toInt_toInt64, Int32.reduceToInt, Int64.reduceToInt, y_m9, y_m1, y_m100, y64_m9, y64_m1, Ne, y_n1x] at hb1_0 hb4_1 hb9_2 hb20_3 hb24_12
            have hc : deV En fl s n = (-1) := by
              unfold deV
              try dsimp only
              repeat' split
              all_goals first | rfl | (exfalso; omega)
            rw [hc]
            exact ⟨_, _, rfl, Or.inl ⟨by decide, rfl⟩⟩
      · intro (hb9_2 : (_ : Int32) = 7)
        have hb9_2z : Int32.toInt _ = (7 : Int) := congrArg Int32.toInt hb9_2
        refine xt_pure rfl rfl rfl rfl ?_
        refine xt_getf rfl rfl (xmC 118 rfl) ?_
        refine xt_pure rfl rfl rfl rfl ?_
        refine xt_pure rfl rfl rfl rfl ?_
        refine xt_callV rfl rfl rfl rfl (xmC 140 rfl) ⟨rfl, rfl, yle rfl, yle rfl, yle rfl, yle rfl⟩ (ck_lholds (by omega) (ymS 4 rfl hc0)) (c2 := 3) (s2 := 28) ⟨yle rfl, yle rfl⟩ ?_
        rintro _ _ (⟨rfl, hp20, rfl⟩ | ⟨rfl, hp20, rfl⟩)
        · skip
          try simp only [xi32_eq, xi64_eq, Int32.toInt_toInt64, Int32.reduceToInt, Int64.reduceToInt, y_m9, y_m1, y_m100, y64_m9, y64_m1, Ne, y_n1x] at hp20
          show yT _ _ _ _ _ _ (_ :: _) _ _ _ _
          refine xt_pure rfl rfl rfl rfl ?_
          refine xt_pure rfl rfl rfl rfl ?_
          refine xt_getf rfl rfl (xmC 120 rfl) ?_
          refine xt_callV rfl rfl rfl rfl (xmD 0 rfl) ⟨rfl, rfl, yle rfl, yle rfl, yle rfl, yle rfl⟩ (ck_isFull (List.mem_of_getElem? (i := 0) rfl)) (c2 := 3) (s2 := 28) ⟨yle rfl, yle rfl⟩ ?_
          rintro _ _ (⟨rfl, hp21, rfl⟩ | ⟨rfl, hp21, rfl⟩)
          · skip
            show yT _ _ _ _ _ _ (_ :: _) _ _ _ _
            refine xt_pure rfl rfl rfl rfl ?_
            refine xt_pure rfl rfl rfl (st1 := .int (-3) :: _) rfl ?_
            refine xt_iret rfl rfl rfl rfl ?_
            try simp only [xi32_eq, xi64_eq, Int32.toInt_toInt64, Int32.reduceToInt, Int64.reduceToInt, y_m9, y_m1, y_m100, y64_m9, y64_m1, Ne, y_n1x] at hb1_0 hb4_1 hb9_2 hp20 hp21
            have hc : deV En fl s n = (-3) := by
              unfold deV
              try dsimp only
              repeat' split
              all_goals first | rfl | (exfalso; omega)
            rw [hc]
            exact ⟨_, _, rfl, Or.inl ⟨by decide, rfl⟩⟩
          · skip
            show yT _ _ _ _ _ _ (_ :: _) _ _ _ _
            refine xt_pure rfl rfl rfl rfl ?_
            refine xt_pure rfl rfl rfl rfl ?_
            refine yt_if rfl rfl ?_ ?_
            · intro (hb34_22 : (0 : Int) ≤ Int32.toInt _)
              refine xt_pure rfl rfl rfl rfl ?_
              refine xt_pure rfl rfl rfl rfl ?_
              refine xt_pure rfl rfl rfl (st1 := .int 7 :: _) rfl ?_
              refine yt_ic rfl rfl ?_ ?_
              · intro (h42 : (_ : Int32) ≠ 7)
                have h42z : ¬ Int32.toInt _ = (7 : Int) := fun h => h42 (Int32.toInt_inj.mp h)
                obtain ⟨sN, s1, rfl, e4⟩ := yi_of (x := s) (by omega)
                obtain ⟨nN, n1, rfl, e5⟩ := yi_of (x := n) (by omega)
                refine xt_new rfl rfl rfl (c1 := 2) (s1 := 24) (by decide) (by decide) ?_
                intro oa
                show yT _ _ _ _ _ _ _ (_ :: _ :: _ :: _ :: _ :: _ :: _ :: _ :: _) _ _ _
                refine xt_pure rfl rfl rfl rfl ?_
                refine xt_pure rfl rfl rfl rfl ?_
                refine xt_pure rfl rfl rfl rfl ?_
                refine yT.mv 3 rfl (D1 := _ :: _ :: _ :: _ :: _ :: _ :: _ :: _) rfl ?_
                refine yT.mv 3 rfl (D1 := _ :: _ :: _ :: _ :: _ :: _ :: _ :: _) rfl ?_
                refine yT.mv 3 rfl (D1 := _ :: _ :: _ :: _ :: _ :: _ :: _ :: _) rfl ?_
                refine yT.mv 3 rfl (D1 := _ :: _ :: _ :: _ :: _ :: _ :: _ :: _) rfl ?_
                refine xt_callI rfl rfl (by decide) rfl rfl ⟨rfl, yle rfl, yle rfl, yle rfl, yle rfl⟩ (yObj (by omega) (by omega)) (c2 := 0) (s2 := 0) ⟨yle rfl, yle rfl⟩ ?_
                rintro _ _ ⟨ia, ra, rfl, rfl⟩
                refine xt_putf rfl rfl rfl rfl 9 rfl (D1 := _ :: _ :: _ :: _ :: _ :: _ :: _ :: _ :: _ :: _ :: _) rfl ?_
                refine xt_pure rfl rfl rfl rfl ?_
                refine xt_pure rfl rfl rfl (st1 := .int 7 :: _) rfl ?_
                refine yt_ic rfl rfl ?_ ?_
                · intro (h57 : (_ : Int32) ≠ 7)
                  have h57z : ¬ Int32.toInt _ = (7 : Int) := fun h => h57 (Int32.toInt_inj.mp h)
                  refine xt_pure rfl rfl rfl (st1 := .int 0 :: _) rfl ?_
                  refine xt_iret rfl rfl rfl rfl ?_
                  try simp only [xi32_eq, xi64_eq, Int32.toInt_toInt64, Int32.reduceToInt, Int64.reduceToInt, y_m9, y_m1, y_m100, y64_m9, y64_m1, Ne, y_n1x] at hb1_0 hb4_1 hb9_2 hp20 hp21 hb34_22 h42 h57
                  have hc : deV En fl (Int32.ofNat sN) (Int32.ofNat nN) = 0 := by
                    unfold deV
                    try dsimp only
                    repeat' split
                    all_goals first | rfl | (exfalso; omega)
                  rw [hc]
                  refine ⟨x1, x2, rfl, Or.inr ⟨rfl, oa, ia, ra, ?_⟩⟩
                  obtain ⟨e1, e2, e3⟩ := deOn (s := Int32.ofNat sN) (n := Int32.ofNat nN) (by omega) (by omega)
                  rw [e1, e2, e3, e4, e5]
                  rfl
                · intro (h57 : (_ : Int32) = 7)
                  have h57z : Int32.toInt _ = (7 : Int) := congrArg Int32.toInt h57
                  exact absurd h57 h42
              · intro (h42 : (_ : Int32) = 7)
                have h42z : Int32.toInt _ = (7 : Int) := congrArg Int32.toInt h42
                refine xt_new rfl rfl rfl (c1 := 2) (s1 := 24) (by decide) (by decide) ?_
                intro oa
                show yT _ _ _ _ _ _ _ (_ :: _ :: _ :: _ :: _ :: _ :: _ :: _ :: _) _ _ _
                refine xt_pure rfl rfl rfl rfl ?_
                refine xt_pure rfl rfl rfl (st1 := .int 7 :: _) rfl ?_
                refine xt_pure rfl rfl rfl (st1 := .int 1 :: _) rfl ?_
                refine yT.mv 3 rfl (D1 := _ :: _ :: _ :: _ :: _ :: _ :: _ :: _) rfl ?_
                refine yT.mv 3 rfl (D1 := _ :: _ :: _ :: _ :: _ :: _ :: _ :: _) rfl ?_
                refine yT.mv 3 rfl (D1 := _ :: _ :: _ :: _ :: _ :: _ :: _ :: _) rfl ?_
                refine yT.mv 3 rfl (D1 := _ :: _ :: _ :: _ :: _ :: _ :: _ :: _) rfl ?_
                refine xt_callI rfl rfl (by decide) rfl rfl ⟨rfl, yle rfl, yle rfl, yle rfl, yle rfl⟩ (yObj (s := 7) (n := 1) (by omega) (by omega)) (c2 := 0) (s2 := 0) ⟨yle rfl, yle rfl⟩ ?_
                rintro _ _ ⟨ia, ra, rfl, rfl⟩
                refine xt_pure rfl rfl rfl rfl ?_
                refine xt_putf rfl rfl rfl rfl 9 rfl (D1 := _ :: _ :: _ :: _ :: _ :: _ :: _ :: _ :: _ :: _ :: _) rfl ?_
                refine xt_pure rfl rfl rfl rfl ?_
                refine xt_pure rfl rfl rfl (st1 := .int 7 :: _) rfl ?_
                refine yt_ic rfl rfl ?_ ?_
                · intro (h57 : (_ : Int32) ≠ 7)
                  have h57z : ¬ Int32.toInt _ = (7 : Int) := fun h => h57 (Int32.toInt_inj.mp h)
                  exact absurd h42 h57
                · intro (h57 : (_ : Int32) = 7)
                  have h57z : Int32.toInt _ = (7 : Int) := congrArg Int32.toInt h57
                  refine xt_pure rfl rfl rfl rfl ?_
                  refine xt_getf rfl rfl (xmD 9 rfl) ?_
                  refine xt_pure rfl rfl rfl (st1 := .int 0 :: _) rfl ?_
                  refine xt_pure rfl rfl rfl rfl ?_
                  refine xt_pure rfl rfl rfl rfl ?_
                  refine yT.mv 1 rfl (D1 := _ :: _ :: _ :: _ :: _ :: _ :: _ :: _ :: _ :: _) rfl ?_
                  refine xt_callV rfl rfl rfl rfl (xmD 2 rfl) ⟨rfl, rfl, yle rfl, yle rfl, yle rfl, yle rfl⟩ (yput (s := 7) (by omega) (by decide) (List.mem_of_getElem? (i := 1) rfl) (List.mem_of_getElem? (i := 3) rfl)) (c2 := 0) (s2 := 0) ⟨yle rfl, yle rfl⟩ ?_
                  rintro _ _ ⟨rfl, rfl⟩
                  refine yT.mv 1 rfl (D1 := _ :: _ :: _ :: _ :: _ :: _ :: _ :: _ :: _ :: _) rfl ?_
                  refine xt_pure rfl rfl rfl (st1 := .int 0 :: _) rfl ?_
                  refine xt_iret rfl rfl rfl rfl ?_
                  try simp only [xi32_eq, xi64_eq, Int32.toInt_toInt64, Int32.reduceToInt, Int64.reduceToInt, y_m9, y_m1, y_m100, y64_m9, y64_m1, Ne, y_n1x] at hb1_0 hb4_1 hb9_2 hp20 hp21 hb34_22 h42 h57
                  have hc : deV En fl s n = 0 := by
                    unfold deV
                    try dsimp only
                    repeat' split
                    all_goals first | rfl | (exfalso; omega)
                  rw [hc]
                  refine ⟨x1, x2, rfl, Or.inr ⟨rfl, oa, ia, ra, ?_⟩⟩
                  obtain ⟨e1, e2, e3⟩ := deO7 (n := n) (by omega : s.toInt = 7)
                  obtain rfl : s = 7 := by rw [xi32_eq]; assumption
                  rw [e1, e2, e3]
                  rfl
            · intro (hb34_22 : Int32.toInt _ < (0 : Int))
              refine xt_pure rfl rfl rfl rfl ?_
              refine xt_pure rfl rfl rfl (st1 := .int 6 :: _) rfl ?_
              refine yt_inV (c1 := 0) (s1 := 0) (c2 := 3) (s2 := 28) (fr1 := 1) (lo1 := 21) rfl rfl rfl rfl (xmD 3 rfl) ⟨rfl, rfl, yle rfl, yle rfl, yle rfl, yle rfl⟩ (yle rfl) (L1 := [_, _]) rfl ⟨yle rfl, yle rfl⟩ ?_
              refine xt_pure rfl rfl rfl rfl ?_
              refine xt_getf rfl rfl (xmC 120 rfl) ?_
              refine xt_pure rfl rfl rfl rfl ?_
              refine yt_inV (c1 := 0) (s1 := 0) (c2 := 0) (s2 := 0) (fr1 := 0) (lo1 := 0) rfl rfl rfl rfl (xmD 0 rfl) ⟨rfl, rfl, yle rfl, yle rfl, yle rfl, yle rfl⟩ (yle rfl) (L1 := [_, _]) rfl ⟨yle rfl, yle rfl⟩ ?_
              refine xt_pure rfl rfl rfl rfl ?_
              refine xt_pure rfl rfl rfl rfl ?_
              refine xt_getf rfl rfl (xmD 0 rfl) ?_
              refine xt_pure rfl rfl rfl (st1 := .int 1 :: _) rfl ?_
              refine xt_pure rfl rfl rfl rfl ?_
              refine xt_putf rfl rfl rfl rfl 0 rfl (D1 := _ :: _ :: _ :: _ :: _) rfl ?_
              refine xt_pure rfl rfl rfl rfl ?_
              refine xt_pure rfl rfl rfl rfl ?_
              refine xt_putf rfl rfl rfl rfl 1 rfl (D1 := _ :: _ :: _ :: _ :: _) rfl ?_
              refine xt_pure rfl rfl rfl rfl ?_
              refine xt_pure rfl rfl rfl rfl ?_
              refine xt_getf rfl rfl (xmS 4 rfl hfn) ?_
              refine xt_putf rfl rfl rfl rfl 2 rfl (D1 := _ :: _ :: _ :: _ :: _) rfl ?_
              refine xt_vret rfl rfl rfl ?_
              show yT _ _ _ _ _ _ (_) _ _ _ _
              refine xt_pure rfl rfl rfl (st1 := .int (-10) :: _) rfl ?_
              refine xt_pure rfl rfl rfl rfl ?_
              refine xt_pure rfl rfl rfl (st1 := .int (-16) :: _) rfl ?_
              refine xt_iret rfl rfl rfl rfl ?_
              show yT _ _ _ _ _ _ (_ :: _) _ _ _ _
              refine xt_iret rfl rfl rfl rfl ?_
              try simp only [xi32_eq, xi64_eq, Int32.toInt_toInt64, Int32.reduceToInt, Int64.reduceToInt, y_m9, y_m1, y_m100, y64_m9, y64_m1, Ne, y_n1x] at hb1_0 hb4_1 hb9_2 hp20 hp21 hb34_22
              have hc : deV En fl s n = (-16) := by
                unfold deV
                try dsimp only
                repeat' split
                all_goals first | rfl | (exfalso; omega)
              rw [hc]
              exact ⟨_, _, rfl, Or.inl ⟨by decide, rfl⟩⟩
        · skip
          try simp only [xi32_eq, xi64_eq, Int32.toInt_toInt64, Int32.reduceToInt, Int64.reduceToInt, y_m9, y_m1, y_m100, y64_m9, y64_m1, Ne, y_n1x] at hp20
          show yT _ _ _ _ _ _ (_ :: _) _ _ _ _
          refine xt_pure rfl rfl rfl rfl ?_
          refine xt_pure rfl rfl rfl rfl ?_
          refine xt_pure rfl rfl rfl (st1 := .int (-1) :: _) rfl ?_
          refine xt_iret rfl rfl rfl rfl ?_
          try simp only [xi32_eq, xi64_eq, Int32.toInt_toInt64, Int32.reduceToInt, Int64.reduceToInt, y_m9, y_m1, y_m100, y64_m9, y64_m1, Ne, y_n1x] at hb1_0 hb4_1 hb9_2 hp20
          have hc : deV En fl s n = (-1) := by
            unfold deV
            try dsimp only
            repeat' split
            all_goals first | rfl | (exfalso; omega)
          rw [hc]
          exact ⟨_, _, rfl, Or.inl ⟨by decide, rfl⟩⟩
    · intro (hb4_1 : (7 : Int) < Int32.toInt _)
      refine xt_pure rfl rfl rfl (st1 := .int (-1) :: _) rfl ?_
      refine xt_iret rfl rfl rfl rfl ?_
      try simp only [xi32_eq, xi64_eq, Int32.toInt_toInt64, Int32.reduceToInt, Int64.reduceToInt, y_m9, y_m1, y_m100, y64_m9, y64_m1, Ne, y_n1x] at hb1_0 hb4_1
      have hc : deV En fl s n = (-1) := by
        unfold deV
        try dsimp only
        repeat' split
        all_goals first | rfl | (exfalso; omega)
      rw [hc]
      exact ⟨_, _, rfl, Or.inl ⟨by decide, rfl⟩⟩
