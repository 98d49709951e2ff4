/-! THE DESK, reference: write, seat, sort, clear -/
theorem mD_write0 {X : List Int32} {D0 : List xE} {i : Int32} {v : Int64} {fl : Int32} (hh : ((209, .inl (14, 23, .null)) : xE) ∈ D0) : yK X 1 25 262 [.ref 209, .int i, .long v] ((209, .inl (14, 24, .int fl)) :: D0) 0 0 (fun w D => w = some (.int (wrV none fl i)) ∧ D = (209, .inl (14, 24, .int (flW fl (wrV none fl i)))) :: D0) := by
  refine yK.of rfl (yle rfl) (L := [_, _, _, _]) rfl ?_
  refine xt_pure rfl rfl rfl rfl ?_
  refine yt_inV (c1 := 0) (s1 := 0) (c2 := 0) (s2 := 0) (fr1 := 0) (lo1 := 0) rfl rfl rfl rfl (xmD 0 rfl) ⟨rfl, rfl, yle rfl, yle rfl, yle rfl, yle rfl⟩ (yle rfl) (L1 := [_]) rfl ⟨yle rfl, yle rfl⟩ ?_
  refine xt_pure rfl rfl rfl rfl ?_
  refine xt_getf rfl rfl (xmD 0 rfl) ?_
  refine xt_pure rfl rfl rfl (st1 := .int 10000 :: _) rfl ?_
  refine yt_ic rfl rfl ?_ ?_
  · intro (hb3_0 : Int32.toInt _ < (10000 : Int))
    refine xt_pure rfl rfl rfl (st1 := .int 0 :: _) rfl ?_
    refine xt_iret rfl rfl rfl rfl ?_
    show yT _ _ _ _ _ _ (_ :: _) _ _ _ _
    refine xt_pure rfl rfl rfl rfl ?_
    refine xt_pure rfl rfl rfl rfl ?_
    refine xt_getf rfl rfl (xmS 1 rfl hh) ?_
    refine xt_pure rfl rfl rfl rfl ?_
    refine xt_pure rfl rfl rfl rfl ?_
    refine xt_pure rfl rfl rfl (st1 := .int 1 :: _) rfl ?_
    refine yt_inV (c1 := 0) (s1 := 0) (c2 := 0) (s2 := 0) (fr1 := 0) (lo1 := 0) rfl rfl rfl rfl (xmD 0 rfl) ⟨rfl, rfl, yle rfl, yle rfl, yle rfl, yle rfl⟩ (yle rfl) (L1 := [_, _]) rfl ⟨yle rfl, yle rfl⟩ ?_
    refine xt_pure rfl rfl rfl rfl ?_
    refine xt_pure rfl rfl rfl rfl ?_
    refine xt_getf rfl rfl (xmD 0 rfl) ?_
    refine xt_pure rfl rfl rfl (st1 := .int 1 :: _) rfl ?_
    refine xt_pure rfl rfl rfl rfl ?_
    refine xt_putf rfl rfl rfl rfl 0 rfl (D1 := _ :: _) rfl ?_
    refine xt_pure rfl rfl rfl (st1 := .int (-10) :: _) rfl ?_
    refine xt_pure rfl rfl rfl rfl ?_
    refine xt_pure rfl rfl rfl (st1 := .int (-11) :: _) rfl ?_
    refine xt_iret rfl rfl rfl rfl ?_
    show yT _ _ _ _ _ _ (_ :: _) _ _ _ _
    refine xt_iret rfl rfl rfl rfl ?_
    have hc : wrV none fl i = (-11) := by
      unfold wrV
      try dsimp only
      repeat' split
      all_goals first | rfl | (exfalso; omega)
    rw [hc]
    exact ⟨rfl, by simp [flW]⟩
  · intro (hb3_0 : (10000 : Int) ≤ Int32.toInt _)
    refine xt_pure rfl rfl rfl (st1 := .int 1 :: _) rfl ?_
    refine xt_pure rfl rfl rfl rfl ?_
    refine xt_iret rfl rfl rfl rfl ?_
    show yT _ _ _ _ _ _ (_ :: _) _ _ _ _
    refine xt_pure rfl rfl rfl rfl ?_
    refine xt_pure rfl rfl rfl (st1 := .int (-3) :: _) rfl ?_
    refine xt_iret rfl rfl rfl rfl ?_
    have hc : wrV none fl i = (-3) := by
      unfold wrV
      try dsimp only
      repeat' split
      all_goals first | rfl | (exfalso; omega)
    rw [hc]
    exact ⟨rfl, by simp [flW]⟩
theorem mD_write1 {X : List Int32} {D0 : List xE} {i : Int32} {v : Int64} {jk : List Int64} {fl : Int32} {b ia ra ca : Nat} {ob : yO} (hs : ob.1 ≤ 7) (hz : osz ob ≤ 12) (hh : ((209, .inl (14, 23, .ref b)) : xE) ∈ D0) (k0 : ((b, .inl (13, 0, .int (Int32.ofNat ob.1))) : xE) ∈ D0) (k1 : ((b, .inl (13, 1, .int (Int32.ofNat (osz ob)))) : xE) ∈ D0) (k2 : ((b, .inl (13, 2, .ref ia)) : xE) ∈ D0) (k3 : ((b, .inl (13, 3, .ref ra)) : xE) ∈ D0) (k4 : ((b, .inl (13, 4, .ref ca)) : xE) ∈ D0) : yK X 1 25 262 [.ref 209, .int i, .long v] ((209, .inl (14, 24, .int fl)) :: (ia, .inr (1, (ob.2.1 ++ jk).map Value.long)) :: D0) 0 0 (fun w D => w = some (.int (wrV (some ob) fl i)) ∧ D = (209, .inl (14, 24, .int (flW fl (wrV (some ob) fl i)))) :: (ia, .inr (1, ((wrO ob (wrV (some ob) fl i) i v).2.1 ++ jk).map Value.long)) :: D0) := by
  have es := yi_nat (i := ob.1) (by omega)
  have ez := y_n1 (n := osz ob) (by omega)
  refine yK.of rfl (yle rfl) (L := [_, _, _, _]) rfl ?_
  refine xt_pure rfl rfl rfl rfl ?_
  refine yt_inV (c1 := 0) (s1 := 0) (c2 := 0) (s2 := 0) (fr1 := 0) (lo1 := 0) rfl rfl rfl rfl (xmD 0 rfl) ⟨rfl, rfl, yle rfl, yle rfl, yle rfl, yle rfl⟩ (yle rfl) (L1 := [_]) rfl ⟨yle rfl, yle rfl⟩ ?_
  refine xt_pure rfl rfl rfl rfl ?_
  refine xt_getf rfl rfl (xmD 0 rfl) ?_
  refine xt_pure rfl rfl rfl (st1 := .int 10000 :: _) rfl ?_
  refine yt_ic rfl rfl ?_ ?_
  · intro (hb3_0 : Int32.toInt _ < (10000 : Int))
    refine xt_pure rfl rfl rfl (st1 := .int 0 :: _) rfl ?_
    refine xt_iret rfl rfl rfl rfl ?_
    show yT _ _ _ _ _ _ (_ :: _) _ _ _ _
    refine xt_pure rfl rfl rfl rfl ?_
    refine xt_pure rfl rfl rfl rfl ?_
    refine xt_getf rfl rfl (xmS 2 rfl hh) ?_
    refine xt_pure rfl rfl rfl rfl ?_
    refine xt_pure rfl rfl rfl rfl ?_
    refine xt_getf rfl rfl (xmS 2 rfl hh) ?_
    refine xt_getf rfl rfl (xmS 2 rfl k0) ?_
    refine xt_pure rfl rfl rfl (st1 := .int 3 :: _) rfl ?_
    refine yt_ic rfl rfl ?_ ?_
    · intro (hb16_1 : Int32.toInt _ ≤ (3 : Int))
      refine xt_pure rfl rfl rfl rfl ?_
      refine xt_pure rfl rfl rfl rfl ?_
      refine xt_pure rfl rfl rfl (st1 := .long 0 :: _) rfl ?_
      refine xt_pure rfl rfl rfl rfl ?_
      refine xt_getf rfl rfl (xmS 2 rfl hh) ?_
      refine xt_getf rfl rfl (xmS 2 rfl k1) ?_
      refine xt_pure rfl rfl rfl (st1 := .int 1 :: _) rfl ?_
      refine xt_pure rfl rfl rfl rfl ?_
      refine xt_pure rfl rfl rfl rfl ?_
      refine xt_callS rfl rfl (by decide) rfl ⟨rfl, yle rfl, yle rfl, yle rfl, yle rfl⟩ mk_in (c2 := 0) (s2 := 0) ⟨yle rfl, yle rfl⟩ ?_
      rintro _ _ (⟨rfl, hp2, rfl⟩ | ⟨rfl, hp2, rfl⟩)
      · skip
        try simp only [xi32_eq, xi64_eq, Int32.toInt_toInt64, Int32.reduceToInt, Int64.reduceToInt, y_m9, y_m1, y_m100, y64_m9, y64_m1, Ne, y_n1x] at hp2
        show yT _ _ _ _ _ _ (_ :: _) _ _ _ _
        refine xt_pure rfl rfl rfl rfl ?_
        refine xt_pure rfl rfl rfl rfl ?_
        refine xt_getf rfl rfl (xmS 2 rfl hh) ?_
        refine xt_getf rfl rfl (xmS 2 rfl k2) ?_
        refine xt_pure rfl rfl rfl rfl ?_
        refine xt_pure rfl rfl rfl rfl ?_
        refine xt_getf rfl rfl (xmS 2 rfl hh) ?_
        refine xt_getf rfl rfl (xmS 2 rfl k0) ?_
        refine yt_if rfl rfl ?_ ?_
        · intro (hb43_3 : (_ : Int32) ≠ 0)
          have hb43_3z : ¬ Int32.toInt _ = (0 : Int) := fun h => hb43_3 (Int32.toInt_inj.mp h)
          refine xt_pure rfl rfl rfl rfl ?_
          refine xt_getf rfl rfl (xmS 2 rfl hh) ?_
          refine xt_getf rfl rfl (xmS 2 rfl k0) ?_
          refine xt_pure rfl rfl rfl (st1 := .int 1 :: _) rfl ?_
          refine yt_ic rfl rfl ?_ ?_
          · intro (hb56_4 : (_ : Int32) ≠ 1)
            have hb56_4z : ¬ Int32.toInt _ = (1 : Int) := fun h => hb56_4 (Int32.toInt_inj.mp h)
            refine xt_pure rfl rfl rfl rfl ?_
            refine xt_getf rfl rfl (xmS 2 rfl hh) ?_
            refine xt_getf rfl rfl (xmS 2 rfl k0) ?_
            refine xt_pure rfl rfl rfl (st1 := .int 3 :: _) rfl ?_
            refine yt_ic rfl rfl ?_ ?_
            · intro (hb65_5 : (_ : Int32) ≠ 3)
              have hb65_5z : ¬ Int32.toInt _ = (3 : Int) := fun h => hb65_5 (Int32.toInt_inj.mp h)
              refine xt_pure rfl rfl rfl rfl ?_
              refine yt_lst rfl rfl 1 rfl ⟨by omega, by rw [List.length_append]; have := osz_n4 (o := ob) (by omega); omega⟩ (D1 := _ :: _ :: _) rfl ?_
              refine xt_pure rfl rfl rfl (st1 := .int 0 :: _) rfl ?_
              refine xt_iret rfl rfl rfl rfl ?_
              have hc : wrV (some ob) fl i = 0 := by
                unfold wrV
                try dsimp only
                repeat' split
                all_goals first | rfl | (exfalso; omega)
              rw [hc]
              have h0 := osz_n4 (o := ob) (by omega)
              rw [wrO, if_pos rfl, flW0]
              refine ⟨rfl, ?_⟩
              rw [List.set_append_left _ _ (by omega)]
              first | rw [putv, if_pos (by omega), if_pos (by assumption)] | rw [putv, if_pos (by omega), if_neg (by assumption)] | rw [putv, if_neg (by omega), if_pos (by omega)] | rw [putv, if_neg (by omega), if_neg (by omega), if_pos (by omega)] | rw [putv, if_neg (by omega), if_neg (by omega), if_neg (by omega)]
            · intro (hb65_5 : (_ : Int32) = 3)
              have hb65_5z : Int32.toInt _ = (3 : Int) := congrArg Int32.toInt hb65_5
              refine xt_pure rfl rfl rfl rfl ?_
              refine xt_pure rfl rfl rfl (st1 := .long 65535 :: _) rfl ?_
              refine xt_pure rfl rfl rfl rfl ?_
              refine xt_pure rfl rfl rfl rfl ?_
              refine yt_lst rfl rfl 1 rfl ⟨by omega, by rw [List.length_append]; have := osz_n4 (o := ob) (by omega); omega⟩ (D1 := _ :: _ :: _) rfl ?_
              refine xt_pure rfl rfl rfl (st1 := .int 0 :: _) rfl ?_
              refine xt_iret rfl rfl rfl rfl ?_
              have hc : wrV (some ob) fl i = 0 := by
                unfold wrV
                try dsimp only
                repeat' split
                all_goals first | rfl | (exfalso; omega)
              rw [hc]
              have h0 := osz_n4 (o := ob) (by omega)
              rw [wrO, if_pos rfl, flW0]
              refine ⟨rfl, ?_⟩
              rw [List.set_append_left _ _ (by omega)]
              first | rw [putv, if_pos (by omega), if_pos (by assumption)] | rw [putv, if_pos (by omega), if_neg (by assumption)] | rw [putv, if_neg (by omega), if_pos (by omega)] | rw [putv, if_neg (by omega), if_neg (by omega), if_pos (by omega)] | rw [putv, if_neg (by omega), if_neg (by omega), if_neg (by omega)]
          · intro (hb56_4 : (_ : Int32) = 1)
            have hb56_4z : Int32.toInt _ = (1 : Int) := congrArg Int32.toInt hb56_4
            refine xt_pure rfl rfl rfl rfl ?_
            refine xt_pure rfl rfl rfl rfl ?_
            refine xt_pure rfl rfl rfl rfl ?_
            refine xt_pure rfl rfl rfl rfl ?_
            refine yt_lst rfl rfl 1 rfl ⟨by omega, by rw [List.length_append]; have := osz_n4 (o := ob) (by omega); omega⟩ (D1 := _ :: _ :: _) rfl ?_
            refine xt_pure rfl rfl rfl (st1 := .int 0 :: _) rfl ?_
            refine xt_iret rfl rfl rfl rfl ?_
            have hc : wrV (some ob) fl i = 0 := by
              unfold wrV
              try dsimp only
              repeat' split
              all_goals first | rfl | (exfalso; omega)
            rw [hc]
            have h0 := osz_n4 (o := ob) (by omega)
            rw [wrO, if_pos rfl, flW0]
            refine ⟨rfl, ?_⟩
            rw [List.set_append_left _ _ (by omega)]
            first | rw [putv, if_pos (by omega), if_pos (by assumption)] | rw [putv, if_pos (by omega), if_neg (by assumption)] | rw [putv, if_neg (by omega), if_pos (by omega)] | rw [putv, if_neg (by omega), if_neg (by omega), if_pos (by omega)] | rw [putv, if_neg (by omega), if_neg (by omega), if_neg (by omega)]
        · intro (hb43_3 : (_ : Int32) = 0)
          have hb43_3z : Int32.toInt _ = (0 : Int) := congrArg Int32.toInt hb43_3
          refine xt_pure rfl rfl rfl rfl ?_
          refine xt_pure rfl rfl rfl (st1 := .long 0 :: _) rfl ?_
          refine yt_lc rfl rfl rfl ?_ ?_
          · intro (hb46_6 : (_ : Int64) = 0)
            have hb46_6z : Int64.toInt _ = (0 : Int) := congrArg Int64.toInt hb46_6
            refine xt_pure rfl rfl rfl (st1 := .long 0 :: _) rfl ?_
            refine xt_pure rfl rfl rfl rfl ?_
            refine yt_lst rfl rfl 1 rfl ⟨by omega, by rw [List.length_append]; have := osz_n4 (o := ob) (by omega); omega⟩ (D1 := _ :: _ :: _) rfl ?_
            refine xt_pure rfl rfl rfl (st1 := .int 0 :: _) rfl ?_
            refine xt_iret rfl rfl rfl rfl ?_
            have hc : wrV (some ob) fl i = 0 := by
              unfold wrV
              try dsimp only
              repeat' split
              all_goals first | rfl | (exfalso; omega)
            rw [hc]
            have h0 := osz_n4 (o := ob) (by omega)
            rw [wrO, if_pos rfl, flW0]
            refine ⟨rfl, ?_⟩
            rw [List.set_append_left _ _ (by omega)]
            first | rw [putv, if_pos (by omega), if_pos (by assumption)] | rw [putv, if_pos (by omega), if_neg (by assumption)] | rw [putv, if_neg (by omega), if_pos (by omega)] | rw [putv, if_neg (by omega), if_neg (by omega), if_pos (by omega)] | rw [putv, if_neg (by omega), if_neg (by omega), if_neg (by omega)]
          · intro (hb46_6 : (_ : Int64) ≠ 0)
            have hb46_6z : ¬ Int64.toInt _ = (0 : Int) := fun h => hb46_6 (Int64.toInt_inj.mp h)
            refine xt_pure rfl rfl rfl (st1 := .long 1 :: _) rfl ?_
            refine xt_pure rfl rfl rfl rfl ?_
            refine yt_lst rfl rfl 1 rfl ⟨by omega, by rw [List.length_append]; have := osz_n4 (o := ob) (by omega); omega⟩ (D1 := _ :: _ :: _) rfl ?_
            refine xt_pure rfl rfl rfl (st1 := .int 0 :: _) rfl ?_
            refine xt_iret rfl rfl rfl rfl ?_
            have hc : wrV (some ob) fl i = 0 := by
              unfold wrV
              try dsimp only
              repeat' split
              all_goals first | rfl | (exfalso; omega)
            rw [hc]
            have h0 := osz_n4 (o := ob) (by omega)
            rw [wrO, if_pos rfl, flW0]
            refine ⟨rfl, ?_⟩
            rw [List.set_append_left _ _ (by omega)]
            first | rw [putv, if_pos (by omega), if_pos (by assumption)] | rw [putv, if_pos (by omega), if_neg (by assumption)] | rw [putv, if_neg (by omega), if_pos (by omega)] | rw [putv, if_neg (by omega), if_neg (by omega), if_pos (by omega)] | rw [putv, if_neg (by omega), if_neg (by omega), if_neg (by omega)]
      · skip
        try simp only [xi32_eq, xi64_eq, Int32.toInt_toInt64, Int32.reduceToInt, Int64.reduceToInt, y_m9, y_m1, y_m100, y64_m9, y64_m1, Ne, y_n1x] at hp2
        show yT _ _ _ _ _ _ (_ :: _) _ _ _ _
        refine xt_pure rfl rfl rfl rfl ?_
        refine xt_pure rfl rfl rfl rfl ?_
        refine xt_pure rfl rfl rfl (st1 := .int 3 :: _) rfl ?_
        refine yt_inV (c1 := 0) (s1 := 0) (c2 := 0) (s2 := 0) (fr1 := 0) (lo1 := 0) rfl rfl rfl rfl (xmD 0 rfl) ⟨rfl, rfl, yle rfl, yle rfl, yle rfl, yle rfl⟩ (yle rfl) (L1 := [_, _]) rfl ⟨yle rfl, yle rfl⟩ ?_
        refine xt_pure rfl rfl rfl rfl ?_
        refine xt_pure rfl rfl rfl rfl ?_
        refine xt_getf rfl rfl (xmD 0 rfl) ?_
        refine xt_pure rfl rfl rfl (st1 := .int 1 :: _) rfl ?_
        refine xt_pure rfl rfl rfl rfl ?_
        refine xt_putf rfl rfl rfl rfl 0 rfl (D1 := _ :: _ :: _) rfl ?_
        refine xt_pure rfl rfl rfl (st1 := .int (-10) :: _) rfl ?_
        refine xt_pure rfl rfl rfl rfl ?_
        refine xt_pure rfl rfl rfl (st1 := .int (-13) :: _) rfl ?_
        refine xt_iret rfl rfl rfl rfl ?_
        show yT _ _ _ _ _ _ (_ :: _) _ _ _ _
        refine xt_iret rfl rfl rfl rfl ?_
        have hc : wrV (some ob) fl i = (-13) := by
          unfold wrV
          try dsimp only
          repeat' split
          all_goals first | rfl | (exfalso; omega)
        rw [hc]
        exact ⟨rfl, by simp [flW, wrO]⟩
    · intro (hb16_1 : (3 : Int) < Int32.toInt _)
      refine xt_pure rfl rfl rfl rfl ?_
      refine xt_pure rfl rfl rfl (st1 := .int 2 :: _) rfl ?_
      refine yt_inV (c1 := 0) (s1 := 0) (c2 := 0) (s2 := 0) (fr1 := 0) (lo1 := 0) rfl rfl rfl rfl (xmD 0 rfl) ⟨rfl, rfl, yle rfl, yle rfl, yle rfl, yle rfl⟩ (yle rfl) (L1 := [_, _]) rfl ⟨yle rfl, yle rfl⟩ ?_
      refine xt_pure rfl rfl rfl rfl ?_
      refine xt_pure rfl rfl rfl rfl ?_
      refine xt_getf rfl rfl (xmD 0 rfl) ?_
      refine xt_pure rfl rfl rfl (st1 := .int 1 :: _) rfl ?_
      refine xt_pure rfl rfl rfl rfl ?_
      refine xt_putf rfl rfl rfl rfl 0 rfl (D1 := _ :: _ :: _) rfl ?_
      refine xt_pure rfl rfl rfl (st1 := .int (-10) :: _) rfl ?_
      refine xt_pure rfl rfl rfl rfl ?_
      refine xt_pure rfl rfl rfl (st1 := .int (-12) :: _) rfl ?_
      refine xt_iret rfl rfl rfl rfl ?_
      show yT _ _ _ _ _ _ (_ :: _) _ _ _ _
      refine xt_iret rfl rfl rfl rfl ?_
      have hc : wrV (some ob) fl i = (-12) := by
        unfold wrV
        try dsimp only
        repeat' split
        all_goals first | rfl | (exfalso; omega)
      rw [hc]
      exact ⟨rfl, by simp [flW, wrO]⟩
  · intro (hb3_0 : (10000 : Int) ≤ Int32.toInt _)
    refine xt_pure rfl rfl rfl (st1 := .int 1 :: _) rfl ?_
    refine xt_pure rfl rfl rfl rfl ?_
    refine xt_iret rfl rfl rfl rfl ?_
    show yT _ _ _ _ _ _ (_ :: _) _ _ _ _
    refine xt_pure rfl rfl rfl rfl ?_
    refine xt_pure rfl rfl rfl (st1 := .int (-3) :: _) rfl ?_
    refine xt_iret rfl rfl rfl rfl ?_
    have hc : wrV (some ob) fl i = (-3) := by
      unfold wrV
      try dsimp only
      repeat' split
      all_goals first | rfl | (exfalso; omega)
    rw [hc]
    exact ⟨rfl, by simp [flW, wrO]⟩
theorem mD_seat0 {X : List Int32} {D0 : List xE} {i e : Int32} {fl : Int32} (hh : ((209, .inl (14, 23, .null)) : xE) ∈ D0) {En : List (Int64 × Int32)} {jb : List Int32} (hE : En.length ≤ 100) (hc0 : ((209, .inl (14, 19, .int (Int32.ofNat En.length))) : xE) ∈ D0) (hc1 : ((236, .inr (0, (En.map Prod.snd ++ jb).map Value.int)) : xE) ∈ D0) : yK X 1 25 265 [.ref 209, .int i, .int e] ((209, .inl (14, 24, .int fl)) :: D0) 0 0 (fun w D => w = some (.int (seV none En fl i e)) ∧ D = (209, .inl (14, 24, .int (flW fl (seV none En fl i e)))) :: D0) := by
  have en := y_n1 (n := En.length) (by omega)
  refine yK.of rfl (yle rfl) (L := [_, _, _]) rfl ?_
  refine xt_pure rfl rfl rfl rfl ?_
  refine xt_pure rfl rfl rfl (st1 := .int (-1) :: _) rfl ?_
  refine yt_ic rfl rfl ?_ ?_
  · intro (hb2_0 : (_ : Int32) = (-1))
    have hb2_0z : Int32.toInt _ = ((-1) : Int) := congrArg Int32.toInt hb2_0
    refine xt_pure rfl rfl rfl rfl ?_
    refine yt_inV (c1 := 0) (s1 := 0) (c2 := 0) (s2 := 0) (fr1 := 0) (lo1 := 0) rfl rfl rfl rfl (xmD 0 rfl) ⟨rfl, rfl, yle rfl, yle rfl, yle rfl, yle rfl⟩ (yle rfl) (L1 := [_]) rfl ⟨yle rfl, yle rfl⟩ ?_
    refine xt_pure rfl rfl rfl rfl ?_
    refine xt_getf rfl rfl (xmD 0 rfl) ?_
    refine xt_pure rfl rfl rfl (st1 := .int 10000 :: _) rfl ?_
    refine yt_ic rfl rfl ?_ ?_
    · intro (hb3_1 : Int32.toInt _ < (10000 : Int))
      refine xt_pure rfl rfl rfl (st1 := .int 0 :: _) rfl ?_
      refine xt_iret rfl rfl rfl rfl ?_
      show yT _ _ _ _ _ _ (_ :: _) _ _ _ _
      refine xt_pure rfl rfl rfl rfl ?_
      refine xt_pure rfl rfl rfl rfl ?_
      refine xt_getf rfl rfl (xmS 1 rfl hh) ?_
      refine xt_pure rfl rfl rfl rfl ?_
      refine xt_pure rfl rfl rfl rfl ?_
      refine xt_pure rfl rfl rfl (st1 := .int 1 :: _) rfl ?_
      refine yt_inV (c1 := 0) (s1 := 0) (c2 := 0) (s2 := 0) (fr1 := 0) (lo1 := 0) rfl rfl rfl rfl (xmD 0 rfl) ⟨rfl, rfl, yle rfl, yle rfl, yle rfl, yle rfl⟩ (yle rfl) (L1 := [_, _]) rfl ⟨yle rfl, yle rfl⟩ ?_
      refine xt_pure rfl rfl rfl rfl ?_
      refine xt_pure rfl rfl rfl rfl ?_
      refine xt_getf rfl rfl (xmD 0 rfl) ?_
      refine xt_pure rfl rfl rfl (st1 := .int 1 :: _) rfl ?_
      refine xt_pure rfl rfl rfl rfl ?_
      refine xt_putf rfl rfl rfl rfl 0 rfl (D1 := _ :: _) rfl ?_
      refine xt_pure rfl rfl rfl (st1 := .int (-10) :: _) rfl ?_
      refine xt_pure rfl rfl rfl rfl ?_
      refine xt_pure rfl rfl rfl (st1 := .int (-11) :: _) rfl ?_
      refine xt_iret rfl rfl rfl rfl ?_
      show yT _ _ _ _ _ _ (_ :: _) _ _ _ _
      refine xt_iret rfl rfl rfl rfl ?_
      have hc : seV none En fl i e = (-11) := by
        unfold seV
        try dsimp only
        repeat' split
        all_goals first | rfl | (exfalso; omega)
      rw [hc]
      exact ⟨rfl, by simp [flW]⟩
    · intro (hb3_1 : (10000 : Int) ≤ Int32.toInt _)
      refine xt_pure rfl rfl rfl (st1 := .int 1 :: _) rfl ?_
      refine xt_pure rfl rfl rfl rfl ?_
      refine xt_iret rfl rfl rfl rfl ?_
      show yT _ _ _ _ _ _ (_ :: _) _ _ _ _
      refine xt_pure rfl rfl rfl rfl ?_
      refine xt_pure rfl rfl rfl (st1 := .int (-3) :: _) rfl ?_
      refine xt_iret rfl rfl rfl rfl ?_
      have hc : seV none En fl i e = (-3) := by
        unfold seV
        try dsimp only
        repeat' split
        all_goals first | rfl | (exfalso; omega)
      rw [hc]
      exact ⟨rfl, by simp [flW]⟩
  · intro (hb2_0 : (_ : Int32) ≠ (-1))
    have hb2_0z : ¬ Int32.toInt _ = ((-1) : Int) := fun h => hb2_0 (Int32.toInt_inj.mp h)
    refine xt_pure rfl rfl rfl rfl ?_
    refine xt_pure rfl rfl rfl rfl ?_
    refine xt_pure rfl rfl rfl (st1 := .long 0 :: _) rfl ?_
    refine xt_pure rfl rfl rfl rfl ?_
    refine xt_getf rfl rfl (xmS 1 rfl hc0) ?_
    refine xt_pure rfl rfl rfl (st1 := .int 1 :: _) rfl ?_
    refine xt_pure rfl rfl rfl rfl ?_
    refine xt_pure rfl rfl rfl rfl ?_
    refine xt_callS rfl rfl (by decide) rfl ⟨rfl, yle rfl, yle rfl, yle rfl, yle rfl⟩ mk_in (c2 := 0) (s2 := 0) ⟨yle rfl, yle rfl⟩ ?_
    rintro _ _ (⟨rfl, hp2, rfl⟩ | ⟨rfl, hp2, rfl⟩)
    · skip
      try simp only [xi32_eq, xi64_eq, Int32.toInt_toInt64, Int32.reduceToInt, Int64.reduceToInt, y_m9, y_m1, y_m100, y64_m9, y64_m1, Ne, y_n1x] at hp2
      show yT _ _ _ _ _ _ (_ :: _) _ _ _ _
      refine xt_pure rfl rfl rfl rfl ?_
      refine xt_pure rfl rfl rfl rfl ?_
      refine yt_inV (c1 := 0) (s1 := 0) (c2 := 0) (s2 := 0) (fr1 := 0) (lo1 := 0) rfl rfl rfl rfl (xmD 0 rfl) ⟨rfl, rfl, yle rfl, yle rfl, yle rfl, yle rfl⟩ (yle rfl) (L1 := [_]) rfl ⟨yle rfl, yle rfl⟩ ?_
      refine xt_pure rfl rfl rfl rfl ?_
      refine xt_getf rfl rfl (xmD 0 rfl) ?_
      refine xt_pure rfl rfl rfl (st1 := .int 10000 :: _) rfl ?_
      refine yt_ic rfl rfl ?_ ?_
      · intro (hb3_3 : Int32.toInt _ < (10000 : Int))
        refine xt_pure rfl rfl rfl (st1 := .int 0 :: _) rfl ?_
        refine xt_iret rfl rfl rfl rfl ?_
        show yT _ _ _ _ _ _ (_ :: _) _ _ _ _
        refine xt_pure rfl rfl rfl rfl ?_
        refine xt_pure rfl rfl rfl rfl ?_
        refine xt_getf rfl rfl (xmS 1 rfl hh) ?_
        refine xt_pure rfl rfl rfl rfl ?_
        refine xt_pure rfl rfl rfl rfl ?_
        refine xt_pure rfl rfl rfl (st1 := .int 1 :: _) rfl ?_
        refine yt_inV (c1 := 0) (s1 := 0) (c2 := 0) (s2 := 0) (fr1 := 0) (lo1 := 0) rfl rfl rfl rfl (xmD 0 rfl) ⟨rfl, rfl, yle rfl, yle rfl, yle rfl, yle rfl⟩ (yle rfl) (L1 := [_, _]) rfl ⟨yle rfl, yle rfl⟩ ?_
        refine xt_pure rfl rfl rfl rfl ?_
        refine xt_pure rfl rfl rfl rfl ?_
        refine xt_getf rfl rfl (xmD 0 rfl) ?_
        refine xt_pure rfl rfl rfl (st1 := .int 1 :: _) rfl ?_
        refine xt_pure rfl rfl rfl rfl ?_
        refine xt_putf rfl rfl rfl rfl 0 rfl (D1 := _ :: _) rfl ?_
        refine xt_pure rfl rfl rfl (st1 := .int (-10) :: _) rfl ?_
        refine xt_pure rfl rfl rfl rfl ?_
        refine xt_pure rfl rfl rfl (st1 := .int (-11) :: _) rfl ?_
        refine xt_iret rfl rfl rfl rfl ?_
        show yT _ _ _ _ _ _ (_ :: _) _ _ _ _
        refine xt_iret rfl rfl rfl rfl ?_
        have hc : seV none En fl i e = (-11) := by
          unfold seV
          try dsimp only
          repeat' split
          all_goals first | rfl | (exfalso; omega)
        rw [hc]
        exact ⟨rfl, by simp [flW]⟩
      · intro (hb3_3 : (10000 : Int) ≤ Int32.toInt _)
        refine xt_pure rfl rfl rfl (st1 := .int 1 :: _) rfl ?_
        refine xt_pure rfl rfl rfl rfl ?_
        refine xt_iret rfl rfl rfl rfl ?_
        show yT _ _ _ _ _ _ (_ :: _) _ _ _ _
        refine xt_pure rfl rfl rfl rfl ?_
        refine xt_pure rfl rfl rfl (st1 := .int (-3) :: _) rfl ?_
        refine xt_iret rfl rfl rfl rfl ?_
        have hc : seV none En fl i e = (-3) := by
          unfold seV
          try dsimp only
          repeat' split
          all_goals first | rfl | (exfalso; omega)
        rw [hc]
        exact ⟨rfl, by simp [flW]⟩
    · skip
      try simp only [xi32_eq, xi64_eq, Int32.toInt_toInt64, Int32.reduceToInt, Int64.reduceToInt, y_m9, y_m1, y_m100, y64_m9, y64_m1, Ne, y_n1x] at hp2
      show yT _ _ _ _ _ _ (_ :: _) _ _ _ _
      refine xt_pure rfl rfl rfl rfl ?_
      refine xt_pure rfl rfl rfl (st1 := .int (-1) :: _) rfl ?_
      refine xt_iret rfl rfl rfl rfl ?_
      have hc : seV none En fl i e = (-1) := by
        unfold seV
        try dsimp only
        repeat' split
        all_goals first | rfl | (exfalso; omega)
      rw [hc]
      exact ⟨rfl, by simp [flW]⟩
theorem mD_seat1 {X : List Int32} {D0 : List xE} {i e : Int32} {jk : List Int64} {fl : Int32} {b ia ra ca : Nat} {ob : yO} (hs : ob.1 ≤ 7) (hz : osz ob ≤ 12) (hh : ((209, .inl (14, 23, .ref b)) : xE) ∈ D0) (k0 : ((b, .inl (13, 0, .int (Int32.ofNat ob.1))) : xE) ∈ D0) (k1 : ((b, .inl (13, 1, .int (Int32.ofNat (osz ob)))) : xE) ∈ D0) (k2 : ((b, .inl (13, 2, .ref ia)) : xE) ∈ D0) (k3 : ((b, .inl (13, 3, .ref ra)) : xE) ∈ D0) (k4 : ((b, .inl (13, 4, .ref ca)) : xE) ∈ D0) {En : List (Int64 × Int32)} {jb : List Int32} (hE : En.length ≤ 100) (hc0 : ((209, .inl (14, 19, .int (Int32.ofNat En.length))) : xE) ∈ D0) (hc1 : ((236, .inr (0, (En.map Prod.snd ++ jb).map Value.int)) : xE) ∈ D0) : yK X 1 25 265 [.ref 209, .int i, .int e] ((209, .inl (14, 24, .int fl)) :: (ia, .inr (1, (ob.2.1 ++ jk).map Value.long)) :: D0) 0 0 (fun w D => w = some (.int (seV (some ob) En fl i e)) ∧ D = (209, .inl (14, 24, .int (flW fl (seV (some ob) En fl i e)))) :: (ia, .inr (1, ((seO ob (seV (some ob) En fl i e) i e).2.1 ++ jk).map Value.long)) :: D0) := by
  have es := yi_nat (i := ob.1) (by omega)
  have ez := y_n1 (n := osz ob) (by omega)
  have en := y_n1 (n := En.length) (by omega)
  refine yK.of rfl (yle rfl) (L := [_, _, _]) rfl ?_
  refine xt_pure rfl rfl rfl rfl ?_
  refine xt_pure rfl rfl rfl (st1 := .int (-1) :: _) rfl ?_
  refine yt_ic rfl rfl ?_ ?_
  · intro (hb2_0 : (_ : Int32) = (-1))
    have hb2_0z : Int32.toInt _ = ((-1) : Int) := congrArg Int32.toInt hb2_0
    refine xt_pure rfl rfl rfl rfl ?_
    refine yt_inV (c1 := 0) (s1 := 0) (c2 := 0) (s2 := 0) (fr1 := 0) (lo1 := 0) rfl rfl rfl rfl (xmD 0 rfl) ⟨rfl, rfl, yle rfl, yle rfl, yle rfl, yle rfl⟩ (yle rfl) (L1 := [_]) rfl ⟨yle rfl, yle rfl⟩ ?_
    refine xt_pure rfl rfl rfl rfl ?_
    refine xt_getf rfl rfl (xmD 0 rfl) ?_
    refine xt_pure rfl rfl rfl (st1 := .int 10000 :: _) rfl ?_
    refine yt_ic rfl rfl ?_ ?_
    · intro (hb3_1 : Int32.toInt _ < (10000 : Int))
      refine xt_pure rfl rfl rfl (st1 := .int 0 :: _) rfl ?_
      refine xt_iret rfl rfl rfl rfl ?_
      show yT _ _ _ _ _ _ (_ :: _) _ _ _ _
      refine xt_pure rfl rfl rfl rfl ?_
      refine xt_pure rfl rfl rfl rfl ?_
      refine xt_getf rfl rfl (xmS 2 rfl hh) ?_
      refine xt_pure rfl rfl rfl rfl ?_
      refine xt_pure rfl rfl rfl rfl ?_
      refine xt_getf rfl rfl (xmS 2 rfl hh) ?_
      refine xt_getf rfl rfl (xmS 2 rfl k0) ?_
      refine xt_pure rfl rfl rfl (st1 := .int 5 :: _) rfl ?_
      refine yt_ic rfl rfl ?_ ?_
      · intro (hb31_2 : (_ : Int32) = 5)
        have hb31_2z : Int32.toInt _ = (5 : Int) := congrArg Int32.toInt hb31_2
        refine xt_pure rfl rfl rfl rfl ?_
        refine xt_pure rfl rfl rfl rfl ?_
        refine xt_pure rfl rfl rfl (st1 := .long 0 :: _) rfl ?_
        refine xt_pure rfl rfl rfl rfl ?_
        refine xt_getf rfl rfl (xmS 2 rfl hh) ?_
        refine xt_getf rfl rfl (xmS 2 rfl k1) ?_
        refine xt_pure rfl rfl rfl (st1 := .int 1 :: _) rfl ?_
        refine xt_pure rfl rfl rfl rfl ?_
        refine xt_pure rfl rfl rfl rfl ?_
        refine xt_callS rfl rfl (by decide) rfl ⟨rfl, yle rfl, yle rfl, yle rfl, yle rfl⟩ mk_in (c2 := 0) (s2 := 0) ⟨yle rfl, yle rfl⟩ ?_
        rintro _ _ (⟨rfl, hp3, rfl⟩ | ⟨rfl, hp3, rfl⟩)
        · skip
          try simp only [xi32_eq, xi64_eq, Int32.toInt_toInt64, Int32.reduceToInt, Int64.reduceToInt, y_m9, y_m1, y_m100, y64_m9, y64_m1, Ne, y_n1x] at hp3
          show yT _ _ _ _ _ _ (_ :: _) _ _ _ _
          refine xt_pure rfl rfl rfl rfl ?_
          refine xt_pure rfl rfl rfl rfl ?_
          refine xt_getf rfl rfl (xmS 2 rfl hh) ?_
          refine xt_getf rfl rfl (xmS 2 rfl k0) ?_
          refine xt_pure rfl rfl rfl (st1 := .int 6 :: _) rfl ?_
          refine yt_ic rfl rfl ?_ ?_
          · intro (hb60_4 : (_ : Int32) ≠ 6)
            have hb60_4z : ¬ Int32.toInt _ = (6 : Int) := fun h => hb60_4 (Int32.toInt_inj.mp h)
            refine xt_pure rfl rfl rfl rfl ?_
            refine xt_getf rfl rfl (xmS 2 rfl hh) ?_
            refine xt_getf rfl rfl (xmS 2 rfl k2) ?_
            refine xt_pure rfl rfl rfl rfl ?_
            refine xt_pure rfl rfl rfl rfl ?_
            refine xt_pure rfl rfl rfl rfl ?_
            refine yt_lst rfl rfl 1 rfl ⟨by omega, by rw [List.length_append]; have := osz_n4 (o := ob) (by omega); omega⟩ (D1 := _ :: _ :: _) rfl ?_
            refine xt_pure rfl rfl rfl (st1 := .int 0 :: _) rfl ?_
            refine xt_iret rfl rfl rfl rfl ?_
            have hc : seV (some ob) En fl i e = 0 := by
              unfold seV
              try dsimp only
              repeat' split
              all_goals first | rfl | (exfalso; omega)
            rw [hc]
            have h0 := osz_n4 (o := ob) (by omega)
            rw [seO, if_pos rfl, flW0]
            refine ⟨rfl, ?_⟩
            rw [List.set_append_left _ _ (by omega)]
          · intro (hb60_4 : (_ : Int32) = 6)
            have hb60_4z : Int32.toInt _ = (6 : Int) := congrArg Int32.toInt hb60_4
            refine xt_pure rfl rfl rfl rfl ?_
            refine yt_if rfl rfl ?_ ?_
            · intro (hb62_5 : Int32.toInt _ < (0 : Int))
              refine xt_pure rfl rfl rfl rfl ?_
              refine xt_getf rfl rfl (xmS 2 rfl hh) ?_
              refine xt_getf rfl rfl (xmS 2 rfl k2) ?_
              refine xt_pure rfl rfl rfl rfl ?_
              refine xt_pure rfl rfl rfl rfl ?_
              refine xt_pure rfl rfl rfl rfl ?_
              refine yt_lst rfl rfl 1 rfl ⟨by omega, by rw [List.length_append]; have := osz_n4 (o := ob) (by omega); omega⟩ (D1 := _ :: _ :: _) rfl ?_
              refine xt_pure rfl rfl rfl (st1 := .int 0 :: _) rfl ?_
              refine xt_iret rfl rfl rfl rfl ?_
              have hc : seV (some ob) En fl i e = 0 := by
                unfold seV
                try dsimp only
                repeat' split
                all_goals first | rfl | (exfalso; omega)
              rw [hc]
              have h0 := osz_n4 (o := ob) (by omega)
              rw [seO, if_pos rfl, flW0]
              refine ⟨rfl, ?_⟩
              rw [List.set_append_left _ _ (by omega)]
            · intro (hb62_5 : (0 : Int) ≤ Int32.toInt _)
              refine xt_pure rfl rfl rfl rfl ?_
              refine xt_getf rfl rfl (xmC 185 rfl) ?_
              refine xt_pure rfl rfl rfl rfl ?_
              refine yt_ild rfl rfl (xmS 2 rfl hc1) ⟨by omega, by rw [List.length_append, List.length_map]; omega⟩ ?_
              intro x6 hx6
              refine xt_pure rfl rfl rfl (st1 := .int (-9) :: _) rfl ?_
              refine yt_ic rfl rfl ?_ ?_
              · intro (hb68_7 : (_ : Int32) ≠ (-9))
                have hb68_7z : ¬ Int32.toInt _ = ((-9) : Int) := fun h => hb68_7 (Int32.toInt_inj.mp h)
                refine xt_pure rfl rfl rfl rfl ?_
                refine xt_getf rfl rfl (xmS 2 rfl hh) ?_
                refine xt_getf rfl rfl (xmS 2 rfl k2) ?_
                refine xt_pure rfl rfl rfl rfl ?_
                refine xt_pure rfl rfl rfl rfl ?_
                refine xt_pure rfl rfl rfl rfl ?_
                refine yt_lst rfl rfl 1 rfl ⟨by omega, by rw [List.length_append]; have := osz_n4 (o := ob) (by omega); omega⟩ (D1 := _ :: _ :: _) rfl ?_
                refine xt_pure rfl rfl rfl (st1 := .int 0 :: _) rfl ?_
                refine xt_iret rfl rfl rfl rfl ?_
                have hc : seV (some ob) En fl i e = 0 := by
                  unfold seV
                  try dsimp only
                  try rw [show sgE En e = x6 by rw [sgE, gI_in (by omega) (yapp hx6 (by rw [List.length_map]; omega))]; rfl]
                  repeat' split
                  all_goals first | rfl | (exfalso; omega)
                rw [hc]
                have h0 := osz_n4 (o := ob) (by omega)
                rw [seO, if_pos rfl, flW0]
                refine ⟨rfl, ?_⟩
                rw [List.set_append_left _ _ (by omega)]
              · intro (hb68_7 : (_ : Int32) = (-9))
                have hb68_7z : Int32.toInt _ = ((-9) : Int) := congrArg Int32.toInt hb68_7
                refine xt_pure rfl rfl rfl rfl ?_
                refine xt_pure rfl rfl rfl (st1 := .int 5 :: _) rfl ?_
                refine yt_inV (c1 := 0) (s1 := 0) (c2 := 0) (s2 := 0) (fr1 := 0) (lo1 := 0) rfl rfl rfl rfl (xmD 0 rfl) ⟨rfl, rfl, yle rfl, yle rfl, yle rfl, yle rfl⟩ (yle rfl) (L1 := [_, _]) rfl ⟨yle rfl, yle rfl⟩ ?_
                refine xt_pure rfl rfl rfl rfl ?_
                refine xt_pure rfl rfl rfl rfl ?_
                refine xt_getf rfl rfl (xmD 0 rfl) ?_
                refine xt_pure rfl rfl rfl (st1 := .int 1 :: _) rfl ?_
                refine xt_pure rfl rfl rfl rfl ?_
                refine xt_putf rfl rfl rfl rfl 0 rfl (D1 := _ :: _ :: _) rfl ?_
                refine xt_pure rfl rfl rfl (st1 := .int (-10) :: _) rfl ?_
                refine xt_pure rfl rfl rfl rfl ?_
                refine xt_pure rfl rfl rfl (st1 := .int (-15) :: _) rfl ?_
                refine xt_iret rfl rfl rfl rfl ?_
                show yT _ _ _ _ _ _ (_ :: _) _ _ _ _
                refine xt_iret rfl rfl rfl rfl ?_
                have hc : seV (some ob) En fl i e = (-15) := by
                  unfold seV
                  try dsimp only
                  try rw [show sgE En e = x6 by rw [sgE, gI_in (by omega) (yapp hx6 (by rw [List.length_map]; omega))]; rfl]
                  repeat' split
                  all_goals first | rfl | (exfalso; omega)
                rw [hc]
                exact ⟨rfl, by simp [flW, seO]⟩
        · skip
          try simp only [xi32_eq, xi64_eq, Int32.toInt_toInt64, Int32.reduceToInt, Int64.reduceToInt, y_m9, y_m1, y_m100, y64_m9, y64_m1, Ne, y_n1x] at hp3
          show yT _ _ _ _ _ _ (_ :: _) _ _ _ _
          refine xt_pure rfl rfl rfl rfl ?_
          refine xt_pure rfl rfl rfl rfl ?_
          refine xt_pure rfl rfl rfl (st1 := .int 3 :: _) rfl ?_
          refine yt_inV (c1 := 0) (s1 := 0) (c2 := 0) (s2 := 0) (fr1 := 0) (lo1 := 0) rfl rfl rfl rfl (xmD 0 rfl) ⟨rfl, rfl, yle rfl, yle rfl, yle rfl, yle rfl⟩ (yle rfl) (L1 := [_, _]) rfl ⟨yle rfl, yle rfl⟩ ?_
          refine xt_pure rfl rfl rfl rfl ?_
          refine xt_pure rfl rfl rfl rfl ?_
          refine xt_getf rfl rfl (xmD 0 rfl) ?_
          refine xt_pure rfl rfl rfl (st1 := .int 1 :: _) rfl ?_
          refine xt_pure rfl rfl rfl rfl ?_
          refine xt_putf rfl rfl rfl rfl 0 rfl (D1 := _ :: _ :: _) rfl ?_
          refine xt_pure rfl rfl rfl (st1 := .int (-10) :: _) rfl ?_
          refine xt_pure rfl rfl rfl rfl ?_
          refine xt_pure rfl rfl rfl (st1 := .int (-13) :: _) rfl ?_
          refine xt_iret rfl rfl rfl rfl ?_
          show yT _ _ _ _ _ _ (_ :: _) _ _ _ _
          refine xt_iret rfl rfl rfl rfl ?_
          have hc : seV (some ob) En fl i e = (-13) := by
            unfold seV
            try dsimp only
            repeat' split
            all_goals first | rfl | (exfalso; omega)
          rw [hc]
          exact ⟨rfl, by simp [flW, seO]⟩
      · intro (hb31_2 : (_ : Int32) ≠ 5)
        have hb31_2z : ¬ Int32.toInt _ = (5 : Int) := fun h => hb31_2 (Int32.toInt_inj.mp h)
        refine xt_pure rfl rfl rfl rfl ?_
        refine xt_getf rfl rfl (xmS 2 rfl hh) ?_
        refine xt_getf rfl rfl (xmS 2 rfl k0) ?_
        refine xt_pure rfl rfl rfl (st1 := .int 6 :: _) rfl ?_
        refine yt_ic rfl rfl ?_ ?_
        · intro (hb36_8 : (_ : Int32) = 6)
          have hb36_8z : Int32.toInt _ = (6 : Int) := congrArg Int32.toInt hb36_8
          refine xt_pure rfl rfl rfl rfl ?_
          refine xt_pure rfl rfl rfl rfl ?_
          refine xt_pure rfl rfl rfl (st1 := .long 0 :: _) rfl ?_
          refine xt_pure rfl rfl rfl rfl ?_
          refine xt_getf rfl rfl (xmS 2 rfl hh) ?_
          refine xt_getf rfl rfl (xmS 2 rfl k1) ?_
          refine xt_pure rfl rfl rfl (st1 := .int 1 :: _) rfl ?_
          refine xt_pure rfl rfl rfl rfl ?_
          refine xt_pure rfl rfl rfl rfl ?_
          refine xt_callS rfl rfl (by decide) rfl ⟨rfl, yle rfl, yle rfl, yle rfl, yle rfl⟩ mk_in (c2 := 0) (s2 := 0) ⟨yle rfl, yle rfl⟩ ?_
          rintro _ _ (⟨rfl, hp9, rfl⟩ | ⟨rfl, hp9, rfl⟩)
          · skip
            try simp only [xi32_eq, xi64_eq, Int32.toInt_toInt64, Int32.reduceToInt, Int64.reduceToInt, y_m9, y_m1, y_m100, y64_m9, y64_m1, Ne, y_n1x] at hp9
            show yT _ _ _ _ _ _ (_ :: _) _ _ _ _
            refine xt_pure rfl rfl rfl rfl ?_
            refine xt_pure rfl rfl rfl rfl ?_
            refine xt_getf rfl rfl (xmS 2 rfl hh) ?_
            refine xt_getf rfl rfl (xmS 2 rfl k0) ?_
            refine xt_pure rfl rfl rfl (st1 := .int 6 :: _) rfl ?_
            refine yt_ic rfl rfl ?_ ?_
            · intro (hb60_10 : (_ : Int32) ≠ 6)
              have hb60_10z : ¬ Int32.toInt _ = (6 : Int) := fun h => hb60_10 (Int32.toInt_inj.mp h)
              refine xt_pure rfl rfl rfl rfl ?_
              refine xt_getf rfl rfl (xmS 2 rfl hh) ?_
              refine xt_getf rfl rfl (xmS 2 rfl k2) ?_
              refine xt_pure rfl rfl rfl rfl ?_
              refine xt_pure rfl rfl rfl rfl ?_
              refine xt_pure rfl rfl rfl rfl ?_
              refine yt_lst rfl rfl 1 rfl ⟨by omega, by rw [List.length_append]; have := osz_n4 (o := ob) (by omega); omega⟩ (D1 := _ :: _ :: _) rfl ?_
              refine xt_pure rfl rfl rfl (st1 := .int 0 :: _) rfl ?_
              refine xt_iret rfl rfl rfl rfl ?_
              have hc : seV (some ob) En fl i e = 0 := by
                unfold seV
                try dsimp only
                repeat' split
                all_goals first | rfl | (exfalso; omega)
              rw [hc]
              have h0 := osz_n4 (o := ob) (by omega)
              rw [seO, if_pos rfl, flW0]
              refine ⟨rfl, ?_⟩
              rw [List.set_append_left _ _ (by omega)]
            · intro (hb60_10 : (_ : Int32) = 6)
              have hb60_10z : Int32.toInt _ = (6 : Int) := congrArg Int32.toInt hb60_10
              refine xt_pure rfl rfl rfl rfl ?_
              refine yt_if rfl rfl ?_ ?_
              · intro (hb62_11 : Int32.toInt _ < (0 : Int))
                refine xt_pure rfl rfl rfl rfl ?_
                refine xt_getf rfl rfl (xmS 2 rfl hh) ?_
                refine xt_getf rfl rfl (xmS 2 rfl k2) ?_
                refine xt_pure rfl rfl rfl rfl ?_
                refine xt_pure rfl rfl rfl rfl ?_
                refine xt_pure rfl rfl rfl rfl ?_
                refine yt_lst rfl rfl 1 rfl ⟨by omega, by rw [List.length_append]; have := osz_n4 (o := ob) (by omega); omega⟩ (D1 := _ :: _ :: _) rfl ?_
                refine xt_pure rfl rfl rfl (st1 := .int 0 :: _) rfl ?_
                refine xt_iret rfl rfl rfl rfl ?_
                have hc : seV (some ob) En fl i e = 0 := by
                  unfold seV
                  try dsimp only
                  repeat' split
                  all_goals first | rfl | (exfalso; omega)
                rw [hc]
                have h0 := osz_n4 (o := ob) (by omega)
                rw [seO, if_pos rfl, flW0]
                refine ⟨rfl, ?_⟩
                rw [List.set_append_left _ _ (by omega)]
              · intro (hb62_11 : (0 : Int) ≤ Int32.toInt _)
                refine xt_pure rfl rfl rfl rfl ?_
                refine xt_getf rfl rfl (xmC 185 rfl) ?_
                refine xt_pure rfl rfl rfl rfl ?_
                refine yt_ild rfl rfl (xmS 2 rfl hc1) ⟨by omega, by rw [List.length_append, List.length_map]; omega⟩ ?_
                intro x12 hx12
                refine xt_pure rfl rfl rfl (st1 := .int (-9) :: _) rfl ?_
                refine yt_ic rfl rfl ?_ ?_
                · intro (hb68_13 : (_ : Int32) ≠ (-9))
                  have hb68_13z : ¬ Int32.toInt _ = ((-9) : Int) := fun h => hb68_13 (Int32.toInt_inj.mp h)
                  refine xt_pure rfl rfl rfl rfl ?_
                  refine xt_getf rfl rfl (xmS 2 rfl hh) ?_
                  refine xt_getf rfl rfl (xmS 2 rfl k2) ?_
                  refine xt_pure rfl rfl rfl rfl ?_
                  refine xt_pure rfl rfl rfl rfl ?_
                  refine xt_pure rfl rfl rfl rfl ?_
                  refine yt_lst rfl rfl 1 rfl ⟨by omega, by rw [List.length_append]; have := osz_n4 (o := ob) (by omega); omega⟩ (D1 := _ :: _ :: _) rfl ?_
                  refine xt_pure rfl rfl rfl (st1 := .int 0 :: _) rfl ?_
                  refine xt_iret rfl rfl rfl rfl ?_
                  have hc : seV (some ob) En fl i e = 0 := by
                    unfold seV
                    try dsimp only
                    try rw [show sgE En e = x12 by rw [sgE, gI_in (by omega) (yapp hx12 (by rw [List.length_map]; omega))]; rfl]
                    repeat' split
                    all_goals first | rfl | (exfalso; omega)
                  rw [hc]
                  have h0 := osz_n4 (o := ob) (by omega)
                  rw [seO, if_pos rfl, flW0]
                  refine ⟨rfl, ?_⟩
                  rw [List.set_append_left _ _ (by omega)]
                · intro (hb68_13 : (_ : Int32) = (-9))
                  have hb68_13z : Int32.toInt _ = ((-9) : Int) := congrArg Int32.toInt hb68_13
                  refine xt_pure rfl rfl rfl rfl ?_
                  refine xt_pure rfl rfl rfl (st1 := .int 5 :: _) rfl ?_
                  refine yt_inV (c1 := 0) (s1 := 0) (c2 := 0) (s2 := 0) (fr1 := 0) (lo1 := 0) rfl rfl rfl rfl (xmD 0 rfl) ⟨rfl, rfl, yle rfl, yle rfl, yle rfl, yle rfl⟩ (yle rfl) (L1 := [_, _]) rfl ⟨yle rfl, yle rfl⟩ ?_
                  refine xt_pure rfl rfl rfl rfl ?_
                  refine xt_pure rfl rfl rfl rfl ?_
                  refine xt_getf rfl rfl (xmD 0 rfl) ?_
                  refine xt_pure rfl rfl rfl (st1 := .int 1 :: _) rfl ?_
                  refine xt_pure rfl rfl rfl rfl ?_
                  refine xt_putf rfl rfl rfl rfl 0 rfl (D1 := _ :: _ :: _) rfl ?_
                  refine xt_pure rfl rfl rfl (st1 := .int (-10) :: _) rfl ?_
                  refine xt_pure rfl rfl rfl rfl ?_
                  refine xt_pure rfl rfl rfl (st1 := .int (-15) :: _) rfl ?_
                  refine xt_iret rfl rfl rfl rfl ?_
                  show yT _ _ _ _ _ _ (_ :: _) _ _ _ _
                  refine xt_iret rfl rfl rfl rfl ?_
                  have hc : seV (some ob) En fl i e = (-15) := by
                    unfold seV
                    try dsimp only
                    try rw [show sgE En e = x12 by rw [sgE, gI_in (by omega) (yapp hx12 (by rw [List.length_map]; omega))]; rfl]
                    repeat' split
                    all_goals first | rfl | (exfalso; omega)
                  rw [hc]
                  exact ⟨rfl, by simp [flW, seO]⟩
          · skip
            try simp only [xi32_eq, xi64_eq, Int32.toInt_toInt64, Int32.reduceToInt, Int64.reduceToInt, y_m9, y_m1, y_m100, y64_m9, y64_m1, Ne, y_n1x] at hp9
            show yT _ _ _ _ _ _ (_ :: _) _ _ _ _
            refine xt_pure rfl rfl rfl rfl ?_
            refine xt_pure rfl rfl rfl rfl ?_
            refine xt_pure rfl rfl rfl (st1 := .int 3 :: _) rfl ?_
            refine yt_inV (c1 := 0) (s1 := 0) (c2 := 0) (s2 := 0) (fr1 := 0) (lo1 := 0) rfl rfl rfl rfl (xmD 0 rfl) ⟨rfl, rfl, yle rfl, yle rfl, yle rfl, yle rfl⟩ (yle rfl) (L1 := [_, _]) rfl ⟨yle rfl, yle rfl⟩ ?_
            refine xt_pure rfl rfl rfl rfl ?_
            refine xt_pure rfl rfl rfl rfl ?_
            refine xt_getf rfl rfl (xmD 0 rfl) ?_
            refine xt_pure rfl rfl rfl (st1 := .int 1 :: _) rfl ?_
            refine xt_pure rfl rfl rfl rfl ?_
            refine xt_putf rfl rfl rfl rfl 0 rfl (D1 := _ :: _ :: _) rfl ?_
            refine xt_pure rfl rfl rfl (st1 := .int (-10) :: _) rfl ?_
            refine xt_pure rfl rfl rfl rfl ?_
            refine xt_pure rfl rfl rfl (st1 := .int (-13) :: _) rfl ?_
            refine xt_iret rfl rfl rfl rfl ?_
            show yT _ _ _ _ _ _ (_ :: _) _ _ _ _
            refine xt_iret rfl rfl rfl rfl ?_
            have hc : seV (some ob) En fl i e = (-13) := by
              unfold seV
              try dsimp only
              repeat' split
              all_goals first | rfl | (exfalso; omega)
            rw [hc]
            exact ⟨rfl, by simp [flW, seO]⟩
        · intro (hb36_8 : (_ : Int32) ≠ 6)
          have hb36_8z : ¬ Int32.toInt _ = (6 : Int) := fun h => hb36_8 (Int32.toInt_inj.mp h)
          refine xt_pure rfl rfl rfl rfl ?_
          refine xt_pure rfl rfl rfl (st1 := .int 2 :: _) rfl ?_
          refine yt_inV (c1 := 0) (s1 := 0) (c2 := 0) (s2 := 0) (fr1 := 0) (lo1 := 0) rfl rfl rfl rfl (xmD 0 rfl) ⟨rfl, rfl, yle rfl, yle rfl, yle rfl, yle rfl⟩ (yle rfl) (L1 := [_, _]) rfl ⟨yle rfl, yle rfl⟩ ?_
          refine xt_pure rfl rfl rfl rfl ?_
          refine xt_pure rfl rfl rfl rfl ?_
          refine xt_getf rfl rfl (xmD 0 rfl) ?_
          refine xt_pure rfl rfl rfl (st1 := .int 1 :: _) rfl ?_
          refine xt_pure rfl rfl rfl rfl ?_
          refine xt_putf rfl rfl rfl rfl 0 rfl (D1 := _ :: _ :: _) rfl ?_
          refine xt_pure rfl rfl rfl (st1 := .int (-10) :: _) rfl ?_
          refine xt_pure rfl rfl rfl rfl ?_
          refine xt_pure rfl rfl rfl (st1 := .int (-12) :: _) rfl ?_
          refine xt_iret rfl rfl rfl rfl ?_
          show yT _ _ _ _ _ _ (_ :: _) _ _ _ _
          refine xt_iret rfl rfl rfl rfl ?_
          have hc : seV (some ob) En fl i e = (-12) := by
            unfold seV
            try dsimp only
            repeat' split
            all_goals first | rfl | (exfalso; omega)
          rw [hc]
          exact ⟨rfl, by simp [flW, seO]⟩
    · intro (hb3_1 : (10000 : Int) ≤ Int32.toInt _)
      refine xt_pure rfl rfl rfl (st1 := .int 1 :: _) rfl ?_
      refine xt_pure rfl rfl rfl rfl ?_
      refine xt_iret rfl rfl rfl rfl ?_
      show yT _ _ _ _ _ _ (_ :: _) _ _ _ _
      refine xt_pure rfl rfl rfl rfl ?_
      refine xt_pure rfl rfl rfl (st1 := .int (-3) :: _) rfl ?_
      refine xt_iret rfl rfl rfl rfl ?_
      have hc : seV (some ob) En fl i e = (-3) := by
        unfold seV
        try dsimp only
        repeat' split
        all_goals first | rfl | (exfalso; omega)
      rw [hc]
      exact ⟨rfl, by simp [flW, seO]⟩
  · intro (hb2_0 : (_ : Int32) ≠ (-1))
    have hb2_0z : ¬ Int32.toInt _ = ((-1) : Int) := fun h => hb2_0 (Int32.toInt_inj.mp h)
    refine xt_pure rfl rfl rfl rfl ?_
    refine xt_pure rfl rfl rfl rfl ?_
    refine xt_pure rfl rfl rfl (st1 := .long 0 :: _) rfl ?_
    refine xt_pure rfl rfl rfl rfl ?_
    refine xt_getf rfl rfl (xmS 2 rfl hc0) ?_
    refine xt_pure rfl rfl rfl (st1 := .int 1 :: _) rfl ?_
    refine xt_pure rfl rfl rfl rfl ?_
    refine xt_pure rfl rfl rfl rfl ?_
    refine xt_callS rfl rfl (by decide) rfl ⟨rfl, yle rfl, yle rfl, yle rfl, yle rfl⟩ mk_in (c2 := 0) (s2 := 0) ⟨yle rfl, yle rfl⟩ ?_
    rintro _ _ (⟨rfl, hp14, rfl⟩ | ⟨rfl, hp14, rfl⟩)
    · skip
      try simp only [xi32_eq, xi64_eq, Int32.toInt_toInt64, Int32.reduceToInt, Int64.reduceToInt, y_m9, y_m1, y_m100, y64_m9, y64_m1, Ne, y_n1x] at hp14
      show yT _ _ _ _ _ _ (_ :: _) _ _ _ _
      refine xt_pure rfl rfl rfl rfl ?_
      refine xt_pure rfl rfl rfl rfl ?_
      refine yt_inV (c1 := 0) (s1 := 0) (c2 := 0) (s2 := 0) (fr1 := 0) (lo1 := 0) rfl rfl rfl rfl (xmD 0 rfl) ⟨rfl, rfl, yle rfl, yle rfl, yle rfl, yle rfl⟩ (yle rfl) (L1 := [_]) rfl ⟨yle rfl, yle rfl⟩ ?_
      refine xt_pure rfl rfl rfl rfl ?_
      refine xt_getf rfl rfl (xmD 0 rfl) ?_
      refine xt_pure rfl rfl rfl (st1 := .int 10000 :: _) rfl ?_
      refine yt_ic rfl rfl ?_ ?_
      · intro (hb3_15 : Int32.toInt _ < (10000 : Int))
        refine xt_pure rfl rfl rfl (st1 := .int 0 :: _) rfl ?_
        refine xt_iret rfl rfl rfl rfl ?_
        show yT _ _ _ _ _ _ (_ :: _) _ _ _ _
        refine xt_pure rfl rfl rfl rfl ?_
        refine xt_pure rfl rfl rfl rfl ?_
        refine xt_getf rfl rfl (xmS 2 rfl hh) ?_
        refine xt_pure rfl rfl rfl rfl ?_
        refine xt_pure rfl rfl rfl rfl ?_
        refine xt_getf rfl rfl (xmS 2 rfl hh) ?_
        refine xt_getf rfl rfl (xmS 2 rfl k0) ?_
        refine xt_pure rfl rfl rfl (st1 := .int 5 :: _) rfl ?_
        refine yt_ic rfl rfl ?_ ?_
        · intro (hb31_16 : (_ : Int32) = 5)
          have hb31_16z : Int32.toInt _ = (5 : Int) := congrArg Int32.toInt hb31_16
          refine xt_pure rfl rfl rfl rfl ?_
          refine xt_pure rfl rfl rfl rfl ?_
          refine xt_pure rfl rfl rfl (st1 := .long 0 :: _) rfl ?_
          refine xt_pure rfl rfl rfl rfl ?_
          refine xt_getf rfl rfl (xmS 2 rfl hh) ?_
          refine xt_getf rfl rfl (xmS 2 rfl k1) ?_
          refine xt_pure rfl rfl rfl (st1 := .int 1 :: _) rfl ?_
          refine xt_pure rfl rfl rfl rfl ?_
          refine xt_pure rfl rfl rfl rfl ?_
          refine xt_callS rfl rfl (by decide) rfl ⟨rfl, yle rfl, yle rfl, yle rfl, yle rfl⟩ mk_in (c2 := 0) (s2 := 0) ⟨yle rfl, yle rfl⟩ ?_
          rintro _ _ (⟨rfl, hp17, rfl⟩ | ⟨rfl, hp17, rfl⟩)
          · skip
            try simp only [xi32_eq, xi64_eq, Int32.toInt_toInt64, Int32.reduceToInt, Int64.reduceToInt, y_m9, y_m1, y_m100, y64_m9, y64_m1, Ne, y_n1x] at hp17
            show yT _ _ _ _ _ _ (_ :: _) _ _ _ _
            refine xt_pure rfl rfl rfl rfl ?_
            refine xt_pure rfl rfl rfl rfl ?_
            refine xt_getf rfl rfl (xmS 2 rfl hh) ?_
            refine xt_getf rfl rfl (xmS 2 rfl k0) ?_
            refine xt_pure rfl rfl rfl (st1 := .int 6 :: _) rfl ?_
            refine yt_ic rfl rfl ?_ ?_
            · intro (hb60_18 : (_ : Int32) ≠ 6)
              have hb60_18z : ¬ Int32.toInt _ = (6 : Int) := fun h => hb60_18 (Int32.toInt_inj.mp h)
              refine xt_pure rfl rfl rfl rfl ?_
              refine xt_getf rfl rfl (xmS 2 rfl hh) ?_
              refine xt_getf rfl rfl (xmS 2 rfl k2) ?_
              refine xt_pure rfl rfl rfl rfl ?_
              refine xt_pure rfl rfl rfl rfl ?_
              refine xt_pure rfl rfl rfl rfl ?_
              refine yt_lst rfl rfl 1 rfl ⟨by omega, by rw [List.length_append]; have := osz_n4 (o := ob) (by omega); omega⟩ (D1 := _ :: _ :: _) rfl ?_
              refine xt_pure rfl rfl rfl (st1 := .int 0 :: _) rfl ?_
              refine xt_iret rfl rfl rfl rfl ?_
              have hc : seV (some ob) En fl i e = 0 := by
                unfold seV
                try dsimp only
                repeat' split
                all_goals first | rfl | (exfalso; omega)
              rw [hc]
              have h0 := osz_n4 (o := ob) (by omega)
              rw [seO, if_pos rfl, flW0]
              refine ⟨rfl, ?_⟩
              rw [List.set_append_left _ _ (by omega)]
            · intro (hb60_18 : (_ : Int32) = 6)
              have hb60_18z : Int32.toInt _ = (6 : Int) := congrArg Int32.toInt hb60_18
              refine xt_pure rfl rfl rfl rfl ?_
              refine yt_if rfl rfl ?_ ?_
              · intro (hb62_19 : Int32.toInt _ < (0 : Int))
                refine xt_pure rfl rfl rfl rfl ?_
                refine xt_getf rfl rfl (xmS 2 rfl hh) ?_
                refine xt_getf rfl rfl (xmS 2 rfl k2) ?_
                refine xt_pure rfl rfl rfl rfl ?_
                refine xt_pure rfl rfl rfl rfl ?_
                refine xt_pure rfl rfl rfl rfl ?_
                refine yt_lst rfl rfl 1 rfl ⟨by omega, by rw [List.length_append]; have := osz_n4 (o := ob) (by omega); omega⟩ (D1 := _ :: _ :: _) rfl ?_
                refine xt_pure rfl rfl rfl (st1 := .int 0 :: _) rfl ?_
                refine xt_iret rfl rfl rfl rfl ?_
                have hc : seV (some ob) En fl i e = 0 := by
                  unfold seV
                  try dsimp only
                  repeat' split
                  all_goals first | rfl | (exfalso; omega)
                rw [hc]
                have h0 := osz_n4 (o := ob) (by omega)
                rw [seO, if_pos rfl, flW0]
                refine ⟨rfl, ?_⟩
                rw [List.set_append_left _ _ (by omega)]
              · intro (hb62_19 : (0 : Int) ≤ Int32.toInt _)
                refine xt_pure rfl rfl rfl rfl ?_
                refine xt_getf rfl rfl (xmC 185 rfl) ?_
                refine xt_pure rfl rfl rfl rfl ?_
                refine yt_ild rfl rfl (xmS 2 rfl hc1) ⟨by omega, by rw [List.length_append, List.length_map]; omega⟩ ?_
                intro x20 hx20
                refine xt_pure rfl rfl rfl (st1 := .int (-9) :: _) rfl ?_
                refine yt_ic rfl rfl ?_ ?_
                · intro (hb68_21 : (_ : Int32) ≠ (-9))
                  have hb68_21z : ¬ Int32.toInt _ = ((-9) : Int) := fun h => hb68_21 (Int32.toInt_inj.mp h)
                  refine xt_pure rfl rfl rfl rfl ?_
                  refine xt_getf rfl rfl (xmS 2 rfl hh) ?_
                  refine xt_getf rfl rfl (xmS 2 rfl k2) ?_
                  refine xt_pure rfl rfl rfl rfl ?_
                  refine xt_pure rfl rfl rfl rfl ?_
                  refine xt_pure rfl rfl rfl rfl ?_
                  refine yt_lst rfl rfl 1 rfl ⟨by omega, by rw [List.length_append]; have := osz_n4 (o := ob) (by omega); omega⟩ (D1 := _ :: _ :: _) rfl ?_
                  refine xt_pure rfl rfl rfl (st1 := .int 0 :: _) rfl ?_
                  refine xt_iret rfl rfl rfl rfl ?_
                  have hc : seV (some ob) En fl i e = 0 := by
                    unfold seV
                    try dsimp only
                    try rw [show sgE En e = x20 by rw [sgE, gI_in (by omega) (yapp hx20 (by rw [List.length_map]; omega))]; rfl]
                    repeat' split
                    all_goals first | rfl | (exfalso; omega)
                  rw [hc]
                  have h0 := osz_n4 (o := ob) (by omega)
                  rw [seO, if_pos rfl, flW0]
                  refine ⟨rfl, ?_⟩
                  rw [List.set_append_left _ _ (by omega)]
                · intro (hb68_21 : (_ : Int32) = (-9))
                  have hb68_21z : Int32.toInt _ = ((-9) : Int) := congrArg Int32.toInt hb68_21
                  refine xt_pure rfl rfl rfl rfl ?_
                  refine xt_pure rfl rfl rfl (st1 := .int 5 :: _) rfl ?_
                  refine yt_inV (c1 := 0) (s1 := 0) (c2 := 0) (s2 := 0) (fr1 := 0) (lo1 := 0) rfl rfl rfl rfl (xmD 0 rfl) ⟨rfl, rfl, yle rfl, yle rfl, yle rfl, yle rfl⟩ (yle rfl) (L1 := [_, _]) rfl ⟨yle rfl, yle rfl⟩ ?_
                  refine xt_pure rfl rfl rfl rfl ?_
                  refine xt_pure rfl rfl rfl rfl ?_
                  refine xt_getf rfl rfl (xmD 0 rfl) ?_
                  refine xt_pure rfl rfl rfl (st1 := .int 1 :: _) rfl ?_
                  refine xt_pure rfl rfl rfl rfl ?_
                  refine xt_putf rfl rfl rfl rfl 0 rfl (D1 := _ :: _ :: _) rfl ?_
                  refine xt_pure rfl rfl rfl (st1 := .int (-10) :: _) rfl ?_
                  refine xt_pure rfl rfl rfl rfl ?_
                  refine xt_pure rfl rfl rfl (st1 := .int (-15) :: _) rfl ?_
                  refine xt_iret rfl rfl rfl rfl ?_
                  show yT _ _ _ _ _ _ (_ :: _) _ _ _ _
                  refine xt_iret rfl rfl rfl rfl ?_
                  have hc : seV (some ob) En fl i e = (-15) := by
                    unfold seV
                    try dsimp only
                    try rw [show sgE En e = x20 by rw [sgE, gI_in (by omega) (yapp hx20 (by rw [List.length_map]; omega))]; rfl]
                    repeat' split
                    all_goals first | rfl | (exfalso; omega)
                  rw [hc]
                  exact ⟨rfl, by simp [flW, seO]⟩
          · skip
            try simp only [xi32_eq, xi64_eq, Int32.toInt_toInt64, Int32.reduceToInt, Int64.reduceToInt, y_m9, y_m1, y_m100, y64_m9, y64_m1, Ne, y_n1x] at hp17
            show yT _ _ _ _ _ _ (_ :: _) _ _ _ _
            refine xt_pure rfl rfl rfl rfl ?_
            refine xt_pure rfl rfl rfl rfl ?_
            refine xt_pure rfl rfl rfl (st1 := .int 3 :: _) rfl ?_
            refine yt_inV (c1 := 0) (s1 := 0) (c2 := 0) (s2 := 0) (fr1 := 0) (lo1 := 0) rfl rfl rfl rfl (xmD 0 rfl) ⟨rfl, rfl, yle rfl, yle rfl, yle rfl, yle rfl⟩ (yle rfl) (L1 := [_, _]) rfl ⟨yle rfl, yle rfl⟩ ?_
            refine xt_pure rfl rfl rfl rfl ?_
            refine xt_pure rfl rfl rfl rfl ?_
            refine xt_getf rfl rfl (xmD 0 rfl) ?_
            refine xt_pure rfl rfl rfl (st1 := .int 1 :: _) rfl ?_
            refine xt_pure rfl rfl rfl rfl ?_
            refine xt_putf rfl rfl rfl rfl 0 rfl (D1 := _ :: _ :: _) rfl ?_
            refine xt_pure rfl rfl rfl (st1 := .int (-10) :: _) rfl ?_
            refine xt_pure rfl rfl rfl rfl ?_
            refine xt_pure rfl rfl rfl (st1 := .int (-13) :: _) rfl ?_
            refine xt_iret rfl rfl rfl rfl ?_
            show yT _ _ _ _ _ _ (_ :: _) _ _ _ _
            refine xt_iret rfl rfl rfl rfl ?_
            have hc : seV (some ob) En fl i e = (-13) := by
              unfold seV
              try dsimp only
              repeat' split
              all_goals first | rfl | (exfalso; omega)
            rw [hc]
            exact ⟨rfl, by simp [flW, seO]⟩
        · intro (hb31_16 : (_ : Int32) ≠ 5)
          have hb31_16z : ¬ Int32.toInt _ = (5 : Int) := fun h => hb31_16 (Int32.toInt_inj.mp h)
          refine xt_pure rfl rfl rfl rfl ?_
          refine xt_getf rfl rfl (xmS 2 rfl hh) ?_
          refine xt_getf rfl rfl (xmS 2 rfl k0) ?_
          refine xt_pure rfl rfl rfl (st1 := .int 6 :: _) rfl ?_
          refine yt_ic rfl rfl ?_ ?_
          · intro (hb36_22 : (_ : Int32) = 6)
            have hb36_22z : Int32.toInt _ = (6 : Int) := congrArg Int32.toInt hb36_22
            refine xt_pure rfl rfl rfl rfl ?_
            refine xt_pure rfl rfl rfl rfl ?_
            refine xt_pure rfl rfl rfl (st1 := .long 0 :: _) rfl ?_
            refine xt_pure rfl rfl rfl rfl ?_
            refine xt_getf rfl rfl (xmS 2 rfl hh) ?_
            refine xt_getf rfl rfl (xmS 2 rfl k1) ?_
            refine xt_pure rfl rfl rfl (st1 := .int 1 :: _) rfl ?_
            refine xt_pure rfl rfl rfl rfl ?_
            refine xt_pure rfl rfl rfl rfl ?_
            refine xt_callS rfl rfl (by decide) rfl ⟨rfl, yle rfl, yle rfl, yle rfl, yle rfl⟩ mk_in (c2 := 0) (s2 := 0) ⟨yle rfl, yle rfl⟩ ?_
            rintro _ _ (⟨rfl, hp23, rfl⟩ | ⟨rfl, hp23, rfl⟩)
            · skip
              try simp only [xi32_eq, xi64_eq, Int32.toInt_toInt64, Int32.reduceToInt, Int64.reduceToInt, y_m9, y_m1, y_m100, y64_m9, y64_m1, Ne, y_n1x] at hp23
              show yT _ _ _ _ _ _ (_ :: _) _ _ _ _
              refine xt_pure rfl rfl rfl rfl ?_
              refine xt_pure rfl rfl rfl rfl ?_
              refine xt_getf rfl rfl (xmS 2 rfl hh) ?_
              refine xt_getf rfl rfl (xmS 2 rfl k0) ?_
              refine xt_pure rfl rfl rfl (st1 := .int 6 :: _) rfl ?_
              refine yt_ic rfl rfl ?_ ?_
              · intro (hb60_24 : (_ : Int32) ≠ 6)
                have hb60_24z : ¬ Int32.toInt _ = (6 : Int) := fun h => hb60_24 (Int32.toInt_inj.mp h)
                refine xt_pure rfl rfl rfl rfl ?_
                refine xt_getf rfl rfl (xmS 2 rfl hh) ?_
                refine xt_getf rfl rfl (xmS 2 rfl k2) ?_
                refine xt_pure rfl rfl rfl rfl ?_
                refine xt_pure rfl rfl rfl rfl ?_
                refine xt_pure rfl rfl rfl rfl ?_
                refine yt_lst rfl rfl 1 rfl ⟨by omega, by rw [List.length_append]; have := osz_n4 (o := ob) (by omega); omega⟩ (D1 := _ :: _ :: _) rfl ?_
                refine xt_pure rfl rfl rfl (st1 := .int 0 :: _) rfl ?_
                refine xt_iret rfl rfl rfl rfl ?_
                have hc : seV (some ob) En fl i e = 0 := by
                  unfold seV
                  try dsimp only
                  repeat' split
                  all_goals first | rfl | (exfalso; omega)
                rw [hc]
                have h0 := osz_n4 (o := ob) (by omega)
                rw [seO, if_pos rfl, flW0]
                refine ⟨rfl, ?_⟩
                rw [List.set_append_left _ _ (by omega)]
              · intro (hb60_24 : (_ : Int32) = 6)
                have hb60_24z : Int32.toInt _ = (6 : Int) := congrArg Int32.toInt hb60_24
                refine xt_pure rfl rfl rfl rfl ?_
                refine yt_if rfl rfl ?_ ?_
                · intro (hb62_25 : Int32.toInt _ < (0 : Int))
                  refine xt_pure rfl rfl rfl rfl ?_
                  refine xt_getf rfl rfl (xmS 2 rfl hh) ?_
                  refine xt_getf rfl rfl (xmS 2 rfl k2) ?_
                  refine xt_pure rfl rfl rfl rfl ?_
                  refine xt_pure rfl rfl rfl rfl ?_
                  refine xt_pure rfl rfl rfl rfl ?_
                  refine yt_lst rfl rfl 1 rfl ⟨by omega, by rw [List.length_append]; have := osz_n4 (o := ob) (by omega); omega⟩ (D1 := _ :: _ :: _) rfl ?_
                  refine xt_pure rfl rfl rfl (st1 := .int 0 :: _) rfl ?_
                  refine xt_iret rfl rfl rfl rfl ?_
                  have hc : seV (some ob) En fl i e = 0 := by
                    unfold seV
                    try dsimp only
                    repeat' split
                    all_goals first | rfl | (exfalso; omega)
                  rw [hc]
                  have h0 := osz_n4 (o := ob) (by omega)
                  rw [seO, if_pos rfl, flW0]
                  refine ⟨rfl, ?_⟩
                  rw [List.set_append_left _ _ (by omega)]
                · intro (hb62_25 : (0 : Int) ≤ Int32.toInt _)
                  refine xt_pure rfl rfl rfl rfl ?_
                  refine xt_getf rfl rfl (xmC 185 rfl) ?_
                  refine xt_pure rfl rfl rfl rfl ?_
                  refine yt_ild rfl rfl (xmS 2 rfl hc1) ⟨by omega, by rw [List.length_append, List.length_map]; omega⟩ ?_
                  intro x26 hx26
                  refine xt_pure rfl rfl rfl (st1 := .int (-9) :: _) rfl ?_
                  refine yt_ic rfl rfl ?_ ?_
                  · intro (hb68_27 : (_ : Int32) ≠ (-9))
                    have hb68_27z : ¬ Int32.toInt _ = ((-9) : Int) := fun h => hb68_27 (Int32.toInt_inj.mp h)
                    refine xt_pure rfl rfl rfl rfl ?_
                    refine xt_getf rfl rfl (xmS 2 rfl hh) ?_
                    refine xt_getf rfl rfl (xmS 2 rfl k2) ?_
                    refine xt_pure rfl rfl rfl rfl ?_
                    refine xt_pure rfl rfl rfl rfl ?_
                    refine xt_pure rfl rfl rfl rfl ?_
                    refine yt_lst rfl rfl 1 rfl ⟨by omega, by rw [List.length_append]; have := osz_n4 (o := ob) (by omega); omega⟩ (D1 := _ :: _ :: _) rfl ?_
                    refine xt_pure rfl rfl rfl (st1 := .int 0 :: _) rfl ?_
                    refine xt_iret rfl rfl rfl rfl ?_
                    have hc : seV (some ob) En fl i e = 0 := by
                      unfold seV
                      try dsimp only
                      try rw [show sgE En e = x26 by rw [sgE, gI_in (by omega) (yapp hx26 (by rw [List.length_map]; omega))]; rfl]
                      repeat' split
                      all_goals first | rfl | (exfalso; omega)
                    rw [hc]
                    have h0 := osz_n4 (o := ob) (by omega)
                    rw [seO, if_pos rfl, flW0]
                    refine ⟨rfl, ?_⟩
                    rw [List.set_append_left _ _ (by omega)]
                  · intro (hb68_27 : (_ : Int32) = (-9))
                    have hb68_27z : Int32.toInt _ = ((-9) : Int) := congrArg Int32.toInt hb68_27
                    refine xt_pure rfl rfl rfl rfl ?_
                    refine xt_pure rfl rfl rfl (st1 := .int 5 :: _) rfl ?_
                    refine yt_inV (c1 := 0) (s1 := 0) (c2 := 0) (s2 := 0) (fr1 := 0) (lo1 := 0) rfl rfl rfl rfl (xmD 0 rfl) ⟨rfl, rfl, yle rfl, yle rfl, yle rfl, yle rfl⟩ (yle rfl) (L1 := [_, _]) rfl ⟨yle rfl, yle rfl⟩ ?_
                    refine xt_pure rfl rfl rfl rfl ?_
                    refine xt_pure rfl rfl rfl rfl ?_
                    refine xt_getf rfl rfl (xmD 0 rfl) ?_
                    refine xt_pure rfl rfl rfl (st1 := .int 1 :: _) rfl ?_
                    refine xt_pure rfl rfl rfl rfl ?_
                    refine xt_putf rfl rfl rfl rfl 0 rfl (D1 := _ :: _ :: _) rfl ?_
                    refine xt_pure rfl rfl rfl (st1 := .int (-10) :: _) rfl ?_
                    refine xt_pure rfl rfl rfl rfl ?_
                    refine xt_pure rfl rfl rfl (st1 := .int (-15) :: _) rfl ?_
                    refine xt_iret rfl rfl rfl rfl ?_
                    show yT _ _ _ _ _ _ (_ :: _) _ _ _ _
                    refine xt_iret rfl rfl rfl rfl ?_
                    have hc : seV (some ob) En fl i e = (-15) := by
                      unfold seV
                      try dsimp only
                      try rw [show sgE En e = x26 by rw [sgE, gI_in (by omega) (yapp hx26 (by rw [List.length_map]; omega))]; rfl]
                      repeat' split
                      all_goals first | rfl | (exfalso; omega)
                    rw [hc]
                    exact ⟨rfl, by simp [flW, seO]⟩
            · skip
              try simp only [xi32_eq, xi64_eq, Int32.toInt_toInt64, Int32.reduceToInt, Int64.reduceToInt, y_m9, y_m1, y_m100, y64_m9, y64_m1, Ne, y_n1x] at hp23
              show yT _ _ _ _ _ _ (_ :: _) _ _ _ _
              refine xt_pure rfl rfl rfl rfl ?_
              refine xt_pure rfl rfl rfl rfl ?_
              refine xt_pure rfl rfl rfl (st1 := .int 3 :: _) rfl ?_
              refine yt_inV (c1 := 0) (s1 := 0) (c2 := 0) (s2 := 0) (fr1 := 0) (lo1 := 0) rfl rfl rfl rfl (xmD 0 rfl) ⟨rfl, rfl, yle rfl, yle rfl, yle rfl, yle rfl⟩ (yle rfl) (L1 := [_, _]) rfl ⟨yle rfl, yle rfl⟩ ?_
              refine xt_pure rfl rfl rfl rfl ?_
              refine xt_pure rfl rfl rfl rfl ?_
              refine xt_getf rfl rfl (xmD 0 rfl) ?_
              refine xt_pure rfl rfl rfl (st1 := .int 1 :: _) rfl ?_
              refine xt_pure rfl rfl rfl rfl ?_
              refine xt_putf rfl rfl rfl rfl 0 rfl (D1 := _ :: _ :: _) rfl ?_
              refine xt_pure rfl rfl rfl (st1 := .int (-10) :: _) rfl ?_
              refine xt_pure rfl rfl rfl rfl ?_
              refine xt_pure rfl rfl rfl (st1 := .int (-13) :: _) rfl ?_
              refine xt_iret rfl rfl rfl rfl ?_
              show yT _ _ _ _ _ _ (_ :: _) _ _ _ _
              refine xt_iret rfl rfl rfl rfl ?_
              have hc : seV (some ob) En fl i e = (-13) := by
                unfold seV
                try dsimp only
                repeat' split
                all_goals first | rfl | (exfalso; omega)
              rw [hc]
              exact ⟨rfl, by simp [flW, seO]⟩
          · intro (hb36_22 : (_ : Int32) ≠ 6)
            have hb36_22z : ¬ Int32.toInt _ = (6 : Int) := fun h => hb36_22 (Int32.toInt_inj.mp h)
            refine xt_pure rfl rfl rfl rfl ?_
            refine xt_pure rfl rfl rfl (st1 := .int 2 :: _) rfl ?_
            refine yt_inV (c1 := 0) (s1 := 0) (c2 := 0) (s2 := 0) (fr1 := 0) (lo1 := 0) rfl rfl rfl rfl (xmD 0 rfl) ⟨rfl, rfl, yle rfl, yle rfl, yle rfl, yle rfl⟩ (yle rfl) (L1 := [_, _]) rfl ⟨yle rfl, yle rfl⟩ ?_
            refine xt_pure rfl rfl rfl rfl ?_
            refine xt_pure rfl rfl rfl rfl ?_
            refine xt_getf rfl rfl (xmD 0 rfl) ?_
            refine xt_pure rfl rfl rfl (st1 := .int 1 :: _) rfl ?_
            refine xt_pure rfl rfl rfl rfl ?_
            refine xt_putf rfl rfl rfl rfl 0 rfl (D1 := _ :: _ :: _) rfl ?_
            refine xt_pure rfl rfl rfl (st1 := .int (-10) :: _) rfl ?_
            refine xt_pure rfl rfl rfl rfl ?_
            refine xt_pure rfl rfl rfl (st1 := .int (-12) :: _) rfl ?_
            refine xt_iret rfl rfl rfl rfl ?_
            show yT _ _ _ _ _ _ (_ :: _) _ _ _ _
            refine xt_iret rfl rfl rfl rfl ?_
            have hc : seV (some ob) En fl i e = (-12) := by
              unfold seV
              try dsimp only
              repeat' split
              all_goals first | rfl | (exfalso; omega)
            rw [hc]
            exact ⟨rfl, by simp [flW, seO]⟩
      · intro (hb3_15 : (10000 : Int) ≤ Int32.toInt _)
        refine xt_pure rfl rfl rfl (st1 := .int 1 :: _) rfl ?_
        refine xt_pure rfl rfl rfl rfl ?_
        refine xt_iret rfl rfl rfl rfl ?_
        show yT _ _ _ _ _ _ (_ :: _) _ _ _ _
        refine xt_pure rfl rfl rfl rfl ?_
        refine xt_pure rfl rfl rfl (st1 := .int (-3) :: _) rfl ?_
        refine xt_iret rfl rfl rfl rfl ?_
        have hc : seV (some ob) En fl i e = (-3) := by
          unfold seV
          try dsimp only
          repeat' split
          all_goals first | rfl | (exfalso; omega)
        rw [hc]
        exact ⟨rfl, by simp [flW, seO]⟩
    · skip
      try simp only [xi32_eq, xi64_eq, Int32.toInt_toInt64, Int32.reduceToInt, Int64.reduceToInt, y_m9, y_m1, y_m100, y64_m9, y64_m1, Ne, y_n1x] at hp14
      show yT _ _ _ _ _ _ (_ :: _) _ _ _ _
      refine xt_pure rfl rfl rfl rfl ?_
      refine xt_pure rfl rfl rfl (st1 := .int (-1) :: _) rfl ?_
      refine xt_iret rfl rfl rfl rfl ?_
      have hc : seV (some ob) En fl i e = (-1) := by
        unfold seV
        try dsimp only
        repeat' split
        all_goals first | rfl | (exfalso; omega)
      rw [hc]
      exact ⟨rfl, by simp [flW, seO]⟩
theorem mD_sort0 {X : List Int32} {D0 : List xE} (hh : ((209, .inl (14, 23, .null)) : xE) ∈ D0) : yK X 0 0 266 [.ref 209] (D0) 0 0 (fun w D => w = some (.int (sortV none)) ∧ D = D0) := by
  refine yK.of rfl (yle rfl) (L := [_]) rfl ?_
  refine xt_pure rfl rfl rfl rfl ?_
  refine xt_getf rfl rfl (xmS 0 rfl hh) ?_
  refine xt_pure rfl rfl rfl rfl ?_
  refine xt_pure rfl rfl rfl (st1 := .int (-9) :: _) rfl ?_
  refine xt_pure rfl rfl rfl rfl ?_
  refine xt_iret rfl rfl rfl rfl ?_
  exact ⟨rfl, rfl⟩
theorem mD_sort1 {X : List Int32} {D0 : List xE} {b ia ra ca : Nat} {ob : yO} (hs : ob.1 ≤ 7) (hz : osz ob ≤ 12) (hh : ((209, .inl (14, 23, .ref b)) : xE) ∈ D0) (k0 : ((b, .inl (13, 0, .int (Int32.ofNat ob.1))) : xE) ∈ D0) (k1 : ((b, .inl (13, 1, .int (Int32.ofNat (osz ob)))) : xE) ∈ D0) (k2 : ((b, .inl (13, 2, .ref ia)) : xE) ∈ D0) (k3 : ((b, .inl (13, 3, .ref ra)) : xE) ∈ D0) (k4 : ((b, .inl (13, 4, .ref ca)) : xE) ∈ D0) : yK X 0 0 266 [.ref 209] (D0) 0 0 (fun w D => w = some (.int (sortV (some ob))) ∧ D = D0) := by
  refine yK.of rfl (yle rfl) (L := [_]) rfl ?_
  refine xt_pure rfl rfl rfl rfl ?_
  refine xt_getf rfl rfl (xmS 0 rfl hh) ?_
  refine xt_pure rfl rfl rfl rfl ?_
  refine xt_pure rfl rfl rfl rfl ?_
  refine xt_getf rfl rfl (xmS 0 rfl hh) ?_
  refine xt_getf rfl rfl (xmS 0 rfl k0) ?_
  refine xt_iret rfl rfl rfl rfl ?_
  exact ⟨rfl, rfl⟩
theorem mD_clear {X : List Int32} {D0 : List xE} {u : Value} : yK X 0 0 261 [.ref 209] ((209, .inl (14, 23, u)) :: D0) 0 0 (fun w D => w = some (.int 0) ∧ D = (209, .inl (14, 23, .null)) :: D0) := by
  refine yK.of rfl (yle rfl) (L := [_]) rfl ?_
  refine xt_pure rfl rfl rfl rfl ?_
  refine xt_pure rfl rfl rfl rfl ?_
  refine xt_putf rfl rfl rfl rfl 0 rfl (D1 := _ :: _) rfl ?_
  refine xt_pure rfl rfl rfl (st1 := .int 0 :: _) rfl ?_
  refine xt_iret rfl rfl rfl rfl ?_
  exact ⟨rfl, rfl⟩
