/-! ENTRIES: entry -/
def entBad (lb sg : Int32) : Prop := ¬ (0 ≤ lb.toInt ∧ lb.toInt ≤ 999 ∧ (sg = -9 ∨ (0 ≤ sg.toInt ∧ sg.toInt ≤ 9)))
def entOk (En : List (Int64 × Int32)) (lb sg : Int32) : Prop := 0 ≤ lb.toInt ∧ lb.toInt ≤ 999 ∧ (sg.toInt = -9 ∨ (0 ≤ sg.toInt ∧ sg.toInt ≤ 9)) ∧ En.length < 100
def entT (En : List (Int64 × Int32)) (lb : Int32) (am : Int64) (sg : Int32) : List (Int64 × Int32) := if 0 ≤ lb.toInt ∧ lb.toInt ≤ 999 ∧ (sg.toInt = -9 ∨ (0 ≤ sg.toInt ∧ sg.toInt ≤ 9)) ∧ En.length < 100 then En ++ [(am, sg)] else En
def entV (En : List (Int64 × Int32)) (lb sg : Int32) : Int32 := if ¬ (0 ≤ lb.toInt ∧ lb.toInt ≤ 999 ∧ (sg.toInt = -9 ∨ (0 ≤ sg.toInt ∧ sg.toInt ≤ 9))) then -1 else if En.length < 100 then Int32.ofNat En.length else -3
theorem yi_s1 (i : Nat) : Int32.ofNat (i + 1) - 1 = Int32.ofNat i := by
  rw [← yi_add1, Int32.add_sub_cancel]
theorem yset_n {α β : Type} (f : α → β) (En : List α) (x y : β) (r : List β) : (En.map f ++ x :: r).set En.length y = (En.map f ++ [y]) ++ r := by
  have := yset_at (En.map f) r x y
  rw [List.length_map] at this
  exact this
theorem cE_entry {X : List Int32} {D0 : List xE} {En : List (Int64 × Int32)} {ja : List Int64} {jb : List Int32} {lb sg : Int32} {am : Int64} (ha : En.length + ja.length = 100) (hb : En.length + jb.length = 100) : yK X 1 23 89 [.ref 78, .int lb, .long am, .int sg] ((106, .inl (5, 2, .int (Int32.ofNat En.length))) :: (107, .inr (1, (En.map Prod.fst ++ ja).map Value.long)) :: (108, .inr (0, (En.map Prod.snd ++ jb).map Value.int)) :: D0) 0 0 (fun w D => ∃ (ja2 : List Int64) (jb2 : List Int32), w = some (.int (entV En lb sg)) ∧ D = (106, .inl (5, 2, .int (Int32.ofNat (entT En lb am sg).length))) :: (107, .inr (1, ((entT En lb am sg).map Prod.fst ++ ja2).map Value.long)) :: (108, .inr (0, ((entT En lb am sg).map Prod.snd ++ jb2).map Value.int)) :: D0 ∧ ((entT En lb am sg)).length + ja2.length = 100 ∧ ((entT En lb am sg)).length + jb2.length = 100) := by
  refine yK.of rfl (yle rfl) (L := [_, _, _, _, _]) rfl ?_
  refine xt_pure rfl rfl rfl rfl ?_
  refine yt_if rfl rfl ?_ ?_
  · intro (hb1_0 : Int32.toInt _ < (0 : Int))
    refine xt_pure rfl rfl rfl (st1 := .int (-1) :: _) rfl ?_
    refine xt_iret rfl rfl rfl rfl ?_
    try simp only [xi32_eq, xi64_eq, Int32.toInt_toInt64, Int32.reduceToInt, Int64.reduceToInt, y_m9, y_m1, y_m100, y64_m9, y64_m1, Ne, y_n1x] at hb1_0
    refine ⟨ja, jb, ?_, ?_, ?_, ?_⟩
    · rw [entV, if_pos (by omega)]
    · rw [entT, if_neg (by omega)]
    · rw [entT, if_neg (by omega)]; exact ha
    · rw [entT, if_neg (by omega)]; exact hb
  · intro (hb1_0 : (0 : Int) ≤ Int32.toInt _)
    refine xt_pure rfl rfl rfl rfl ?_
    refine xt_pure rfl rfl rfl (st1 := .int 999 :: _) rfl ?_
    refine yt_ic rfl rfl ?_ ?_
    · intro (hb4_1 : (999 : Int) < Int32.toInt _)
      refine xt_pure rfl rfl rfl (st1 := .int (-1) :: _) rfl ?_
      refine xt_iret rfl rfl rfl rfl ?_
      try simp only [xi32_eq, xi64_eq, Int32.toInt_toInt64, Int32.reduceToInt, Int64.reduceToInt, y_m9, y_m1, y_m100, y64_m9, y64_m1, Ne, y_n1x] at hb1_0 hb4_1
      refine ⟨ja, jb, ?_, ?_, ?_, ?_⟩
      · rw [entV, if_pos (by omega)]
      · rw [entT, if_neg (by omega)]
      · rw [entT, if_neg (by omega)]; exact ha
      · rw [entT, if_neg (by omega)]; exact hb
    · intro (hb4_1 : Int32.toInt _ ≤ (999 : Int))
      refine xt_pure rfl rfl rfl rfl ?_
      refine xt_pure rfl rfl rfl (st1 := .int (-9) :: _) rfl ?_
      refine yt_ic rfl rfl ?_ ?_
      · intro (hb7_2 : (_ : Int32) = (-9))
        refine xt_pure rfl rfl rfl rfl ?_
        refine xt_getf rfl rfl (xmC 118 rfl) ?_
        refine xt_pure rfl rfl rfl rfl ?_
        refine xt_pure rfl rfl rfl rfl ?_
        refine yt_inV (c1 := 0) (s1 := 0) (c2 := 0) (s2 := 0) (fr1 := 0) (lo1 := 0) rfl rfl rfl rfl (xmD 0 rfl) ⟨rfl, rfl, yle rfl, yle rfl, yle rfl, yle rfl⟩ (yle rfl) (L1 := [_, _, _, _]) rfl ⟨yle rfl, yle rfl⟩ ?_
        refine xt_pure rfl rfl rfl rfl ?_
        refine xt_getf rfl rfl (xmD 0 rfl) ?_
        refine xt_pure rfl rfl rfl (st1 := .int 100 :: _) rfl ?_
        refine yt_ic rfl rfl ?_ ?_
        · intro (h5 : Int32.toInt _ < (100 : Int))
          rw [yi_nat (by omega)] at h5
          obtain ⟨x, ja, rfl⟩ : ∃ x r1, ja = x :: r1 := by
            cases ja with
            | nil => simp at ha; omega
            | cons x r1 => exact ⟨x, r1, rfl⟩
          obtain ⟨y, jb, rfl⟩ : ∃ x r1, jb = x :: r1 := by
            cases jb with
            | nil => simp at hb; omega
            | cons x r1 => exact ⟨x, r1, rfl⟩
          refine xt_pure rfl rfl rfl rfl ?_
          refine xt_getf rfl rfl (xmC 140 rfl) ?_
          refine xt_pure rfl rfl rfl rfl ?_
          refine xt_getf rfl rfl (xmD 0 rfl) ?_
          refine xt_pure rfl rfl rfl rfl ?_
          refine xt_last rfl rfl 1 rfl ⟨yi_nn (by omega), by rw [yi_tn (by omega)]; simp⟩ (D1 := _ :: _ :: _ :: _) rfl ?_
          rw [yi_tn (by omega), ← List.map_set, yset_n]
          refine xt_pure rfl rfl rfl rfl ?_
          refine xt_getf rfl rfl (xmC 141 rfl) ?_
          refine xt_pure rfl rfl rfl rfl ?_
          refine xt_getf rfl rfl (xmD 0 rfl) ?_
          refine xt_pure rfl rfl rfl rfl ?_
          refine xt_iast rfl rfl 2 rfl ⟨yi_nn (by omega), by rw [yi_tn (by omega)]; simp⟩ (D1 := _ :: _ :: _ :: _) rfl ?_
          rw [yi_tn (by omega), ← List.map_set, yset_n]
          refine xt_pure rfl rfl rfl rfl ?_
          refine xt_pure rfl rfl rfl rfl ?_
          refine xt_getf rfl rfl (xmD 0 rfl) ?_
          refine xt_pure rfl rfl rfl (st1 := .int 1 :: _) rfl ?_
          refine xt_pure rfl rfl rfl rfl ?_
          refine xt_putf rfl rfl rfl rfl 0 rfl (D1 := _ :: _ :: _ :: _) rfl ?_
          rw [yi_add1]
          refine xt_pure rfl rfl rfl rfl ?_
          refine xt_getf rfl rfl (xmD 0 rfl) ?_
          refine xt_pure rfl rfl rfl (st1 := .int 1 :: _) rfl ?_
          refine xt_pure rfl rfl rfl rfl ?_
          refine xt_iret rfl rfl rfl rfl ?_
          show yT _ _ _ _ _ _ (_ :: _) _ _ _ _
          refine xt_iret rfl rfl rfl rfl ?_
          try simp only [xi32_eq, xi64_eq, Int32.toInt_toInt64, Int32.reduceToInt, Int64.reduceToInt, y_m9, y_m1, y_m100, y64_m9, y64_m1, Ne, y_n1x] at hb1_0 hb4_1 hb7_2 h5
          refine ⟨ja, jb, ?_, ?_, ?_, ?_⟩
          · rw [entV, if_neg (by omega), if_pos (by omega), yi_s1]
          · rw [entT, if_pos (by omega)]
            simp
          · rw [entT, if_pos (by omega)]; simp at ha ⊢; omega
          · rw [entT, if_pos (by omega)]; simp at hb ⊢; omega
        · intro (h5 : (100 : Int) ≤ Int32.toInt _)
          rw [yi_nat (by omega)] at h5
          refine xt_pure rfl rfl rfl (st1 := .int (-3) :: _) rfl ?_
          refine xt_iret rfl rfl rfl rfl ?_
          show yT _ _ _ _ _ _ (_ :: _) _ _ _ _
          refine xt_iret rfl rfl rfl rfl ?_
          try simp only [xi32_eq, xi64_eq, Int32.toInt_toInt64, Int32.reduceToInt, Int64.reduceToInt, y_m9, y_m1, y_m100, y64_m9, y64_m1, Ne, y_n1x] at hb1_0 hb4_1 hb7_2 h5
          refine ⟨ja, jb, ?_, ?_, ?_, ?_⟩
          · rw [entV, if_neg (by omega), if_neg (by omega)]
          · rw [entT, if_neg (by omega)]
          · rw [entT, if_neg (by omega)]; exact ha
          · rw [entT, if_neg (by omega)]; exact hb
      · intro (hb7_2 : (_ : Int32) ≠ (-9))
        refine xt_pure rfl rfl rfl rfl ?_
        refine yt_if rfl rfl ?_ ?_
        · intro (hb9_4 : Int32.toInt _ < (0 : Int))
          refine xt_pure rfl rfl rfl (st1 := .int (-1) :: _) rfl ?_
          refine xt_iret rfl rfl rfl rfl ?_
          try simp only [xi32_eq, xi64_eq, Int32.toInt_toInt64, Int32.reduceToInt, Int64.reduceToInt, y_m9, y_m1, y_m100, y64_m9, y64_m1, Ne, y_n1x] at hb1_0 hb4_1 hb7_2 hb9_4
          refine ⟨ja, jb, ?_, ?_, ?_, ?_⟩
          · rw [entV, if_pos (by omega)]
          · rw [entT, if_neg (by omega)]
          · rw [entT, if_neg (by omega)]; exact ha
          · rw [entT, if_neg (by omega)]; exact hb
        · intro (hb9_4 : (0 : Int) ≤ Int32.toInt _)
          refine xt_pure rfl rfl rfl rfl ?_
          refine xt_pure rfl rfl rfl (st1 := .int 9 :: _) rfl ?_
          refine yt_ic rfl rfl ?_ ?_
          · intro (hb12_5 : Int32.toInt _ ≤ (9 : Int))
            refine xt_pure rfl rfl rfl rfl ?_
            refine xt_getf rfl rfl (xmC 118 rfl) ?_
            refine xt_pure rfl rfl rfl rfl ?_
            refine xt_pure rfl rfl rfl rfl ?_
            refine yt_inV (c1 := 0) (s1 := 0) (c2 := 0) (s2 := 0) (fr1 := 0) (lo1 := 0) rfl rfl rfl rfl (xmD 0 rfl) ⟨rfl, rfl, yle rfl, yle rfl, yle rfl, yle rfl⟩ (yle rfl) (L1 := [_, _, _, _]) rfl ⟨yle rfl, yle rfl⟩ ?_
            refine xt_pure rfl rfl rfl rfl ?_
            refine xt_getf rfl rfl (xmD 0 rfl) ?_
            refine xt_pure rfl rfl rfl (st1 := .int 100 :: _) rfl ?_
            refine yt_ic rfl rfl ?_ ?_
            · intro (h5 : Int32.toInt _ < (100 : Int))
              rw [yi_nat (by omega)] at h5
              obtain ⟨x, ja, rfl⟩ : ∃ x r1, ja = x :: r1 := by
                cases ja with
                | nil => simp at ha; omega
                | cons x r1 => exact ⟨x, r1, rfl⟩
              obtain ⟨y, jb, rfl⟩ : ∃ x r1, jb = x :: r1 := by
                cases jb with
                | nil => simp at hb; omega
                | cons x r1 => exact ⟨x, r1, rfl⟩
              refine xt_pure rfl rfl rfl rfl ?_
              refine xt_getf rfl rfl (xmC 140 rfl) ?_
              refine xt_pure rfl rfl rfl rfl ?_
              refine xt_getf rfl rfl (xmD 0 rfl) ?_
              refine xt_pure rfl rfl rfl rfl ?_
              refine xt_last rfl rfl 1 rfl ⟨yi_nn (by omega), by rw [yi_tn (by omega)]; simp⟩ (D1 := _ :: _ :: _ :: _) rfl ?_
              rw [yi_tn (by omega), ← List.map_set, yset_n]
              refine xt_pure rfl rfl rfl rfl ?_
              refine xt_getf rfl rfl (xmC 141 rfl) ?_
              refine xt_pure rfl rfl rfl rfl ?_
              refine xt_getf rfl rfl (xmD 0 rfl) ?_
              refine xt_pure rfl rfl rfl rfl ?_
              refine xt_iast rfl rfl 2 rfl ⟨yi_nn (by omega), by rw [yi_tn (by omega)]; simp⟩ (D1 := _ :: _ :: _ :: _) rfl ?_
              rw [yi_tn (by omega), ← List.map_set, yset_n]
              refine xt_pure rfl rfl rfl rfl ?_
              refine xt_pure rfl rfl rfl rfl ?_
              refine xt_getf rfl rfl (xmD 0 rfl) ?_
              refine xt_pure rfl rfl rfl (st1 := .int 1 :: _) rfl ?_
              refine xt_pure rfl rfl rfl rfl ?_
              refine xt_putf rfl rfl rfl rfl 0 rfl (D1 := _ :: _ :: _ :: _) rfl ?_
              rw [yi_add1]
              refine xt_pure rfl rfl rfl rfl ?_
              refine xt_getf rfl rfl (xmD 0 rfl) ?_
              refine xt_pure rfl rfl rfl (st1 := .int 1 :: _) rfl ?_
              refine xt_pure rfl rfl rfl rfl ?_
              refine xt_iret rfl rfl rfl rfl ?_
              show yT _ _ _ _ _ _ (_ :: _) _ _ _ _
              refine xt_iret rfl rfl rfl rfl ?_
              try simp only [xi32_eq, xi64_eq, Int32.toInt_toInt64, Int32.reduceToInt, Int64.reduceToInt, y_m9, y_m1, y_m100, y64_m9, y64_m1, Ne, y_n1x] at hb1_0 hb4_1 hb7_2 hb9_4 hb12_5 h5
              refine ⟨ja, jb, ?_, ?_, ?_, ?_⟩
              · rw [entV, if_neg (by omega), if_pos (by omega), yi_s1]
              · rw [entT, if_pos (by omega)]
                simp
              · rw [entT, if_pos (by omega)]; simp at ha ⊢; omega
              · rw [entT, if_pos (by omega)]; simp at hb ⊢; omega
            · intro (h5 : (100 : Int) ≤ Int32.toInt _)
              rw [yi_nat (by omega)] at h5
              refine xt_pure rfl rfl rfl (st1 := .int (-3) :: _) rfl ?_
              refine xt_iret rfl rfl rfl rfl ?_
              show yT _ _ _ _ _ _ (_ :: _) _ _ _ _
              refine xt_iret rfl rfl rfl rfl ?_
              try simp only [xi32_eq, xi64_eq, Int32.toInt_toInt64, Int32.reduceToInt, Int64.reduceToInt, y_m9, y_m1, y_m100, y64_m9, y64_m1, Ne, y_n1x] at hb1_0 hb4_1 hb7_2 hb9_4 hb12_5 h5
              refine ⟨ja, jb, ?_, ?_, ?_, ?_⟩
              · rw [entV, if_neg (by omega), if_neg (by omega)]
              · rw [entT, if_neg (by omega)]
              · rw [entT, if_neg (by omega)]; exact ha
              · rw [entT, if_neg (by omega)]; exact hb
          · intro (hb12_5 : (9 : Int) < Int32.toInt _)
            refine xt_pure rfl rfl rfl (st1 := .int (-1) :: _) rfl ?_
            refine xt_iret rfl rfl rfl rfl ?_
            try simp only [xi32_eq, xi64_eq, Int32.toInt_toInt64, Int32.reduceToInt, Int64.reduceToInt, y_m9, y_m1, y_m100, y64_m9, y64_m1, Ne, y_n1x] at hb1_0 hb4_1 hb7_2 hb9_4 hb12_5
            refine ⟨ja, jb, ?_, ?_, ?_, ?_⟩
            · rw [entV, if_pos (by omega)]
            · rw [entT, if_neg (by omega)]
            · rw [entT, if_neg (by omega)]; exact ha
            · rw [entT, if_neg (by omega)]; exact hb
theorem mE_entry {X : List Int32} {D0 : List xE} {En : List (Int64 × Int32)} {lbs : List Int32} {ja : List Int64} {jb : List Int32} {lb sg : Int32} {am : Int64} (ha : En.length + ja.length = 100) (hb : En.length + jb.length = 100) (hl : lbs.length = 100) : yK X 1 25 254 [.ref 209, .int lb, .long am, .int sg] ((209, .inl (14, 19, .int (Int32.ofNat En.length))) :: (234, .inr (0, lbs.map Value.int)) :: (235, .inr (1, (En.map Prod.fst ++ ja).map Value.long)) :: (236, .inr (0, (En.map Prod.snd ++ jb).map Value.int)) :: D0) 0 0 (fun w D => ∃ (lbs2 : List Int32) (ja2 : List Int64) (jb2 : List Int32), w = some (.int (entV En lb sg)) ∧ D = (209, .inl (14, 19, .int (Int32.ofNat (entT En lb am sg).length))) :: (234, .inr (0, lbs2.map Value.int)) :: (235, .inr (1, ((entT En lb am sg).map Prod.fst ++ ja2).map Value.long)) :: (236, .inr (0, ((entT En lb am sg).map Prod.snd ++ jb2).map Value.int)) :: D0 ∧ ((entT En lb am sg)).length + ja2.length = 100 ∧ ((entT En lb am sg)).length + jb2.length = 100 ∧ lbs2.length = 100) := by
  refine yK.of rfl (yle rfl) (L := [_, _, _, _, _]) rfl ?_
  refine xt_pure rfl rfl rfl rfl ?_
  refine xt_pure rfl rfl rfl rfl ?_
  refine xt_pure rfl rfl rfl (st1 := .long 0 :: _) rfl ?_
  refine xt_pure rfl rfl rfl (st1 := .long 999 :: _) rfl ?_
  refine xt_callS rfl rfl (by decide) rfl ⟨rfl, yle rfl, yle rfl, yle rfl, yle rfl⟩ mk_in (c2 := 0) (s2 := 0) ⟨yle rfl, yle rfl⟩ ?_
  rintro _ _ (⟨rfl, hp0, rfl⟩ | ⟨rfl, hp0, rfl⟩)
  · skip
    show yT _ _ _ _ _ _ (_ :: _) _ _ _ _
    refine xt_pure rfl rfl rfl rfl ?_
    refine xt_pure rfl rfl rfl rfl ?_
    refine xt_pure rfl rfl rfl (st1 := .int (-9) :: _) rfl ?_
    refine yt_ic rfl rfl ?_ ?_
    · intro (hb8_1 : (_ : Int32) = (-9))
      refine xt_pure rfl rfl rfl rfl ?_
      refine xt_getf rfl rfl (xmD 0 rfl) ?_
      refine xt_pure rfl rfl rfl (st1 := .int 100 :: _) rfl ?_
      refine yt_ic rfl rfl ?_ ?_
      · intro (h5 : (_ : Int32) ≠ 100)
        have h5 : En.length ≠ 100 := fun h => h5 (by rw [h]; rfl)
        obtain ⟨x, ja, rfl⟩ : ∃ x r1, ja = x :: r1 := by
          cases ja with
          | nil => simp at ha; omega
          | cons x r1 => exact ⟨x, r1, rfl⟩
        obtain ⟨y, jb, rfl⟩ : ∃ x r1, jb = x :: r1 := by
          cases jb with
          | nil => simp at hb; omega
          | cons x r1 => exact ⟨x, r1, rfl⟩
        refine xt_pure rfl rfl rfl rfl ?_
        refine xt_getf rfl rfl (xmC 183 rfl) ?_
        refine xt_pure rfl rfl rfl rfl ?_
        refine xt_getf rfl rfl (xmD 0 rfl) ?_
        refine xt_pure rfl rfl rfl rfl ?_
        refine xt_iast rfl rfl 1 rfl ⟨yi_nn (by omega), by rw [yi_tn (by omega)]; simp; omega⟩ (D1 := _ :: _ :: _ :: _ :: _) rfl ?_
        rw [yi_tn (by omega), ← List.map_set]
        refine xt_pure rfl rfl rfl rfl ?_
        refine xt_getf rfl rfl (xmC 184 rfl) ?_
        refine xt_pure rfl rfl rfl rfl ?_
        refine xt_getf rfl rfl (xmD 0 rfl) ?_
        refine xt_pure rfl rfl rfl rfl ?_
        refine xt_last rfl rfl 2 rfl ⟨yi_nn (by omega), by rw [yi_tn (by omega)]; simp⟩ (D1 := _ :: _ :: _ :: _ :: _) rfl ?_
        rw [yi_tn (by omega), ← List.map_set, yset_n]
        refine xt_pure rfl rfl rfl rfl ?_
        refine xt_getf rfl rfl (xmC 185 rfl) ?_
        refine xt_pure rfl rfl rfl rfl ?_
        refine xt_getf rfl rfl (xmD 0 rfl) ?_
        refine xt_pure rfl rfl rfl rfl ?_
        refine xt_iast rfl rfl 3 rfl ⟨yi_nn (by omega), by rw [yi_tn (by omega)]; simp⟩ (D1 := _ :: _ :: _ :: _ :: _) rfl ?_
        rw [yi_tn (by omega), ← List.map_set, yset_n]
        refine xt_pure rfl rfl rfl rfl ?_
        refine xt_pure rfl rfl rfl rfl ?_
        refine xt_getf rfl rfl (xmD 0 rfl) ?_
        refine xt_pure rfl rfl rfl (st1 := .int 1 :: _) rfl ?_
        refine xt_pure rfl rfl rfl rfl ?_
        refine xt_putf rfl rfl rfl rfl 0 rfl (D1 := _ :: _ :: _ :: _ :: _) rfl ?_
        rw [yi_add1]
        refine xt_pure rfl rfl rfl rfl ?_
        refine xt_getf rfl rfl (xmD 0 rfl) ?_
        refine xt_pure rfl rfl rfl (st1 := .int 1 :: _) rfl ?_
        refine xt_pure rfl rfl rfl rfl ?_
        refine xt_iret rfl rfl rfl rfl ?_
        try simp only [xi32_eq, xi64_eq, Int32.toInt_toInt64, Int32.reduceToInt, Int64.reduceToInt, y_m9, y_m1, y_m100, y64_m9, y64_m1, Ne, y_n1x] at hp0 hb8_1 h5
        refine ⟨(lbs.set En.length lb), ja, jb, ?_, ?_, ?_, ?_, ?_⟩
        · rw [entV, if_neg (by omega), if_pos (by omega), yi_s1]
        · rw [entT, if_pos (by omega)]
          simp
        · rw [entT, if_pos (by omega)]; simp at ha ⊢; omega
        · rw [entT, if_pos (by omega)]; simp at hb ⊢; omega
        · simp [hl]
      · intro (h5 : (_ : Int32) = 100)
        have h5 : En.length = 100 := by rw [xi32_eq, yi_nat (by omega)] at h5; simp only [Int32.reduceToInt] at h5; omega
        refine xt_pure rfl rfl rfl (st1 := .int (-3) :: _) rfl ?_
        refine xt_iret rfl rfl rfl rfl ?_
        try simp only [xi32_eq, xi64_eq, Int32.toInt_toInt64, Int32.reduceToInt, Int64.reduceToInt, y_m9, y_m1, y_m100, y64_m9, y64_m1, Ne, y_n1x] at hp0 hb8_1 h5
        refine ⟨lbs, ja, jb, ?_, ?_, ?_, ?_, ?_⟩
        · rw [entV, if_neg (by omega), if_neg (by omega)]
        · rw [entT, if_neg (by omega)]
        · rw [entT, if_neg (by omega)]; exact ha
        · rw [entT, if_neg (by omega)]; exact hb
        · simp [hl]
    · intro (hb8_1 : (_ : Int32) ≠ (-9))
      refine xt_pure rfl rfl rfl rfl ?_
      refine xt_pure rfl rfl rfl rfl ?_
      refine xt_pure rfl rfl rfl (st1 := .long 0 :: _) rfl ?_
      refine xt_pure rfl rfl rfl (st1 := .long 9 :: _) rfl ?_
      refine xt_callS rfl rfl (by decide) rfl ⟨rfl, yle rfl, yle rfl, yle rfl, yle rfl⟩ mk_in (c2 := 0) (s2 := 0) ⟨yle rfl, yle rfl⟩ ?_
      rintro _ _ (⟨rfl, hp3, rfl⟩ | ⟨rfl, hp3, rfl⟩)
      · skip
        show yT _ _ _ _ _ _ (_ :: _) _ _ _ _
        refine xt_pure rfl rfl rfl rfl ?_
        refine xt_pure rfl rfl rfl rfl ?_
        refine xt_getf rfl rfl (xmD 0 rfl) ?_
        refine xt_pure rfl rfl rfl (st1 := .int 100 :: _) rfl ?_
        refine yt_ic rfl rfl ?_ ?_
        · intro (h5 : (_ : Int32) ≠ 100)
          have h5 : En.length ≠ 100 := fun h => h5 (by rw [h]; rfl)
          obtain ⟨x, ja, rfl⟩ : ∃ x r1, ja = x :: r1 := by
            cases ja with
            | nil => simp at ha; omega
            | cons x r1 => exact ⟨x, r1, rfl⟩
          obtain ⟨y, jb, rfl⟩ : ∃ x r1, jb = x :: r1 := by
            cases jb with
            | nil => simp at hb; omega
            | cons x r1 => exact ⟨x, r1, rfl⟩
          refine xt_pure rfl rfl rfl rfl ?_
          refine xt_getf rfl rfl (xmC 183 rfl) ?_
          refine xt_pure rfl rfl rfl rfl ?_
          refine xt_getf rfl rfl (xmD 0 rfl) ?_
          refine xt_pure rfl rfl rfl rfl ?_
          refine xt_iast rfl rfl 1 rfl ⟨yi_nn (by omega), by rw [yi_tn (by omega)]; simp; omega⟩ (D1 := _ :: _ :: _ :: _ :: _) rfl ?_
          rw [yi_tn (by omega), ← List.map_set]
          refine xt_pure rfl rfl rfl rfl ?_
          refine xt_getf rfl rfl (xmC 184 rfl) ?_
          refine xt_pure rfl rfl rfl rfl ?_
          refine xt_getf rfl rfl (xmD 0 rfl) ?_
          refine xt_pure rfl rfl rfl rfl ?_
          refine xt_last rfl rfl 2 rfl ⟨yi_nn (by omega), by rw [yi_tn (by omega)]; simp⟩ (D1 := _ :: _ :: _ :: _ :: _) rfl ?_
          rw [yi_tn (by omega), ← List.map_set, yset_n]
          refine xt_pure rfl rfl rfl rfl ?_
          refine xt_getf rfl rfl (xmC 185 rfl) ?_
          refine xt_pure rfl rfl rfl rfl ?_
          refine xt_getf rfl rfl (xmD 0 rfl) ?_
          refine xt_pure rfl rfl rfl rfl ?_
          refine xt_iast rfl rfl 3 rfl ⟨yi_nn (by omega), by rw [yi_tn (by omega)]; simp⟩ (D1 := _ :: _ :: _ :: _ :: _) rfl ?_
          rw [yi_tn (by omega), ← List.map_set, yset_n]
          refine xt_pure rfl rfl rfl rfl ?_
          refine xt_pure rfl rfl rfl rfl ?_
          refine xt_getf rfl rfl (xmD 0 rfl) ?_
          refine xt_pure rfl rfl rfl (st1 := .int 1 :: _) rfl ?_
          refine xt_pure rfl rfl rfl rfl ?_
          refine xt_putf rfl rfl rfl rfl 0 rfl (D1 := _ :: _ :: _ :: _ :: _) rfl ?_
          rw [yi_add1]
          refine xt_pure rfl rfl rfl rfl ?_
          refine xt_getf rfl rfl (xmD 0 rfl) ?_
          refine xt_pure rfl rfl rfl (st1 := .int 1 :: _) rfl ?_
          refine xt_pure rfl rfl rfl rfl ?_
          refine xt_iret rfl rfl rfl rfl ?_
          try simp only [xi32_eq, xi64_eq, Int32.toInt_toInt64, Int32.reduceToInt, Int64.reduceToInt, y_m9, y_m1, y_m100, y64_m9, y64_m1, Ne, y_n1x] at hp0 hb8_1 hp3 h5
          refine ⟨(lbs.set En.length lb), ja, jb, ?_, ?_, ?_, ?_, ?_⟩
          · rw [entV, if_neg (by omega), if_pos (by omega), yi_s1]
          · rw [entT, if_pos (by omega)]
            simp
          · rw [entT, if_pos (by omega)]; simp at ha ⊢; omega
          · rw [entT, if_pos (by omega)]; simp at hb ⊢; omega
          · simp [hl]
        · intro (h5 : (_ : Int32) = 100)
          have h5 : En.length = 100 := by rw [xi32_eq, yi_nat (by omega)] at h5; simp only [Int32.reduceToInt] at h5; omega
          refine xt_pure rfl rfl rfl (st1 := .int (-3) :: _) rfl ?_
          refine xt_iret rfl rfl rfl rfl ?_
          try simp only [xi32_eq, xi64_eq, Int32.toInt_toInt64, Int32.reduceToInt, Int64.reduceToInt, y_m9, y_m1, y_m100, y64_m9, y64_m1, Ne, y_n1x] at hp0 hb8_1 hp3 h5
          refine ⟨lbs, ja, jb, ?_, ?_, ?_, ?_, ?_⟩
          · rw [entV, if_neg (by omega), if_neg (by omega)]
          · rw [entT, if_neg (by omega)]
          · rw [entT, if_neg (by omega)]; exact ha
          · rw [entT, if_neg (by omega)]; exact hb
          · simp [hl]
      · skip
        show yT _ _ _ _ _ _ (_ :: _) _ _ _ _
        refine xt_pure rfl rfl rfl rfl ?_
        refine xt_pure rfl rfl rfl (st1 := .int (-1) :: _) rfl ?_
        refine xt_iret rfl rfl rfl rfl ?_
        try simp only [xi32_eq, xi64_eq, Int32.toInt_toInt64, Int32.reduceToInt, Int64.reduceToInt, y_m9, y_m1, y_m100, y64_m9, y64_m1, Ne, y_n1x] at hp0 hb8_1 hp3
        refine ⟨lbs, ja, jb, ?_, ?_, ?_, ?_, ?_⟩
        · rw [entV, if_pos (by omega)]
        · rw [entT, if_neg (by omega)]
        · rw [entT, if_neg (by omega)]; exact ha
        · rw [entT, if_neg (by omega)]; exact hb
        · simp [hl]
  · skip
    show yT _ _ _ _ _ _ (_ :: _) _ _ _ _
    refine xt_pure rfl rfl rfl rfl ?_
    refine xt_pure rfl rfl rfl (st1 := .int (-1) :: _) rfl ?_
    refine xt_iret rfl rfl rfl rfl ?_
    try simp only [xi32_eq, xi64_eq, Int32.toInt_toInt64, Int32.reduceToInt, Int64.reduceToInt, y_m9, y_m1, y_m100, y64_m9, y64_m1, Ne, y_n1x] at hp0
    refine ⟨lbs, ja, jb, ?_, ?_, ?_, ?_, ?_⟩
    · rw [entV, if_pos (by omega)]
    · rw [entT, if_neg (by omega)]
    · rw [entT, if_neg (by omega)]; exact ha
    · rw [entT, if_neg (by omega)]; exact hb
    · simp [hl]
