/-! THE DESK: write, seat, clear, sort -/
/-- what an item of a sort holds of a number -/
def putv (s : Nat) (v : Int64) : Int64 := if s = 0 then (if v = 0 then 0 else 1) else if s = 1 then v.toInt32.toInt64 else if s = 3 then v &&& 65535 else v
def wrW (s n : Nat) (fl i : Int32) : Int32 := if 10000 ≤ fl.toInt then -3 else if 3 < s then -12 else if ¬ (0 ≤ i.toInt ∧ i.toInt < n) then -13 else 0
/-- FAILURES, behind a call that answered so -/
def flW (fl w : Int32) : Int32 := if w.toInt ≤ -11 ∧ -20 < w.toInt then fl + 1 else fl
def itW (its : List Int64) (w i : Int32) (v : Int64) : List Int64 := if w = 0 then its.set i.toInt.toNat v else its
def seW (s n : Nat) (En : List (Int64 × Int32)) (fl i e : Int32) : Int32 := if ¬ (e = -1 ∨ (0 ≤ e.toInt ∧ e.toInt < En.length)) then -1 else if 10000 ≤ fl.toInt then -3 else if s ≠ 5 ∧ s ≠ 6 then -12 else if ¬ (0 ≤ i.toInt ∧ i.toInt < n) then -13 else if s = 6 ∧ e ≠ -1 ∧ (En.map Prod.snd)[e.toInt.toNat]? = some (-9) then -15 else 0
theorem yput {X : List Int32} {D0 : List xE} {a ia s : Nat} {its : List Int64} {i : Int32} {v : Int64} (hs : s ≤ 7) (hi : 0 ≤ i.toInt ∧ i.toInt < its.length) : yK X 0 0 96 [.ref a, .int i, .long v] ((a, .inl (6, 0, .int (Int32.ofNat s))) :: (a, .inl (6, 2, .ref ia)) :: (ia, .inr (1, its.map Value.long)) :: D0) 0 0 (fun w D => w = none ∧ D = (a, .inl (6, 0, .int (Int32.ofNat s))) :: (a, .inl (6, 2, .ref ia)) :: (ia, .inr (1, (its.set i.toInt.toNat (putv s v)).map Value.long)) :: D0) := by
  have es := yi_nat (i := s) (by omega)
  refine yK.of rfl (yle rfl) (L := [_, _, _, _]) rfl ?_
  refine xt_pure rfl rfl rfl rfl ?_
  refine xt_getf rfl rfl (xmD 0 rfl) ?_
  by_cases hw0_0 : (Int32.ofNat s) = 0
  · rw [hw0_0]
    refine xt_pure rfl rfl rfl rfl ?_
    refine xt_pure rfl rfl rfl rfl ?_
    refine xt_getf rfl rfl (xmD 1 rfl) ?_
    refine xt_pure rfl rfl rfl rfl ?_
    refine xt_pure rfl rfl rfl rfl ?_
    refine xt_pure rfl rfl rfl (st1 := .long 0 :: _) rfl ?_
    refine yt_lc rfl rfl rfl ?_ ?_
    · intro (h8 : (_ : Int64) = 0)
      refine xt_pure rfl rfl rfl (st1 := .long 0 :: _) rfl ?_
      refine xt_last rfl rfl 2 rfl ⟨by rw [Int32.lt_iff_toInt_lt]; simp only [Int32.reduceToInt]; omega, by simp; omega⟩ (D1 := _ :: _ :: _ :: _) rfl ?_
      refine xt_pure rfl rfl rfl rfl ?_
      refine xt_vret rfl rfl rfl ?_
      refine ⟨rfl, ?_⟩
      rw [← List.map_set]
      try rw [xi32_eq, es] at hw0_0
      try rw [xi32_eq, es] at hw0_1
      try rw [xi32_eq, es] at hw0_2
      try rw [xi32_eq, es] at hw0_3
      try simp only [Int32.reduceToInt] at hw0_0 hw0_1 hw0_2 hw0_3
      try simp only [Int32.reduceToInt] at hw0_0 hw0_1 hw0_2
      try simp only [Int32.reduceToInt] at hw0_0 hw0_1
      try simp only [Int32.reduceToInt] at hw0_0
      first | rw [putv, if_pos (by omega), if_pos h8] | rw [putv, if_pos (by omega), if_neg h8] | rw [putv, if_neg (by omega), if_pos (by omega)] | rw [putv, if_neg (by omega), if_neg (by omega), if_pos (by omega)] | rw [putv, if_neg (by omega), if_neg (by omega), if_neg (by omega)]
      rfl
    · intro (h8 : (_ : Int64) ≠ 0)
      refine xt_pure rfl rfl rfl (st1 := .long 1 :: _) rfl ?_
      refine xt_pure rfl rfl rfl rfl ?_
      refine xt_last rfl rfl 2 rfl ⟨by rw [Int32.lt_iff_toInt_lt]; simp only [Int32.reduceToInt]; omega, by simp; omega⟩ (D1 := _ :: _ :: _ :: _) rfl ?_
      refine xt_pure rfl rfl rfl rfl ?_
      refine xt_vret rfl rfl rfl ?_
      refine ⟨rfl, ?_⟩
      rw [← List.map_set]
      try rw [xi32_eq, es] at hw0_0
      try rw [xi32_eq, es] at hw0_1
      try rw [xi32_eq, es] at hw0_2
      try rw [xi32_eq, es] at hw0_3
      try simp only [Int32.reduceToInt] at hw0_0 hw0_1 hw0_2 hw0_3
      try simp only [Int32.reduceToInt] at hw0_0 hw0_1 hw0_2
      try simp only [Int32.reduceToInt] at hw0_0 hw0_1
      try simp only [Int32.reduceToInt] at hw0_0
      first | rw [putv, if_pos (by omega), if_pos h8] | rw [putv, if_pos (by omega), if_neg h8] | rw [putv, if_neg (by omega), if_pos (by omega)] | rw [putv, if_neg (by omega), if_neg (by omega), if_pos (by omega)] | rw [putv, if_neg (by omega), if_neg (by omega), if_neg (by omega)]
      rfl
  by_cases hw0_1 : (Int32.ofNat s) = 1
  · rw [hw0_1]
    refine xt_pure rfl rfl rfl rfl ?_
    refine xt_pure rfl rfl rfl rfl ?_
    refine xt_getf rfl rfl (xmD 1 rfl) ?_
    refine xt_pure rfl rfl rfl rfl ?_
    refine xt_pure rfl rfl rfl rfl ?_
    refine xt_pure rfl rfl rfl rfl ?_
    refine xt_pure rfl rfl rfl rfl ?_
    refine xt_last rfl rfl 2 rfl ⟨by rw [Int32.lt_iff_toInt_lt]; simp only [Int32.reduceToInt]; omega, by simp; omega⟩ (D1 := _ :: _ :: _ :: _) rfl ?_
    refine xt_pure rfl rfl rfl rfl ?_
    refine xt_vret rfl rfl rfl ?_
    refine ⟨rfl, ?_⟩
    rw [← List.map_set]
    try rw [xi32_eq, es] at hw0_0
    try rw [xi32_eq, es] at hw0_1
    try rw [xi32_eq, es] at hw0_2
    try rw [xi32_eq, es] at hw0_3
    try simp only [Int32.reduceToInt] at hw0_0 hw0_1 hw0_2 hw0_3
    try simp only [Int32.reduceToInt] at hw0_0 hw0_1 hw0_2
    try simp only [Int32.reduceToInt] at hw0_0 hw0_1
    try simp only [Int32.reduceToInt] at hw0_0
    first | rw [putv, if_pos (by omega), if_pos h8] | rw [putv, if_pos (by omega), if_neg h8] | rw [putv, if_neg (by omega), if_pos (by omega)] | rw [putv, if_neg (by omega), if_neg (by omega), if_pos (by omega)] | rw [putv, if_neg (by omega), if_neg (by omega), if_neg (by omega)]
    rfl
  by_cases hw0_2 : (Int32.ofNat s) = 2
  · rw [hw0_2]
    refine xt_pure rfl rfl rfl rfl ?_
    refine xt_pure rfl rfl rfl rfl ?_
    refine xt_getf rfl rfl (xmD 1 rfl) ?_
    refine xt_pure rfl rfl rfl rfl ?_
    refine xt_pure rfl rfl rfl rfl ?_
    refine xt_last rfl rfl 2 rfl ⟨by rw [Int32.lt_iff_toInt_lt]; simp only [Int32.reduceToInt]; omega, by simp; omega⟩ (D1 := _ :: _ :: _ :: _) rfl ?_
    refine xt_vret rfl rfl rfl ?_
    refine ⟨rfl, ?_⟩
    rw [← List.map_set]
    try rw [xi32_eq, es] at hw0_0
    try rw [xi32_eq, es] at hw0_1
    try rw [xi32_eq, es] at hw0_2
    try rw [xi32_eq, es] at hw0_3
    try simp only [Int32.reduceToInt] at hw0_0 hw0_1 hw0_2 hw0_3
    try simp only [Int32.reduceToInt] at hw0_0 hw0_1 hw0_2
    try simp only [Int32.reduceToInt] at hw0_0 hw0_1
    try simp only [Int32.reduceToInt] at hw0_0
    first | rw [putv, if_pos (by omega), if_pos h8] | rw [putv, if_pos (by omega), if_neg h8] | rw [putv, if_neg (by omega), if_pos (by omega)] | rw [putv, if_neg (by omega), if_neg (by omega), if_pos (by omega)] | rw [putv, if_neg (by omega), if_neg (by omega), if_neg (by omega)]
    rfl
  by_cases hw0_3 : (Int32.ofNat s) = 3
  · rw [hw0_3]
    refine xt_pure rfl rfl rfl rfl ?_
    refine xt_pure rfl rfl rfl rfl ?_
    refine xt_getf rfl rfl (xmD 1 rfl) ?_
    refine xt_pure rfl rfl rfl rfl ?_
    refine xt_pure rfl rfl rfl rfl ?_
    refine xt_pure rfl rfl rfl (st1 := .long 65535 :: _) rfl ?_
    refine xt_pure rfl rfl rfl rfl ?_
    refine xt_last rfl rfl 2 rfl ⟨by rw [Int32.lt_iff_toInt_lt]; simp only [Int32.reduceToInt]; omega, by simp; omega⟩ (D1 := _ :: _ :: _ :: _) rfl ?_
    refine xt_pure rfl rfl rfl rfl ?_
    refine xt_vret rfl rfl rfl ?_
    refine ⟨rfl, ?_⟩
    rw [← List.map_set]
    try rw [xi32_eq, es] at hw0_0
    try rw [xi32_eq, es] at hw0_1
    try rw [xi32_eq, es] at hw0_2
    try rw [xi32_eq, es] at hw0_3
    try simp only [Int32.reduceToInt] at hw0_0 hw0_1 hw0_2 hw0_3
    try simp only [Int32.reduceToInt] at hw0_0 hw0_1 hw0_2
    try simp only [Int32.reduceToInt] at hw0_0 hw0_1
    try simp only [Int32.reduceToInt] at hw0_0
    first | rw [putv, if_pos (by omega), if_pos h8] | rw [putv, if_pos (by omega), if_neg h8] | rw [putv, if_neg (by omega), if_pos (by omega)] | rw [putv, if_neg (by omega), if_neg (by omega), if_pos (by omega)] | rw [putv, if_neg (by omega), if_neg (by omega), if_neg (by omega)]
    rfl
  have hx0_0 : ¬ (Int32.ofNat s).toInt = 0 := fun h => hw0_0 (by rw [xi32_eq, h]; rfl)
  have hx0_1 : ¬ (Int32.ofNat s).toInt = 1 := fun h => hw0_1 (by rw [xi32_eq, h]; rfl)
  have hx0_2 : ¬ (Int32.ofNat s).toInt = 2 := fun h => hw0_2 (by rw [xi32_eq, h]; rfl)
  have hx0_3 : ¬ (Int32.ofNat s).toInt = 3 := fun h => hw0_3 (by rw [xi32_eq, h]; rfl)
  refine yt_tsd rfl rfl (by omega) rfl ?_
  refine xt_pure rfl rfl rfl rfl ?_
  refine xt_getf rfl rfl (xmD 1 rfl) ?_
  refine xt_pure rfl rfl rfl rfl ?_
  refine xt_pure rfl rfl rfl rfl ?_
  refine xt_last rfl rfl 2 rfl ⟨by rw [Int32.lt_iff_toInt_lt]; simp only [Int32.reduceToInt]; omega, by simp; omega⟩ (D1 := _ :: _ :: _ :: _) rfl ?_
  refine xt_vret rfl rfl rfl ?_
  refine ⟨rfl, ?_⟩
  rw [← List.map_set]
  try rw [xi32_eq, es] at hw0_0
  try rw [xi32_eq, es] at hw0_1
  try rw [xi32_eq, es] at hw0_2
  try rw [xi32_eq, es] at hw0_3
  try simp only [Int32.reduceToInt] at hw0_0 hw0_1 hw0_2 hw0_3
  try simp only [Int32.reduceToInt] at hw0_0 hw0_1 hw0_2
  try simp only [Int32.reduceToInt] at hw0_0 hw0_1
  try simp only [Int32.reduceToInt] at hw0_0
  first | rw [putv, if_pos (by omega), if_pos h8] | rw [putv, if_pos (by omega), if_neg h8] | rw [putv, if_neg (by omega), if_pos (by omega)] | rw [putv, if_neg (by omega), if_neg (by omega), if_pos (by omega)] | rw [putv, if_neg (by omega), if_neg (by omega), if_neg (by omega)]
  rfl
theorem cD_write1 {X : List Int32} {D0 : List xE} {a ia s n : Nat} {its : List Int64} {fl x y i : Int32} {v : Int64} (hs : s ≤ 7) (hn : n ≤ 12) (hl : s ≤ 3 → its.length = n) (hfn : ((110, .inl (10, 6, .int (-9))) : xE) ∈ D0) : yK X 2 42 98 [.ref 78, .int i, .long v] ((78, .inl (11, 6, .ref a)) :: (110, .inl (10, 1, .int fl)) :: (110, .inl (10, 4, .int x)) :: (110, .inl (10, 5, .int y)) :: (a, .inl (6, 0, .int (Int32.ofNat s))) :: (a, .inl (6, 1, .int (Int32.ofNat n))) :: (a, .inl (6, 2, .ref ia)) :: (ia, .inr (1, its.map Value.long)) :: D0) 0 0 (fun w D => ∃ x2 y2 : Int32, w = some (.int (wrW s n fl i)) ∧ D = (78, .inl (11, 6, .ref a)) :: (110, .inl (10, 1, .int (flW fl (wrW s n fl i)))) :: (110, .inl (10, 4, .int x2)) :: (110, .inl (10, 5, .int y2)) :: (a, .inl (6, 0, .int (Int32.ofNat s))) :: (a, .inl (6, 1, .int (Int32.ofNat n))) :: (a, .inl (6, 2, .ref ia)) :: (ia, .inr (1, (itW its (wrW s n fl i) i (putv s v)).map Value.long)) :: D0) := by
  have es := yi_nat (i := s) (by omega)
  have ez := yi_nat (i := n) (by omega)
  refine yK.of rfl (yle rfl) (L := [_, _, _, _]) rfl ?_
  refine xt_pure rfl rfl rfl rfl ?_
  refine xt_getf rfl rfl (xmC 120 rfl) ?_
  refine yt_inV (c1 := 0) (s1 := 0) (c2 := 0) (s2 := 0) (fr1 := 0) (lo1 := 0) rfl rfl rfl rfl (xmD 1 rfl) ⟨rfl, rfl, yle rfl, yle rfl, yle rfl, yle rfl⟩ (yle rfl) (L1 := [_]) rfl ⟨yle rfl, yle rfl⟩ ?_
  refine xt_pure rfl rfl rfl rfl ?_
  refine xt_getf rfl rfl (xmD 1 rfl) ?_
  refine xt_pure rfl rfl rfl (st1 := .int 10000 :: _) rfl ?_
  refine yt_ic rfl rfl ?_ ?_
  · intro (hb3_0 : Int32.toInt _ < (10000 : Int))
    refine xt_pure rfl rfl rfl (st1 := .int 0 :: _) rfl ?_
    refine xt_iret rfl rfl rfl rfl ?_
    show yT _ _ _ _ _ _ (_ :: _) _ _ _ _
    refine xt_pure rfl rfl rfl rfl ?_
    refine xt_pure rfl rfl rfl rfl ?_
    refine xt_getf rfl rfl (xmD 0 rfl) ?_
    refine xt_pure rfl rfl rfl rfl ?_
    refine xt_pure rfl rfl rfl rfl ?_
    refine xt_getf rfl rfl (xmD 0 rfl) ?_
    refine xt_getf rfl rfl (xmD 4 rfl) ?_
    refine xt_pure rfl rfl rfl (st1 := .int 3 :: _) rfl ?_
    refine yt_ic rfl rfl ?_ ?_
    · intro (hb17_1 : Int32.toInt _ ≤ (3 : Int))
      refine xt_pure rfl rfl rfl rfl ?_
      refine xt_getf rfl rfl (xmD 0 rfl) ?_
      refine xt_pure rfl rfl rfl rfl ?_
      refine yt_inV (c1 := 0) (s1 := 0) (c2 := 0) (s2 := 0) (fr1 := 0) (lo1 := 0) rfl rfl rfl rfl (xmD 4 rfl) ⟨rfl, rfl, yle rfl, yle rfl, yle rfl, yle rfl⟩ (yle rfl) (L1 := [_, _]) rfl ⟨yle rfl, yle rfl⟩ ?_
      refine xt_pure rfl rfl rfl rfl ?_
      refine yt_if rfl rfl ?_ ?_
      · intro (hb1_2 : Int32.toInt _ < (0 : Int))
        refine xt_pure rfl rfl rfl (st1 := .int 0 :: _) rfl ?_
        refine xt_iret rfl rfl rfl rfl ?_
        show yT _ _ _ _ _ _ (_ :: _) _ _ _ _
        refine xt_pure rfl rfl rfl rfl ?_
        refine xt_pure rfl rfl rfl rfl ?_
        refine xt_pure rfl rfl rfl (st1 := .int 3 :: _) rfl ?_
        refine yt_inV (c1 := 0) (s1 := 0) (c2 := 0) (s2 := 0) (fr1 := 1) (lo1 := 21) rfl rfl rfl rfl (xmD 0 rfl) ⟨rfl, rfl, yle rfl, yle rfl, yle rfl, yle rfl⟩ (yle rfl) (L1 := [_, _]) rfl ⟨yle rfl, yle rfl⟩ ?_
        refine xt_pure rfl rfl rfl rfl ?_
        refine xt_getf rfl rfl (xmC 120 rfl) ?_
        refine xt_pure rfl rfl rfl rfl ?_
        refine yt_inV (c1 := 0) (s1 := 0) (c2 := 0) (s2 := 0) (fr1 := 0) (lo1 := 0) rfl rfl rfl rfl (xmD 1 rfl) ⟨rfl, rfl, yle rfl, yle rfl, yle rfl, yle rfl⟩ (yle rfl) (L1 := [_, _]) rfl ⟨yle rfl, yle rfl⟩ ?_
        refine xt_pure rfl rfl rfl rfl ?_
        refine xt_pure rfl rfl rfl rfl ?_
        refine xt_getf rfl rfl (xmD 1 rfl) ?_
        refine xt_pure rfl rfl rfl (st1 := .int 1 :: _) rfl ?_
        refine xt_pure rfl rfl rfl rfl ?_
        refine xt_putf rfl rfl rfl rfl 1 rfl (D1 := _ :: _ :: _ :: _ :: _ :: _ :: _ :: _ :: _) rfl ?_
        refine xt_pure rfl rfl rfl rfl ?_
        refine xt_pure rfl rfl rfl rfl ?_
        refine xt_putf rfl rfl rfl rfl 2 rfl (D1 := _ :: _ :: _ :: _ :: _ :: _ :: _ :: _ :: _) rfl ?_
        refine xt_pure rfl rfl rfl rfl ?_
        refine xt_pure rfl rfl rfl rfl ?_
        refine xt_getf rfl rfl (xmS 8 rfl hfn) ?_
        refine xt_putf rfl rfl rfl rfl 3 rfl (D1 := _ :: _ :: _ :: _ :: _ :: _ :: _ :: _ :: _) rfl ?_
        refine xt_vret rfl rfl rfl ?_
        show yT _ _ _ _ _ _ (_) _ _ _ _
        refine xt_pure rfl rfl rfl (st1 := .int (-10) :: _) rfl ?_
        refine xt_pure rfl rfl rfl rfl ?_
        refine xt_pure rfl rfl rfl rfl ?_
        refine xt_iret rfl rfl rfl rfl ?_
        show yT _ _ _ _ _ _ (_ :: _) _ _ _ _
        refine xt_iret rfl rfl rfl rfl ?_
        try simp only [xi32_eq, xi64_eq, Int32.toInt_toInt64, Int32.reduceToInt, Int64.reduceToInt, y_m9, y_m1, y_m100, y64_m9, y64_m1, Ne, y_n1x, es, ez] at hb3_0 hb17_1 hb1_2
        have hc : wrW s n fl i = (-13) := by
          unfold wrW
          repeat' split
          all_goals first | rfl | (exfalso; simp only [xi32_eq, y_m1, Ne] at *; omega)
        rw [hc]
        exact ⟨_, _, rfl, by simp [flW, itW]⟩
      · intro (hb1_2 : (0 : Int) ≤ Int32.toInt _)
        refine xt_pure rfl rfl rfl rfl ?_
        refine xt_pure rfl rfl rfl rfl ?_
        refine xt_getf rfl rfl (xmD 5 rfl) ?_
        refine yt_ic rfl rfl ?_ ?_
        · intro (hb5_3 : Int32.toInt _ ≤ Int32.toInt _)
          refine xt_pure rfl rfl rfl (st1 := .int 0 :: _) rfl ?_
          refine xt_iret rfl rfl rfl rfl ?_
          show yT _ _ _ _ _ _ (_ :: _) _ _ _ _
          refine xt_pure rfl rfl rfl rfl ?_
          refine xt_pure rfl rfl rfl rfl ?_
          refine xt_pure rfl rfl rfl (st1 := .int 3 :: _) rfl ?_
          refine yt_inV (c1 := 0) (s1 := 0) (c2 := 0) (s2 := 0) (fr1 := 1) (lo1 := 21) rfl rfl rfl rfl (xmD 0 rfl) ⟨rfl, rfl, yle rfl, yle rfl, yle rfl, yle rfl⟩ (yle rfl) (L1 := [_, _]) rfl ⟨yle rfl, yle rfl⟩ ?_
          refine xt_pure rfl rfl rfl rfl ?_
          refine xt_getf rfl rfl (xmC 120 rfl) ?_
          refine xt_pure rfl rfl rfl rfl ?_
          refine yt_inV (c1 := 0) (s1 := 0) (c2 := 0) (s2 := 0) (fr1 := 0) (lo1 := 0) rfl rfl rfl rfl (xmD 1 rfl) ⟨rfl, rfl, yle rfl, yle rfl, yle rfl, yle rfl⟩ (yle rfl) (L1 := [_, _]) rfl ⟨yle rfl, yle rfl⟩ ?_
          refine xt_pure rfl rfl rfl rfl ?_
          refine xt_pure rfl rfl rfl rfl ?_
          refine xt_getf rfl rfl (xmD 1 rfl) ?_
          refine xt_pure rfl rfl rfl (st1 := .int 1 :: _) rfl ?_
          refine xt_pure rfl rfl rfl rfl ?_
          refine xt_putf rfl rfl rfl rfl 1 rfl (D1 := _ :: _ :: _ :: _ :: _ :: _ :: _ :: _ :: _) rfl ?_
          refine xt_pure rfl rfl rfl rfl ?_
          refine xt_pure rfl rfl rfl rfl ?_
          refine xt_putf rfl rfl rfl rfl 2 rfl (D1 := _ :: _ :: _ :: _ :: _ :: _ :: _ :: _ :: _) rfl ?_
          refine xt_pure rfl rfl rfl rfl ?_
          refine xt_pure rfl rfl rfl rfl ?_
          refine xt_getf rfl rfl (xmS 8 rfl hfn) ?_
          refine xt_putf rfl rfl rfl rfl 3 rfl (D1 := _ :: _ :: _ :: _ :: _ :: _ :: _ :: _ :: _) rfl ?_
          refine xt_vret rfl rfl rfl ?_
          show yT _ _ _ _ _ _ (_) _ _ _ _
          refine xt_pure rfl rfl rfl (st1 := .int (-10) :: _) rfl ?_
          refine xt_pure rfl rfl rfl rfl ?_
          refine xt_pure rfl rfl rfl rfl ?_
          refine xt_iret rfl rfl rfl rfl ?_
          show yT _ _ _ _ _ _ (_ :: _) _ _ _ _
          refine xt_iret rfl rfl rfl rfl ?_
          try simp only [xi32_eq, xi64_eq, Int32.toInt_toInt64, Int32.reduceToInt, Int64.reduceToInt, y_m9, y_m1, y_m100, y64_m9, y64_m1, Ne, y_n1x, es, ez] at hb3_0 hb17_1 hb1_2 hb5_3
          have hc : wrW s n fl i = (-13) := by
            unfold wrW
            repeat' split
            all_goals first | rfl | (exfalso; simp only [xi32_eq, y_m1, Ne] at *; omega)
          rw [hc]
          exact ⟨_, _, rfl, by simp [flW, itW]⟩
        · intro (hb5_3 : Int32.toInt _ < Int32.toInt _)
          refine xt_pure rfl rfl rfl (st1 := .int 1 :: _) rfl ?_
          refine xt_pure rfl rfl rfl rfl ?_
          refine xt_iret rfl rfl rfl rfl ?_
          show yT _ _ _ _ _ _ (_ :: _) _ _ _ _
          refine xt_pure rfl rfl rfl rfl ?_
          refine xt_pure rfl rfl rfl rfl ?_
          refine xt_getf rfl rfl (xmD 0 rfl) ?_
          refine xt_pure rfl rfl rfl rfl ?_
          refine xt_pure rfl rfl rfl rfl ?_
          refine yT.mv 7 rfl (D1 := _ :: _ :: _ :: _ :: _ :: _ :: _ :: _) rfl ?_
          refine yT.mv 7 rfl (D1 := _ :: _ :: _ :: _ :: _ :: _ :: _ :: _) rfl ?_
          refine yT.mv 6 rfl (D1 := _ :: _ :: _ :: _ :: _ :: _ :: _ :: _) rfl ?_
          refine xt_callV rfl rfl rfl rfl (xmD 0 rfl) ⟨rfl, rfl, yle rfl, yle rfl, yle rfl, yle rfl⟩ (yput (by omega) (by omega)) (c2 := 0) (s2 := 0) ⟨yle rfl, yle rfl⟩ ?_
          rintro _ _ ⟨rfl, rfl⟩
          refine xt_pure rfl rfl rfl (st1 := .int 0 :: _) rfl ?_
          refine xt_iret rfl rfl rfl rfl ?_
          try simp only [xi32_eq, xi64_eq, Int32.toInt_toInt64, Int32.reduceToInt, Int64.reduceToInt, y_m9, y_m1, y_m100, y64_m9, y64_m1, Ne, y_n1x, es, ez] at hb3_0 hb17_1 hb1_2 hb5_3
          have hc : wrW s n fl i = 0 := by
            unfold wrW
            repeat' split
            all_goals first | rfl | (exfalso; simp only [xi32_eq, y_m1, Ne] at *; omega)
          rw [hc]
          exact ⟨_, _, rfl, by simp [flW, itW]⟩
    · intro (hb17_1 : (3 : Int) < Int32.toInt _)
      refine xt_pure rfl rfl rfl rfl ?_
      refine xt_pure rfl rfl rfl (st1 := .int 2 :: _) rfl ?_
      refine yt_inV (c1 := 0) (s1 := 0) (c2 := 0) (s2 := 0) (fr1 := 1) (lo1 := 21) rfl rfl rfl rfl (xmD 0 rfl) ⟨rfl, rfl, yle rfl, yle rfl, yle rfl, yle rfl⟩ (yle rfl) (L1 := [_, _]) rfl ⟨yle rfl, yle rfl⟩ ?_
      refine xt_pure rfl rfl rfl rfl ?_
      refine xt_getf rfl rfl (xmC 120 rfl) ?_
      refine xt_pure rfl rfl rfl rfl ?_
      refine yt_inV (c1 := 0) (s1 := 0) (c2 := 0) (s2 := 0) (fr1 := 0) (lo1 := 0) rfl rfl rfl rfl (xmD 1 rfl) ⟨rfl, rfl, yle rfl, yle rfl, yle rfl, yle rfl⟩ (yle rfl) (L1 := [_, _]) rfl ⟨yle rfl, yle rfl⟩ ?_
      refine xt_pure rfl rfl rfl rfl ?_
      refine xt_pure rfl rfl rfl rfl ?_
      refine xt_getf rfl rfl (xmD 1 rfl) ?_
      refine xt_pure rfl rfl rfl (st1 := .int 1 :: _) rfl ?_
      refine xt_pure rfl rfl rfl rfl ?_
      refine xt_putf rfl rfl rfl rfl 1 rfl (D1 := _ :: _ :: _ :: _ :: _ :: _ :: _ :: _ :: _) rfl ?_
      refine xt_pure rfl rfl rfl rfl ?_
      refine xt_pure rfl rfl rfl rfl ?_
      refine xt_putf rfl rfl rfl rfl 2 rfl (D1 := _ :: _ :: _ :: _ :: _ :: _ :: _ :: _ :: _) rfl ?_
      refine xt_pure rfl rfl rfl rfl ?_
      refine xt_pure rfl rfl rfl rfl ?_
      refine xt_getf rfl rfl (xmS 8 rfl hfn) ?_
      refine xt_putf rfl rfl rfl rfl 3 rfl (D1 := _ :: _ :: _ :: _ :: _ :: _ :: _ :: _ :: _) rfl ?_
      refine xt_vret rfl rfl rfl ?_
      show yT _ _ _ _ _ _ (_) _ _ _ _
      refine xt_pure rfl rfl rfl (st1 := .int (-10) :: _) rfl ?_
      refine xt_pure rfl rfl rfl rfl ?_
      refine xt_pure rfl rfl rfl rfl ?_
      refine xt_iret rfl rfl rfl rfl ?_
      show yT _ _ _ _ _ _ (_ :: _) _ _ _ _
      refine xt_iret rfl rfl rfl rfl ?_
      try simp only [xi32_eq, xi64_eq, Int32.toInt_toInt64, Int32.reduceToInt, Int64.reduceToInt, y_m9, y_m1, y_m100, y64_m9, y64_m1, Ne, y_n1x, es, ez] at hb3_0 hb17_1
      have hc : wrW s n fl i = (-12) := by
        unfold wrW
        repeat' split
        all_goals first | rfl | (exfalso; simp only [xi32_eq, y_m1, Ne] at *; omega)
      rw [hc]
      exact ⟨_, _, rfl, by simp [flW, itW]⟩
  · intro (hb3_0 : (10000 : Int) ≤ Int32.toInt _)
    refine xt_pure rfl rfl rfl (st1 := .int 1 :: _) rfl ?_
    refine xt_pure rfl rfl rfl rfl ?_
    refine xt_iret rfl rfl rfl rfl ?_
    show yT _ _ _ _ _ _ (_ :: _) _ _ _ _
    refine xt_pure rfl rfl rfl rfl ?_
    refine xt_pure rfl rfl rfl (st1 := .int (-3) :: _) rfl ?_
    refine xt_iret rfl rfl rfl rfl ?_
    try simp only [xi32_eq, xi64_eq, Int32.toInt_toInt64, Int32.reduceToInt, Int64.reduceToInt, y_m9, y_m1, y_m100, y64_m9, y64_m1, Ne, y_n1x, es, ez] at hb3_0
    have hc : wrW s n fl i = (-3) := by
      unfold wrW
      repeat' split
      all_goals first | rfl | (exfalso; simp only [xi32_eq, y_m1, Ne] at *; omega)
    rw [hc]
    exact ⟨_, _, rfl, by simp [flW, itW]⟩
