/-! OBJECTS MADE: Arrays.fill, new Obj, put; THE DESK of the class -/
theorem yrep_set {α : Type} (i : Nat) (v x : α) (r : List α) : (List.replicate i v ++ x :: r).set i v = List.replicate (i + 1) v ++ r := by
  have h := yset_at (List.replicate i v) r x v
  rw [List.length_replicate] at h
  rw [h, List.replicate_succ']
theorem yi_toNat {i : Nat} (h : i < 2147483648) : (Int32.ofNat i).toInt.toNat = i := by rw [yi_nat h]; rfl
theorem yfillI_loop {X : List Int32} {D0 : List xE} {fr lo c s k n : Nat} {v : Int32} {Q : Option Value → List xE → Prop} (hn : n < 2147483648) (hQ : Q none ((k, .inr (0, (List.replicate n v).map Value.int)) :: D0)) : ∀ (m i : Nat) (r : List Int32), i + m = n → r.length = m → yT X fr lo 18 5 [some (.ref k), some (.int v), some (.int (Int32.ofNat i)), some (.int (Int32.ofNat n))] [] ((k, .inr (0, (List.replicate i v ++ r).map Value.int)) :: D0) c s Q := by
  intro m
  induction m with
  | zero =>
    intro i r him hr
    obtain rfl : i = n := by omega
    obtain rfl : r = [] := List.length_eq_zero_iff.mp hr
    refine xt_pure rfl rfl rfl rfl ?_
    refine xt_pure rfl rfl rfl rfl ?_
    refine yt_ic rfl rfl ?_ ?_
    · intro (h7 : Int32.toInt _ ≤ Int32.toInt _)
      refine xt_vret rfl rfl rfl ?_
      rw [List.append_nil]
      exact hQ
    · intro (h7 : Int32.toInt _ < Int32.toInt _)
      exact absurd h7 (by omega)
  | succ m ih =>
    intro i r him hr
    cases r with
    | nil => simp at hr
    | cons x r =>
      have e1 := yi_nat (i := i) (by omega)
      have e2 := yi_nat (i := n) (by omega)
      refine xt_pure rfl rfl rfl rfl ?_
      refine xt_pure rfl rfl rfl rfl ?_
      refine yt_ic rfl rfl ?_ ?_
      · intro (h7 : Int32.toInt _ ≤ Int32.toInt _)
        exact absurd h7 (by omega)
      · intro (h7 : Int32.toInt _ < Int32.toInt _)
        refine xt_pure rfl rfl rfl rfl ?_
        refine xt_pure rfl rfl rfl rfl ?_
        refine xt_pure rfl rfl rfl rfl ?_
        refine yt_ist rfl rfl 0 rfl ⟨by first | omega | (simp only [List.length_append, List.length_set, List.length_map, List.length_replicate, List.length_cons, List.length_nil, Int32.reduceToInt]; omega), by first | omega | (simp only [List.length_append, List.length_set, List.length_map, List.length_replicate, List.length_cons, List.length_nil, Int32.reduceToInt]; omega)⟩ (D1 := _ :: _) rfl ?_
        refine xt_pure rfl rfl rfl (L1 := [_, _, some (.int (_ + 1)), _]) rfl ?_
        rw [yi_add1, yi_toNat (by omega), yrep_set]
        refine xt_pure rfl rfl rfl rfl ?_
        exact ih (i + 1) r (by omega) (by simpa using hr)
theorem yfillI {X : List Int32} {D0 : List xE} {k : Nat} {v : Int32} {l : List Int32} (hl : l.length < 2147483648) : yK X 0 0 18 [.ref k, .int v] ((k, .inr (0, l.map Value.int)) :: D0) 0 0 (fun w D => w = none ∧ D = (k, .inr (0, (List.replicate l.length v).map Value.int)) :: D0) := by
  refine yK.of rfl (yle rfl) (L := [_, _, _, _]) rfl ?_
  refine xt_pure rfl rfl rfl (st1 := .int 0 :: _) rfl ?_
  refine xt_pure rfl rfl rfl (L1 := [_, _, _, _]) rfl ?_
  refine xt_pure rfl rfl rfl rfl ?_
  refine xt_alen rfl rfl (xmD 0 rfl) rfl ?_
  rw [List.length_map]
  refine xt_pure rfl rfl rfl (L1 := [_, _, _, _]) rfl ?_
  exact yfillI_loop (by omega) ⟨rfl, rfl⟩ l.length 0 l (by omega) rfl

theorem yfillL_loop {X : List Int32} {D0 : List xE} {fr lo c s k n : Nat} {v : Int64} {Q : Option Value → List xE → Prop} (hn : n < 2147483648) (hQ : Q none ((k, .inr (1, (List.replicate n v).map Value.long)) :: D0)) : ∀ (m i : Nat) (r : List Int64), i + m = n → r.length = m → yT X fr lo 21 5 [some (.ref k), some (.long v), none, some (.int (Int32.ofNat i)), some (.int (Int32.ofNat n))] [] ((k, .inr (1, (List.replicate i v ++ r).map Value.long)) :: D0) c s Q := by
  intro m
  induction m with
  | zero =>
    intro i r him hr
    obtain rfl : i = n := by omega
    obtain rfl : r = [] := List.length_eq_zero_iff.mp hr
    refine xt_pure rfl rfl rfl rfl ?_
    refine xt_pure rfl rfl rfl rfl ?_
    refine yt_ic rfl rfl ?_ ?_
    · intro (h7 : Int32.toInt _ ≤ Int32.toInt _)
      refine xt_vret rfl rfl rfl ?_
      rw [List.append_nil]
      exact hQ
    · intro (h7 : Int32.toInt _ < Int32.toInt _)
      exact absurd h7 (by omega)
  | succ m ih =>
    intro i r him hr
    cases r with
    | nil => simp at hr
    | cons x r =>
      have e1 := yi_nat (i := i) (by omega)
      have e2 := yi_nat (i := n) (by omega)
      refine xt_pure rfl rfl rfl rfl ?_
      refine xt_pure rfl rfl rfl rfl ?_
      refine yt_ic rfl rfl ?_ ?_
      · intro (h7 : Int32.toInt _ ≤ Int32.toInt _)
        exact absurd h7 (by omega)
      · intro (h7 : Int32.toInt _ < Int32.toInt _)
        refine xt_pure rfl rfl rfl rfl ?_
        refine xt_pure rfl rfl rfl rfl ?_
        refine xt_pure rfl rfl rfl rfl ?_
        refine yt_lst rfl rfl 0 rfl ⟨by first | omega | (simp only [List.length_append, List.length_set, List.length_map, List.length_replicate, List.length_cons, List.length_nil, Int32.reduceToInt]; omega), by first | omega | (simp only [List.length_append, List.length_set, List.length_map, List.length_replicate, List.length_cons, List.length_nil, Int32.reduceToInt]; omega)⟩ (D1 := _ :: _) rfl ?_
        refine xt_pure rfl rfl rfl (L1 := [_, _, _, some (.int (_ + 1)), _]) rfl ?_
        rw [yi_add1, yi_toNat (by omega), yrep_set]
        refine xt_pure rfl rfl rfl rfl ?_
        exact ih (i + 1) r (by omega) (by simpa using hr)
theorem yfillL {X : List Int32} {D0 : List xE} {k : Nat} {v : Int64} {l : List Int64} (hl : l.length < 2147483648) : yK X 0 0 21 [.ref k, .long v] ((k, .inr (1, l.map Value.long)) :: D0) 0 0 (fun w D => w = none ∧ D = (k, .inr (1, (List.replicate l.length v).map Value.long)) :: D0) := by
  refine yK.of rfl (yle rfl) (L := [_, _, _, _, _]) rfl ?_
  refine xt_pure rfl rfl rfl (st1 := .int 0 :: _) rfl ?_
  refine xt_pure rfl rfl rfl (L1 := [_, _, _, _, _]) rfl ?_
  refine xt_pure rfl rfl rfl rfl ?_
  refine xt_alen rfl rfl (xmD 0 rfl) rfl ?_
  rw [List.length_map]
  refine xt_pure rfl rfl rfl (L1 := [_, _, _, _, _]) rfl ?_
  exact yfillL_loop (by omega) ⟨rfl, rfl⟩ l.length 0 l (by omega) rfl

/-- what an item of a sort holds of a number -/
def putv (s : Nat) (v : Int64) : Int64 := if s = 0 then (if v = 0 then 0 else 1) else if s = 1 then v.toInt32.toInt64 else if s = 3 then v &&& 65535 else v
theorem yput {X : List Int32} {D0 : List xE} {a ia s : Nat} {its : List Int64} {i : Int32} {v : Int64} (hs : s ≤ 7) (hi : 0 ≤ i.toInt ∧ i.toInt < its.length) (h0 : ((a, .inl (6, 0, .int (Int32.ofNat s))) : xE) ∈ D0) (h2 : ((a, .inl (6, 2, .ref ia)) : xE) ∈ D0) : yK X 0 0 96 [.ref a, .int i, .long v] ((ia, .inr (1, its.map Value.long)) :: D0) 0 0 (fun w D => w = none ∧ D = (ia, .inr (1, (its.set i.toInt.toNat (putv s v)).map Value.long)) :: D0) := by
  have es := yi_nat (i := s) (by omega)
  refine yK.of rfl (yle rfl) (L := [_, _, _, _]) rfl ?_
  refine xt_pure rfl rfl rfl rfl ?_
  refine xt_getf rfl rfl (xmS 1 rfl h0) ?_
  by_cases hw0_0 : (Int32.ofNat s) = 0
  · rw [hw0_0]
    refine xt_pure rfl rfl rfl rfl ?_
    refine xt_pure rfl rfl rfl rfl ?_
    refine xt_getf rfl rfl (xmS 1 rfl h2) ?_
    refine xt_pure rfl rfl rfl rfl ?_
    refine xt_pure rfl rfl rfl rfl ?_
    refine xt_pure rfl rfl rfl (st1 := .long 0 :: _) rfl ?_
    refine yt_lc rfl rfl rfl ?_ ?_
    · intro (h8 : (_ : Int64) = 0)
      have h8z : Int64.toInt _ = (0 : Int) := congrArg Int64.toInt h8
      refine xt_pure rfl rfl rfl (st1 := .long 0 :: _) rfl ?_
      refine yt_lst rfl rfl 0 rfl ⟨by first | omega | (simp only [List.length_append, List.length_set, List.length_map, List.length_replicate, List.length_cons, List.length_nil, Int32.reduceToInt]; omega), by first | omega | (simp only [List.length_append, List.length_set, List.length_map, List.length_replicate, List.length_cons, List.length_nil, Int32.reduceToInt]; omega)⟩ (D1 := _ :: _) rfl ?_
      refine xt_pure rfl rfl rfl rfl ?_
      refine xt_vret rfl rfl rfl ?_
      refine ⟨rfl, ?_⟩
      try rw [xi32_eq, es] at hw0_0
      try rw [xi32_eq, es] at hw0_1
      try rw [xi32_eq, es] at hw0_2
      try rw [xi32_eq, es] at hw0_3
      try simp only [Int32.reduceToInt] at hw0_0 hw0_1 hw0_2 hw0_3
      try simp only [Int32.reduceToInt] at hw0_0 hw0_1 hw0_2
      try simp only [Int32.reduceToInt] at hw0_0 hw0_1
      try simp only [Int32.reduceToInt] at hw0_0
      first | rw [putv, if_pos (by omega), if_pos h8] | rw [putv, if_pos (by omega), if_neg h8] | rw [putv, if_neg (by omega), if_pos (by omega)] | rw [putv, if_neg (by omega), if_neg (by omega), if_pos (by omega)] | rw [putv, if_neg (by omega), if_neg (by omega), if_neg (by omega)]
      try rfl
    · intro (h8 : (_ : Int64) ≠ 0)
      have h8z : ¬ Int64.toInt _ = (0 : Int) := fun h => h8 (Int64.toInt_inj.mp h)
      refine xt_pure rfl rfl rfl (st1 := .long 1 :: _) rfl ?_
      refine xt_pure rfl rfl rfl rfl ?_
      refine yt_lst rfl rfl 0 rfl ⟨by first | omega | (simp only [List.length_append, List.length_set, List.length_map, List.length_replicate, List.length_cons, List.length_nil, Int32.reduceToInt]; omega), by first | omega | (simp only [List.length_append, List.length_set, List.length_map, List.length_replicate, List.length_cons, List.length_nil, Int32.reduceToInt]; omega)⟩ (D1 := _ :: _) rfl ?_
      refine xt_pure rfl rfl rfl rfl ?_
      refine xt_vret rfl rfl rfl ?_
      refine ⟨rfl, ?_⟩
      try rw [xi32_eq, es] at hw0_0
      try rw [xi32_eq, es] at hw0_1
      try rw [xi32_eq, es] at hw0_2
      try rw [xi32_eq, es] at hw0_3
      try simp only [Int32.reduceToInt] at hw0_0 hw0_1 hw0_2 hw0_3
      try simp only [Int32.reduceToInt] at hw0_0 hw0_1 hw0_2
      try simp only [Int32.reduceToInt] at hw0_0 hw0_1
      try simp only [Int32.reduceToInt] at hw0_0
      first | rw [putv, if_pos (by omega), if_pos h8] | rw [putv, if_pos (by omega), if_neg h8] | rw [putv, if_neg (by omega), if_pos (by omega)] | rw [putv, if_neg (by omega), if_neg (by omega), if_pos (by omega)] | rw [putv, if_neg (by omega), if_neg (by omega), if_neg (by omega)]
      try rfl
  by_cases hw0_1 : (Int32.ofNat s) = 1
  · rw [hw0_1]
    refine xt_pure rfl rfl rfl rfl ?_
    refine xt_pure rfl rfl rfl rfl ?_
    refine xt_getf rfl rfl (xmS 1 rfl h2) ?_
    refine xt_pure rfl rfl rfl rfl ?_
    refine xt_pure rfl rfl rfl rfl ?_
    refine xt_pure rfl rfl rfl rfl ?_
    refine xt_pure rfl rfl rfl rfl ?_
    refine yt_lst rfl rfl 0 rfl ⟨by first | omega | (simp only [List.length_append, List.length_set, List.length_map, List.length_replicate, List.length_cons, List.length_nil, Int32.reduceToInt]; omega), by first | omega | (simp only [List.length_append, List.length_set, List.length_map, List.length_replicate, List.length_cons, List.length_nil, Int32.reduceToInt]; omega)⟩ (D1 := _ :: _) rfl ?_
    refine xt_pure rfl rfl rfl rfl ?_
    refine xt_vret rfl rfl rfl ?_
    refine ⟨rfl, ?_⟩
    try rw [xi32_eq, es] at hw0_0
    try rw [xi32_eq, es] at hw0_1
    try rw [xi32_eq, es] at hw0_2
    try rw [xi32_eq, es] at hw0_3
    try simp only [Int32.reduceToInt] at hw0_0 hw0_1 hw0_2 hw0_3
    try simp only [Int32.reduceToInt] at hw0_0 hw0_1 hw0_2
    try simp only [Int32.reduceToInt] at hw0_0 hw0_1
    try simp only [Int32.reduceToInt] at hw0_0
    first | rw [putv, if_pos (by omega), if_pos h8] | rw [putv, if_pos (by omega), if_neg h8] | rw [putv, if_neg (by omega), if_pos (by omega)] | rw [putv, if_neg (by omega), if_neg (by omega), if_pos (by omega)] | rw [putv, if_neg (by omega), if_neg (by omega), if_neg (by omega)]
    try rfl
  by_cases hw0_2 : (Int32.ofNat s) = 2
  · rw [hw0_2]
    refine xt_pure rfl rfl rfl rfl ?_
    refine xt_pure rfl rfl rfl rfl ?_
    refine xt_getf rfl rfl (xmS 1 rfl h2) ?_
    refine xt_pure rfl rfl rfl rfl ?_
    refine xt_pure rfl rfl rfl rfl ?_
    refine yt_lst rfl rfl 0 rfl ⟨by first | omega | (simp only [List.length_append, List.length_set, List.length_map, List.length_replicate, List.length_cons, List.length_nil, Int32.reduceToInt]; omega), by first | omega | (simp only [List.length_append, List.length_set, List.length_map, List.length_replicate, List.length_cons, List.length_nil, Int32.reduceToInt]; omega)⟩ (D1 := _ :: _) rfl ?_
    refine xt_vret rfl rfl rfl ?_
    refine ⟨rfl, ?_⟩
    try rw [xi32_eq, es] at hw0_0
    try rw [xi32_eq, es] at hw0_1
    try rw [xi32_eq, es] at hw0_2
    try rw [xi32_eq, es] at hw0_3
    try simp only [Int32.reduceToInt] at hw0_0 hw0_1 hw0_2 hw0_3
    try simp only [Int32.reduceToInt] at hw0_0 hw0_1 hw0_2
    try simp only [Int32.reduceToInt] at hw0_0 hw0_1
    try simp only [Int32.reduceToInt] at hw0_0
    first | rw [putv, if_pos (by omega), if_pos h8] | rw [putv, if_pos (by omega), if_neg h8] | rw [putv, if_neg (by omega), if_pos (by omega)] | rw [putv, if_neg (by omega), if_neg (by omega), if_pos (by omega)] | rw [putv, if_neg (by omega), if_neg (by omega), if_neg (by omega)]
    try rfl
  by_cases hw0_3 : (Int32.ofNat s) = 3
  · rw [hw0_3]
    refine xt_pure rfl rfl rfl rfl ?_
    refine xt_pure rfl rfl rfl rfl ?_
    refine xt_getf rfl rfl (xmS 1 rfl h2) ?_
    refine xt_pure rfl rfl rfl rfl ?_
    refine xt_pure rfl rfl rfl rfl ?_
    refine xt_pure rfl rfl rfl (st1 := .long 65535 :: _) rfl ?_
    refine xt_pure rfl rfl rfl rfl ?_
    refine yt_lst rfl rfl 0 rfl ⟨by first | omega | (simp only [List.length_append, List.length_set, List.length_map, List.length_replicate, List.length_cons, List.length_nil, Int32.reduceToInt]; omega), by first | omega | (simp only [List.length_append, List.length_set, List.length_map, List.length_replicate, List.length_cons, List.length_nil, Int32.reduceToInt]; omega)⟩ (D1 := _ :: _) rfl ?_
    refine xt_pure rfl rfl rfl rfl ?_
    refine xt_vret rfl rfl rfl ?_
    refine ⟨rfl, ?_⟩
    try rw [xi32_eq, es] at hw0_0
    try rw [xi32_eq, es] at hw0_1
    try rw [xi32_eq, es] at hw0_2
    try rw [xi32_eq, es] at hw0_3
    try simp only [Int32.reduceToInt] at hw0_0 hw0_1 hw0_2 hw0_3
    try simp only [Int32.reduceToInt] at hw0_0 hw0_1 hw0_2
    try simp only [Int32.reduceToInt] at hw0_0 hw0_1
    try simp only [Int32.reduceToInt] at hw0_0
    first | rw [putv, if_pos (by omega), if_pos h8] | rw [putv, if_pos (by omega), if_neg h8] | rw [putv, if_neg (by omega), if_pos (by omega)] | rw [putv, if_neg (by omega), if_neg (by omega), if_pos (by omega)] | rw [putv, if_neg (by omega), if_neg (by omega), if_neg (by omega)]
    try rfl
  have hx0_0 : ¬ (Int32.ofNat s).toInt = 0 := fun h => hw0_0 (by rw [xi32_eq, h]; rfl)
  have hx0_1 : ¬ (Int32.ofNat s).toInt = 1 := fun h => hw0_1 (by rw [xi32_eq, h]; rfl)
  have hx0_2 : ¬ (Int32.ofNat s).toInt = 2 := fun h => hw0_2 (by rw [xi32_eq, h]; rfl)
  have hx0_3 : ¬ (Int32.ofNat s).toInt = 3 := fun h => hw0_3 (by rw [xi32_eq, h]; rfl)
  refine yt_tsd rfl rfl (by omega) rfl ?_
  refine xt_pure rfl rfl rfl rfl ?_
  refine xt_getf rfl rfl (xmS 1 rfl h2) ?_
  refine xt_pure rfl rfl rfl rfl ?_
  refine xt_pure rfl rfl rfl rfl ?_
  refine yt_lst rfl rfl 0 rfl ⟨by first | omega | (simp only [List.length_append, List.length_set, List.length_map, List.length_replicate, List.length_cons, List.length_nil, Int32.reduceToInt]; omega), by first | omega | (simp only [List.length_append, List.length_set, List.length_map, List.length_replicate, List.length_cons, List.length_nil, Int32.reduceToInt]; omega)⟩ (D1 := _ :: _) rfl ?_
  refine xt_vret rfl rfl rfl ?_
  refine ⟨rfl, ?_⟩
  try rw [xi32_eq, es] at hw0_0
  try rw [xi32_eq, es] at hw0_1
  try rw [xi32_eq, es] at hw0_2
  try rw [xi32_eq, es] at hw0_3
  try simp only [Int32.reduceToInt] at hw0_0 hw0_1 hw0_2 hw0_3
  try simp only [Int32.reduceToInt] at hw0_0 hw0_1 hw0_2
  try simp only [Int32.reduceToInt] at hw0_0 hw0_1
  try simp only [Int32.reduceToInt] at hw0_0
  first | rw [putv, if_pos (by omega), if_pos h8] | rw [putv, if_pos (by omega), if_neg h8] | rw [putv, if_neg (by omega), if_pos (by omega)] | rw [putv, if_neg (by omega), if_neg (by omega), if_pos (by omega)] | rw [putv, if_neg (by omega), if_neg (by omega), if_neg (by omega)]
  try rfl
def newI (s n : Nat) : List Int64 := if s = 4 then [] else List.replicate n (if s = 5 ∨ s = 6 then -9 else 0)
def newR (s n : Nat) : List Value := if s = 4 then List.replicate n .null else []
theorem yObj {X : List Int32} {D0 : List xE} {a s n : Nat} {u0 u1 : Int32} {u2 u3 : Value} (hs : s ≤ 7) (hn : n ≤ 12) : yK X 1 100 20 [.ref a, .int (Int32.ofNat s), .int (Int32.ofNat n)] ((a, .inl (6, 0, .int u0)) :: (a, .inl (6, 1, .int u1)) :: (a, .inl (6, 2, u2)) :: (a, .inl (6, 3, u3)) :: D0) 2 24 (fun w D => ∃ ia ra, w = none ∧ D = (ra, .inr (4, newR s n)) :: (ia, .inr (1, (newI s n).map Value.long)) :: (a, .inl (6, 0, .int (Int32.ofNat s))) :: (a, .inl (6, 1, .int (Int32.ofNat n))) :: (a, .inl (6, 2, .ref ia)) :: (a, .inl (6, 3, .ref ra)) :: D0) := by
  have es := yi_nat (i := s) (by omega)
  have e2 := yi_nat (i := n) (by omega)
  refine yK.of rfl (yle rfl) (L := [_, _, _, _]) rfl ?_
  refine xt_pure rfl rfl rfl rfl ?_
  refine xt_obji rfl rfl rfl ⟨yle rfl, yle rfl, yle rfl⟩ ?_
  refine xt_pure rfl rfl rfl rfl ?_
  refine xt_pure rfl rfl rfl (st1 := .int 0 :: _) rfl ?_
  refine xt_max rfl rfl rfl ⟨yle rfl, yle rfl, yle rfl⟩ ?_
  rw [show (if Int32.ofNat n < 0 then (0 : Int32) else Int32.ofNat n) = Int32.ofNat n from if_neg (yi_nn (by omega))]
  refine xt_pure rfl rfl rfl (L1 := [_, _, _, _]) rfl ?_
  refine xt_pure rfl rfl rfl rfl ?_
  refine xt_pure rfl rfl rfl rfl ?_
  refine xt_putf rfl rfl rfl rfl 0 rfl (D1 := _ :: _ :: _ :: _ :: _) rfl ?_
  refine xt_pure rfl rfl rfl rfl ?_
  refine xt_pure rfl rfl rfl rfl ?_
  refine xt_putf rfl rfl rfl rfl 1 rfl (D1 := _ :: _ :: _ :: _ :: _) rfl ?_
  refine xt_pure rfl rfl rfl rfl ?_
  refine xt_pure rfl rfl rfl rfl ?_
  refine xt_pure rfl rfl rfl (st1 := .int 4 :: _) rfl ?_
  refine yt_ic rfl rfl ?_ ?_
  · intro (h15 : (_ : Int32) ≠ 4)
    have h15z : ¬ Int32.toInt _ = (4 : Int) := fun h => h15 (Int32.toInt_inj.mp h)
    refine xt_pure rfl rfl rfl rfl ?_
    refine yt_newJ rfl rfl ⟨by omega, by omega⟩ (c1 := 1) (s1 := 12) (yle rfl) (by omega) ?_
    intro ia
    refine xt_putf rfl rfl rfl rfl 3 rfl (D1 := _ :: _ :: _ :: _ :: _ :: _) rfl ?_
    refine xt_pure rfl rfl rfl rfl ?_
    refine xt_pure rfl rfl rfl rfl ?_
    refine xt_pure rfl rfl rfl (st1 := .int 4 :: _) rfl ?_
    refine yt_ic rfl rfl ?_ ?_
    · intro (h24 : (_ : Int32) ≠ 4)
      have h24z : ¬ Int32.toInt _ = (4 : Int) := fun h => h24 (Int32.toInt_inj.mp h)
      refine xt_pure rfl rfl rfl (st1 := .int 0 :: _) rfl ?_
      refine yt_newA rfl rfl ⟨by decide, by decide⟩ (c1 := 0) (s1 := 0) (yle rfl) (yle rfl) ?_
      intro ra
      refine xt_putf rfl rfl rfl rfl 5 rfl (D1 := _ :: _ :: _ :: _ :: _ :: _ :: _) rfl ?_
      refine xt_pure rfl rfl rfl rfl ?_
      refine xt_pure rfl rfl rfl (st1 := .int 5 :: _) rfl ?_
      refine yt_ic rfl rfl ?_ ?_
      · intro (hb32_4 : (_ : Int32) = 5)
        have hb32_4z : Int32.toInt _ = (5 : Int) := congrArg Int32.toInt hb32_4
        refine xt_pure rfl rfl rfl rfl ?_
        refine xt_getf rfl rfl (xmD 4 rfl) ?_
        refine xt_pure rfl rfl rfl (st1 := .long (-9) :: _) rfl ?_
        refine yT.mv 1 rfl (D1 := _ :: _ :: _ :: _ :: _ :: _) rfl ?_
        refine xt_callS rfl rfl (by decide) rfl ⟨rfl, yle rfl, yle rfl, yle rfl, yle rfl⟩ (yfillL (by rw [List.length_replicate]; first | omega | decide)) (c2 := 0) (s2 := 0) ⟨yle rfl, yle rfl⟩ ?_
        rintro _ _ ⟨rfl, rfl⟩
        refine yT.mv 1 rfl (D1 := _ :: _ :: _ :: _ :: _ :: _) rfl ?_
        refine xt_vret rfl rfl rfl ?_
        refine ⟨ia, ra, rfl, ?_⟩
        simp only [xi32_eq, es, Int32.reduceToInt, Ne] at h15 h24 hb32_4
        unfold newR newI
        first | rw [if_pos (by omega), if_pos (by omega)] | rw [if_neg (by omega), if_neg (by omega)]
        try rw [if_pos (by omega)]
        try rw [if_neg (by omega)]
        simp [e2]
        try exact List.Perm.refl _
      · intro (hb32_4 : (_ : Int32) ≠ 5)
        have hb32_4z : ¬ Int32.toInt _ = (5 : Int) := fun h => hb32_4 (Int32.toInt_inj.mp h)
        refine xt_pure rfl rfl rfl rfl ?_
        refine xt_pure rfl rfl rfl (st1 := .int 6 :: _) rfl ?_
        refine yt_ic rfl rfl ?_ ?_
        · intro (hb35_5 : (_ : Int32) ≠ 6)
          have hb35_5z : ¬ Int32.toInt _ = (6 : Int) := fun h => hb35_5 (Int32.toInt_inj.mp h)
          refine xt_vret rfl rfl rfl ?_
          refine ⟨ia, ra, rfl, ?_⟩
          simp only [xi32_eq, es, Int32.reduceToInt, Ne] at h15 h24 hb32_4 hb35_5
          unfold newR newI
          first | rw [if_pos (by omega), if_pos (by omega)] | rw [if_neg (by omega), if_neg (by omega)]
          try rw [if_pos (by omega)]
          try rw [if_neg (by omega)]
          simp [e2]
          try exact List.Perm.refl _
        · intro (hb35_5 : (_ : Int32) = 6)
          have hb35_5z : Int32.toInt _ = (6 : Int) := congrArg Int32.toInt hb35_5
          refine xt_pure rfl rfl rfl rfl ?_
          refine xt_getf rfl rfl (xmD 4 rfl) ?_
          refine xt_pure rfl rfl rfl (st1 := .long (-9) :: _) rfl ?_
          refine yT.mv 1 rfl (D1 := _ :: _ :: _ :: _ :: _ :: _) rfl ?_
          refine xt_callS rfl rfl (by decide) rfl ⟨rfl, yle rfl, yle rfl, yle rfl, yle rfl⟩ (yfillL (by rw [List.length_replicate]; first | omega | decide)) (c2 := 0) (s2 := 0) ⟨yle rfl, yle rfl⟩ ?_
          rintro _ _ ⟨rfl, rfl⟩
          refine yT.mv 1 rfl (D1 := _ :: _ :: _ :: _ :: _ :: _) rfl ?_
          refine xt_vret rfl rfl rfl ?_
          refine ⟨ia, ra, rfl, ?_⟩
          simp only [xi32_eq, es, Int32.reduceToInt, Ne] at h15 h24 hb32_4 hb35_5
          unfold newR newI
          first | rw [if_pos (by omega), if_pos (by omega)] | rw [if_neg (by omega), if_neg (by omega)]
          try rw [if_pos (by omega)]
          try rw [if_neg (by omega)]
          simp [e2]
          try exact List.Perm.refl _
    · intro (h24 : (_ : Int32) = 4)
      have h24z : Int32.toInt _ = (4 : Int) := congrArg Int32.toInt h24
      exact absurd h24 h15
  · intro (h15 : (_ : Int32) = 4)
    have h15z : Int32.toInt _ = (4 : Int) := congrArg Int32.toInt h15
    refine xt_pure rfl rfl rfl (st1 := .int 0 :: _) rfl ?_
    refine xt_pure rfl rfl rfl rfl ?_
    refine yt_newJ rfl rfl ⟨by decide, by decide⟩ (c1 := 1) (s1 := 12) (yle rfl) (yle rfl) ?_
    intro ia
    refine xt_putf rfl rfl rfl rfl 3 rfl (D1 := _ :: _ :: _ :: _ :: _ :: _) rfl ?_
    refine xt_pure rfl rfl rfl rfl ?_
    refine xt_pure rfl rfl rfl rfl ?_
    refine xt_pure rfl rfl rfl (st1 := .int 4 :: _) rfl ?_
    refine yt_ic rfl rfl ?_ ?_
    · intro (h24 : (_ : Int32) ≠ 4)
      have h24z : ¬ Int32.toInt _ = (4 : Int) := fun h => h24 (Int32.toInt_inj.mp h)
      exact absurd h15 h24
    · intro (h24 : (_ : Int32) = 4)
      have h24z : Int32.toInt _ = (4 : Int) := congrArg Int32.toInt h24
      refine xt_pure rfl rfl rfl rfl ?_
      refine xt_pure rfl rfl rfl rfl ?_
      refine yt_newA rfl rfl ⟨by omega, by omega⟩ (c1 := 0) (s1 := 0) (yle rfl) (by omega) ?_
      intro ra
      refine xt_putf rfl rfl rfl rfl 5 rfl (D1 := _ :: _ :: _ :: _ :: _ :: _ :: _) rfl ?_
      refine xt_pure rfl rfl rfl rfl ?_
      refine xt_pure rfl rfl rfl (st1 := .int 5 :: _) rfl ?_
      refine yt_ic rfl rfl ?_ ?_
      · intro (hb32_9 : (_ : Int32) = 5)
        have hb32_9z : Int32.toInt _ = (5 : Int) := congrArg Int32.toInt hb32_9
        refine xt_pure rfl rfl rfl rfl ?_
        refine xt_getf rfl rfl (xmD 4 rfl) ?_
        refine xt_pure rfl rfl rfl (st1 := .long (-9) :: _) rfl ?_
        refine yT.mv 1 rfl (D1 := _ :: _ :: _ :: _ :: _ :: _) rfl ?_
        refine xt_callS rfl rfl (by decide) rfl ⟨rfl, yle rfl, yle rfl, yle rfl, yle rfl⟩ (yfillL (by rw [List.length_replicate]; first | omega | decide)) (c2 := 0) (s2 := 0) ⟨yle rfl, yle rfl⟩ ?_
        rintro _ _ ⟨rfl, rfl⟩
        refine yT.mv 1 rfl (D1 := _ :: _ :: _ :: _ :: _ :: _) rfl ?_
        refine xt_vret rfl rfl rfl ?_
        refine ⟨ia, ra, rfl, ?_⟩
        simp only [xi32_eq, es, Int32.reduceToInt, Ne] at h15 h24 hb32_9
        unfold newR newI
        first | rw [if_pos (by omega), if_pos (by omega)] | rw [if_neg (by omega), if_neg (by omega)]
        try rw [if_pos (by omega)]
        try rw [if_neg (by omega)]
        simp [e2]
        try exact List.Perm.refl _
      · intro (hb32_9 : (_ : Int32) ≠ 5)
        have hb32_9z : ¬ Int32.toInt _ = (5 : Int) := fun h => hb32_9 (Int32.toInt_inj.mp h)
        refine xt_pure rfl rfl rfl rfl ?_
        refine xt_pure rfl rfl rfl (st1 := .int 6 :: _) rfl ?_
        refine yt_ic rfl rfl ?_ ?_
        · intro (hb35_10 : (_ : Int32) ≠ 6)
          have hb35_10z : ¬ Int32.toInt _ = (6 : Int) := fun h => hb35_10 (Int32.toInt_inj.mp h)
          refine xt_vret rfl rfl rfl ?_
          refine ⟨ia, ra, rfl, ?_⟩
          simp only [xi32_eq, es, Int32.reduceToInt, Ne] at h15 h24 hb32_9 hb35_10
          unfold newR newI
          first | rw [if_pos (by omega), if_pos (by omega)] | rw [if_neg (by omega), if_neg (by omega)]
          try rw [if_pos (by omega)]
          try rw [if_neg (by omega)]
          simp [e2]
          try exact List.Perm.refl _
        · intro (hb35_10 : (_ : Int32) = 6)
          have hb35_10z : Int32.toInt _ = (6 : Int) := congrArg Int32.toInt hb35_10
          refine xt_pure rfl rfl rfl rfl ?_
          refine xt_getf rfl rfl (xmD 4 rfl) ?_
          refine xt_pure rfl rfl rfl (st1 := .long (-9) :: _) rfl ?_
          refine yT.mv 1 rfl (D1 := _ :: _ :: _ :: _ :: _ :: _) rfl ?_
          refine xt_callS rfl rfl (by decide) rfl ⟨rfl, yle rfl, yle rfl, yle rfl, yle rfl⟩ (yfillL (by rw [List.length_replicate]; first | omega | decide)) (c2 := 0) (s2 := 0) ⟨yle rfl, yle rfl⟩ ?_
          rintro _ _ ⟨rfl, rfl⟩
          refine yT.mv 1 rfl (D1 := _ :: _ :: _ :: _ :: _ :: _) rfl ?_
          refine xt_vret rfl rfl rfl ?_
          refine ⟨ia, ra, rfl, ?_⟩
          simp only [xi32_eq, es, Int32.reduceToInt, Ne] at h15 h24 hb32_9 hb35_10
          unfold newR newI
          first | rw [if_pos (by omega), if_pos (by omega)] | rw [if_neg (by omega), if_neg (by omega)]
          try rw [if_pos (by omega)]
          try rw [if_neg (by omega)]
          simp [e2]
          try exact List.Perm.refl _
