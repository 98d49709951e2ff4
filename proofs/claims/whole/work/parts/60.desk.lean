/-! THE DESK, class: write, line, cell, seat, sort, clear, desk -/
/-- FAILURES, behind a call that answered so -/
def flW (fl w : Int32) : Int32 := if w.toInt ≤ -11 ∧ -20 < w.toInt then fl + 1 else fl
def rgO (o : yO) (i : Int32) : Prop := 0 ≤ i.toInt ∧ i.toInt < osz o
def wrV (z : Option yO) (fl i : Int32) : Int32 := if 10000 ≤ fl.toInt then -3 else match z with
  | none => -11
  | some o => if 3 < o.1 then -12 else if ¬ (0 ≤ i.toInt ∧ i.toInt < osz o) then -13 else 0
def wrO (o : yO) (w i : Int32) (v : Int64) : yO := if w = 0 then (o.1, o.2.1.set i.toInt.toNat (putv o.1 v), o.2.2) else o
def liV (z : Option yO) (fl i n : Int32) : Int32 := if 6 < n.toInt then -1 else if 10000 ≤ fl.toInt then -3 else if n.toInt < 0 then -16 else match z with
  | none => -11
  | some o => if ¬ o.1 = 4 then -12 else if ¬ (0 ≤ i.toInt ∧ i.toInt < osz o) then -13 else 0
def liO (o : yO) (w i n : Int32) : yO := if w = 0 then (o.1, o.2.1, o.2.2.set i.toInt.toNat (some (List.replicate n.toInt.toNat 0))) else o
def rwO (o : yO) (i : Int32) : Option (List Int32) := (gI o.2.2 i).getD none
def ceV (z : Option yO) (fl i j : Int32) : Int32 := if 10000 ≤ fl.toInt then -3 else match z with
  | none => -11
  | some o => if ¬ o.1 = 4 then -12 else if ¬ (0 ≤ i.toInt ∧ i.toInt < osz o) then -13 else match rwO o i with
    | none => -11
    | some l => if ¬ (0 ≤ j.toInt ∧ j.toInt < l.length) then -13 else 0
def ceO (o : yO) (w i j v : Int32) : yO := if w = 0 then (o.1, o.2.1, o.2.2.set i.toInt.toNat ((rwO o i).map fun l => l.set j.toInt.toNat v)) else o
def sgE (En : List (Int64 × Int32)) (e : Int32) : Int32 := (gI (En.map Prod.snd) e).getD (-9)
def seV (z : Option yO) (En : List (Int64 × Int32)) (fl i e : Int32) : Int32 := if ¬ (e.toInt = -1 ∨ (0 ≤ e.toInt ∧ e.toInt < En.length)) then -1 else if 10000 ≤ fl.toInt then -3 else match z with
  | none => -11
  | some o => if ¬ (o.1 = 5 ∨ o.1 = 6) then -12 else if ¬ (0 ≤ i.toInt ∧ i.toInt < osz o) then -13 else if o.1 = 6 ∧ ¬ e.toInt = -1 ∧ (sgE En e).toInt = -9 then -15 else 0
def seO (o : yO) (w i e : Int32) : yO := if w = 0 then (o.1, o.2.1.set i.toInt.toNat e.toInt64, o.2.2) else o
def deV (En : List (Int64 × Int32)) (fl s n : Int32) : Int32 := if ¬ (0 ≤ s.toInt ∧ s.toInt ≤ 7) then -1 else if s.toInt = 7 ∧ ¬ (0 ≤ n.toInt ∧ n.toInt < En.length) then -1 else if s.toInt = 4 ∧ 6 < n.toInt then -1 else if ¬ s.toInt = 7 ∧ ¬ s.toInt = 4 ∧ 12 < n.toInt then -1 else if 10000 ≤ fl.toInt then -3 else if n.toInt < 0 then -16 else 0
def deO (s n : Int32) : yO := (s.toInt.toNat, if s.toInt = 7 then [n.toInt64] else if s.toInt = 4 then [] else List.replicate n.toInt.toNat (if s.toInt = 5 ∨ s.toInt = 6 then -1 else 0), if s.toInt = 4 then List.replicate n.toInt.toNat none else [])
def sortV (z : Option yO) : Int32 := match z with
  | none => -9
  | some o => Int32.ofNat o.1
theorem flW0 (fl : Int32) : flW fl 0 = fl := if_neg (by decide)
theorem cnv_set (l : List Int64) (i : Nat) (v : Int64) : (l.set i v).map cnv = (l.map cnv).set i (cnv v) := List.map_set
theorem y64i {v : Int64} (h1 : -2147483648 ≤ v.toInt) (h2 : v.toInt ≤ 2147483647) : v.toInt32.toInt = v.toInt := by
  rw [Int64.toInt_toInt32]
  exact Int.bmod_eq_of_le (by omega) (by omega)
theorem y6432i (x : Int32) : x.toInt64.toInt32 = x := by simp
theorem ck_isFull {X : List Int32} {D0 : List xE} {fl : Int32} (h : ((110, .inl (10, 1, .int fl)) : xE) ∈ D0) : yK X 0 0 93 [.ref 110] (D0) 0 0 (fun w D => (D0 = D ∧ (10000 ≤ fl.toInt) ∧ w = some (.int 1)) ∨ (D0 = D ∧ ¬ (10000 ≤ fl.toInt) ∧ w = some (.int 0))) := by
  refine yK.of rfl (yle rfl) (L := [_]) rfl ?_
  refine xt_pure rfl rfl rfl rfl ?_
  refine xt_getf rfl rfl (xmS 0 rfl h) ?_
  refine xt_pure rfl rfl rfl (st1 := .int 10000 :: _) rfl ?_
  refine yt_ic rfl rfl ?_ ?_
  · intro (hb3_0 : Int32.toInt _ < (10000 : Int))
    refine xt_pure rfl rfl rfl (st1 := .int 0 :: _) rfl ?_
    refine xt_iret rfl rfl rfl rfl ?_
    try simp only [xi32_eq, xi64_eq, Int32.toInt_toInt64, Int32.reduceToInt, Int64.reduceToInt, y_m9, y_m1, y_m100, y64_m9, y64_m1, Ne, y_n1x] at hb3_0
    exact Or.inr ⟨rfl, by omega, rfl⟩
  · intro (hb3_0 : (10000 : Int) ≤ Int32.toInt _)
    refine xt_pure rfl rfl rfl (st1 := .int 1 :: _) rfl ?_
    refine xt_pure rfl rfl rfl rfl ?_
    refine xt_iret rfl rfl rfl rfl ?_
    try simp only [xi32_eq, xi64_eq, Int32.toInt_toInt64, Int32.reduceToInt, Int64.reduceToInt, y_m9, y_m1, y_m100, y64_m9, y64_m1, Ne, y_n1x] at hb3_0
    exact Or.inl ⟨rfl, by omega, rfl⟩
theorem mk_isSpent {X : List Int32} {D0 : List xE} {fl : Int32} (h : ((209, .inl (14, 24, .int fl)) : xE) ∈ D0) : yK X 0 0 256 [.ref 209] (D0) 0 0 (fun w D => (D0 = D ∧ (10000 ≤ fl.toInt) ∧ w = some (.int 1)) ∨ (D0 = D ∧ ¬ (10000 ≤ fl.toInt) ∧ w = some (.int 0))) := by
  refine yK.of rfl (yle rfl) (L := [_]) rfl ?_
  refine xt_pure rfl rfl rfl rfl ?_
  refine xt_getf rfl rfl (xmS 0 rfl h) ?_
  refine xt_pure rfl rfl rfl (st1 := .int 10000 :: _) rfl ?_
  refine yt_ic rfl rfl ?_ ?_
  · intro (hb3_0 : Int32.toInt _ < (10000 : Int))
    refine xt_pure rfl rfl rfl (st1 := .int 0 :: _) rfl ?_
    refine xt_iret rfl rfl rfl rfl ?_
    try simp only [xi32_eq, xi64_eq, Int32.toInt_toInt64, Int32.reduceToInt, Int64.reduceToInt, y_m9, y_m1, y_m100, y64_m9, y64_m1, Ne, y_n1x] at hb3_0
    exact Or.inr ⟨rfl, by omega, rfl⟩
  · intro (hb3_0 : (10000 : Int) ≤ Int32.toInt _)
    refine xt_pure rfl rfl rfl (st1 := .int 1 :: _) rfl ?_
    refine xt_pure rfl rfl rfl rfl ?_
    refine xt_iret rfl rfl rfl rfl ?_
    try simp only [xi32_eq, xi64_eq, Int32.toInt_toInt64, Int32.reduceToInt, Int64.reduceToInt, y_m9, y_m1, y_m100, y64_m9, y64_m1, Ne, y_n1x] at hb3_0
    exact Or.inl ⟨rfl, by omega, rfl⟩
theorem ck_holds {X : List Int32} {D0 : List xE} {a n : Nat} {i : Int32} (hn : n ≤ 1000) (h : ((a, .inl (6, 1, .int (Int32.ofNat n))) : xE) ∈ D0) : yK X 0 0 99 [.ref a, .int i] (D0) 0 0 (fun w D => (D0 = D ∧ (0 ≤ i.toInt ∧ i.toInt < n) ∧ w = some (.int 1)) ∨ (D0 = D ∧ ¬ (0 ≤ i.toInt ∧ i.toInt < n) ∧ w = some (.int 0))) := by
  have en := yi_nat (i := n) (by omega)
  refine yK.of rfl (yle rfl) (L := [_, _]) rfl ?_
  refine xt_pure rfl rfl rfl rfl ?_
  refine yt_if rfl rfl ?_ ?_
  · intro (hb1_0 : Int32.toInt _ < (0 : Int))
    refine xt_pure rfl rfl rfl (st1 := .int 0 :: _) rfl ?_
    refine xt_iret rfl rfl rfl rfl ?_
    try simp only [xi32_eq, xi64_eq, Int32.toInt_toInt64, Int32.reduceToInt, Int64.reduceToInt, y_m9, y_m1, y_m100, y64_m9, y64_m1, Ne, y_n1x] at hb1_0
    exact Or.inr ⟨rfl, by omega, rfl⟩
  · intro (hb1_0 : (0 : Int) ≤ Int32.toInt _)
    refine xt_pure rfl rfl rfl rfl ?_
    refine xt_pure rfl rfl rfl rfl ?_
    refine xt_getf rfl rfl (xmS 0 rfl h) ?_
    refine yt_ic rfl rfl ?_ ?_
    · intro (hb5_1 : Int32.toInt _ ≤ Int32.toInt _)
      refine xt_pure rfl rfl rfl (st1 := .int 0 :: _) rfl ?_
      refine xt_iret rfl rfl rfl rfl ?_
      try simp only [xi32_eq, xi64_eq, Int32.toInt_toInt64, Int32.reduceToInt, Int64.reduceToInt, y_m9, y_m1, y_m100, y64_m9, y64_m1, Ne, y_n1x] at hb1_0 hb5_1
      exact Or.inr ⟨rfl, by omega, rfl⟩
    · intro (hb5_1 : Int32.toInt _ < Int32.toInt _)
      refine xt_pure rfl rfl rfl (st1 := .int 1 :: _) rfl ?_
      refine xt_pure rfl rfl rfl rfl ?_
      refine xt_iret rfl rfl rfl rfl ?_
      try simp only [xi32_eq, xi64_eq, Int32.toInt_toInt64, Int32.reduceToInt, Int64.reduceToInt, y_m9, y_m1, y_m100, y64_m9, y64_m1, Ne, y_n1x] at hb1_0 hb5_1
      exact Or.inl ⟨rfl, by omega, rfl⟩
theorem ck_isOf {X : List Int32} {D0 : List xE} {a s : Nat} {wt : Int32} (hn : s ≤ 7) (h : ((a, .inl (6, 0, .int (Int32.ofNat s))) : xE) ∈ D0) : yK X 0 0 102 [.ref a, .int wt] (D0) 0 0 (fun w D => (D0 = D ∧ (s = wt.toInt ∨ (s = 6 ∧ wt.toInt = 5)) ∧ w = some (.int 1)) ∨ (D0 = D ∧ ¬ (s = wt.toInt ∨ (s = 6 ∧ wt.toInt = 5)) ∧ w = some (.int 0))) := by
  have en := yi_nat (i := s) (by omega)
  refine yK.of rfl (yle rfl) (L := [_, _]) rfl ?_
  refine xt_pure rfl rfl rfl rfl ?_
  refine xt_getf rfl rfl (xmS 0 rfl h) ?_
  refine xt_pure rfl rfl rfl rfl ?_
  refine yt_ic rfl rfl ?_ ?_
  · intro (hb3_0 : (_ : Int32) = _)
    have hb3_0z : Int32.toInt _ = Int32.toInt _ := congrArg Int32.toInt hb3_0
    refine xt_pure rfl rfl rfl (st1 := .int 1 :: _) rfl ?_
    refine xt_pure rfl rfl rfl rfl ?_
    refine xt_iret rfl rfl rfl rfl ?_
    try simp only [xi32_eq, xi64_eq, Int32.toInt_toInt64, Int32.reduceToInt, Int64.reduceToInt, y_m9, y_m1, y_m100, y64_m9, y64_m1, Ne, y_n1x] at hb3_0
    exact Or.inl ⟨rfl, by omega, rfl⟩
  · intro (hb3_0 : (_ : Int32) ≠ _)
    have hb3_0z : ¬ Int32.toInt _ = Int32.toInt _ := fun h => hb3_0 (Int32.toInt_inj.mp h)
    refine xt_pure rfl rfl rfl rfl ?_
    refine xt_getf rfl rfl (xmS 0 rfl h) ?_
    refine xt_pure rfl rfl rfl (st1 := .int 6 :: _) rfl ?_
    refine yt_ic rfl rfl ?_ ?_
    · intro (hb7_1 : (_ : Int32) ≠ 6)
      have hb7_1z : ¬ Int32.toInt _ = (6 : Int) := fun h => hb7_1 (Int32.toInt_inj.mp h)
      refine xt_pure rfl rfl rfl (st1 := .int 0 :: _) rfl ?_
      refine xt_iret rfl rfl rfl rfl ?_
      try simp only [xi32_eq, xi64_eq, Int32.toInt_toInt64, Int32.reduceToInt, Int64.reduceToInt, y_m9, y_m1, y_m100, y64_m9, y64_m1, Ne, y_n1x] at hb3_0 hb7_1
      exact Or.inr ⟨rfl, by omega, rfl⟩
    · intro (hb7_1 : (_ : Int32) = 6)
      have hb7_1z : Int32.toInt _ = (6 : Int) := congrArg Int32.toInt hb7_1
      refine xt_pure rfl rfl rfl rfl ?_
      refine xt_pure rfl rfl rfl (st1 := .int 5 :: _) rfl ?_
      refine yt_ic rfl rfl ?_ ?_
      · intro (hb10_2 : (_ : Int32) ≠ 5)
        have hb10_2z : ¬ Int32.toInt _ = (5 : Int) := fun h => hb10_2 (Int32.toInt_inj.mp h)
        refine xt_pure rfl rfl rfl (st1 := .int 0 :: _) rfl ?_
        refine xt_iret rfl rfl rfl rfl ?_
        try simp only [xi32_eq, xi64_eq, Int32.toInt_toInt64, Int32.reduceToInt, Int64.reduceToInt, y_m9, y_m1, y_m100, y64_m9, y64_m1, Ne, y_n1x] at hb3_0 hb7_1 hb10_2
        exact Or.inr ⟨rfl, by omega, rfl⟩
      · intro (hb10_2 : (_ : Int32) = 5)
        have hb10_2z : Int32.toInt _ = (5 : Int) := congrArg Int32.toInt hb10_2
        refine xt_pure rfl rfl rfl (st1 := .int 1 :: _) rfl ?_
        refine xt_pure rfl rfl rfl rfl ?_
        refine xt_iret rfl rfl rfl rfl ?_
        try simp only [xi32_eq, xi64_eq, Int32.toInt_toInt64, Int32.reduceToInt, Int64.reduceToInt, y_m9, y_m1, y_m100, y64_m9, y64_m1, Ne, y_n1x] at hb3_0 hb7_1 hb10_2
        exact Or.inl ⟨rfl, by omega, rfl⟩
theorem ck_lholds {X : List Int32} {D0 : List xE} {n : Nat} {v : Int64} (hn : n ≤ 100) (h : ((106, .inl (5, 2, .int (Int32.ofNat n))) : xE) ∈ D0) : yK X 0 0 92 [.ref 106, .long v] (D0) 0 0 (fun w D => (D0 = D ∧ (0 ≤ v.toInt ∧ v.toInt < n) ∧ w = some (.int 1)) ∨ (D0 = D ∧ ¬ (0 ≤ v.toInt ∧ v.toInt < n) ∧ w = some (.int 0))) := by
  have en := yi_nat (i := n) (by omega)
  refine yK.of rfl (yle rfl) (L := [_, _, _]) rfl ?_
  refine xt_pure rfl rfl rfl rfl ?_
  refine xt_pure rfl rfl rfl (st1 := .long 0 :: _) rfl ?_
  refine yt_lc rfl rfl rfl ?_ ?_
  · intro (hb2_0 : Int64.toInt _ < (0 : Int))
    refine xt_pure rfl rfl rfl (st1 := .int 0 :: _) rfl ?_
    refine xt_iret rfl rfl rfl rfl ?_
    try simp only [xi32_eq, xi64_eq, Int32.toInt_toInt64, Int32.reduceToInt, Int64.reduceToInt, y_m9, y_m1, y_m100, y64_m9, y64_m1, Ne, y_n1x] at hb2_0
    exact Or.inr ⟨rfl, by omega, rfl⟩
  · intro (hb2_0 : (0 : Int) ≤ Int64.toInt _)
    refine xt_pure rfl rfl rfl rfl ?_
    refine xt_pure rfl rfl rfl rfl ?_
    refine xt_getf rfl rfl (xmS 0 rfl h) ?_
    refine xt_pure rfl rfl rfl rfl ?_
    refine yt_lc rfl rfl rfl ?_ ?_
    · intro (hb8_1 : Int64.toInt _ ≤ Int64.toInt _)
      refine xt_pure rfl rfl rfl (st1 := .int 0 :: _) rfl ?_
      refine xt_iret rfl rfl rfl rfl ?_
      try simp only [xi32_eq, xi64_eq, Int32.toInt_toInt64, Int32.reduceToInt, Int64.reduceToInt, y_m9, y_m1, y_m100, y64_m9, y64_m1, Ne, y_n1x] at hb2_0 hb8_1
      exact Or.inr ⟨rfl, by omega, rfl⟩
    · intro (hb8_1 : Int64.toInt _ < Int64.toInt _)
      refine xt_pure rfl rfl rfl (st1 := .int 1 :: _) rfl ?_
      refine xt_pure rfl rfl rfl rfl ?_
      refine xt_iret rfl rfl rfl rfl ?_
      try simp only [xi32_eq, xi64_eq, Int32.toInt_toInt64, Int32.reduceToInt, Int64.reduceToInt, y_m9, y_m1, y_m100, y64_m9, y64_m1, Ne, y_n1x] at hb2_0 hb8_1
      exact Or.inl ⟨rfl, by omega, rfl⟩
theorem ck_signed {X : List Int32} {D0 : List xE} {En : List (Int64 × Int32)} {jb : List Int32} {v : Int64} (hE : En.length ≤ 100) (hc0 : ((106, .inl (5, 2, .int (Int32.ofNat En.length))) : xE) ∈ D0) (hc1 : ((108, .inr (0, (En.map Prod.snd ++ jb).map Value.int)) : xE) ∈ D0) : yK X 1 22 105 [.ref 106, .long v] (D0) 0 0 (fun w D => (D0 = D ∧ (0 ≤ v.toInt ∧ v.toInt < En.length ∧ ¬ (sgE En v.toInt32).toInt = -9) ∧ w = some (.int 1)) ∨ (D0 = D ∧ ¬ (0 ≤ v.toInt ∧ v.toInt < En.length ∧ ¬ (sgE En v.toInt32).toInt = -9) ∧ w = some (.int 0))) := by
  have en := yi_nat (i := En.length) (by omega)
  refine yK.of rfl (yle rfl) (L := [_, _, _]) rfl ?_
  refine xt_pure rfl rfl rfl rfl ?_
  refine xt_pure rfl rfl rfl rfl ?_
  refine xt_callV rfl rfl rfl rfl (xmC 140 rfl) ⟨rfl, rfl, yle rfl, yle rfl, yle rfl, yle rfl⟩ (ck_lholds (by omega) hc0) (c2 := 0) (s2 := 0) ⟨yle rfl, yle rfl⟩ ?_
  rintro _ _ (⟨rfl, hp0, rfl⟩ | ⟨rfl, hp0, rfl⟩)
  · skip
    try simp only [xi32_eq, xi64_eq, Int32.toInt_toInt64, Int32.reduceToInt, Int64.reduceToInt, y_m9, y_m1, y_m100, y64_m9, y64_m1, Ne, y_n1x] at hp0
    show yT _ _ _ _ _ _ (_ :: _) _ _ _ _
    refine xt_pure rfl rfl rfl rfl ?_
    refine xt_pure rfl rfl rfl rfl ?_
    refine xt_getf rfl rfl (xmC 141 rfl) ?_
    refine xt_pure rfl rfl rfl rfl ?_
    have e32 : v.toInt32.toInt = v.toInt := y64i (by omega) (by omega)
    refine xt_pure rfl rfl rfl rfl ?_
    refine yt_ild rfl rfl (xmS 0 rfl hc1) ⟨by omega, by rw [List.length_append, List.length_map]; omega⟩ ?_
    intro x1 hx1
    refine xt_pure rfl rfl rfl (st1 := .int (-9) :: _) rfl ?_
    refine yt_ic rfl rfl ?_ ?_
    · intro (hb10_2 : (_ : Int32) = (-9))
      have hb10_2z : Int32.toInt _ = ((-9) : Int) := congrArg Int32.toInt hb10_2
      refine xt_pure rfl rfl rfl (st1 := .int 0 :: _) rfl ?_
      refine xt_iret rfl rfl rfl rfl ?_
      try simp only [xi32_eq, xi64_eq, Int32.toInt_toInt64, Int32.reduceToInt, Int64.reduceToInt, y_m9, y_m1, y_m100, y64_m9, y64_m1, Ne, y_n1x] at hp0 hb10_2
      have hg : sgE En v.toInt32 = x1 := by rw [sgE, gI_in (by omega) (yapp hx1 (by rw [List.length_map]; omega))]; rfl
      have hg2 := congrArg Int32.toInt hg
      exact Or.inr ⟨rfl, by omega, rfl⟩
    · intro (hb10_2 : (_ : Int32) ≠ (-9))
      have hb10_2z : ¬ Int32.toInt _ = ((-9) : Int) := fun h => hb10_2 (Int32.toInt_inj.mp h)
      refine xt_pure rfl rfl rfl (st1 := .int 1 :: _) rfl ?_
      refine xt_pure rfl rfl rfl rfl ?_
      refine xt_iret rfl rfl rfl rfl ?_
      try simp only [xi32_eq, xi64_eq, Int32.toInt_toInt64, Int32.reduceToInt, Int64.reduceToInt, y_m9, y_m1, y_m100, y64_m9, y64_m1, Ne, y_n1x] at hp0 hb10_2
      have hg : sgE En v.toInt32 = x1 := by rw [sgE, gI_in (by omega) (yapp hx1 (by rw [List.length_map]; omega))]; rfl
      have hg2 := congrArg Int32.toInt hg
      exact Or.inl ⟨rfl, by omega, rfl⟩
  · skip
    try simp only [xi32_eq, xi64_eq, Int32.toInt_toInt64, Int32.reduceToInt, Int64.reduceToInt, y_m9, y_m1, y_m100, y64_m9, y64_m1, Ne, y_n1x] at hp0
    show yT _ _ _ _ _ _ (_ :: _) _ _ _ _
    refine xt_pure rfl rfl rfl rfl ?_
    refine xt_pure rfl rfl rfl (st1 := .int 0 :: _) rfl ?_
    refine xt_iret rfl rfl rfl rfl ?_
    try simp only [xi32_eq, xi64_eq, Int32.toInt_toInt64, Int32.reduceToInt, Int64.reduceToInt, y_m9, y_m1, y_m100, y64_m9, y64_m1, Ne, y_n1x] at hp0
    exact Or.inr ⟨rfl, by omega, rfl⟩
theorem ck_deskF {X : List Int32} {D0 : List xE} {a : Nat} {ob : yO} {i w : Int32} (hs : ob.1 ≤ 7) (hz : osz ob ≤ 12) (hh : ((78, .inl (11, 6, .ref a)) : xE) ∈ D0) (k0 : ((a, .inl (6, 0, .int (Int32.ofNat ob.1))) : xE) ∈ D0) (k1 : ((a, .inl (6, 1, .int (Int32.ofNat (osz ob)))) : xE) ∈ D0) : yK X 1 21 101 [.ref 78, .int i, .int w] (D0) 0 0 (fun v D => (D0 = D ∧ (¬ (ob.1 = w.toInt ∨ (ob.1 = 6 ∧ w.toInt = 5))) ∧ v = some (.int 2)) ∨ (D0 = D ∧ ((ob.1 = w.toInt ∨ (ob.1 = 6 ∧ w.toInt = 5)) ∧ ¬ (0 ≤ i.toInt ∧ i.toInt < osz ob)) ∧ v = some (.int 3)) ∨ (D0 = D ∧ ((ob.1 = w.toInt ∨ (ob.1 = 6 ∧ w.toInt = 5)) ∧ (0 ≤ i.toInt ∧ i.toInt < osz ob)) ∧ v = some (.int 0))) := by
  refine yK.of rfl (yle rfl) (L := [_, _, _]) rfl ?_
  refine xt_pure rfl rfl rfl rfl ?_
  refine xt_getf rfl rfl (xmS 0 rfl hh) ?_
  refine xt_pure rfl rfl rfl rfl ?_
  refine xt_pure rfl rfl rfl rfl ?_
  refine xt_getf rfl rfl (xmS 0 rfl hh) ?_
  refine xt_pure rfl rfl rfl rfl ?_
  refine xt_callV rfl rfl rfl rfl (xmS 0 rfl k0) ⟨rfl, rfl, yle rfl, yle rfl, yle rfl, yle rfl⟩ (ck_isOf (by omega) k0) (c2 := 0) (s2 := 0) ⟨yle rfl, yle rfl⟩ ?_
  rintro _ _ (⟨rfl, hp0, rfl⟩ | ⟨rfl, hp0, rfl⟩)
  · skip
    try simp only [Int32.reduceToInt, and_true, and_false, or_false, false_or] at hp0
    show yT _ _ _ _ _ _ (_ :: _) _ _ _ _
    refine xt_pure rfl rfl rfl rfl ?_
    refine xt_pure rfl rfl rfl rfl ?_
    refine xt_getf rfl rfl (xmS 0 rfl hh) ?_
    refine xt_pure rfl rfl rfl rfl ?_
    refine xt_callV rfl rfl rfl rfl (xmS 0 rfl k0) ⟨rfl, rfl, yle rfl, yle rfl, yle rfl, yle rfl⟩ (ck_holds (by omega) k1) (c2 := 0) (s2 := 0) ⟨yle rfl, yle rfl⟩ ?_
    rintro _ _ (⟨rfl, hp1, rfl⟩ | ⟨rfl, hp1, rfl⟩)
    · skip
      show yT _ _ _ _ _ _ (_ :: _) _ _ _ _
      refine xt_pure rfl rfl rfl rfl ?_
      refine xt_pure rfl rfl rfl (st1 := .int 0 :: _) rfl ?_
      refine xt_pure rfl rfl rfl rfl ?_
      refine xt_iret rfl rfl rfl rfl ?_
      exact Or.inr (Or.inr ⟨rfl, by omega, rfl⟩)
    · skip
      show yT _ _ _ _ _ _ (_ :: _) _ _ _ _
      refine xt_pure rfl rfl rfl rfl ?_
      refine xt_pure rfl rfl rfl (st1 := .int 3 :: _) rfl ?_
      refine xt_iret rfl rfl rfl rfl ?_
      exact Or.inr (Or.inl ⟨rfl, by omega, rfl⟩)
  · skip
    try simp only [Int32.reduceToInt, and_true, and_false, or_false, false_or] at hp0
    show yT _ _ _ _ _ _ (_ :: _) _ _ _ _
    refine xt_pure rfl rfl rfl rfl ?_
    refine xt_pure rfl rfl rfl (st1 := .int 2 :: _) rfl ?_
    refine xt_iret rfl rfl rfl rfl ?_
    exact Or.inl ⟨rfl, by omega, rfl⟩
theorem cD_write0 {X : List Int32} {D0 : List xE} {i : Int32} {v : Int64} {fl x1 x2 : Int32} (hfn : ((110, .inl (10, 6, .int (-9))) : xE) ∈ D0) (hh : ((78, .inl (11, 6, .null)) : xE) ∈ D0) : yK X 2 42 98 [.ref 78, .int i, .long v] ((110, .inl (10, 1, .int fl)) :: (110, .inl (10, 4, .int x1)) :: (110, .inl (10, 5, .int x2)) :: D0) 0 0 (fun w D => ∃ y1 y2 : Int32, w = some (.int (wrV none fl i)) ∧ D = (110, .inl (10, 1, .int (flW fl (wrV none fl i)))) :: (110, .inl (10, 4, .int y1)) :: (110, .inl (10, 5, .int y2)) :: D0) := by
  refine yK.of rfl (yle rfl) (L := [_, _, _, _]) rfl ?_
  refine xt_pure rfl rfl rfl rfl ?_
  refine xt_getf rfl rfl (xmC 120 rfl) ?_
  refine xt_callV rfl rfl rfl rfl (xmD 0 rfl) ⟨rfl, rfl, yle rfl, yle rfl, yle rfl, yle rfl⟩ (ck_isFull (List.mem_of_getElem? (i := 0) rfl)) (c2 := 0) (s2 := 0) ⟨yle rfl, yle rfl⟩ ?_
  rintro _ _ (⟨rfl, hp0, rfl⟩ | ⟨rfl, hp0, rfl⟩)
  · skip
    show yT _ _ _ _ _ _ (_ :: _) _ _ _ _
    refine xt_pure rfl rfl rfl rfl ?_
    refine xt_pure rfl rfl rfl (st1 := .int (-3) :: _) rfl ?_
    refine xt_iret rfl rfl rfl rfl ?_
    try simp only [xi32_eq, xi64_eq, Int32.toInt_toInt64, Int32.reduceToInt, Int64.reduceToInt, y_m9, y_m1, y_m100, y64_m9, y64_m1, Ne, y_n1x] at hp0
    have hc : wrV none fl i = (-3) := by
      unfold wrV
      try dsimp only
      repeat' split
      all_goals first | rfl | (exfalso; omega)
    rw [hc]
    exact ⟨x1, x2, rfl, by simp [flW]⟩
  · skip
    show yT _ _ _ _ _ _ (_ :: _) _ _ _ _
    refine xt_pure rfl rfl rfl rfl ?_
    refine xt_pure rfl rfl rfl rfl ?_
    refine xt_getf rfl rfl (xmS 3 rfl hh) ?_
    refine xt_pure rfl rfl rfl rfl ?_
    refine xt_pure rfl rfl rfl rfl ?_
    refine xt_pure rfl rfl rfl (st1 := .int 1 :: _) rfl ?_
    refine yt_inV (c1 := 0) (s1 := 0) (c2 := 0) (s2 := 0) (fr1 := 1) (lo1 := 21) rfl rfl rfl rfl (xmC 115 rfl) ⟨rfl, rfl, yle rfl, yle rfl, yle rfl, yle rfl⟩ (yle rfl) (L1 := [_, _]) rfl ⟨yle rfl, yle rfl⟩ ?_
    refine xt_pure rfl rfl rfl rfl ?_
    refine xt_getf rfl rfl (xmC 120 rfl) ?_
    refine xt_pure rfl rfl rfl rfl ?_
    refine yt_inV (c1 := 0) (s1 := 0) (c2 := 0) (s2 := 0) (fr1 := 0) (lo1 := 0) rfl rfl rfl rfl (xmD 0 rfl) ⟨rfl, rfl, yle rfl, yle rfl, yle rfl, yle rfl⟩ (yle rfl) (L1 := [_, _]) rfl ⟨yle rfl, yle rfl⟩ ?_
    refine xt_pure rfl rfl rfl rfl ?_
    refine xt_pure rfl rfl rfl rfl ?_
    refine xt_getf rfl rfl (xmD 0 rfl) ?_
    refine xt_pure rfl rfl rfl (st1 := .int 1 :: _) rfl ?_
    refine xt_pure rfl rfl rfl rfl ?_
    refine xt_putf rfl rfl rfl rfl 0 rfl (D1 := _ :: _ :: _ :: _) rfl ?_
    refine xt_pure rfl rfl rfl rfl ?_
    refine xt_pure rfl rfl rfl rfl ?_
    refine xt_putf rfl rfl rfl rfl 1 rfl (D1 := _ :: _ :: _ :: _) rfl ?_
    refine xt_pure rfl rfl rfl rfl ?_
    refine xt_pure rfl rfl rfl rfl ?_
    refine xt_getf rfl rfl (xmS 3 rfl hfn) ?_
    refine xt_putf rfl rfl rfl rfl 2 rfl (D1 := _ :: _ :: _ :: _) rfl ?_
    refine xt_vret rfl rfl rfl ?_
    show yT _ _ _ _ _ _ (_) _ _ _ _
    refine xt_pure rfl rfl rfl (st1 := .int (-10) :: _) rfl ?_
    refine xt_pure rfl rfl rfl rfl ?_
    refine xt_pure rfl rfl rfl (st1 := .int (-11) :: _) rfl ?_
    refine xt_iret rfl rfl rfl rfl ?_
    show yT _ _ _ _ _ _ (_ :: _) _ _ _ _
    refine xt_iret rfl rfl rfl rfl ?_
    try simp only [xi32_eq, xi64_eq, Int32.toInt_toInt64, Int32.reduceToInt, Int64.reduceToInt, y_m9, y_m1, y_m100, y64_m9, y64_m1, Ne, y_n1x] at hp0
    have hc : wrV none fl i = (-11) := by
      unfold wrV
      try dsimp only
      repeat' split
      all_goals first | rfl | (exfalso; omega)
    rw [hc]
    exact ⟨1, (-9), rfl, by simp [flW]⟩
theorem cD_write1 {X : List Int32} {D0 : List xE} {i : Int32} {v : Int64} {fl x1 x2 : Int32} (hfn : ((110, .inl (10, 6, .int (-9))) : xE) ∈ D0) {a ia ra : Nat} {ob : yO} (hs : ob.1 ≤ 7) (hz : osz ob ≤ 12) (hh : ((78, .inl (11, 6, .ref a)) : xE) ∈ D0) (k0 : ((a, .inl (6, 0, .int (Int32.ofNat ob.1))) : xE) ∈ D0) (k1 : ((a, .inl (6, 1, .int (Int32.ofNat (osz ob)))) : xE) ∈ D0) (k2 : ((a, .inl (6, 2, .ref ia)) : xE) ∈ D0) (k3 : ((a, .inl (6, 3, .ref ra)) : xE) ∈ D0) : yK X 2 42 98 [.ref 78, .int i, .long v] ((110, .inl (10, 1, .int fl)) :: (110, .inl (10, 4, .int x1)) :: (110, .inl (10, 5, .int x2)) :: (ia, .inr (1, (cit ob).map Value.long)) :: D0) 0 0 (fun w D => ∃ y1 y2 : Int32, w = some (.int (wrV (some ob) fl i)) ∧ D = (110, .inl (10, 1, .int (flW fl (wrV (some ob) fl i)))) :: (110, .inl (10, 4, .int y1)) :: (110, .inl (10, 5, .int y2)) :: (ia, .inr (1, (cit (wrO ob (wrV (some ob) fl i) i v)).map Value.long)) :: D0) := by
  have es := yi_nat (i := ob.1) (by omega)
  have ez := yi_nat (i := osz ob) (by omega)
  refine yK.of rfl (yle rfl) (L := [_, _, _, _]) rfl ?_
  refine xt_pure rfl rfl rfl rfl ?_
  refine xt_getf rfl rfl (xmC 120 rfl) ?_
  refine xt_callV rfl rfl rfl rfl (xmD 0 rfl) ⟨rfl, rfl, yle rfl, yle rfl, yle rfl, yle rfl⟩ (ck_isFull (List.mem_of_getElem? (i := 0) rfl)) (c2 := 0) (s2 := 0) ⟨yle rfl, yle rfl⟩ ?_
  rintro _ _ (⟨rfl, hp0, rfl⟩ | ⟨rfl, hp0, rfl⟩)
  · skip
    show yT _ _ _ _ _ _ (_ :: _) _ _ _ _
    refine xt_pure rfl rfl rfl rfl ?_
    refine xt_pure rfl rfl rfl (st1 := .int (-3) :: _) rfl ?_
    refine xt_iret rfl rfl rfl rfl ?_
    try simp only [xi32_eq, xi64_eq, Int32.toInt_toInt64, Int32.reduceToInt, Int64.reduceToInt, y_m9, y_m1, y_m100, y64_m9, y64_m1, Ne, y_n1x] at hp0
    have hc : wrV (some ob) fl i = (-3) := by
      unfold wrV
      try dsimp only
      repeat' split
      all_goals first | rfl | (exfalso; omega)
    rw [hc]
    exact ⟨x1, x2, rfl, by simp [flW, wrO]⟩
  · skip
    show yT _ _ _ _ _ _ (_ :: _) _ _ _ _
    refine xt_pure rfl rfl rfl rfl ?_
    refine xt_pure rfl rfl rfl rfl ?_
    refine xt_getf rfl rfl (xmS 4 rfl hh) ?_
    refine xt_pure rfl rfl rfl rfl ?_
    refine xt_pure rfl rfl rfl rfl ?_
    refine xt_getf rfl rfl (xmS 4 rfl hh) ?_
    refine xt_getf rfl rfl (xmS 4 rfl k0) ?_
    refine xt_pure rfl rfl rfl (st1 := .int 3 :: _) rfl ?_
    refine yt_ic rfl rfl ?_ ?_
    · intro (hb17_1 : Int32.toInt _ ≤ (3 : Int))
      refine xt_pure rfl rfl rfl rfl ?_
      refine xt_getf rfl rfl (xmS 4 rfl hh) ?_
      refine xt_pure rfl rfl rfl rfl ?_
      refine xt_callV rfl rfl rfl rfl (xmS 4 rfl k0) ⟨rfl, rfl, yle rfl, yle rfl, yle rfl, yle rfl⟩ (ck_holds (by omega) (ymS 4 rfl k1)) (c2 := 0) (s2 := 0) ⟨yle rfl, yle rfl⟩ ?_
      rintro _ _ (⟨rfl, hp2, rfl⟩ | ⟨rfl, hp2, rfl⟩)
      · skip
        show yT _ _ _ _ _ _ (_ :: _) _ _ _ _
        refine xt_pure rfl rfl rfl rfl ?_
        refine xt_pure rfl rfl rfl rfl ?_
        refine xt_getf rfl rfl (xmS 4 rfl hh) ?_
        refine xt_pure rfl rfl rfl rfl ?_
        refine xt_pure rfl rfl rfl rfl ?_
        refine yT.mv 3 rfl (D1 := _ :: _ :: _ :: _) rfl ?_
        refine xt_callV rfl rfl rfl rfl (xmS 4 rfl k0) ⟨rfl, rfl, yle rfl, yle rfl, yle rfl, yle rfl⟩ (yput hs (by rw [cit_len]; have := osz_n4 (o := ob) (by omega); omega) (ymS 3 rfl k0) (ymS 3 rfl k2)) (c2 := 0) (s2 := 0) ⟨yle rfl, yle rfl⟩ ?_
        rintro _ _ ⟨rfl, rfl⟩
        refine yT.mv 3 rfl (D1 := _ :: _ :: _ :: _) rfl ?_
        refine yT.mv 3 rfl (D1 := _ :: _ :: _ :: _) rfl ?_
        refine yT.mv 3 rfl (D1 := _ :: _ :: _ :: _) rfl ?_
        refine xt_pure rfl rfl rfl (st1 := .int 0 :: _) rfl ?_
        refine xt_iret rfl rfl rfl rfl ?_
        try simp only [xi32_eq, xi64_eq, Int32.toInt_toInt64, Int32.reduceToInt, Int64.reduceToInt, y_m9, y_m1, y_m100, y64_m9, y64_m1, Ne, y_n1x] at hp0 hb17_1 hp2
        have hc : wrV (some ob) fl i = 0 := by
          unfold wrV
          try dsimp only
          repeat' split
          all_goals first | rfl | (exfalso; omega)
        rw [hc]
        exact ⟨x1, x2, rfl, by simp [flW, wrO, cit, show ¬ ob.1 = 5 by omega, show ¬ ob.1 = 6 by omega]⟩
      · skip
        show yT _ _ _ _ _ _ (_ :: _) _ _ _ _
        refine xt_pure rfl rfl rfl rfl ?_
        refine xt_pure rfl rfl rfl rfl ?_
        refine xt_pure rfl rfl rfl (st1 := .int 3 :: _) rfl ?_
        refine yt_inV (c1 := 0) (s1 := 0) (c2 := 0) (s2 := 0) (fr1 := 1) (lo1 := 21) rfl rfl rfl rfl (xmC 115 rfl) ⟨rfl, rfl, yle rfl, yle rfl, yle rfl, yle rfl⟩ (yle rfl) (L1 := [_, _]) rfl ⟨yle rfl, yle rfl⟩ ?_
        refine xt_pure rfl rfl rfl rfl ?_
        refine xt_getf rfl rfl (xmC 120 rfl) ?_
        refine xt_pure rfl rfl rfl rfl ?_
        refine yt_inV (c1 := 0) (s1 := 0) (c2 := 0) (s2 := 0) (fr1 := 0) (lo1 := 0) rfl rfl rfl rfl (xmD 0 rfl) ⟨rfl, rfl, yle rfl, yle rfl, yle rfl, yle rfl⟩ (yle rfl) (L1 := [_, _]) rfl ⟨yle rfl, yle rfl⟩ ?_
        refine xt_pure rfl rfl rfl rfl ?_
        refine xt_pure rfl rfl rfl rfl ?_
        refine xt_getf rfl rfl (xmD 0 rfl) ?_
        refine xt_pure rfl rfl rfl (st1 := .int 1 :: _) rfl ?_
        refine xt_pure rfl rfl rfl rfl ?_
        refine xt_putf rfl rfl rfl rfl 0 rfl (D1 := _ :: _ :: _ :: _ :: _) rfl ?_
        refine xt_pure rfl rfl rfl rfl ?_
        refine xt_pure rfl rfl rfl rfl ?_
        refine xt_putf rfl rfl rfl rfl 1 rfl (D1 := _ :: _ :: _ :: _ :: _) rfl ?_
        refine xt_pure rfl rfl rfl rfl ?_
        refine xt_pure rfl rfl rfl rfl ?_
        refine xt_getf rfl rfl (xmS 4 rfl hfn) ?_
        refine xt_putf rfl rfl rfl rfl 2 rfl (D1 := _ :: _ :: _ :: _ :: _) rfl ?_
        refine xt_vret rfl rfl rfl ?_
        show yT _ _ _ _ _ _ (_) _ _ _ _
        refine xt_pure rfl rfl rfl (st1 := .int (-10) :: _) rfl ?_
        refine xt_pure rfl rfl rfl rfl ?_
        refine xt_pure rfl rfl rfl (st1 := .int (-13) :: _) rfl ?_
        refine xt_iret rfl rfl rfl rfl ?_
        show yT _ _ _ _ _ _ (_ :: _) _ _ _ _
        refine xt_iret rfl rfl rfl rfl ?_
        try simp only [xi32_eq, xi64_eq, Int32.toInt_toInt64, Int32.reduceToInt, Int64.reduceToInt, y_m9, y_m1, y_m100, y64_m9, y64_m1, Ne, y_n1x] at hp0 hb17_1 hp2
        have hc : wrV (some ob) fl i = (-13) := by
          unfold wrV
          try dsimp only
          repeat' split
          all_goals first | rfl | (exfalso; omega)
        rw [hc]
        exact ⟨3, (-9), rfl, by simp [flW, wrO]⟩
    · intro (hb17_1 : (3 : Int) < Int32.toInt _)
      refine xt_pure rfl rfl rfl rfl ?_
      refine xt_pure rfl rfl rfl (st1 := .int 2 :: _) rfl ?_
      refine yt_inV (c1 := 0) (s1 := 0) (c2 := 0) (s2 := 0) (fr1 := 1) (lo1 := 21) rfl rfl rfl rfl (xmC 115 rfl) ⟨rfl, rfl, yle rfl, yle rfl, yle rfl, yle rfl⟩ (yle rfl) (L1 := [_, _]) rfl ⟨yle rfl, yle rfl⟩ ?_
      refine xt_pure rfl rfl rfl rfl ?_
      refine xt_getf rfl rfl (xmC 120 rfl) ?_
      refine xt_pure rfl rfl rfl rfl ?_
      refine yt_inV (c1 := 0) (s1 := 0) (c2 := 0) (s2 := 0) (fr1 := 0) (lo1 := 0) rfl rfl rfl rfl (xmD 0 rfl) ⟨rfl, rfl, yle rfl, yle rfl, yle rfl, yle rfl⟩ (yle rfl) (L1 := [_, _]) rfl ⟨yle rfl, yle rfl⟩ ?_
      refine xt_pure rfl rfl rfl rfl ?_
      refine xt_pure rfl rfl rfl rfl ?_
      refine xt_getf rfl rfl (xmD 0 rfl) ?_
      refine xt_pure rfl rfl rfl (st1 := .int 1 :: _) rfl ?_
      refine xt_pure rfl rfl rfl rfl ?_
      refine xt_putf rfl rfl rfl rfl 0 rfl (D1 := _ :: _ :: _ :: _ :: _) rfl ?_
      refine xt_pure rfl rfl rfl rfl ?_
      refine xt_pure rfl rfl rfl rfl ?_
      refine xt_putf rfl rfl rfl rfl 1 rfl (D1 := _ :: _ :: _ :: _ :: _) rfl ?_
      refine xt_pure rfl rfl rfl rfl ?_
      refine xt_pure rfl rfl rfl rfl ?_
      refine xt_getf rfl rfl (xmS 4 rfl hfn) ?_
      refine xt_putf rfl rfl rfl rfl 2 rfl (D1 := _ :: _ :: _ :: _ :: _) rfl ?_
      refine xt_vret rfl rfl rfl ?_
      show yT _ _ _ _ _ _ (_) _ _ _ _
      refine xt_pure rfl rfl rfl (st1 := .int (-10) :: _) rfl ?_
      refine xt_pure rfl rfl rfl rfl ?_
      refine xt_pure rfl rfl rfl (st1 := .int (-12) :: _) rfl ?_
      refine xt_iret rfl rfl rfl rfl ?_
      show yT _ _ _ _ _ _ (_ :: _) _ _ _ _
      refine xt_iret rfl rfl rfl rfl ?_
      try simp only [xi32_eq, xi64_eq, Int32.toInt_toInt64, Int32.reduceToInt, Int64.reduceToInt, y_m9, y_m1, y_m100, y64_m9, y64_m1, Ne, y_n1x] at hp0 hb17_1
      have hc : wrV (some ob) fl i = (-12) := by
        unfold wrV
        try dsimp only
        repeat' split
        all_goals first | rfl | (exfalso; omega)
      rw [hc]
      exact ⟨2, (-9), rfl, by simp [flW, wrO]⟩
theorem cD_seat0 {X : List Int32} {D0 : List xE} {i e : Int32} {fl x1 x2 : Int32} (hfn : ((110, .inl (10, 6, .int (-9))) : xE) ∈ D0) {En : List (Int64 × Int32)} {jb : List Int32} (hE : En.length ≤ 100) (hc0 : ((106, .inl (5, 2, .int (Int32.ofNat En.length))) : xE) ∈ D0) (hc1 : ((108, .inr (0, (En.map Prod.snd ++ jb).map Value.int)) : xE) ∈ D0) (hh : ((78, .inl (11, 6, .null)) : xE) ∈ D0) : yK X 2 44 104 [.ref 78, .int i, .int e] ((110, .inl (10, 1, .int fl)) :: (110, .inl (10, 4, .int x1)) :: (110, .inl (10, 5, .int x2)) :: D0) 0 0 (fun w D => ∃ y1 y2 : Int32, w = some (.int (seV none En fl i e)) ∧ D = (110, .inl (10, 1, .int (flW fl (seV none En fl i e)))) :: (110, .inl (10, 4, .int y1)) :: (110, .inl (10, 5, .int y2)) :: D0) := by
  have en := yi_nat (i := En.length) (by omega)
  refine yK.of rfl (yle rfl) (L := [_, _, _, _]) rfl ?_
  refine xt_pure rfl rfl rfl rfl ?_
  refine xt_pure rfl rfl rfl (st1 := .int (-1) :: _) rfl ?_
  refine yt_ic rfl rfl ?_ ?_
  · intro (hb2_0 : (_ : Int32) = (-1))
    have hb2_0z : Int32.toInt _ = ((-1) : Int) := congrArg Int32.toInt hb2_0
    refine xt_pure rfl rfl rfl rfl ?_
    refine xt_getf rfl rfl (xmC 120 rfl) ?_
    refine xt_callV rfl rfl rfl rfl (xmD 0 rfl) ⟨rfl, rfl, yle rfl, yle rfl, yle rfl, yle rfl⟩ (ck_isFull (List.mem_of_getElem? (i := 0) rfl)) (c2 := 0) (s2 := 0) ⟨yle rfl, yle rfl⟩ ?_
    rintro _ _ (⟨rfl, hp1, rfl⟩ | ⟨rfl, hp1, rfl⟩)
    · skip
      show yT _ _ _ _ _ _ (_ :: _) _ _ _ _
      refine xt_pure rfl rfl rfl rfl ?_
      refine xt_pure rfl rfl rfl (st1 := .int (-3) :: _) rfl ?_
      refine xt_iret rfl rfl rfl rfl ?_
      try simp only [xi32_eq, xi64_eq, Int32.toInt_toInt64, Int32.reduceToInt, Int64.reduceToInt, y_m9, y_m1, y_m100, y64_m9, y64_m1, Ne, y_n1x] at hb2_0 hp1
      have hc : seV none En fl i e = (-3) := by
        unfold seV
        try dsimp only
        repeat' split
        all_goals first | rfl | (exfalso; omega)
      rw [hc]
      exact ⟨x1, x2, rfl, by simp [flW]⟩
    · skip
      show yT _ _ _ _ _ _ (_ :: _) _ _ _ _
      refine xt_pure rfl rfl rfl rfl ?_
      refine xt_pure rfl rfl rfl rfl ?_
      refine xt_pure rfl rfl rfl rfl ?_
      refine xt_pure rfl rfl rfl (st1 := .int 5 :: _) rfl ?_
      refine yt_inV (c1 := 0) (s1 := 0) (c2 := 0) (s2 := 0) (fr1 := 1) (lo1 := 21) rfl rfl rfl rfl (xmC 115 rfl) ⟨rfl, rfl, yle rfl, yle rfl, yle rfl, yle rfl⟩ (yle rfl) (L1 := [_, _, _]) rfl ⟨yle rfl, yle rfl⟩ ?_
      refine xt_pure rfl rfl rfl rfl ?_
      refine xt_getf rfl rfl (xmS 3 rfl hh) ?_
      refine xt_pure rfl rfl rfl rfl ?_
      refine xt_pure rfl rfl rfl (st1 := .int 1 :: _) rfl ?_
      refine xt_iret rfl rfl rfl rfl ?_
      show yT _ _ _ _ _ _ (_ :: _) _ _ _ _
      refine xt_pure rfl rfl rfl (L1 := [_, _, _, _]) rfl ?_
      refine xt_pure rfl rfl rfl rfl ?_
      refine xt_pure rfl rfl rfl rfl ?_
      refine xt_pure rfl rfl rfl rfl ?_
      refine xt_pure rfl rfl rfl rfl ?_
      refine yt_inV (c1 := 0) (s1 := 0) (c2 := 0) (s2 := 0) (fr1 := 1) (lo1 := 21) rfl rfl rfl rfl (xmC 115 rfl) ⟨rfl, rfl, yle rfl, yle rfl, yle rfl, yle rfl⟩ (yle rfl) (L1 := [_, _]) rfl ⟨yle rfl, yle rfl⟩ ?_
      refine xt_pure rfl rfl rfl rfl ?_
      refine xt_getf rfl rfl (xmC 120 rfl) ?_
      refine xt_pure rfl rfl rfl rfl ?_
      refine yt_inV (c1 := 0) (s1 := 0) (c2 := 0) (s2 := 0) (fr1 := 0) (lo1 := 0) rfl rfl rfl rfl (xmD 0 rfl) ⟨rfl, rfl, yle rfl, yle rfl, yle rfl, yle rfl⟩ (yle rfl) (L1 := [_, _]) rfl ⟨yle rfl, yle rfl⟩ ?_
      refine xt_pure rfl rfl rfl rfl ?_
      refine xt_pure rfl rfl rfl rfl ?_
      refine xt_getf rfl rfl (xmD 0 rfl) ?_
      refine xt_pure rfl rfl rfl (st1 := .int 1 :: _) rfl ?_
      refine xt_pure rfl rfl rfl rfl ?_
      refine xt_putf rfl rfl rfl rfl 0 rfl (D1 := _ :: _ :: _ :: _) rfl ?_
      refine xt_pure rfl rfl rfl rfl ?_
      refine xt_pure rfl rfl rfl rfl ?_
      refine xt_putf rfl rfl rfl rfl 1 rfl (D1 := _ :: _ :: _ :: _) rfl ?_
      refine xt_pure rfl rfl rfl rfl ?_
      refine xt_pure rfl rfl rfl rfl ?_
      refine xt_getf rfl rfl (xmS 3 rfl hfn) ?_
      refine xt_putf rfl rfl rfl rfl 2 rfl (D1 := _ :: _ :: _ :: _) rfl ?_
      refine xt_vret rfl rfl rfl ?_
      show yT _ _ _ _ _ _ (_) _ _ _ _
      refine xt_pure rfl rfl rfl (st1 := .int (-10) :: _) rfl ?_
      refine xt_pure rfl rfl rfl rfl ?_
      refine xt_pure rfl rfl rfl (st1 := .int (-11) :: _) rfl ?_
      refine xt_iret rfl rfl rfl rfl ?_
      show yT _ _ _ _ _ _ (_ :: _) _ _ _ _
      refine xt_iret rfl rfl rfl rfl ?_
      try simp only [xi32_eq, xi64_eq, Int32.toInt_toInt64, Int32.reduceToInt, Int64.reduceToInt, y_m9, y_m1, y_m100, y64_m9, y64_m1, Ne, y_n1x] at hb2_0 hp1
      have hc : seV none En fl i e = (-11) := by
        unfold seV
        try dsimp only
        repeat' split
        all_goals first | rfl | (exfalso; omega)
      rw [hc]
      exact ⟨1, (-9), rfl, by simp [flW]⟩
  · intro (hb2_0 : (_ : Int32) ≠ (-1))
    have hb2_0z : ¬ Int32.toInt _ = ((-1) : Int) := fun h => hb2_0 (Int32.toInt_inj.mp h)
    refine xt_pure rfl rfl rfl rfl ?_
    refine xt_getf rfl rfl (xmC 118 rfl) ?_
    refine xt_pure rfl rfl rfl rfl ?_
    refine xt_pure rfl rfl rfl rfl ?_
    refine xt_callV rfl rfl rfl rfl (xmC 140 rfl) ⟨rfl, rfl, yle rfl, yle rfl, yle rfl, yle rfl⟩ (ck_lholds (by omega) (ymS 3 rfl hc0)) (c2 := 0) (s2 := 0) ⟨yle rfl, yle rfl⟩ ?_
    rintro _ _ (⟨rfl, hp2, rfl⟩ | ⟨rfl, hp2, rfl⟩)
    · skip
      try simp only [xi32_eq, xi64_eq, Int32.toInt_toInt64, Int32.reduceToInt, Int64.reduceToInt, y_m9, y_m1, y_m100, y64_m9, y64_m1, Ne, y_n1x] at hp2
      show yT _ _ _ _ _ _ (_ :: _) _ _ _ _
      refine xt_pure rfl rfl rfl rfl ?_
      refine xt_pure rfl rfl rfl rfl ?_
      refine xt_getf rfl rfl (xmC 120 rfl) ?_
      refine xt_callV rfl rfl rfl rfl (xmD 0 rfl) ⟨rfl, rfl, yle rfl, yle rfl, yle rfl, yle rfl⟩ (ck_isFull (List.mem_of_getElem? (i := 0) rfl)) (c2 := 0) (s2 := 0) ⟨yle rfl, yle rfl⟩ ?_
      rintro _ _ (⟨rfl, hp3, rfl⟩ | ⟨rfl, hp3, rfl⟩)
      · skip
        show yT _ _ _ _ _ _ (_ :: _) _ _ _ _
        refine xt_pure rfl rfl rfl rfl ?_
        refine xt_pure rfl rfl rfl (st1 := .int (-3) :: _) rfl ?_
        refine xt_iret rfl rfl rfl rfl ?_
        try simp only [xi32_eq, xi64_eq, Int32.toInt_toInt64, Int32.reduceToInt, Int64.reduceToInt, y_m9, y_m1, y_m100, y64_m9, y64_m1, Ne, y_n1x] at hb2_0 hp2 hp3
        have hc : seV none En fl i e = (-3) := by
          unfold seV
          try dsimp only
          repeat' split
          all_goals first | rfl | (exfalso; omega)
        rw [hc]
        exact ⟨x1, x2, rfl, by simp [flW]⟩
      · skip
        show yT _ _ _ _ _ _ (_ :: _) _ _ _ _
        refine xt_pure rfl rfl rfl rfl ?_
        refine xt_pure rfl rfl rfl rfl ?_
        refine xt_pure rfl rfl rfl rfl ?_
        refine xt_pure rfl rfl rfl (st1 := .int 5 :: _) rfl ?_
        refine yt_inV (c1 := 0) (s1 := 0) (c2 := 0) (s2 := 0) (fr1 := 1) (lo1 := 21) rfl rfl rfl rfl (xmC 115 rfl) ⟨rfl, rfl, yle rfl, yle rfl, yle rfl, yle rfl⟩ (yle rfl) (L1 := [_, _, _]) rfl ⟨yle rfl, yle rfl⟩ ?_
        refine xt_pure rfl rfl rfl rfl ?_
        refine xt_getf rfl rfl (xmS 3 rfl hh) ?_
        refine xt_pure rfl rfl rfl rfl ?_
        refine xt_pure rfl rfl rfl (st1 := .int 1 :: _) rfl ?_
        refine xt_iret rfl rfl rfl rfl ?_
        show yT _ _ _ _ _ _ (_ :: _) _ _ _ _
        refine xt_pure rfl rfl rfl (L1 := [_, _, _, _]) rfl ?_
        refine xt_pure rfl rfl rfl rfl ?_
        refine xt_pure rfl rfl rfl rfl ?_
        refine xt_pure rfl rfl rfl rfl ?_
        refine xt_pure rfl rfl rfl rfl ?_
        refine yt_inV (c1 := 0) (s1 := 0) (c2 := 0) (s2 := 0) (fr1 := 1) (lo1 := 21) rfl rfl rfl rfl (xmC 115 rfl) ⟨rfl, rfl, yle rfl, yle rfl, yle rfl, yle rfl⟩ (yle rfl) (L1 := [_, _]) rfl ⟨yle rfl, yle rfl⟩ ?_
        refine xt_pure rfl rfl rfl rfl ?_
        refine xt_getf rfl rfl (xmC 120 rfl) ?_
        refine xt_pure rfl rfl rfl rfl ?_
        refine yt_inV (c1 := 0) (s1 := 0) (c2 := 0) (s2 := 0) (fr1 := 0) (lo1 := 0) rfl rfl rfl rfl (xmD 0 rfl) ⟨rfl, rfl, yle rfl, yle rfl, yle rfl, yle rfl⟩ (yle rfl) (L1 := [_, _]) rfl ⟨yle rfl, yle rfl⟩ ?_
        refine xt_pure rfl rfl rfl rfl ?_
        refine xt_pure rfl rfl rfl rfl ?_
        refine xt_getf rfl rfl (xmD 0 rfl) ?_
        refine xt_pure rfl rfl rfl (st1 := .int 1 :: _) rfl ?_
        refine xt_pure rfl rfl rfl rfl ?_
        refine xt_putf rfl rfl rfl rfl 0 rfl (D1 := _ :: _ :: _ :: _) rfl ?_
        refine xt_pure rfl rfl rfl rfl ?_
        refine xt_pure rfl rfl rfl rfl ?_
        refine xt_putf rfl rfl rfl rfl 1 rfl (D1 := _ :: _ :: _ :: _) rfl ?_
        refine xt_pure rfl rfl rfl rfl ?_
        refine xt_pure rfl rfl rfl rfl ?_
        refine xt_getf rfl rfl (xmS 3 rfl hfn) ?_
        refine xt_putf rfl rfl rfl rfl 2 rfl (D1 := _ :: _ :: _ :: _) rfl ?_
        refine xt_vret rfl rfl rfl ?_
        show yT _ _ _ _ _ _ (_) _ _ _ _
        refine xt_pure rfl rfl rfl (st1 := .int (-10) :: _) rfl ?_
        refine xt_pure rfl rfl rfl rfl ?_
        refine xt_pure rfl rfl rfl (st1 := .int (-11) :: _) rfl ?_
        refine xt_iret rfl rfl rfl rfl ?_
        show yT _ _ _ _ _ _ (_ :: _) _ _ _ _
        refine xt_iret rfl rfl rfl rfl ?_
        try simp only [xi32_eq, xi64_eq, Int32.toInt_toInt64, Int32.reduceToInt, Int64.reduceToInt, y_m9, y_m1, y_m100, y64_m9, y64_m1, Ne, y_n1x] at hb2_0 hp2 hp3
        have hc : seV none En fl i e = (-11) := by
          unfold seV
          try dsimp only
          repeat' split
          all_goals first | rfl | (exfalso; omega)
        rw [hc]
        exact ⟨1, (-9), rfl, by simp [flW]⟩
    · skip
      try simp only [xi32_eq, xi64_eq, Int32.toInt_toInt64, Int32.reduceToInt, Int64.reduceToInt, y_m9, y_m1, y_m100, y64_m9, y64_m1, Ne, y_n1x] at hp2
      show yT _ _ _ _ _ _ (_ :: _) _ _ _ _
      refine xt_pure rfl rfl rfl rfl ?_
      refine xt_pure rfl rfl rfl (st1 := .int (-1) :: _) rfl ?_
      refine xt_iret rfl rfl rfl rfl ?_
      try simp only [xi32_eq, xi64_eq, Int32.toInt_toInt64, Int32.reduceToInt, Int64.reduceToInt, y_m9, y_m1, y_m100, y64_m9, y64_m1, Ne, y_n1x] at hb2_0 hp2
      have hc : seV none En fl i e = (-1) := by
        unfold seV
        try dsimp only
        repeat' split
        all_goals first | rfl | (exfalso; omega)
      rw [hc]
      exact ⟨x1, x2, rfl, by simp [flW]⟩
theorem putv56 {s : Nat} (h : s = 5 ∨ s = 6) (v : Int64) : putv s v = v := by rw [putv, if_neg (by omega), if_neg (by omega), if_neg (by omega)]
theorem cnv_n {e : Int32} (h : ¬ e.toInt = -1) : cnv e.toInt64 = e.toInt64 := by
  refine if_neg (fun h2 => h ?_)
  have h3 := congrArg Int64.toInt h2
  rw [Int32.toInt_toInt64] at h3
  exact h3
theorem cnv_p {e : Int32} (h : e.toInt = -1) : cnv e.toInt64 = -9 := by
  refine if_pos ?_
  rw [xi64_eq, Int32.toInt_toInt64, h]
  rfl
theorem seC {ob : yO} (h5 : ob.1 = 5 ∨ ob.1 = 6) (i e : Int32) {x : Int64} (hx : cnv e.toInt64 = x) : cit (seO ob 0 i e) = (cit ob).set i.toInt.toNat (putv ob.1 x) := by
  rw [putv56 h5, ← hx, seO, if_pos rfl]
  simp only [cit, if_pos h5, cnv_set]
theorem cD_seat1 {X : List Int32} {D0 : List xE} {i e : Int32} {fl x1 x2 : Int32} (hfn : ((110, .inl (10, 6, .int (-9))) : xE) ∈ D0) {En : List (Int64 × Int32)} {jb : List Int32} (hE : En.length ≤ 100) (hc0 : ((106, .inl (5, 2, .int (Int32.ofNat En.length))) : xE) ∈ D0) (hc1 : ((108, .inr (0, (En.map Prod.snd ++ jb).map Value.int)) : xE) ∈ D0) {a ia ra : Nat} {ob : yO} (hs : ob.1 ≤ 7) (hz : osz ob ≤ 12) (hh : ((78, .inl (11, 6, .ref a)) : xE) ∈ D0) (k0 : ((a, .inl (6, 0, .int (Int32.ofNat ob.1))) : xE) ∈ D0) (k1 : ((a, .inl (6, 1, .int (Int32.ofNat (osz ob)))) : xE) ∈ D0) (k2 : ((a, .inl (6, 2, .ref ia)) : xE) ∈ D0) (k3 : ((a, .inl (6, 3, .ref ra)) : xE) ∈ D0) : yK X 2 44 104 [.ref 78, .int i, .int e] ((110, .inl (10, 1, .int fl)) :: (110, .inl (10, 4, .int x1)) :: (110, .inl (10, 5, .int x2)) :: (ia, .inr (1, (cit ob).map Value.long)) :: D0) 0 0 (fun w D => ∃ y1 y2 : Int32, w = some (.int (seV (some ob) En fl i e)) ∧ D = (110, .inl (10, 1, .int (flW fl (seV (some ob) En fl i e)))) :: (110, .inl (10, 4, .int y1)) :: (110, .inl (10, 5, .int y2)) :: (ia, .inr (1, (cit (seO ob (seV (some ob) En fl i e) i e)).map Value.long)) :: D0) := by
  have es := yi_nat (i := ob.1) (by omega)
  have ez := yi_nat (i := osz ob) (by omega)
  have en := yi_nat (i := En.length) (by omega)
  refine yK.of rfl (yle rfl) (L := [_, _, _, _]) rfl ?_
  refine xt_pure rfl rfl rfl rfl ?_
  refine xt_pure rfl rfl rfl (st1 := .int (-1) :: _) rfl ?_
  refine yt_ic rfl rfl ?_ ?_
  · intro (hb2_0 : (_ : Int32) = (-1))
    have hb2_0z : Int32.toInt _ = ((-1) : Int) := congrArg Int32.toInt hb2_0
    refine xt_pure rfl rfl rfl rfl ?_
    refine xt_getf rfl rfl (xmC 120 rfl) ?_
    refine xt_callV rfl rfl rfl rfl (xmD 0 rfl) ⟨rfl, rfl, yle rfl, yle rfl, yle rfl, yle rfl⟩ (ck_isFull (List.mem_of_getElem? (i := 0) rfl)) (c2 := 0) (s2 := 0) ⟨yle rfl, yle rfl⟩ ?_
    rintro _ _ (⟨rfl, hp1, rfl⟩ | ⟨rfl, hp1, rfl⟩)
    · skip
      show yT _ _ _ _ _ _ (_ :: _) _ _ _ _
      refine xt_pure rfl rfl rfl rfl ?_
      refine xt_pure rfl rfl rfl (st1 := .int (-3) :: _) rfl ?_
      refine xt_iret rfl rfl rfl rfl ?_
      try simp only [xi32_eq, xi64_eq, Int32.toInt_toInt64, Int32.reduceToInt, Int64.reduceToInt, y_m9, y_m1, y_m100, y64_m9, y64_m1, Ne, y_n1x] at hb2_0 hp1
      have hc : seV (some ob) En fl i e = (-3) := by
        unfold seV
        try dsimp only
        repeat' split
        all_goals first | rfl | (exfalso; omega)
      rw [hc]
      exact ⟨x1, x2, rfl, by simp [flW, seO]⟩
    · skip
      show yT _ _ _ _ _ _ (_ :: _) _ _ _ _
      refine xt_pure rfl rfl rfl rfl ?_
      refine xt_pure rfl rfl rfl rfl ?_
      refine xt_pure rfl rfl rfl rfl ?_
      refine xt_pure rfl rfl rfl (st1 := .int 5 :: _) rfl ?_
      refine xt_callV rfl rfl rfl rfl (xmC 115 rfl) ⟨rfl, rfl, yle rfl, yle rfl, yle rfl, yle rfl⟩ (ck_deskF hs hz (ymS 4 rfl hh) (ymS 4 rfl k0) (ymS 4 rfl k1)) (c2 := 0) (s2 := 0) ⟨yle rfl, yle rfl⟩ ?_
      rintro _ _ (⟨rfl, hp2, rfl⟩ | ⟨rfl, hp2, rfl⟩ | ⟨rfl, hp2, rfl⟩)
      · skip
        try simp only [Int32.reduceToInt, and_true, and_false, or_false, false_or] at hp2
        show yT _ _ _ _ _ _ (_ :: _) _ _ _ _
        refine xt_pure rfl rfl rfl (L1 := [_, _, _, _]) rfl ?_
        refine xt_pure rfl rfl rfl rfl ?_
        refine xt_pure rfl rfl rfl rfl ?_
        refine xt_pure rfl rfl rfl rfl ?_
        refine xt_pure rfl rfl rfl rfl ?_
        refine yt_inV (c1 := 0) (s1 := 0) (c2 := 0) (s2 := 0) (fr1 := 1) (lo1 := 21) rfl rfl rfl rfl (xmC 115 rfl) ⟨rfl, rfl, yle rfl, yle rfl, yle rfl, yle rfl⟩ (yle rfl) (L1 := [_, _]) rfl ⟨yle rfl, yle rfl⟩ ?_
        refine xt_pure rfl rfl rfl rfl ?_
        refine xt_getf rfl rfl (xmC 120 rfl) ?_
        refine xt_pure rfl rfl rfl rfl ?_
        refine yt_inV (c1 := 0) (s1 := 0) (c2 := 0) (s2 := 0) (fr1 := 0) (lo1 := 0) rfl rfl rfl rfl (xmD 0 rfl) ⟨rfl, rfl, yle rfl, yle rfl, yle rfl, yle rfl⟩ (yle rfl) (L1 := [_, _]) rfl ⟨yle rfl, yle rfl⟩ ?_
        refine xt_pure rfl rfl rfl rfl ?_
        refine xt_pure rfl rfl rfl rfl ?_
        refine xt_getf rfl rfl (xmD 0 rfl) ?_
        refine xt_pure rfl rfl rfl (st1 := .int 1 :: _) rfl ?_
        refine xt_pure rfl rfl rfl rfl ?_
        refine xt_putf rfl rfl rfl rfl 0 rfl (D1 := _ :: _ :: _ :: _ :: _) rfl ?_
        refine xt_pure rfl rfl rfl rfl ?_
        refine xt_pure rfl rfl rfl rfl ?_
        refine xt_putf rfl rfl rfl rfl 1 rfl (D1 := _ :: _ :: _ :: _ :: _) rfl ?_
        refine xt_pure rfl rfl rfl rfl ?_
        refine xt_pure rfl rfl rfl rfl ?_
        refine xt_getf rfl rfl (xmS 4 rfl hfn) ?_
        refine xt_putf rfl rfl rfl rfl 2 rfl (D1 := _ :: _ :: _ :: _ :: _) rfl ?_
        refine xt_vret rfl rfl rfl ?_
        show yT _ _ _ _ _ _ (_) _ _ _ _
        refine xt_pure rfl rfl rfl (st1 := .int (-10) :: _) rfl ?_
        refine xt_pure rfl rfl rfl rfl ?_
        refine xt_pure rfl rfl rfl (st1 := .int (-12) :: _) rfl ?_
        refine xt_iret rfl rfl rfl rfl ?_
        show yT _ _ _ _ _ _ (_ :: _) _ _ _ _
        refine xt_iret rfl rfl rfl rfl ?_
        try simp only [xi32_eq, xi64_eq, Int32.toInt_toInt64, Int32.reduceToInt, Int64.reduceToInt, y_m9, y_m1, y_m100, y64_m9, y64_m1, Ne, y_n1x] at hb2_0 hp1 hp2
        have hc : seV (some ob) En fl i e = (-12) := by
          unfold seV
          try dsimp only
          repeat' split
          all_goals first | rfl | (exfalso; omega)
        rw [hc]
        exact ⟨2, (-9), rfl, by simp [flW, seO]⟩
      · skip
        try simp only [Int32.reduceToInt, and_true, and_false, or_false, false_or] at hp2
        show yT _ _ _ _ _ _ (_ :: _) _ _ _ _
        refine xt_pure rfl rfl rfl (L1 := [_, _, _, _]) rfl ?_
        refine xt_pure rfl rfl rfl rfl ?_
        refine xt_pure rfl rfl rfl rfl ?_
        refine xt_pure rfl rfl rfl rfl ?_
        refine xt_pure rfl rfl rfl rfl ?_
        refine yt_inV (c1 := 0) (s1 := 0) (c2 := 0) (s2 := 0) (fr1 := 1) (lo1 := 21) rfl rfl rfl rfl (xmC 115 rfl) ⟨rfl, rfl, yle rfl, yle rfl, yle rfl, yle rfl⟩ (yle rfl) (L1 := [_, _]) rfl ⟨yle rfl, yle rfl⟩ ?_
        refine xt_pure rfl rfl rfl rfl ?_
        refine xt_getf rfl rfl (xmC 120 rfl) ?_
        refine xt_pure rfl rfl rfl rfl ?_
        refine yt_inV (c1 := 0) (s1 := 0) (c2 := 0) (s2 := 0) (fr1 := 0) (lo1 := 0) rfl rfl rfl rfl (xmD 0 rfl) ⟨rfl, rfl, yle rfl, yle rfl, yle rfl, yle rfl⟩ (yle rfl) (L1 := [_, _]) rfl ⟨yle rfl, yle rfl⟩ ?_
        refine xt_pure rfl rfl rfl rfl ?_
        refine xt_pure rfl rfl rfl rfl ?_
        refine xt_getf rfl rfl (xmD 0 rfl) ?_
        refine xt_pure rfl rfl rfl (st1 := .int 1 :: _) rfl ?_
        refine xt_pure rfl rfl rfl rfl ?_
        refine xt_putf rfl rfl rfl rfl 0 rfl (D1 := _ :: _ :: _ :: _ :: _) rfl ?_
        refine xt_pure rfl rfl rfl rfl ?_
        refine xt_pure rfl rfl rfl rfl ?_
        refine xt_putf rfl rfl rfl rfl 1 rfl (D1 := _ :: _ :: _ :: _ :: _) rfl ?_
        refine xt_pure rfl rfl rfl rfl ?_
        refine xt_pure rfl rfl rfl rfl ?_
        refine xt_getf rfl rfl (xmS 4 rfl hfn) ?_
        refine xt_putf rfl rfl rfl rfl 2 rfl (D1 := _ :: _ :: _ :: _ :: _) rfl ?_
        refine xt_vret rfl rfl rfl ?_
        show yT _ _ _ _ _ _ (_) _ _ _ _
        refine xt_pure rfl rfl rfl (st1 := .int (-10) :: _) rfl ?_
        refine xt_pure rfl rfl rfl rfl ?_
        refine xt_pure rfl rfl rfl (st1 := .int (-13) :: _) rfl ?_
        refine xt_iret rfl rfl rfl rfl ?_
        show yT _ _ _ _ _ _ (_ :: _) _ _ _ _
        refine xt_iret rfl rfl rfl rfl ?_
        try simp only [xi32_eq, xi64_eq, Int32.toInt_toInt64, Int32.reduceToInt, Int64.reduceToInt, y_m9, y_m1, y_m100, y64_m9, y64_m1, Ne, y_n1x] at hb2_0 hp1 hp2
        have hc : seV (some ob) En fl i e = (-13) := by
          unfold seV
          try dsimp only
          repeat' split
          all_goals first | rfl | (exfalso; omega)
        rw [hc]
        exact ⟨3, (-9), rfl, by simp [flW, seO]⟩
      · skip
        try simp only [Int32.reduceToInt, and_true, and_false, or_false, false_or] at hp2
        show yT _ _ _ _ _ _ (_ :: _) _ _ _ _
        refine xt_pure rfl rfl rfl (L1 := [_, _, _, _]) rfl ?_
        refine xt_pure rfl rfl rfl rfl ?_
        refine xt_pure rfl rfl rfl rfl ?_
        refine xt_pure rfl rfl rfl rfl ?_
        refine xt_getf rfl rfl (xmS 4 rfl hh) ?_
        refine xt_getf rfl rfl (xmS 4 rfl k0) ?_
        refine xt_pure rfl rfl rfl (st1 := .int 6 :: _) rfl ?_
        refine yt_ic rfl rfl ?_ ?_
        · intro (hb32_3 : (_ : Int32) ≠ 6)
          have hb32_3z : ¬ Int32.toInt _ = (6 : Int) := fun h => hb32_3 (Int32.toInt_inj.mp h)
          refine xt_pure rfl rfl rfl rfl ?_
          refine xt_getf rfl rfl (xmS 4 rfl hh) ?_
          refine xt_pure rfl rfl rfl rfl ?_
          refine xt_pure rfl rfl rfl rfl ?_
          refine xt_pure rfl rfl rfl (st1 := .int (-1) :: _) rfl ?_
          refine yt_ic rfl rfl ?_ ?_
          · intro (h51 : (_ : Int32) ≠ (-1))
            have h51z : ¬ Int32.toInt _ = ((-1) : Int) := fun h => h51 (Int32.toInt_inj.mp h)
            refine xt_pure rfl rfl rfl rfl ?_
            refine xt_pure rfl rfl rfl rfl ?_
            refine yT.mv 3 rfl (D1 := _ :: _ :: _ :: _) rfl ?_
            refine xt_callV rfl rfl rfl rfl (xmS 4 rfl k0) ⟨rfl, rfl, yle rfl, yle rfl, yle rfl, yle rfl⟩ (yput hs (by rw [cit_len]; have := osz_n4 (o := ob) (by omega); omega) (ymS 3 rfl k0) (ymS 3 rfl k2)) (c2 := 0) (s2 := 0) ⟨yle rfl, yle rfl⟩ ?_
            rintro _ _ ⟨rfl, rfl⟩
            refine yT.mv 3 rfl (D1 := _ :: _ :: _ :: _) rfl ?_
            refine yT.mv 3 rfl (D1 := _ :: _ :: _ :: _) rfl ?_
            refine yT.mv 3 rfl (D1 := _ :: _ :: _ :: _) rfl ?_
            refine xt_pure rfl rfl rfl (st1 := .int 0 :: _) rfl ?_
            refine xt_iret rfl rfl rfl rfl ?_
            try simp only [xi32_eq, xi64_eq, Int32.toInt_toInt64, Int32.reduceToInt, Int64.reduceToInt, y_m9, y_m1, y_m100, y64_m9, y64_m1, Ne, y_n1x] at hb2_0 hp1 hp2 hb32_3 h51
            have hc : seV (some ob) En fl i e = 0 := by
              unfold seV
              try dsimp only
              repeat' split
              all_goals first | rfl | (exfalso; omega)
            rw [hc]
            rw [seC (by omega) i e (cnv_n (by omega)), flW0]
            exact ⟨x1, x2, rfl, rfl⟩
          · intro (h51 : (_ : Int32) = (-1))
            have h51z : Int32.toInt _ = ((-1) : Int) := congrArg Int32.toInt h51
            refine xt_pure rfl rfl rfl (st1 := .long (-9) :: _) rfl ?_
            refine xt_pure rfl rfl rfl rfl ?_
            refine yT.mv 3 rfl (D1 := _ :: _ :: _ :: _) rfl ?_
            refine xt_callV rfl rfl rfl rfl (xmS 4 rfl k0) ⟨rfl, rfl, yle rfl, yle rfl, yle rfl, yle rfl⟩ (yput hs (by rw [cit_len]; have := osz_n4 (o := ob) (by omega); omega) (ymS 3 rfl k0) (ymS 3 rfl k2)) (c2 := 0) (s2 := 0) ⟨yle rfl, yle rfl⟩ ?_
            rintro _ _ ⟨rfl, rfl⟩
            refine yT.mv 3 rfl (D1 := _ :: _ :: _ :: _) rfl ?_
            refine yT.mv 3 rfl (D1 := _ :: _ :: _ :: _) rfl ?_
            refine yT.mv 3 rfl (D1 := _ :: _ :: _ :: _) rfl ?_
            refine xt_pure rfl rfl rfl (st1 := .int 0 :: _) rfl ?_
            refine xt_iret rfl rfl rfl rfl ?_
            try simp only [xi32_eq, xi64_eq, Int32.toInt_toInt64, Int32.reduceToInt, Int64.reduceToInt, y_m9, y_m1, y_m100, y64_m9, y64_m1, Ne, y_n1x] at hb2_0 hp1 hp2 hb32_3 h51
            have hc : seV (some ob) En fl i e = 0 := by
              unfold seV
              try dsimp only
              repeat' split
              all_goals first | rfl | (exfalso; omega)
            rw [hc]
            rw [seC (by omega) i e (cnv_p (by omega)), flW0]
            exact ⟨x1, x2, rfl, rfl⟩
        · intro (hb32_3 : (_ : Int32) = 6)
          have hb32_3z : Int32.toInt _ = (6 : Int) := congrArg Int32.toInt hb32_3
          refine xt_pure rfl rfl rfl rfl ?_
          refine xt_pure rfl rfl rfl (st1 := .int (-1) :: _) rfl ?_
          refine yt_ic rfl rfl ?_ ?_
          · intro (hb35_5 : (_ : Int32) = (-1))
            have hb35_5z : Int32.toInt _ = ((-1) : Int) := congrArg Int32.toInt hb35_5
            refine xt_pure rfl rfl rfl rfl ?_
            refine xt_getf rfl rfl (xmS 4 rfl hh) ?_
            refine xt_pure rfl rfl rfl rfl ?_
            refine xt_pure rfl rfl rfl rfl ?_
            refine xt_pure rfl rfl rfl (st1 := .int (-1) :: _) rfl ?_
            refine yt_ic rfl rfl ?_ ?_
            · intro (h51 : (_ : Int32) ≠ (-1))
              have h51z : ¬ Int32.toInt _ = ((-1) : Int) := fun h => h51 (Int32.toInt_inj.mp h)
              refine xt_pure rfl rfl rfl rfl ?_
              refine xt_pure rfl rfl rfl rfl ?_
              refine yT.mv 3 rfl (D1 := _ :: _ :: _ :: _) rfl ?_
              refine xt_callV rfl rfl rfl rfl (xmS 4 rfl k0) ⟨rfl, rfl, yle rfl, yle rfl, yle rfl, yle rfl⟩ (yput hs (by rw [cit_len]; have := osz_n4 (o := ob) (by omega); omega) (ymS 3 rfl k0) (ymS 3 rfl k2)) (c2 := 0) (s2 := 0) ⟨yle rfl, yle rfl⟩ ?_
              rintro _ _ ⟨rfl, rfl⟩
              refine yT.mv 3 rfl (D1 := _ :: _ :: _ :: _) rfl ?_
              refine yT.mv 3 rfl (D1 := _ :: _ :: _ :: _) rfl ?_
              refine yT.mv 3 rfl (D1 := _ :: _ :: _ :: _) rfl ?_
              refine xt_pure rfl rfl rfl (st1 := .int 0 :: _) rfl ?_
              refine xt_iret rfl rfl rfl rfl ?_
              try simp only [xi32_eq, xi64_eq, Int32.toInt_toInt64, Int32.reduceToInt, Int64.reduceToInt, y_m9, y_m1, y_m100, y64_m9, y64_m1, Ne, y_n1x] at hb2_0 hp1 hp2 hb32_3 hb35_5 h51
              have hc : seV (some ob) En fl i e = 0 := by
                unfold seV
                try dsimp only
                repeat' split
                all_goals first | rfl | (exfalso; omega)
              rw [hc]
              rw [seC (by omega) i e (cnv_n (by omega)), flW0]
              exact ⟨x1, x2, rfl, rfl⟩
            · intro (h51 : (_ : Int32) = (-1))
              have h51z : Int32.toInt _ = ((-1) : Int) := congrArg Int32.toInt h51
              refine xt_pure rfl rfl rfl (st1 := .long (-9) :: _) rfl ?_
              refine xt_pure rfl rfl rfl rfl ?_
              refine yT.mv 3 rfl (D1 := _ :: _ :: _ :: _) rfl ?_
              refine xt_callV rfl rfl rfl rfl (xmS 4 rfl k0) ⟨rfl, rfl, yle rfl, yle rfl, yle rfl, yle rfl⟩ (yput hs (by rw [cit_len]; have := osz_n4 (o := ob) (by omega); omega) (ymS 3 rfl k0) (ymS 3 rfl k2)) (c2 := 0) (s2 := 0) ⟨yle rfl, yle rfl⟩ ?_
              rintro _ _ ⟨rfl, rfl⟩
              refine yT.mv 3 rfl (D1 := _ :: _ :: _ :: _) rfl ?_
              refine yT.mv 3 rfl (D1 := _ :: _ :: _ :: _) rfl ?_
              refine yT.mv 3 rfl (D1 := _ :: _ :: _ :: _) rfl ?_
              refine xt_pure rfl rfl rfl (st1 := .int 0 :: _) rfl ?_
              refine xt_iret rfl rfl rfl rfl ?_
              try simp only [xi32_eq, xi64_eq, Int32.toInt_toInt64, Int32.reduceToInt, Int64.reduceToInt, y_m9, y_m1, y_m100, y64_m9, y64_m1, Ne, y_n1x] at hb2_0 hp1 hp2 hb32_3 hb35_5 h51
              have hc : seV (some ob) En fl i e = 0 := by
                unfold seV
                try dsimp only
                repeat' split
                all_goals first | rfl | (exfalso; omega)
              rw [hc]
              rw [seC (by omega) i e (cnv_p (by omega)), flW0]
              exact ⟨x1, x2, rfl, rfl⟩
          · intro (hb35_5 : (_ : Int32) ≠ (-1))
            have hb35_5z : ¬ Int32.toInt _ = ((-1) : Int) := fun h => hb35_5 (Int32.toInt_inj.mp h)
            refine xt_pure rfl rfl rfl rfl ?_
            refine xt_getf rfl rfl (xmC 118 rfl) ?_
            refine xt_pure rfl rfl rfl rfl ?_
            refine xt_pure rfl rfl rfl rfl ?_
            refine xt_callV rfl rfl rfl rfl (xmC 140 rfl) ⟨rfl, rfl, yle rfl, yle rfl, yle rfl, yle rfl⟩ (ck_signed (by omega) (ymS 4 rfl hc0) (ymS 4 rfl hc1)) (c2 := 0) (s2 := 0) ⟨yle rfl, yle rfl⟩ ?_
            rintro _ _ (⟨rfl, hp7, rfl⟩ | ⟨rfl, hp7, rfl⟩)
            · skip
              try simp only [xi32_eq, xi64_eq, Int32.toInt_toInt64, Int32.reduceToInt, Int64.reduceToInt, y_m9, y_m1, y_m100, y64_m9, y64_m1, Ne, y_n1x, y6432i] at hp7
              show yT _ _ _ _ _ _ (_ :: _) _ _ _ _
              refine xt_pure rfl rfl rfl rfl ?_
              refine xt_pure rfl rfl rfl rfl ?_
              refine xt_getf rfl rfl (xmS 4 rfl hh) ?_
              refine xt_pure rfl rfl rfl rfl ?_
              refine xt_pure rfl rfl rfl rfl ?_
              refine xt_pure rfl rfl rfl (st1 := .int (-1) :: _) rfl ?_
              refine yt_ic rfl rfl ?_ ?_
              · intro (h51 : (_ : Int32) ≠ (-1))
                have h51z : ¬ Int32.toInt _ = ((-1) : Int) := fun h => h51 (Int32.toInt_inj.mp h)
                refine xt_pure rfl rfl rfl rfl ?_
                refine xt_pure rfl rfl rfl rfl ?_
                refine yT.mv 3 rfl (D1 := _ :: _ :: _ :: _) rfl ?_
                refine xt_callV rfl rfl rfl rfl (xmS 4 rfl k0) ⟨rfl, rfl, yle rfl, yle rfl, yle rfl, yle rfl⟩ (yput hs (by rw [cit_len]; have := osz_n4 (o := ob) (by omega); omega) (ymS 3 rfl k0) (ymS 3 rfl k2)) (c2 := 0) (s2 := 0) ⟨yle rfl, yle rfl⟩ ?_
                rintro _ _ ⟨rfl, rfl⟩
                refine yT.mv 3 rfl (D1 := _ :: _ :: _ :: _) rfl ?_
                refine yT.mv 3 rfl (D1 := _ :: _ :: _ :: _) rfl ?_
                refine yT.mv 3 rfl (D1 := _ :: _ :: _ :: _) rfl ?_
                refine xt_pure rfl rfl rfl (st1 := .int 0 :: _) rfl ?_
                refine xt_iret rfl rfl rfl rfl ?_
                try simp only [xi32_eq, xi64_eq, Int32.toInt_toInt64, Int32.reduceToInt, Int64.reduceToInt, y_m9, y_m1, y_m100, y64_m9, y64_m1, Ne, y_n1x] at hb2_0 hp1 hp2 hb32_3 hb35_5 hp7 h51
                have hc : seV (some ob) En fl i e = 0 := by
                  unfold seV
                  try dsimp only
                  repeat' split
                  all_goals first | rfl | (exfalso; omega)
                rw [hc]
                rw [seC (by omega) i e (cnv_n (by omega)), flW0]
                exact ⟨x1, x2, rfl, rfl⟩
              · intro (h51 : (_ : Int32) = (-1))
                have h51z : Int32.toInt _ = ((-1) : Int) := congrArg Int32.toInt h51
                refine xt_pure rfl rfl rfl (st1 := .long (-9) :: _) rfl ?_
                refine xt_pure rfl rfl rfl rfl ?_
                refine yT.mv 3 rfl (D1 := _ :: _ :: _ :: _) rfl ?_
                refine xt_callV rfl rfl rfl rfl (xmS 4 rfl k0) ⟨rfl, rfl, yle rfl, yle rfl, yle rfl, yle rfl⟩ (yput hs (by rw [cit_len]; have := osz_n4 (o := ob) (by omega); omega) (ymS 3 rfl k0) (ymS 3 rfl k2)) (c2 := 0) (s2 := 0) ⟨yle rfl, yle rfl⟩ ?_
                rintro _ _ ⟨rfl, rfl⟩
                refine yT.mv 3 rfl (D1 := _ :: _ :: _ :: _) rfl ?_
                refine yT.mv 3 rfl (D1 := _ :: _ :: _ :: _) rfl ?_
                refine yT.mv 3 rfl (D1 := _ :: _ :: _ :: _) rfl ?_
                refine xt_pure rfl rfl rfl (st1 := .int 0 :: _) rfl ?_
                refine xt_iret rfl rfl rfl rfl ?_
                try simp only [xi32_eq, xi64_eq, Int32.toInt_toInt64, Int32.reduceToInt, Int64.reduceToInt, y_m9, y_m1, y_m100, y64_m9, y64_m1, Ne, y_n1x] at hb2_0 hp1 hp2 hb32_3 hb35_5 hp7 h51
                have hc : seV (some ob) En fl i e = 0 := by
                  unfold seV
                  try dsimp only
                  repeat' split
                  all_goals first | rfl | (exfalso; omega)
                rw [hc]
                rw [seC (by omega) i e (cnv_p (by omega)), flW0]
                exact ⟨x1, x2, rfl, rfl⟩
            · skip
              try simp only [xi32_eq, xi64_eq, Int32.toInt_toInt64, Int32.reduceToInt, Int64.reduceToInt, y_m9, y_m1, y_m100, y64_m9, y64_m1, Ne, y_n1x, y6432i] at hp7
              show yT _ _ _ _ _ _ (_ :: _) _ _ _ _
              refine xt_pure rfl rfl rfl rfl ?_
              refine xt_pure rfl rfl rfl rfl ?_
              refine xt_pure rfl rfl rfl (st1 := .int 5 :: _) rfl ?_
              refine yt_inV (c1 := 0) (s1 := 0) (c2 := 0) (s2 := 0) (fr1 := 1) (lo1 := 21) rfl rfl rfl rfl (xmC 115 rfl) ⟨rfl, rfl, yle rfl, yle rfl, yle rfl, yle rfl⟩ (yle rfl) (L1 := [_, _]) rfl ⟨yle rfl, yle rfl⟩ ?_
              refine xt_pure rfl rfl rfl rfl ?_
              refine xt_getf rfl rfl (xmC 120 rfl) ?_
              refine xt_pure rfl rfl rfl rfl ?_
              refine yt_inV (c1 := 0) (s1 := 0) (c2 := 0) (s2 := 0) (fr1 := 0) (lo1 := 0) rfl rfl rfl rfl (xmD 0 rfl) ⟨rfl, rfl, yle rfl, yle rfl, yle rfl, yle rfl⟩ (yle rfl) (L1 := [_, _]) rfl ⟨yle rfl, yle rfl⟩ ?_
              refine xt_pure rfl rfl rfl rfl ?_
              refine xt_pure rfl rfl rfl rfl ?_
              refine xt_getf rfl rfl (xmD 0 rfl) ?_
              refine xt_pure rfl rfl rfl (st1 := .int 1 :: _) rfl ?_
              refine xt_pure rfl rfl rfl rfl ?_
              refine xt_putf rfl rfl rfl rfl 0 rfl (D1 := _ :: _ :: _ :: _ :: _) rfl ?_
              refine xt_pure rfl rfl rfl rfl ?_
              refine xt_pure rfl rfl rfl rfl ?_
              refine xt_putf rfl rfl rfl rfl 1 rfl (D1 := _ :: _ :: _ :: _ :: _) rfl ?_
              refine xt_pure rfl rfl rfl rfl ?_
              refine xt_pure rfl rfl rfl rfl ?_
              refine xt_getf rfl rfl (xmS 4 rfl hfn) ?_
              refine xt_putf rfl rfl rfl rfl 2 rfl (D1 := _ :: _ :: _ :: _ :: _) rfl ?_
              refine xt_vret rfl rfl rfl ?_
              show yT _ _ _ _ _ _ (_) _ _ _ _
              refine xt_pure rfl rfl rfl (st1 := .int (-10) :: _) rfl ?_
              refine xt_pure rfl rfl rfl rfl ?_
              refine xt_pure rfl rfl rfl (st1 := .int (-15) :: _) rfl ?_
              refine xt_iret rfl rfl rfl rfl ?_
              show yT _ _ _ _ _ _ (_ :: _) _ _ _ _
              refine xt_iret rfl rfl rfl rfl ?_
              try simp only [xi32_eq, xi64_eq, Int32.toInt_toInt64, Int32.reduceToInt, Int64.reduceToInt, y_m9, y_m1, y_m100, y64_m9, y64_m1, Ne, y_n1x] at hb2_0 hp1 hp2 hb32_3 hb35_5 hp7
              have hc : seV (some ob) En fl i e = (-15) := by
                unfold seV
                try dsimp only
                repeat' split
                all_goals first | rfl | (exfalso; omega)
              rw [hc]
              exact ⟨5, (-9), rfl, by simp [flW, seO]⟩
  · intro (hb2_0 : (_ : Int32) ≠ (-1))
    have hb2_0z : ¬ Int32.toInt _ = ((-1) : Int) := fun h => hb2_0 (Int32.toInt_inj.mp h)
    refine xt_pure rfl rfl rfl rfl ?_
    refine xt_getf rfl rfl (xmC 118 rfl) ?_
    refine xt_pure rfl rfl rfl rfl ?_
    refine xt_pure rfl rfl rfl rfl ?_
    refine xt_callV rfl rfl rfl rfl (xmC 140 rfl) ⟨rfl, rfl, yle rfl, yle rfl, yle rfl, yle rfl⟩ (ck_lholds (by omega) (ymS 4 rfl hc0)) (c2 := 0) (s2 := 0) ⟨yle rfl, yle rfl⟩ ?_
    rintro _ _ (⟨rfl, hp9, rfl⟩ | ⟨rfl, hp9, rfl⟩)
    · skip
      try simp only [xi32_eq, xi64_eq, Int32.toInt_toInt64, Int32.reduceToInt, Int64.reduceToInt, y_m9, y_m1, y_m100, y64_m9, y64_m1, Ne, y_n1x] at hp9
      show yT _ _ _ _ _ _ (_ :: _) _ _ _ _
      refine xt_pure rfl rfl rfl rfl ?_
      refine xt_pure rfl rfl rfl rfl ?_
      refine xt_getf rfl rfl (xmC 120 rfl) ?_
      refine xt_callV rfl rfl rfl rfl (xmD 0 rfl) ⟨rfl, rfl, yle rfl, yle rfl, yle rfl, yle rfl⟩ (ck_isFull (List.mem_of_getElem? (i := 0) rfl)) (c2 := 0) (s2 := 0) ⟨yle rfl, yle rfl⟩ ?_
      rintro _ _ (⟨rfl, hp10, rfl⟩ | ⟨rfl, hp10, rfl⟩)
      · skip
        show yT _ _ _ _ _ _ (_ :: _) _ _ _ _
        refine xt_pure rfl rfl rfl rfl ?_
        refine xt_pure rfl rfl rfl (st1 := .int (-3) :: _) rfl ?_
        refine xt_iret rfl rfl rfl rfl ?_
        try simp only [xi32_eq, xi64_eq, Int32.toInt_toInt64, Int32.reduceToInt, Int64.reduceToInt, y_m9, y_m1, y_m100, y64_m9, y64_m1, Ne, y_n1x] at hb2_0 hp9 hp10
        have hc : seV (some ob) En fl i e = (-3) := by
          unfold seV
          try dsimp only
          repeat' split
          all_goals first | rfl | (exfalso; omega)
        rw [hc]
        exact ⟨x1, x2, rfl, by simp [flW, seO]⟩
      · skip
        show yT _ _ _ _ _ _ (_ :: _) _ _ _ _
        refine xt_pure rfl rfl rfl rfl ?_
        refine xt_pure rfl rfl rfl rfl ?_
        refine xt_pure rfl rfl rfl rfl ?_
        refine xt_pure rfl rfl rfl (st1 := .int 5 :: _) rfl ?_
        refine xt_callV rfl rfl rfl rfl (xmC 115 rfl) ⟨rfl, rfl, yle rfl, yle rfl, yle rfl, yle rfl⟩ (ck_deskF hs hz (ymS 4 rfl hh) (ymS 4 rfl k0) (ymS 4 rfl k1)) (c2 := 0) (s2 := 0) ⟨yle rfl, yle rfl⟩ ?_
        rintro _ _ (⟨rfl, hp11, rfl⟩ | ⟨rfl, hp11, rfl⟩ | ⟨rfl, hp11, rfl⟩)
        · skip
          try simp only [Int32.reduceToInt, and_true, and_false, or_false, false_or] at hp11
          show yT _ _ _ _ _ _ (_ :: _) _ _ _ _
          refine xt_pure rfl rfl rfl (L1 := [_, _, _, _]) rfl ?_
          refine xt_pure rfl rfl rfl rfl ?_
          refine xt_pure rfl rfl rfl rfl ?_
          refine xt_pure rfl rfl rfl rfl ?_
          refine xt_pure rfl rfl rfl rfl ?_
          refine yt_inV (c1 := 0) (s1 := 0) (c2 := 0) (s2 := 0) (fr1 := 1) (lo1 := 21) rfl rfl rfl rfl (xmC 115 rfl) ⟨rfl, rfl, yle rfl, yle rfl, yle rfl, yle rfl⟩ (yle rfl) (L1 := [_, _]) rfl ⟨yle rfl, yle rfl⟩ ?_
          refine xt_pure rfl rfl rfl rfl ?_
          refine xt_getf rfl rfl (xmC 120 rfl) ?_
          refine xt_pure rfl rfl rfl rfl ?_
          refine yt_inV (c1 := 0) (s1 := 0) (c2 := 0) (s2 := 0) (fr1 := 0) (lo1 := 0) rfl rfl rfl rfl (xmD 0 rfl) ⟨rfl, rfl, yle rfl, yle rfl, yle rfl, yle rfl⟩ (yle rfl) (L1 := [_, _]) rfl ⟨yle rfl, yle rfl⟩ ?_
          refine xt_pure rfl rfl rfl rfl ?_
          refine xt_pure rfl rfl rfl rfl ?_
          refine xt_getf rfl rfl (xmD 0 rfl) ?_
          refine xt_pure rfl rfl rfl (st1 := .int 1 :: _) rfl ?_
          refine xt_pure rfl rfl rfl rfl ?_
          refine xt_putf rfl rfl rfl rfl 0 rfl (D1 := _ :: _ :: _ :: _ :: _) rfl ?_
          refine xt_pure rfl rfl rfl rfl ?_
          refine xt_pure rfl rfl rfl rfl ?_
          refine xt_putf rfl rfl rfl rfl 1 rfl (D1 := _ :: _ :: _ :: _ :: _) rfl ?_
          refine xt_pure rfl rfl rfl rfl ?_
          refine xt_pure rfl rfl rfl rfl ?_
          refine xt_getf rfl rfl (xmS 4 rfl hfn) ?_
          refine xt_putf rfl rfl rfl rfl 2 rfl (D1 := _ :: _ :: _ :: _ :: _) rfl ?_
          refine xt_vret rfl rfl rfl ?_
          show yT _ _ _ _ _ _ (_) _ _ _ _
          refine xt_pure rfl rfl rfl (st1 := .int (-10) :: _) rfl ?_
          refine xt_pure rfl rfl rfl rfl ?_
          refine xt_pure rfl rfl rfl (st1 := .int (-12) :: _) rfl ?_
          refine xt_iret rfl rfl rfl rfl ?_
          show yT _ _ _ _ _ _ (_ :: _) _ _ _ _
          refine xt_iret rfl rfl rfl rfl ?_
          try simp only [xi32_eq, xi64_eq, Int32.toInt_toInt64, Int32.reduceToInt, Int64.reduceToInt, y_m9, y_m1, y_m100, y64_m9, y64_m1, Ne, y_n1x] at hb2_0 hp9 hp10 hp11
          have hc : seV (some ob) En fl i e = (-12) := by
            unfold seV
            try dsimp only
            repeat' split
            all_goals first | rfl | (exfalso; omega)
          rw [hc]
          exact ⟨2, (-9), rfl, by simp [flW, seO]⟩
        · skip
          try simp only [Int32.reduceToInt, and_true, and_false, or_false, false_or] at hp11
          show yT _ _ _ _ _ _ (_ :: _) _ _ _ _
          refine xt_pure rfl rfl rfl (L1 := [_, _, _, _]) rfl ?_
          refine xt_pure rfl rfl rfl rfl ?_
          refine xt_pure rfl rfl rfl rfl ?_
          refine xt_pure rfl rfl rfl rfl ?_
          refine xt_pure rfl rfl rfl rfl ?_
          refine yt_inV (c1 := 0) (s1 := 0) (c2 := 0) (s2 := 0) (fr1 := 1) (lo1 := 21) rfl rfl rfl rfl (xmC 115 rfl) ⟨rfl, rfl, yle rfl, yle rfl, yle rfl, yle rfl⟩ (yle rfl) (L1 := [_, _]) rfl ⟨yle rfl, yle rfl⟩ ?_
          refine xt_pure rfl rfl rfl rfl ?_
          refine xt_getf rfl rfl (xmC 120 rfl) ?_
          refine xt_pure rfl rfl rfl rfl ?_
          refine yt_inV (c1 := 0) (s1 := 0) (c2 := 0) (s2 := 0) (fr1 := 0) (lo1 := 0) rfl rfl rfl rfl (xmD 0 rfl) ⟨rfl, rfl, yle rfl, yle rfl, yle rfl, yle rfl⟩ (yle rfl) (L1 := [_, _]) rfl ⟨yle rfl, yle rfl⟩ ?_
          refine xt_pure rfl rfl rfl rfl ?_
          refine xt_pure rfl rfl rfl rfl ?_
          refine xt_getf rfl rfl (xmD 0 rfl) ?_
          refine xt_pure rfl rfl rfl (st1 := .int 1 :: _) rfl ?_
          refine xt_pure rfl rfl rfl rfl ?_
          refine xt_putf rfl rfl rfl rfl 0 rfl (D1 := _ :: _ :: _ :: _ :: _) rfl ?_
          refine xt_pure rfl rfl rfl rfl ?_
          refine xt_pure rfl rfl rfl rfl ?_
          refine xt_putf rfl rfl rfl rfl 1 rfl (D1 := _ :: _ :: _ :: _ :: _) rfl ?_
          refine xt_pure rfl rfl rfl rfl ?_
          refine xt_pure rfl rfl rfl rfl ?_
          refine xt_getf rfl rfl (xmS 4 rfl hfn) ?_
          refine xt_putf rfl rfl rfl rfl 2 rfl (D1 := _ :: _ :: _ :: _ :: _) rfl ?_
          refine xt_vret rfl rfl rfl ?_
          show yT _ _ _ _ _ _ (_) _ _ _ _
          refine xt_pure rfl rfl rfl (st1 := .int (-10) :: _) rfl ?_
          refine xt_pure rfl rfl rfl rfl ?_
          refine xt_pure rfl rfl rfl (st1 := .int (-13) :: _) rfl ?_
          refine xt_iret rfl rfl rfl rfl ?_
          show yT _ _ _ _ _ _ (_ :: _) _ _ _ _
          refine xt_iret rfl rfl rfl rfl ?_
          try simp only [xi32_eq, xi64_eq, Int32.toInt_toInt64, Int32.reduceToInt, Int64.reduceToInt, y_m9, y_m1, y_m100, y64_m9, y64_m1, Ne, y_n1x] at hb2_0 hp9 hp10 hp11
          have hc : seV (some ob) En fl i e = (-13) := by
            unfold seV
            try dsimp only
            repeat' split
            all_goals first | rfl | (exfalso; omega)
          rw [hc]
          exact ⟨3, (-9), rfl, by simp [flW, seO]⟩
        · skip
          try simp only [Int32.reduceToInt, and_true, and_false, or_false, false_or] at hp11
          show yT _ _ _ _ _ _ (_ :: _) _ _ _ _
          refine xt_pure rfl rfl rfl (L1 := [_, _, _, _]) rfl ?_
          refine xt_pure rfl rfl rfl rfl ?_
          refine xt_pure rfl rfl rfl rfl ?_
          refine xt_pure rfl rfl rfl rfl ?_
          refine xt_getf rfl rfl (xmS 4 rfl hh) ?_
          refine xt_getf rfl rfl (xmS 4 rfl k0) ?_
          refine xt_pure rfl rfl rfl (st1 := .int 6 :: _) rfl ?_
          refine yt_ic rfl rfl ?_ ?_
          · intro (hb32_12 : (_ : Int32) ≠ 6)
            have hb32_12z : ¬ Int32.toInt _ = (6 : Int) := fun h => hb32_12 (Int32.toInt_inj.mp h)
            refine xt_pure rfl rfl rfl rfl ?_
            refine xt_getf rfl rfl (xmS 4 rfl hh) ?_
            refine xt_pure rfl rfl rfl rfl ?_
            refine xt_pure rfl rfl rfl rfl ?_
            refine xt_pure rfl rfl rfl (st1 := .int (-1) :: _) rfl ?_
            refine yt_ic rfl rfl ?_ ?_
            · intro (h51 : (_ : Int32) ≠ (-1))
              have h51z : ¬ Int32.toInt _ = ((-1) : Int) := fun h => h51 (Int32.toInt_inj.mp h)
              refine xt_pure rfl rfl rfl rfl ?_
              refine xt_pure rfl rfl rfl rfl ?_
              refine yT.mv 3 rfl (D1 := _ :: _ :: _ :: _) rfl ?_
              refine xt_callV rfl rfl rfl rfl (xmS 4 rfl k0) ⟨rfl, rfl, yle rfl, yle rfl, yle rfl, yle rfl⟩ (yput hs (by rw [cit_len]; have := osz_n4 (o := ob) (by omega); omega) (ymS 3 rfl k0) (ymS 3 rfl k2)) (c2 := 0) (s2 := 0) ⟨yle rfl, yle rfl⟩ ?_
              rintro _ _ ⟨rfl, rfl⟩
              refine yT.mv 3 rfl (D1 := _ :: _ :: _ :: _) rfl ?_
              refine yT.mv 3 rfl (D1 := _ :: _ :: _ :: _) rfl ?_
              refine yT.mv 3 rfl (D1 := _ :: _ :: _ :: _) rfl ?_
              refine xt_pure rfl rfl rfl (st1 := .int 0 :: _) rfl ?_
              refine xt_iret rfl rfl rfl rfl ?_
              try simp only [xi32_eq, xi64_eq, Int32.toInt_toInt64, Int32.reduceToInt, Int64.reduceToInt, y_m9, y_m1, y_m100, y64_m9, y64_m1, Ne, y_n1x] at hb2_0 hp9 hp10 hp11 hb32_12 h51
              have hc : seV (some ob) En fl i e = 0 := by
                unfold seV
                try dsimp only
                repeat' split
                all_goals first | rfl | (exfalso; omega)
              rw [hc]
              rw [seC (by omega) i e (cnv_n (by omega)), flW0]
              exact ⟨x1, x2, rfl, rfl⟩
            · intro (h51 : (_ : Int32) = (-1))
              have h51z : Int32.toInt _ = ((-1) : Int) := congrArg Int32.toInt h51
              refine xt_pure rfl rfl rfl (st1 := .long (-9) :: _) rfl ?_
              refine xt_pure rfl rfl rfl rfl ?_
              refine yT.mv 3 rfl (D1 := _ :: _ :: _ :: _) rfl ?_
              refine xt_callV rfl rfl rfl rfl (xmS 4 rfl k0) ⟨rfl, rfl, yle rfl, yle rfl, yle rfl, yle rfl⟩ (yput hs (by rw [cit_len]; have := osz_n4 (o := ob) (by omega); omega) (ymS 3 rfl k0) (ymS 3 rfl k2)) (c2 := 0) (s2 := 0) ⟨yle rfl, yle rfl⟩ ?_
              rintro _ _ ⟨rfl, rfl⟩
              refine yT.mv 3 rfl (D1 := _ :: _ :: _ :: _) rfl ?_
              refine yT.mv 3 rfl (D1 := _ :: _ :: _ :: _) rfl ?_
              refine yT.mv 3 rfl (D1 := _ :: _ :: _ :: _) rfl ?_
              refine xt_pure rfl rfl rfl (st1 := .int 0 :: _) rfl ?_
              refine xt_iret rfl rfl rfl rfl ?_
              try simp only [xi32_eq, xi64_eq, Int32.toInt_toInt64, Int32.reduceToInt, Int64.reduceToInt, y_m9, y_m1, y_m100, y64_m9, y64_m1, Ne, y_n1x] at hb2_0 hp9 hp10 hp11 hb32_12 h51
              have hc : seV (some ob) En fl i e = 0 := by
                unfold seV
                try dsimp only
                repeat' split
                all_goals first | rfl | (exfalso; omega)
              rw [hc]
              rw [seC (by omega) i e (cnv_p (by omega)), flW0]
              exact ⟨x1, x2, rfl, rfl⟩
          · intro (hb32_12 : (_ : Int32) = 6)
            have hb32_12z : Int32.toInt _ = (6 : Int) := congrArg Int32.toInt hb32_12
            refine xt_pure rfl rfl rfl rfl ?_
            refine xt_pure rfl rfl rfl (st1 := .int (-1) :: _) rfl ?_
            refine yt_ic rfl rfl ?_ ?_
            · intro (hb35_14 : (_ : Int32) = (-1))
              have hb35_14z : Int32.toInt _ = ((-1) : Int) := congrArg Int32.toInt hb35_14
              refine xt_pure rfl rfl rfl rfl ?_
              refine xt_getf rfl rfl (xmS 4 rfl hh) ?_
              refine xt_pure rfl rfl rfl rfl ?_
              refine xt_pure rfl rfl rfl rfl ?_
              refine xt_pure rfl rfl rfl (st1 := .int (-1) :: _) rfl ?_
              refine yt_ic rfl rfl ?_ ?_
              · intro (h51 : (_ : Int32) ≠ (-1))
                have h51z : ¬ Int32.toInt _ = ((-1) : Int) := fun h => h51 (Int32.toInt_inj.mp h)
                refine xt_pure rfl rfl rfl rfl ?_
                refine xt_pure rfl rfl rfl rfl ?_
                refine yT.mv 3 rfl (D1 := _ :: _ :: _ :: _) rfl ?_
                refine xt_callV rfl rfl rfl rfl (xmS 4 rfl k0) ⟨rfl, rfl, yle rfl, yle rfl, yle rfl, yle rfl⟩ (yput hs (by rw [cit_len]; have := osz_n4 (o := ob) (by omega); omega) (ymS 3 rfl k0) (ymS 3 rfl k2)) (c2 := 0) (s2 := 0) ⟨yle rfl, yle rfl⟩ ?_
                rintro _ _ ⟨rfl, rfl⟩
                refine yT.mv 3 rfl (D1 := _ :: _ :: _ :: _) rfl ?_
                refine yT.mv 3 rfl (D1 := _ :: _ :: _ :: _) rfl ?_
                refine yT.mv 3 rfl (D1 := _ :: _ :: _ :: _) rfl ?_
                refine xt_pure rfl rfl rfl (st1 := .int 0 :: _) rfl ?_
                refine xt_iret rfl rfl rfl rfl ?_
                try simp only [xi32_eq, xi64_eq, Int32.toInt_toInt64, Int32.reduceToInt, Int64.reduceToInt, y_m9, y_m1, y_m100, y64_m9, y64_m1, Ne, y_n1x] at hb2_0 hp9 hp10 hp11 hb32_12 hb35_14 h51
                have hc : seV (some ob) En fl i e = 0 := by
                  unfold seV
                  try dsimp only
                  repeat' split
                  all_goals first | rfl | (exfalso; omega)
                rw [hc]
                rw [seC (by omega) i e (cnv_n (by omega)), flW0]
                exact ⟨x1, x2, rfl, rfl⟩
              · intro (h51 : (_ : Int32) = (-1))
                have h51z : Int32.toInt _ = ((-1) : Int) := congrArg Int32.toInt h51
                refine xt_pure rfl rfl rfl (st1 := .long (-9) :: _) rfl ?_
                refine xt_pure rfl rfl rfl rfl ?_
                refine yT.mv 3 rfl (D1 := _ :: _ :: _ :: _) rfl ?_
                refine xt_callV rfl rfl rfl rfl (xmS 4 rfl k0) ⟨rfl, rfl, yle rfl, yle rfl, yle rfl, yle rfl⟩ (yput hs (by rw [cit_len]; have := osz_n4 (o := ob) (by omega); omega) (ymS 3 rfl k0) (ymS 3 rfl k2)) (c2 := 0) (s2 := 0) ⟨yle rfl, yle rfl⟩ ?_
                rintro _ _ ⟨rfl, rfl⟩
                refine yT.mv 3 rfl (D1 := _ :: _ :: _ :: _) rfl ?_
                refine yT.mv 3 rfl (D1 := _ :: _ :: _ :: _) rfl ?_
                refine yT.mv 3 rfl (D1 := _ :: _ :: _ :: _) rfl ?_
                refine xt_pure rfl rfl rfl (st1 := .int 0 :: _) rfl ?_
                refine xt_iret rfl rfl rfl rfl ?_
                try simp only [xi32_eq, xi64_eq, Int32.toInt_toInt64, Int32.reduceToInt, Int64.reduceToInt, y_m9, y_m1, y_m100, y64_m9, y64_m1, Ne, y_n1x] at hb2_0 hp9 hp10 hp11 hb32_12 hb35_14 h51
                have hc : seV (some ob) En fl i e = 0 := by
                  unfold seV
                  try dsimp only
                  repeat' split
                  all_goals first | rfl | (exfalso; omega)
                rw [hc]
                rw [seC (by omega) i e (cnv_p (by omega)), flW0]
                exact ⟨x1, x2, rfl, rfl⟩
            · intro (hb35_14 : (_ : Int32) ≠ (-1))
              have hb35_14z : ¬ Int32.toInt _ = ((-1) : Int) := fun h => hb35_14 (Int32.toInt_inj.mp h)
              refine xt_pure rfl rfl rfl rfl ?_
              refine xt_getf rfl rfl (xmC 118 rfl) ?_
              refine xt_pure rfl rfl rfl rfl ?_
              refine xt_pure rfl rfl rfl rfl ?_
              refine xt_callV rfl rfl rfl rfl (xmC 140 rfl) ⟨rfl, rfl, yle rfl, yle rfl, yle rfl, yle rfl⟩ (ck_signed (by omega) (ymS 4 rfl hc0) (ymS 4 rfl hc1)) (c2 := 0) (s2 := 0) ⟨yle rfl, yle rfl⟩ ?_
              rintro _ _ (⟨rfl, hp16, rfl⟩ | ⟨rfl, hp16, rfl⟩)
              · skip
                try simp only [xi32_eq, xi64_eq, Int32.toInt_toInt64, Int32.reduceToInt, Int64.reduceToInt, y_m9, y_m1, y_m100, y64_m9, y64_m1, Ne, y_n1x, y6432i] at hp16
                show yT _ _ _ _ _ _ (_ :: _) _ _ _ _
                refine xt_pure rfl rfl rfl rfl ?_
                refine xt_pure rfl rfl rfl rfl ?_
                refine xt_getf rfl rfl (xmS 4 rfl hh) ?_
                refine xt_pure rfl rfl rfl rfl ?_
                refine xt_pure rfl rfl rfl rfl ?_
                refine xt_pure rfl rfl rfl (st1 := .int (-1) :: _) rfl ?_
                refine yt_ic rfl rfl ?_ ?_
                · intro (h51 : (_ : Int32) ≠ (-1))
                  have h51z : ¬ Int32.toInt _ = ((-1) : Int) := fun h => h51 (Int32.toInt_inj.mp h)
                  refine xt_pure rfl rfl rfl rfl ?_
                  refine xt_pure rfl rfl rfl rfl ?_
                  refine yT.mv 3 rfl (D1 := _ :: _ :: _ :: _) rfl ?_
                  refine xt_callV rfl rfl rfl rfl (xmS 4 rfl k0) ⟨rfl, rfl, yle rfl, yle rfl, yle rfl, yle rfl⟩ (yput hs (by rw [cit_len]; have := osz_n4 (o := ob) (by omega); omega) (ymS 3 rfl k0) (ymS 3 rfl k2)) (c2 := 0) (s2 := 0) ⟨yle rfl, yle rfl⟩ ?_
                  rintro _ _ ⟨rfl, rfl⟩
                  refine yT.mv 3 rfl (D1 := _ :: _ :: _ :: _) rfl ?_
                  refine yT.mv 3 rfl (D1 := _ :: _ :: _ :: _) rfl ?_
                  refine yT.mv 3 rfl (D1 := _ :: _ :: _ :: _) rfl ?_
                  refine xt_pure rfl rfl rfl (st1 := .int 0 :: _) rfl ?_
                  refine xt_iret rfl rfl rfl rfl ?_
                  try simp only [xi32_eq, xi64_eq, Int32.toInt_toInt64, Int32.reduceToInt, Int64.reduceToInt, y_m9, y_m1, y_m100, y64_m9, y64_m1, Ne, y_n1x] at hb2_0 hp9 hp10 hp11 hb32_12 hb35_14 hp16 h51
                  have hc : seV (some ob) En fl i e = 0 := by
                    unfold seV
                    try dsimp only
                    repeat' split
                    all_goals first | rfl | (exfalso; omega)
                  rw [hc]
                  rw [seC (by omega) i e (cnv_n (by omega)), flW0]
                  exact ⟨x1, x2, rfl, rfl⟩
                · intro (h51 : (_ : Int32) = (-1))
                  have h51z : Int32.toInt _ = ((-1) : Int) := congrArg Int32.toInt h51
                  refine xt_pure rfl rfl rfl (st1 := .long (-9) :: _) rfl ?_
                  refine xt_pure rfl rfl rfl rfl ?_
                  refine yT.mv 3 rfl (D1 := _ :: _ :: _ :: _) rfl ?_
                  refine xt_callV rfl rfl rfl rfl (xmS 4 rfl k0) ⟨rfl, rfl, yle rfl, yle rfl, yle rfl, yle rfl⟩ (yput hs (by rw [cit_len]; have := osz_n4 (o := ob) (by omega); omega) (ymS 3 rfl k0) (ymS 3 rfl k2)) (c2 := 0) (s2 := 0) ⟨yle rfl, yle rfl⟩ ?_
                  rintro _ _ ⟨rfl, rfl⟩
                  refine yT.mv 3 rfl (D1 := _ :: _ :: _ :: _) rfl ?_
                  refine yT.mv 3 rfl (D1 := _ :: _ :: _ :: _) rfl ?_
                  refine yT.mv 3 rfl (D1 := _ :: _ :: _ :: _) rfl ?_
                  refine xt_pure rfl rfl rfl (st1 := .int 0 :: _) rfl ?_
                  refine xt_iret rfl rfl rfl rfl ?_
                  try simp only [xi32_eq, xi64_eq, Int32.toInt_toInt64, Int32.reduceToInt, Int64.reduceToInt, y_m9, y_m1, y_m100, y64_m9, y64_m1, Ne, y_n1x] at hb2_0 hp9 hp10 hp11 hb32_12 hb35_14 hp16 h51
                  have hc : seV (some ob) En fl i e = 0 := by
                    unfold seV
                    try dsimp only
                    repeat' split
                    all_goals first | rfl | (exfalso; omega)
                  rw [hc]
                  rw [seC (by omega) i e (cnv_p (by omega)), flW0]
                  exact ⟨x1, x2, rfl, rfl⟩
              · skip
                try simp only [xi32_eq, xi64_eq, Int32.toInt_toInt64, Int32.reduceToInt, Int64.reduceToInt, y_m9, y_m1, y_m100, y64_m9, y64_m1, Ne, y_n1x, y6432i] at hp16
                show yT _ _ _ _ _ _ (_ :: _) _ _ _ _
                refine xt_pure rfl rfl rfl rfl ?_
                refine xt_pure rfl rfl rfl rfl ?_
                refine xt_pure rfl rfl rfl (st1 := .int 5 :: _) rfl ?_
                refine yt_inV (c1 := 0) (s1 := 0) (c2 := 0) (s2 := 0) (fr1 := 1) (lo1 := 21) rfl rfl rfl rfl (xmC 115 rfl) ⟨rfl, rfl, yle rfl, yle rfl, yle rfl, yle rfl⟩ (yle rfl) (L1 := [_, _]) rfl ⟨yle rfl, yle rfl⟩ ?_
                refine xt_pure rfl rfl rfl rfl ?_
                refine xt_getf rfl rfl (xmC 120 rfl) ?_
                refine xt_pure rfl rfl rfl rfl ?_
                refine yt_inV (c1 := 0) (s1 := 0) (c2 := 0) (s2 := 0) (fr1 := 0) (lo1 := 0) rfl rfl rfl rfl (xmD 0 rfl) ⟨rfl, rfl, yle rfl, yle rfl, yle rfl, yle rfl⟩ (yle rfl) (L1 := [_, _]) rfl ⟨yle rfl, yle rfl⟩ ?_
                refine xt_pure rfl rfl rfl rfl ?_
                refine xt_pure rfl rfl rfl rfl ?_
                refine xt_getf rfl rfl (xmD 0 rfl) ?_
                refine xt_pure rfl rfl rfl (st1 := .int 1 :: _) rfl ?_
                refine xt_pure rfl rfl rfl rfl ?_
                refine xt_putf rfl rfl rfl rfl 0 rfl (D1 := _ :: _ :: _ :: _ :: _) rfl ?_
                refine xt_pure rfl rfl rfl rfl ?_
                refine xt_pure rfl rfl rfl rfl ?_
                refine xt_putf rfl rfl rfl rfl 1 rfl (D1 := _ :: _ :: _ :: _ :: _) rfl ?_
                refine xt_pure rfl rfl rfl rfl ?_
                refine xt_pure rfl rfl rfl rfl ?_
                refine xt_getf rfl rfl (xmS 4 rfl hfn) ?_
                refine xt_putf rfl rfl rfl rfl 2 rfl (D1 := _ :: _ :: _ :: _ :: _) rfl ?_
                refine xt_vret rfl rfl rfl ?_
                show yT _ _ _ _ _ _ (_) _ _ _ _
                refine xt_pure rfl rfl rfl (st1 := .int (-10) :: _) rfl ?_
                refine xt_pure rfl rfl rfl rfl ?_
                refine xt_pure rfl rfl rfl (st1 := .int (-15) :: _) rfl ?_
                refine xt_iret rfl rfl rfl rfl ?_
                show yT _ _ _ _ _ _ (_ :: _) _ _ _ _
                refine xt_iret rfl rfl rfl rfl ?_
                try simp only [xi32_eq, xi64_eq, Int32.toInt_toInt64, Int32.reduceToInt, Int64.reduceToInt, y_m9, y_m1, y_m100, y64_m9, y64_m1, Ne, y_n1x] at hb2_0 hp9 hp10 hp11 hb32_12 hb35_14 hp16
                have hc : seV (some ob) En fl i e = (-15) := by
                  unfold seV
                  try dsimp only
                  repeat' split
                  all_goals first | rfl | (exfalso; omega)
                rw [hc]
                exact ⟨5, (-9), rfl, by simp [flW, seO]⟩
    · skip
      try simp only [xi32_eq, xi64_eq, Int32.toInt_toInt64, Int32.reduceToInt, Int64.reduceToInt, y_m9, y_m1, y_m100, y64_m9, y64_m1, Ne, y_n1x] at hp9
      show yT _ _ _ _ _ _ (_ :: _) _ _ _ _
      refine xt_pure rfl rfl rfl rfl ?_
      refine xt_pure rfl rfl rfl (st1 := .int (-1) :: _) rfl ?_
      refine xt_iret rfl rfl rfl rfl ?_
      try simp only [xi32_eq, xi64_eq, Int32.toInt_toInt64, Int32.reduceToInt, Int64.reduceToInt, y_m9, y_m1, y_m100, y64_m9, y64_m1, Ne, y_n1x] at hb2_0 hp9
      have hc : seV (some ob) En fl i e = (-1) := by
        unfold seV
        try dsimp only
        repeat' split
        all_goals first | rfl | (exfalso; omega)
      rw [hc]
      exact ⟨x1, x2, rfl, by simp [flW, seO]⟩
theorem cD_sort0 {X : List Int32} {D0 : List xE} (hh : ((78, .inl (11, 6, .null)) : xE) ∈ D0) : yK X 0 0 106 [.ref 78] (D0) 0 0 (fun w D => w = some (.int (sortV none)) ∧ D = D0) := by
  refine yK.of rfl (yle rfl) (L := [_]) rfl ?_
  refine xt_pure rfl rfl rfl rfl ?_
  refine xt_getf rfl rfl (xmS 0 rfl hh) ?_
  refine xt_pure rfl rfl rfl rfl ?_
  refine xt_pure rfl rfl rfl (st1 := .int (-9) :: _) rfl ?_
  refine xt_pure rfl rfl rfl rfl ?_
  refine xt_iret rfl rfl rfl rfl ?_
  exact ⟨rfl, rfl⟩
theorem cD_sort1 {X : List Int32} {D0 : List xE} {a ia ra : Nat} {ob : yO} (hs : ob.1 ≤ 7) (hz : osz ob ≤ 12) (hh : ((78, .inl (11, 6, .ref a)) : xE) ∈ D0) (k0 : ((a, .inl (6, 0, .int (Int32.ofNat ob.1))) : xE) ∈ D0) (k1 : ((a, .inl (6, 1, .int (Int32.ofNat (osz ob)))) : xE) ∈ D0) (k2 : ((a, .inl (6, 2, .ref ia)) : xE) ∈ D0) (k3 : ((a, .inl (6, 3, .ref ra)) : xE) ∈ D0) : yK X 0 0 106 [.ref 78] (D0) 0 0 (fun w D => w = some (.int (sortV (some ob))) ∧ D = D0) := by
  refine yK.of rfl (yle rfl) (L := [_]) rfl ?_
  refine xt_pure rfl rfl rfl rfl ?_
  refine xt_getf rfl rfl (xmS 0 rfl hh) ?_
  refine xt_pure rfl rfl rfl rfl ?_
  refine xt_pure rfl rfl rfl rfl ?_
  refine xt_getf rfl rfl (xmS 0 rfl hh) ?_
  refine xt_getf rfl rfl (xmS 0 rfl k0) ?_
  refine xt_iret rfl rfl rfl rfl ?_
  exact ⟨rfl, rfl⟩
theorem cD_clear {X : List Int32} {D0 : List xE} {u : Value} : yK X 0 0 97 [.ref 78] ((78, .inl (11, 6, u)) :: D0) 0 0 (fun w D => w = some (.int 0) ∧ D = (78, .inl (11, 6, .null)) :: D0) := by
  refine yK.of rfl (yle rfl) (L := [_]) rfl ?_
  refine xt_pure rfl rfl rfl rfl ?_
  refine xt_pure rfl rfl rfl rfl ?_
  refine xt_putf rfl rfl rfl rfl 0 rfl (D1 := _ :: _) rfl ?_
  refine xt_pure rfl rfl rfl (st1 := .int 0 :: _) rfl ?_
  refine xt_iret rfl rfl rfl rfl ?_
  exact ⟨rfl, rfl⟩
