/-! SMALL CALLS: value, told, proof, cameOver, disk, alter, cutDisk, count, finding -/
theorem gI_in {α : Type} {l : List α} {x : Int32} {a : α} (h : 0 ≤ x.toInt) (hx : l[x.toInt.toNat]? = some a) : gI l x = some a := by rw [gI, if_pos h, hx]
theorem gI_out {α : Type} {l : List α} {x : Int32} (h : x.toInt < 0 ∨ (l.length : Int) ≤ x.toInt) : gI l x = none := by
  unfold gI
  split
  · exact List.getElem?_eq_none_iff.mpr (by omega)
  · rfl
theorem yapp {α : Type} {l r : List α} {n : Nat} {a : α} (h : (l ++ r)[n]? = some a) (hn : n < l.length) : l[n]? = some a := by rwa [List.getElem?_append_left hn] at h
def toldV (wk el ar x : Int32) : Int32 := if x.toInt = 0 ∨ x.toInt = 1 then wk else if x.toInt = 2 then el else if x.toInt = 3 then ar else -1
def itV (l : List Int32) (x d : Int32) : Int32 := (gI l x).getD d
def altT (dk : List Int32) (i bits : Int32) : List Int32 := if 0 ≤ bits.toInt ∧ bits.toInt ≤ 255 ∧ 0 ≤ i.toInt ∧ i.toInt < dk.length then dk.set i.toInt.toNat ((itV dk i 0) ^^^ bits) else dk
def altV (dk : List Int32) (i bits : Int32) : Int32 := if 0 ≤ bits.toInt ∧ bits.toInt ≤ 255 ∧ 0 ≤ i.toInt ∧ i.toInt < dk.length then (itV dk i 0) ^^^ bits else -1
def cutT (dk : List Int32) (n : Int32) : List Int32 := if 0 ≤ n.toInt ∧ n.toInt ≤ dk.length then dk.take n.toInt.toNat else dk
def cutV (dk : List Int32) (n : Int32) : Int32 := if 0 ≤ n.toInt ∧ n.toInt ≤ dk.length then Int32.ofNat dk.length - n else -1
def countV (l : List Int32) (x : Int32) : Int32 := itV l x (-1)
/-- FINDINGS: what, part, check, message, arose -/
def findV (L : List (Int32 × Int32 × Int32 × Int32 × Int32)) (i w : Int32) : Int32 := match gI L i with
  | none => -100
  | some f => if w.toInt = 0 then f.1 else if w.toInt = 1 then f.2.1 else if w.toInt = 2 then f.2.2.1 else if w.toInt = 3 then f.2.2.2.1 else if w.toInt = 4 then f.2.2.2.2 else -100
def find5 (f : Int32 × Int32 × Int32 × Int32 × Int32) : List Int32 := [f.1, f.2.1, f.2.2.1, f.2.2.2.1, f.2.2.2.2]
theorem cV_value {X : List Int32} {D0 : List xE} {v : Int64} (h1 : ((78, .inl (11, 13, .long v)) : xE) ∈ D0) : yK X 0 0 166 [.ref 78] (D0) 0 0 (fun w D => w = some (.long v) ∧ D = D0) := by
  refine yK.of rfl (yle rfl) (L := [_]) rfl ?_
  refine xt_pure rfl rfl rfl rfl ?_
  refine xt_getf rfl rfl (xmS 0 rfl h1) ?_
  refine xt_lret rfl rfl rfl ?_
  exact ⟨rfl, rfl⟩
theorem mV_value {X : List Int32} {D0 : List xE} {v : Int64} (h1 : ((209, .inl (14, 59, .long v)) : xE) ∈ D0) : yK X 0 0 322 [.ref 209] (D0) 0 0 (fun w D => w = some (.long v) ∧ D = D0) := by
  refine yK.of rfl (yle rfl) (L := [_]) rfl ?_
  refine xt_pure rfl rfl rfl rfl ?_
  refine xt_getf rfl rfl (xmS 0 rfl h1) ?_
  refine xt_lret rfl rfl rfl ?_
  exact ⟨rfl, rfl⟩
theorem cV_told {X : List Int32} {D0 : List xE} {wk el ar x : Int32} (h1 : ((125, .inr (0, ([wk, wk, el, ar] : List Int32).map Value.int)) : xE) ∈ D0) : yK X 0 0 167 [.ref 78, .int x] (D0) 0 0 (fun w D => w = some (.int (toldV wk el ar x)) ∧ D = D0) := by
  refine yK.of rfl (yle rfl) (L := [_, _]) rfl ?_
  refine xt_pure rfl rfl rfl rfl ?_
  refine yt_if rfl rfl ?_ ?_
  · intro (hb1_0 : Int32.toInt _ < (0 : Int))
    refine xt_pure rfl rfl rfl (st1 := .int (-1) :: _) rfl ?_
    refine xt_pure rfl rfl rfl rfl ?_
    refine xt_iret rfl rfl rfl rfl ?_
    try simp only [xi32_eq, xi64_eq, Int32.toInt_toInt64, Int32.reduceToInt, Int64.reduceToInt, y_m9, y_m1, y_m100, y64_m9, y64_m1, Ne, y_n1x, List.length_cons, List.length_nil, List.length_map] at hb1_0
    refine ⟨?_, rfl⟩
    rw [toldV, if_neg (by omega), if_neg (by omega), if_neg (by omega)]
  · intro (hb1_0 : (0 : Int) ≤ Int32.toInt _)
    refine xt_pure rfl rfl rfl rfl ?_
    refine xt_pure rfl rfl rfl rfl ?_
    refine xt_getf rfl rfl (xmC 122 rfl) ?_
    refine xt_alen rfl rfl (xmS 0 rfl h1) rfl ?_
    refine yt_ic rfl rfl ?_ ?_
    · intro (h6 : Int32.toInt _ < Int32.toInt _)
      have h6 : x.toInt < 4 := h6
      refine xt_pure rfl rfl rfl rfl ?_
      refine xt_getf rfl rfl (xmC 122 rfl) ?_
      refine xt_pure rfl rfl rfl rfl ?_
      refine yt_ild rfl rfl (xmS 0 rfl h1) ⟨by omega, by simp only [List.length_cons, List.length_nil]; omega⟩ ?_
      intro x2 hx2
      refine xt_iret rfl rfl rfl rfl ?_
      refine ⟨?_, rfl⟩
      have hc : x.toInt = 0 ∨ x.toInt = 1 ∨ x.toInt = 2 ∨ x.toInt = 3 := by omega
      rcases hc with hc | hc | hc | hc <;> rw [hc] at hx2 <;> simp at hx2 <;> subst hx2 <;> simp [toldV, hc]
    · intro (h6 : Int32.toInt _ ≤ Int32.toInt _)
      have h6 : 4 ≤ x.toInt := h6
      refine xt_pure rfl rfl rfl (st1 := .int (-1) :: _) rfl ?_
      refine xt_pure rfl rfl rfl rfl ?_
      refine xt_iret rfl rfl rfl rfl ?_
      try simp only [xi32_eq, xi64_eq, Int32.toInt_toInt64, Int32.reduceToInt, Int64.reduceToInt, y_m9, y_m1, y_m100, y64_m9, y64_m1, Ne, y_n1x, List.length_cons, List.length_nil, List.length_map] at hb1_0 h6
      refine ⟨?_, rfl⟩
      rw [toldV, if_neg (by omega), if_neg (by omega), if_neg (by omega)]
theorem mV_told {X : List Int32} {D0 : List xE} {wk el ar x : Int32} (h1 : ((209, .inl (14, 56, .int wk)) : xE) ∈ D0) (h2 : ((209, .inl (14, 57, .int el)) : xE) ∈ D0) (h3 : ((209, .inl (14, 58, .int ar)) : xE) ∈ D0) : yK X 0 0 323 [.ref 209, .int x] (D0) 0 0 (fun w D => w = some (.int (toldV wk el ar x)) ∧ D = D0) := by
  refine yK.of rfl (yle rfl) (L := [_, _]) rfl ?_
  refine xt_pure rfl rfl rfl rfl ?_
  refine yt_if rfl rfl ?_ ?_
  · intro (hb1_0 : (_ : Int32) = 0)
    have hb1_0z : Int32.toInt _ = (0 : Int) := congrArg Int32.toInt hb1_0
    refine xt_pure rfl rfl rfl rfl ?_
    refine xt_getf rfl rfl (xmS 0 rfl h1) ?_
    refine xt_pure rfl rfl rfl rfl ?_
    refine xt_iret rfl rfl rfl rfl ?_
    refine ⟨?_, rfl⟩
    simp only [toldV, xi32_eq, xi64_eq, Int32.toInt_toInt64, Int32.reduceToInt, Int64.reduceToInt, y_m9, y_m1, y_m100, y64_m9, y64_m1, Ne, y_n1x] at hb1_0 ⊢
    repeat' split
    all_goals first | rfl | (exfalso; omega)
  · intro (hb1_0 : (_ : Int32) ≠ 0)
    have hb1_0z : ¬ Int32.toInt _ = (0 : Int) := fun h => hb1_0 (Int32.toInt_inj.mp h)
    refine xt_pure rfl rfl rfl rfl ?_
    refine xt_pure rfl rfl rfl (st1 := .int 1 :: _) rfl ?_
    refine yt_ic rfl rfl ?_ ?_
    · intro (hb4_1 : (_ : Int32) ≠ 1)
      have hb4_1z : ¬ Int32.toInt _ = (1 : Int) := fun h => hb4_1 (Int32.toInt_inj.mp h)
      refine xt_pure rfl rfl rfl rfl ?_
      refine xt_pure rfl rfl rfl (st1 := .int 2 :: _) rfl ?_
      refine yt_ic rfl rfl ?_ ?_
      · intro (hb10_2 : (_ : Int32) ≠ 2)
        have hb10_2z : ¬ Int32.toInt _ = (2 : Int) := fun h => hb10_2 (Int32.toInt_inj.mp h)
        refine xt_pure rfl rfl rfl rfl ?_
        refine xt_pure rfl rfl rfl (st1 := .int 3 :: _) rfl ?_
        refine yt_ic rfl rfl ?_ ?_
        · intro (hb16_3 : (_ : Int32) ≠ 3)
          have hb16_3z : ¬ Int32.toInt _ = (3 : Int) := fun h => hb16_3 (Int32.toInt_inj.mp h)
          refine xt_pure rfl rfl rfl (st1 := .int (-1) :: _) rfl ?_
          refine xt_iret rfl rfl rfl rfl ?_
          refine ⟨?_, rfl⟩
          simp only [toldV, xi32_eq, xi64_eq, Int32.toInt_toInt64, Int32.reduceToInt, Int64.reduceToInt, y_m9, y_m1, y_m100, y64_m9, y64_m1, Ne, y_n1x] at hb1_0 hb4_1 hb10_2 hb16_3 ⊢
          repeat' split
          all_goals first | rfl | (exfalso; omega)
        · intro (hb16_3 : (_ : Int32) = 3)
          have hb16_3z : Int32.toInt _ = (3 : Int) := congrArg Int32.toInt hb16_3
          refine xt_pure rfl rfl rfl rfl ?_
          refine xt_getf rfl rfl (xmS 0 rfl h3) ?_
          refine xt_pure rfl rfl rfl rfl ?_
          refine xt_iret rfl rfl rfl rfl ?_
          refine ⟨?_, rfl⟩
          simp only [toldV, xi32_eq, xi64_eq, Int32.toInt_toInt64, Int32.reduceToInt, Int64.reduceToInt, y_m9, y_m1, y_m100, y64_m9, y64_m1, Ne, y_n1x] at hb1_0 hb4_1 hb10_2 hb16_3 ⊢
          repeat' split
          all_goals first | rfl | (exfalso; omega)
      · intro (hb10_2 : (_ : Int32) = 2)
        have hb10_2z : Int32.toInt _ = (2 : Int) := congrArg Int32.toInt hb10_2
        refine xt_pure rfl rfl rfl rfl ?_
        refine xt_getf rfl rfl (xmS 0 rfl h2) ?_
        refine xt_pure rfl rfl rfl rfl ?_
        refine xt_iret rfl rfl rfl rfl ?_
        refine ⟨?_, rfl⟩
        simp only [toldV, xi32_eq, xi64_eq, Int32.toInt_toInt64, Int32.reduceToInt, Int64.reduceToInt, y_m9, y_m1, y_m100, y64_m9, y64_m1, Ne, y_n1x] at hb1_0 hb4_1 hb10_2 ⊢
        repeat' split
        all_goals first | rfl | (exfalso; omega)
    · intro (hb4_1 : (_ : Int32) = 1)
      have hb4_1z : Int32.toInt _ = (1 : Int) := congrArg Int32.toInt hb4_1
      refine xt_pure rfl rfl rfl rfl ?_
      refine xt_getf rfl rfl (xmS 0 rfl h1) ?_
      refine xt_pure rfl rfl rfl rfl ?_
      refine xt_iret rfl rfl rfl rfl ?_
      refine ⟨?_, rfl⟩
      simp only [toldV, xi32_eq, xi64_eq, Int32.toInt_toInt64, Int32.reduceToInt, Int64.reduceToInt, y_m9, y_m1, y_m100, y64_m9, y64_m1, Ne, y_n1x] at hb1_0 hb4_1 ⊢
      repeat' split
      all_goals first | rfl | (exfalso; omega)
theorem cV_proof {X : List Int32} {D0 : List xE} {T : List Int32} {x : Int32} (hl : T.length = 9) (h1 : ((172, .inr (0, T.map Value.int)) : xE) ∈ D0) : yK X 0 0 192 [.ref 78, .int x] (D0) 0 0 (fun w D => w = some (.int (itV T x (-1))) ∧ D = D0) := by
  refine yK.of rfl (yle rfl) (L := [_, _]) rfl ?_
  refine xt_pure rfl rfl rfl rfl ?_
  refine yt_if rfl rfl ?_ ?_
  · intro (hb1_0 : Int32.toInt _ < (0 : Int))
    refine xt_pure rfl rfl rfl (st1 := .int (-1) :: _) rfl ?_
    refine xt_pure rfl rfl rfl rfl ?_
    refine xt_iret rfl rfl rfl rfl ?_
    try simp only [xi32_eq, xi64_eq, Int32.toInt_toInt64, Int32.reduceToInt, Int64.reduceToInt, y_m9, y_m1, y_m100, y64_m9, y64_m1, Ne, y_n1x] at hb1_0
    refine ⟨?_, rfl⟩
    rw [itV, gI_out (by omega)]
    rfl
  · intro (hb1_0 : (0 : Int) ≤ Int32.toInt _)
    refine xt_pure rfl rfl rfl rfl ?_
    refine xt_pure rfl rfl rfl (st1 := .int 8 :: _) rfl ?_
    refine yt_ic rfl rfl ?_ ?_
    · intro (hb4_1 : Int32.toInt _ ≤ (8 : Int))
      refine xt_pure rfl rfl rfl rfl ?_
      refine xt_getf rfl rfl (xmC 125 rfl) ?_
      refine xt_getf rfl rfl (xmC 162 rfl) ?_
      refine xt_pure rfl rfl rfl rfl ?_
      refine yt_ild rfl rfl (xmS 0 rfl h1) ⟨by first | omega | (simp only [List.length_append, List.length_set, List.length_map, List.length_replicate, List.length_cons, List.length_nil, Int32.reduceToInt]; omega), by first | omega | (simp only [List.length_append, List.length_set, List.length_map, List.length_replicate, List.length_cons, List.length_nil, Int32.reduceToInt]; omega)⟩ ?_
      intro x2 hx2
      refine xt_iret rfl rfl rfl rfl ?_
      try simp only [xi32_eq, xi64_eq, Int32.toInt_toInt64, Int32.reduceToInt, Int64.reduceToInt, y_m9, y_m1, y_m100, y64_m9, y64_m1, Ne, y_n1x] at hb1_0 hb4_1
      refine ⟨?_, rfl⟩
      rw [itV, gI_in (by omega) hx2]
      rfl
    · intro (hb4_1 : (8 : Int) < Int32.toInt _)
      refine xt_pure rfl rfl rfl (st1 := .int (-1) :: _) rfl ?_
      refine xt_pure rfl rfl rfl rfl ?_
      refine xt_iret rfl rfl rfl rfl ?_
      try simp only [xi32_eq, xi64_eq, Int32.toInt_toInt64, Int32.reduceToInt, Int64.reduceToInt, y_m9, y_m1, y_m100, y64_m9, y64_m1, Ne, y_n1x] at hb1_0 hb4_1
      refine ⟨?_, rfl⟩
      rw [itV, gI_out (by omega)]
      rfl
theorem mV_proof {X : List Int32} {D0 : List xE} {T : List Int32} {x : Int32} (hl : T.length = 9) (h1 : ((265, .inr (0, T.map Value.int)) : xE) ∈ D0) : yK X 1 25 342 [.ref 209, .int x] (D0) 0 0 (fun w D => w = some (.int (itV T x (-1))) ∧ D = D0) := by
  refine yK.of rfl (yle rfl) (L := [_, _]) rfl ?_
  refine xt_pure rfl rfl rfl rfl ?_
  refine xt_pure rfl rfl rfl rfl ?_
  refine xt_pure rfl rfl rfl (st1 := .long 0 :: _) rfl ?_
  refine xt_pure rfl rfl rfl (st1 := .long 8 :: _) rfl ?_
  refine xt_callS rfl rfl (by decide) rfl ⟨rfl, yle rfl, yle rfl, yle rfl, yle rfl⟩ mk_in (c2 := 0) (s2 := 0) ⟨yle rfl, yle rfl⟩ ?_
  rintro _ _ (⟨rfl, hp0, rfl⟩ | ⟨rfl, hp0, rfl⟩)
  · skip
    try simp only [xi32_eq, xi64_eq, Int32.toInt_toInt64, Int32.reduceToInt, Int64.reduceToInt, y_m9, y_m1, y_m100, y64_m9, y64_m1, Ne, y_n1x] at hp0
    show yT _ _ _ _ _ _ (_ :: _) _ _ _ _
    refine xt_pure rfl rfl rfl rfl ?_
    refine xt_pure rfl rfl rfl rfl ?_
    refine xt_getf rfl rfl (xmC 214 rfl) ?_
    refine xt_pure rfl rfl rfl rfl ?_
    refine yt_ild rfl rfl (xmS 0 rfl h1) ⟨by first | omega | (simp only [List.length_append, List.length_set, List.length_map, List.length_replicate, List.length_cons, List.length_nil, Int32.reduceToInt]; omega), by first | omega | (simp only [List.length_append, List.length_set, List.length_map, List.length_replicate, List.length_cons, List.length_nil, Int32.reduceToInt]; omega)⟩ ?_
    intro x1 hx1
    refine xt_pure rfl rfl rfl rfl ?_
    refine xt_iret rfl rfl rfl rfl ?_
    try simp only [xi32_eq, xi64_eq, Int32.toInt_toInt64, Int32.reduceToInt, Int64.reduceToInt, y_m9, y_m1, y_m100, y64_m9, y64_m1, Ne, y_n1x] at hp0
    refine ⟨?_, rfl⟩
    rw [itV, gI_in (by omega) hx1]
    rfl
  · skip
    try simp only [xi32_eq, xi64_eq, Int32.toInt_toInt64, Int32.reduceToInt, Int64.reduceToInt, y_m9, y_m1, y_m100, y64_m9, y64_m1, Ne, y_n1x] at hp0
    show yT _ _ _ _ _ _ (_ :: _) _ _ _ _
    refine xt_pure rfl rfl rfl rfl ?_
    refine xt_pure rfl rfl rfl (st1 := .int (-1) :: _) rfl ?_
    refine xt_iret rfl rfl rfl rfl ?_
    try simp only [xi32_eq, xi64_eq, Int32.toInt_toInt64, Int32.reduceToInt, Int64.reduceToInt, y_m9, y_m1, y_m100, y64_m9, y64_m1, Ne, y_n1x] at hp0
    refine ⟨?_, rfl⟩
    rw [itV, gI_out (by omega)]
    rfl
theorem cV_came {X : List Int32} {D0 : List xE} {cm jk : List Int32} {x : Int32} (hl : cm.length + jk.length = 40) (h0 : ((78, .inl (11, 16, .int (Int32.ofNat cm.length))) : xE) ∈ D0) (h1 : ((167, .inr (0, (cm ++ jk).map Value.int)) : xE) ∈ D0) : yK X 0 0 179 [.ref 78, .int x] (D0) 0 0 (fun w D => w = some (.int (itV cm x (-1))) ∧ D = D0) := by
  have en := yi_nat (i := cm.length) (by omega)
  refine yK.of rfl (yle rfl) (L := [_, _]) rfl ?_
  refine xt_pure rfl rfl rfl rfl ?_
  refine yt_if rfl rfl ?_ ?_
  · intro (hb1_0 : Int32.toInt _ < (0 : Int))
    refine xt_pure rfl rfl rfl (st1 := .int (-1) :: _) rfl ?_
    refine xt_pure rfl rfl rfl rfl ?_
    refine xt_iret rfl rfl rfl rfl ?_
    try simp only [xi32_eq, xi64_eq, Int32.toInt_toInt64, Int32.reduceToInt, Int64.reduceToInt, y_m9, y_m1, y_m100, y64_m9, y64_m1, Ne, y_n1x] at hb1_0
    refine ⟨?_, rfl⟩
    rw [itV, gI_out (by omega)]
    rfl
  · intro (hb1_0 : (0 : Int) ≤ Int32.toInt _)
    refine xt_pure rfl rfl rfl rfl ?_
    refine xt_pure rfl rfl rfl rfl ?_
    refine xt_getf rfl rfl (xmS 0 rfl h0) ?_
    refine yt_ic rfl rfl ?_ ?_
    · intro (hb5_1 : Int32.toInt _ < Int32.toInt _)
      refine xt_pure rfl rfl rfl rfl ?_
      refine xt_getf rfl rfl (xmC 124 rfl) ?_
      refine xt_pure rfl rfl rfl rfl ?_
      refine yt_ild rfl rfl (xmS 0 rfl h1) ⟨by first | omega | (simp only [List.length_append, List.length_set, List.length_map, List.length_replicate, List.length_cons, List.length_nil, Int32.reduceToInt]; omega), by first | omega | (simp only [List.length_append, List.length_set, List.length_map, List.length_replicate, List.length_cons, List.length_nil, Int32.reduceToInt]; omega)⟩ ?_
      intro x2 hx2
      refine xt_iret rfl rfl rfl rfl ?_
      try simp only [xi32_eq, xi64_eq, Int32.toInt_toInt64, Int32.reduceToInt, Int64.reduceToInt, y_m9, y_m1, y_m100, y64_m9, y64_m1, Ne, y_n1x] at hb1_0 hb5_1
      refine ⟨?_, rfl⟩
      rw [itV, gI_in (by omega) (yapp hx2 (by omega))]
      rfl
    · intro (hb5_1 : Int32.toInt _ ≤ Int32.toInt _)
      refine xt_pure rfl rfl rfl (st1 := .int (-1) :: _) rfl ?_
      refine xt_pure rfl rfl rfl rfl ?_
      refine xt_iret rfl rfl rfl rfl ?_
      try simp only [xi32_eq, xi64_eq, Int32.toInt_toInt64, Int32.reduceToInt, Int64.reduceToInt, y_m9, y_m1, y_m100, y64_m9, y64_m1, Ne, y_n1x] at hb1_0 hb5_1
      refine ⟨?_, rfl⟩
      rw [itV, gI_out (by omega)]
      rfl
theorem mV_came {X : List Int32} {D0 : List xE} {cm jk : List Int32} {x : Int32} (hl : cm.length + jk.length = 40) (h0 : ((209, .inl (14, 66, .int (Int32.ofNat cm.length))) : xE) ∈ D0) (h1 : ((260, .inr (0, (cm ++ jk).map Value.int)) : xE) ∈ D0) : yK X 1 25 334 [.ref 209, .int x] (D0) 0 0 (fun w D => w = some (.int (itV cm x (-1))) ∧ D = D0) := by
  have en := y_n1 (n := cm.length) (by omega)
  refine yK.of rfl (yle rfl) (L := [_, _]) rfl ?_
  refine xt_pure rfl rfl rfl rfl ?_
  refine xt_pure rfl rfl rfl rfl ?_
  refine xt_pure rfl rfl rfl (st1 := .long 0 :: _) rfl ?_
  refine xt_pure rfl rfl rfl rfl ?_
  refine xt_getf rfl rfl (xmS 0 rfl h0) ?_
  refine xt_pure rfl rfl rfl (st1 := .int 1 :: _) rfl ?_
  refine xt_pure rfl rfl rfl rfl ?_
  refine xt_pure rfl rfl rfl rfl ?_
  refine xt_callS rfl rfl (by decide) rfl ⟨rfl, yle rfl, yle rfl, yle rfl, yle rfl⟩ mk_in (c2 := 0) (s2 := 0) ⟨yle rfl, yle rfl⟩ ?_
  rintro _ _ (⟨rfl, hp0, rfl⟩ | ⟨rfl, hp0, rfl⟩)
  · skip
    try simp only [xi32_eq, xi64_eq, Int32.toInt_toInt64, Int32.reduceToInt, Int64.reduceToInt, y_m9, y_m1, y_m100, y64_m9, y64_m1, Ne, y_n1x] at hp0
    show yT _ _ _ _ _ _ (_ :: _) _ _ _ _
    refine xt_pure rfl rfl rfl rfl ?_
    refine xt_pure rfl rfl rfl rfl ?_
    refine xt_getf rfl rfl (xmC 209 rfl) ?_
    refine xt_pure rfl rfl rfl rfl ?_
    refine yt_ild rfl rfl (xmS 0 rfl h1) ⟨by first | omega | (simp only [List.length_append, List.length_set, List.length_map, List.length_replicate, List.length_cons, List.length_nil, Int32.reduceToInt]; omega), by first | omega | (simp only [List.length_append, List.length_set, List.length_map, List.length_replicate, List.length_cons, List.length_nil, Int32.reduceToInt]; omega)⟩ ?_
    intro x1 hx1
    refine xt_pure rfl rfl rfl rfl ?_
    refine xt_iret rfl rfl rfl rfl ?_
    try simp only [xi32_eq, xi64_eq, Int32.toInt_toInt64, Int32.reduceToInt, Int64.reduceToInt, y_m9, y_m1, y_m100, y64_m9, y64_m1, Ne, y_n1x] at hp0
    refine ⟨?_, rfl⟩
    rw [itV, gI_in (by omega) (yapp hx1 (by omega))]
    rfl
  · skip
    try simp only [xi32_eq, xi64_eq, Int32.toInt_toInt64, Int32.reduceToInt, Int64.reduceToInt, y_m9, y_m1, y_m100, y64_m9, y64_m1, Ne, y_n1x] at hp0
    show yT _ _ _ _ _ _ (_ :: _) _ _ _ _
    refine xt_pure rfl rfl rfl rfl ?_
    refine xt_pure rfl rfl rfl (st1 := .int (-1) :: _) rfl ?_
    refine xt_iret rfl rfl rfl rfl ?_
    try simp only [xi32_eq, xi64_eq, Int32.toInt_toInt64, Int32.reduceToInt, Int64.reduceToInt, y_m9, y_m1, y_m100, y64_m9, y64_m1, Ne, y_n1x] at hp0
    refine ⟨?_, rfl⟩
    rw [itV, gI_out (by omega)]
    rfl
theorem cK_disk {X : List Int32} {D0 : List xE} {dk jk : List Int32} {x : Int32} (hl : dk.length + jk.length = 1200) (h0 : ((206, .inl (0, 2, .int (Int32.ofNat dk.length))) : xE) ∈ D0) (h1 : ((207, .inr (0, (dk ++ jk).map Value.int)) : xE) ∈ D0) : yK X 0 0 197 [.ref 78, .int x] (D0) 0 0 (fun w D => w = some (.int (itV dk x (-1))) ∧ D = D0) := by
  have en := yi_nat (i := dk.length) (by omega)
  refine yK.of rfl (yle rfl) (L := [_, _]) rfl ?_
  refine xt_pure rfl rfl rfl rfl ?_
  refine yt_if rfl rfl ?_ ?_
  · intro (hb1_0 : Int32.toInt _ < (0 : Int))
    refine xt_pure rfl rfl rfl (st1 := .int (-1) :: _) rfl ?_
    refine xt_pure rfl rfl rfl rfl ?_
    refine xt_iret rfl rfl rfl rfl ?_
    try simp only [xi32_eq, xi64_eq, Int32.toInt_toInt64, Int32.reduceToInt, Int64.reduceToInt, y_m9, y_m1, y_m100, y64_m9, y64_m1, Ne, y_n1x] at hb1_0
    refine ⟨?_, rfl⟩
    rw [itV, gI_out (by omega)]
    rfl
  · intro (hb1_0 : (0 : Int) ≤ Int32.toInt _)
    refine xt_pure rfl rfl rfl rfl ?_
    refine xt_pure rfl rfl rfl rfl ?_
    refine xt_getf rfl rfl (xmC 126 rfl) ?_
    refine xt_getf rfl rfl (xmS 0 rfl h0) ?_
    refine yt_ic rfl rfl ?_ ?_
    · intro (hb6_1 : Int32.toInt _ < Int32.toInt _)
      refine xt_pure rfl rfl rfl rfl ?_
      refine xt_getf rfl rfl (xmC 126 rfl) ?_
      refine xt_getf rfl rfl (xmC 174 rfl) ?_
      refine xt_pure rfl rfl rfl rfl ?_
      refine yt_ild rfl rfl (xmS 0 rfl h1) ⟨by first | omega | (simp only [List.length_append, List.length_set, List.length_map, List.length_replicate, List.length_cons, List.length_nil, Int32.reduceToInt]; omega), by first | omega | (simp only [List.length_append, List.length_set, List.length_map, List.length_replicate, List.length_cons, List.length_nil, Int32.reduceToInt]; omega)⟩ ?_
      intro x2 hx2
      refine xt_iret rfl rfl rfl rfl ?_
      try simp only [xi32_eq, xi64_eq, Int32.toInt_toInt64, Int32.reduceToInt, Int64.reduceToInt, y_m9, y_m1, y_m100, y64_m9, y64_m1, Ne, y_n1x] at hb1_0 hb6_1
      refine ⟨?_, rfl⟩
      rw [itV, gI_in (by omega) (yapp hx2 (by omega))]
      rfl
    · intro (hb6_1 : Int32.toInt _ ≤ Int32.toInt _)
      refine xt_pure rfl rfl rfl (st1 := .int (-1) :: _) rfl ?_
      refine xt_pure rfl rfl rfl rfl ?_
      refine xt_iret rfl rfl rfl rfl ?_
      try simp only [xi32_eq, xi64_eq, Int32.toInt_toInt64, Int32.reduceToInt, Int64.reduceToInt, y_m9, y_m1, y_m100, y64_m9, y64_m1, Ne, y_n1x] at hb1_0 hb6_1
      refine ⟨?_, rfl⟩
      rw [itV, gI_out (by omega)]
      rfl
theorem mK_disk {X : List Int32} {D0 : List xE} {dk jk : List Int32} {x : Int32} (hl : dk.length + jk.length = 1200) (h0 : ((209, .inl (14, 38, .int (Int32.ofNat dk.length))) : xE) ∈ D0) (h1 : ((247, .inr (0, (dk ++ jk).map Value.int)) : xE) ∈ D0) : yK X 1 25 284 [.ref 209, .int x] (D0) 0 0 (fun w D => w = some (.int (itV dk x (-1))) ∧ D = D0) := by
  have en := y_n1 (n := dk.length) (by omega)
  refine yK.of rfl (yle rfl) (L := [_, _]) rfl ?_
  refine xt_pure rfl rfl rfl rfl ?_
  refine xt_pure rfl rfl rfl rfl ?_
  refine xt_pure rfl rfl rfl (st1 := .long 0 :: _) rfl ?_
  refine xt_pure rfl rfl rfl rfl ?_
  refine xt_getf rfl rfl (xmS 0 rfl h0) ?_
  refine xt_pure rfl rfl rfl (st1 := .int 1 :: _) rfl ?_
  refine xt_pure rfl rfl rfl rfl ?_
  refine xt_pure rfl rfl rfl rfl ?_
  refine xt_callS rfl rfl (by decide) rfl ⟨rfl, yle rfl, yle rfl, yle rfl, yle rfl⟩ mk_in (c2 := 0) (s2 := 0) ⟨yle rfl, yle rfl⟩ ?_
  rintro _ _ (⟨rfl, hp0, rfl⟩ | ⟨rfl, hp0, rfl⟩)
  · skip
    try simp only [xi32_eq, xi64_eq, Int32.toInt_toInt64, Int32.reduceToInt, Int64.reduceToInt, y_m9, y_m1, y_m100, y64_m9, y64_m1, Ne, y_n1x] at hp0
    show yT _ _ _ _ _ _ (_ :: _) _ _ _ _
    refine xt_pure rfl rfl rfl rfl ?_
    refine xt_pure rfl rfl rfl rfl ?_
    refine xt_getf rfl rfl (xmC 196 rfl) ?_
    refine xt_pure rfl rfl rfl rfl ?_
    refine yt_ild rfl rfl (xmS 0 rfl h1) ⟨by first | omega | (simp only [List.length_append, List.length_set, List.length_map, List.length_replicate, List.length_cons, List.length_nil, Int32.reduceToInt]; omega), by first | omega | (simp only [List.length_append, List.length_set, List.length_map, List.length_replicate, List.length_cons, List.length_nil, Int32.reduceToInt]; omega)⟩ ?_
    intro x1 hx1
    refine xt_pure rfl rfl rfl rfl ?_
    refine xt_iret rfl rfl rfl rfl ?_
    try simp only [xi32_eq, xi64_eq, Int32.toInt_toInt64, Int32.reduceToInt, Int64.reduceToInt, y_m9, y_m1, y_m100, y64_m9, y64_m1, Ne, y_n1x] at hp0
    refine ⟨?_, rfl⟩
    rw [itV, gI_in (by omega) (yapp hx1 (by omega))]
    rfl
  · skip
    try simp only [xi32_eq, xi64_eq, Int32.toInt_toInt64, Int32.reduceToInt, Int64.reduceToInt, y_m9, y_m1, y_m100, y64_m9, y64_m1, Ne, y_n1x] at hp0
    show yT _ _ _ _ _ _ (_ :: _) _ _ _ _
    refine xt_pure rfl rfl rfl rfl ?_
    refine xt_pure rfl rfl rfl (st1 := .int (-1) :: _) rfl ?_
    refine xt_iret rfl rfl rfl rfl ?_
    try simp only [xi32_eq, xi64_eq, Int32.toInt_toInt64, Int32.reduceToInt, Int64.reduceToInt, y_m9, y_m1, y_m100, y64_m9, y64_m1, Ne, y_n1x] at hp0
    refine ⟨?_, rfl⟩
    rw [itV, gI_out (by omega)]
    rfl
theorem cK_alter {X : List Int32} {D0 : List xE} {dk jk : List Int32} {x y : Int32} (hl : dk.length + jk.length = 1200) (h0 : ((206, .inl (0, 2, .int (Int32.ofNat dk.length))) : xE) ∈ D0) : yK X 0 0 198 [.ref 78, .int x, .int y] ((207, .inr (0, (dk ++ jk).map Value.int)) :: D0) 0 0 (fun w D => w = some (.int (altV dk x y)) ∧ D = (207, .inr (0, (altT dk x y ++ jk).map Value.int)) :: D0) := by
  have en := yi_nat (i := dk.length) (by omega)
  refine yK.of rfl (yle rfl) (L := [_, _, _]) rfl ?_
  refine xt_pure rfl rfl rfl rfl ?_
  refine yt_if rfl rfl ?_ ?_
  · intro (hb1_0 : Int32.toInt _ < (0 : Int))
    refine xt_pure rfl rfl rfl (st1 := .int (-1) :: _) rfl ?_
    refine xt_iret rfl rfl rfl rfl ?_
    try simp only [xi32_eq, xi64_eq, Int32.toInt_toInt64, Int32.reduceToInt, Int64.reduceToInt, y_m9, y_m1, y_m100, y64_m9, y64_m1, Ne, y_n1x] at hb1_0
    have hc : ¬ (0 ≤ y.toInt ∧ y.toInt ≤ 255 ∧ 0 ≤ x.toInt ∧ x.toInt < dk.length) := by omega
    rw [altV, altT, if_neg hc, if_neg hc]
    exact ⟨rfl, rfl⟩
  · intro (hb1_0 : (0 : Int) ≤ Int32.toInt _)
    refine xt_pure rfl rfl rfl rfl ?_
    refine xt_pure rfl rfl rfl rfl ?_
    refine xt_getf rfl rfl (xmC 126 rfl) ?_
    refine xt_getf rfl rfl (xmS 1 rfl h0) ?_
    refine yt_ic rfl rfl ?_ ?_
    · intro (hb6_1 : Int32.toInt _ ≤ Int32.toInt _)
      refine xt_pure rfl rfl rfl (st1 := .int (-1) :: _) rfl ?_
      refine xt_iret rfl rfl rfl rfl ?_
      try simp only [xi32_eq, xi64_eq, Int32.toInt_toInt64, Int32.reduceToInt, Int64.reduceToInt, y_m9, y_m1, y_m100, y64_m9, y64_m1, Ne, y_n1x] at hb1_0 hb6_1
      have hc : ¬ (0 ≤ y.toInt ∧ y.toInt ≤ 255 ∧ 0 ≤ x.toInt ∧ x.toInt < dk.length) := by omega
      rw [altV, altT, if_neg hc, if_neg hc]
      exact ⟨rfl, rfl⟩
    · intro (hb6_1 : Int32.toInt _ < Int32.toInt _)
      refine xt_pure rfl rfl rfl rfl ?_
      refine yt_if rfl rfl ?_ ?_
      · intro (hb8_2 : Int32.toInt _ < (0 : Int))
        refine xt_pure rfl rfl rfl (st1 := .int (-1) :: _) rfl ?_
        refine xt_iret rfl rfl rfl rfl ?_
        try simp only [xi32_eq, xi64_eq, Int32.toInt_toInt64, Int32.reduceToInt, Int64.reduceToInt, y_m9, y_m1, y_m100, y64_m9, y64_m1, Ne, y_n1x] at hb1_0 hb6_1 hb8_2
        have hc : ¬ (0 ≤ y.toInt ∧ y.toInt ≤ 255 ∧ 0 ≤ x.toInt ∧ x.toInt < dk.length) := by omega
        rw [altV, altT, if_neg hc, if_neg hc]
        exact ⟨rfl, rfl⟩
      · intro (hb8_2 : (0 : Int) ≤ Int32.toInt _)
        refine xt_pure rfl rfl rfl rfl ?_
        refine xt_pure rfl rfl rfl (st1 := .int 255 :: _) rfl ?_
        refine yt_ic rfl rfl ?_ ?_
        · intro (hb11_3 : Int32.toInt _ ≤ (255 : Int))
          refine xt_pure rfl rfl rfl rfl ?_
          refine xt_getf rfl rfl (xmC 126 rfl) ?_
          refine xt_getf rfl rfl (xmC 174 rfl) ?_
          refine xt_pure rfl rfl rfl rfl ?_
          refine xt_pure rfl rfl rfl rfl ?_
          refine yt_ild rfl rfl (xmD 0 rfl) ⟨by first | omega | (simp only [List.length_append, List.length_set, List.length_map, List.length_replicate, List.length_cons, List.length_nil, Int32.reduceToInt]; omega), by first | omega | (simp only [List.length_append, List.length_set, List.length_map, List.length_replicate, List.length_cons, List.length_nil, Int32.reduceToInt]; omega)⟩ ?_
          intro x4 hx4
          refine xt_pure rfl rfl rfl rfl ?_
          refine xt_pure rfl rfl rfl rfl ?_
          refine yt_ist rfl rfl 0 rfl ⟨by first | omega | (simp only [List.length_append, List.length_set, List.length_map, List.length_replicate, List.length_cons, List.length_nil, Int32.reduceToInt]; omega), by first | omega | (simp only [List.length_append, List.length_set, List.length_map, List.length_replicate, List.length_cons, List.length_nil, Int32.reduceToInt]; omega)⟩ (D1 := _ :: _) rfl ?_
          refine xt_pure rfl rfl rfl rfl ?_
          refine xt_getf rfl rfl (xmC 126 rfl) ?_
          refine xt_getf rfl rfl (xmC 174 rfl) ?_
          refine xt_pure rfl rfl rfl rfl ?_
          refine yt_ild rfl rfl (xmD 0 rfl) ⟨by first | omega | (simp only [List.length_append, List.length_set, List.length_map, List.length_replicate, List.length_cons, List.length_nil, Int32.reduceToInt]; omega), by first | omega | (simp only [List.length_append, List.length_set, List.length_map, List.length_replicate, List.length_cons, List.length_nil, Int32.reduceToInt]; omega)⟩ ?_
          intro x5 hx5
          refine xt_iret rfl rfl rfl rfl ?_
          try simp only [xi32_eq, xi64_eq, Int32.toInt_toInt64, Int32.reduceToInt, Int64.reduceToInt, y_m9, y_m1, y_m100, y64_m9, y64_m1, Ne, y_n1x] at hb1_0 hb6_1 hb8_2 hb11_3
          have hc : 0 ≤ y.toInt ∧ y.toInt ≤ 255 ∧ 0 ≤ x.toInt ∧ x.toInt < dk.length := by omega
          have ha := yapp hx4 (by omega)
          rw [List.set_append_left _ _ (by omega)] at hx5 ⊢
          have hb := yapp hx5 (by rw [List.length_set]; omega)
          rw [List.getElem?_set_self (by omega)] at hb
          have hg := gI_in (by omega) ha
          rw [altV, altT, if_pos hc, if_pos hc, itV, hg]
          cases hb
          exact ⟨rfl, rfl⟩
        · intro (hb11_3 : (255 : Int) < Int32.toInt _)
          refine xt_pure rfl rfl rfl (st1 := .int (-1) :: _) rfl ?_
          refine xt_iret rfl rfl rfl rfl ?_
          try simp only [xi32_eq, xi64_eq, Int32.toInt_toInt64, Int32.reduceToInt, Int64.reduceToInt, y_m9, y_m1, y_m100, y64_m9, y64_m1, Ne, y_n1x] at hb1_0 hb6_1 hb8_2 hb11_3
          have hc : ¬ (0 ≤ y.toInt ∧ y.toInt ≤ 255 ∧ 0 ≤ x.toInt ∧ x.toInt < dk.length) := by omega
          rw [altV, altT, if_neg hc, if_neg hc]
          exact ⟨rfl, rfl⟩
theorem mK_alter {X : List Int32} {D0 : List xE} {dk jk : List Int32} {x y : Int32} (hl : dk.length + jk.length = 1200) (h0 : ((209, .inl (14, 38, .int (Int32.ofNat dk.length))) : xE) ∈ D0) : yK X 1 25 285 [.ref 209, .int x, .int y] ((247, .inr (0, (dk ++ jk).map Value.int)) :: D0) 0 0 (fun w D => w = some (.int (altV dk x y)) ∧ D = (247, .inr (0, (altT dk x y ++ jk).map Value.int)) :: D0) := by
  have en := y_n1 (n := dk.length) (by omega)
  refine yK.of rfl (yle rfl) (L := [_, _, _]) rfl ?_
  refine xt_pure rfl rfl rfl rfl ?_
  refine xt_pure rfl rfl rfl rfl ?_
  refine xt_pure rfl rfl rfl (st1 := .long 0 :: _) rfl ?_
  refine xt_pure rfl rfl rfl rfl ?_
  refine xt_getf rfl rfl (xmS 1 rfl h0) ?_
  refine xt_pure rfl rfl rfl (st1 := .int 1 :: _) rfl ?_
  refine xt_pure rfl rfl rfl rfl ?_
  refine xt_pure rfl rfl rfl rfl ?_
  refine xt_callS rfl rfl (by decide) rfl ⟨rfl, yle rfl, yle rfl, yle rfl, yle rfl⟩ mk_in (c2 := 0) (s2 := 0) ⟨yle rfl, yle rfl⟩ ?_
  rintro _ _ (⟨rfl, hp0, rfl⟩ | ⟨rfl, hp0, rfl⟩)
  · skip
    try simp only [xi32_eq, xi64_eq, Int32.toInt_toInt64, Int32.reduceToInt, Int64.reduceToInt, y_m9, y_m1, y_m100, y64_m9, y64_m1, Ne, y_n1x] at hp0
    show yT _ _ _ _ _ _ (_ :: _) _ _ _ _
    refine xt_pure rfl rfl rfl rfl ?_
    refine xt_pure rfl rfl rfl rfl ?_
    refine xt_pure rfl rfl rfl rfl ?_
    refine xt_pure rfl rfl rfl (st1 := .long 0 :: _) rfl ?_
    refine xt_pure rfl rfl rfl (st1 := .long 255 :: _) rfl ?_
    refine xt_callS rfl rfl (by decide) rfl ⟨rfl, yle rfl, yle rfl, yle rfl, yle rfl⟩ mk_in (c2 := 0) (s2 := 0) ⟨yle rfl, yle rfl⟩ ?_
    rintro _ _ (⟨rfl, hp1, rfl⟩ | ⟨rfl, hp1, rfl⟩)
    · skip
      try simp only [xi32_eq, xi64_eq, Int32.toInt_toInt64, Int32.reduceToInt, Int64.reduceToInt, y_m9, y_m1, y_m100, y64_m9, y64_m1, Ne, y_n1x] at hp1
      show yT _ _ _ _ _ _ (_ :: _) _ _ _ _
      refine xt_pure rfl rfl rfl rfl ?_
      refine xt_pure rfl rfl rfl rfl ?_
      refine xt_getf rfl rfl (xmC 196 rfl) ?_
      refine xt_pure rfl rfl rfl rfl ?_
      refine xt_pure rfl rfl rfl rfl ?_
      refine yt_ild rfl rfl (xmD 0 rfl) ⟨by first | omega | (simp only [List.length_append, List.length_set, List.length_map, List.length_replicate, List.length_cons, List.length_nil, Int32.reduceToInt]; omega), by first | omega | (simp only [List.length_append, List.length_set, List.length_map, List.length_replicate, List.length_cons, List.length_nil, Int32.reduceToInt]; omega)⟩ ?_
      intro x2 hx2
      refine xt_pure rfl rfl rfl rfl ?_
      refine xt_pure rfl rfl rfl rfl ?_
      refine yt_ist rfl rfl 0 rfl ⟨by first | omega | (simp only [List.length_append, List.length_set, List.length_map, List.length_replicate, List.length_cons, List.length_nil, Int32.reduceToInt]; omega), by first | omega | (simp only [List.length_append, List.length_set, List.length_map, List.length_replicate, List.length_cons, List.length_nil, Int32.reduceToInt]; omega)⟩ (D1 := _ :: _) rfl ?_
      refine xt_pure rfl rfl rfl rfl ?_
      refine xt_getf rfl rfl (xmC 196 rfl) ?_
      refine xt_pure rfl rfl rfl rfl ?_
      refine yt_ild rfl rfl (xmD 0 rfl) ⟨by first | omega | (simp only [List.length_append, List.length_set, List.length_map, List.length_replicate, List.length_cons, List.length_nil, Int32.reduceToInt]; omega), by first | omega | (simp only [List.length_append, List.length_set, List.length_map, List.length_replicate, List.length_cons, List.length_nil, Int32.reduceToInt]; omega)⟩ ?_
      intro x3 hx3
      refine xt_iret rfl rfl rfl rfl ?_
      try simp only [xi32_eq, xi64_eq, Int32.toInt_toInt64, Int32.reduceToInt, Int64.reduceToInt, y_m9, y_m1, y_m100, y64_m9, y64_m1, Ne, y_n1x] at hp0 hp1
      have hc : 0 ≤ y.toInt ∧ y.toInt ≤ 255 ∧ 0 ≤ x.toInt ∧ x.toInt < dk.length := by omega
      have ha := yapp hx2 (by omega)
      rw [List.set_append_left _ _ (by omega)] at hx3 ⊢
      have hb := yapp hx3 (by rw [List.length_set]; omega)
      rw [List.getElem?_set_self (by omega)] at hb
      have hg := gI_in (by omega) ha
      rw [altV, altT, if_pos hc, if_pos hc, itV, hg]
      cases hb
      exact ⟨rfl, rfl⟩
    · skip
      try simp only [xi32_eq, xi64_eq, Int32.toInt_toInt64, Int32.reduceToInt, Int64.reduceToInt, y_m9, y_m1, y_m100, y64_m9, y64_m1, Ne, y_n1x] at hp1
      show yT _ _ _ _ _ _ (_ :: _) _ _ _ _
      refine xt_pure rfl rfl rfl rfl ?_
      refine xt_pure rfl rfl rfl (st1 := .int (-1) :: _) rfl ?_
      refine xt_iret rfl rfl rfl rfl ?_
      try simp only [xi32_eq, xi64_eq, Int32.toInt_toInt64, Int32.reduceToInt, Int64.reduceToInt, y_m9, y_m1, y_m100, y64_m9, y64_m1, Ne, y_n1x] at hp0 hp1
      have hc : ¬ (0 ≤ y.toInt ∧ y.toInt ≤ 255 ∧ 0 ≤ x.toInt ∧ x.toInt < dk.length) := by omega
      rw [altV, altT, if_neg hc, if_neg hc]
      exact ⟨rfl, rfl⟩
  · skip
    try simp only [xi32_eq, xi64_eq, Int32.toInt_toInt64, Int32.reduceToInt, Int64.reduceToInt, y_m9, y_m1, y_m100, y64_m9, y64_m1, Ne, y_n1x] at hp0
    show yT _ _ _ _ _ _ (_ :: _) _ _ _ _
    refine xt_pure rfl rfl rfl rfl ?_
    refine xt_pure rfl rfl rfl (st1 := .int (-1) :: _) rfl ?_
    refine xt_iret rfl rfl rfl rfl ?_
    try simp only [xi32_eq, xi64_eq, Int32.toInt_toInt64, Int32.reduceToInt, Int64.reduceToInt, y_m9, y_m1, y_m100, y64_m9, y64_m1, Ne, y_n1x] at hp0
    have hc : ¬ (0 ≤ y.toInt ∧ y.toInt ≤ 255 ∧ 0 ≤ x.toInt ∧ x.toInt < dk.length) := by omega
    rw [altV, altT, if_neg hc, if_neg hc]
    exact ⟨rfl, rfl⟩
theorem cK_cut {X : List Int32} {D0 : List xE} {dk : List Int32} {x : Int32} (hl : dk.length ≤ 1200) : yK X 0 0 199 [.ref 78, .int x] ((206, .inl (0, 2, .int (Int32.ofNat (dk).length))) :: D0) 0 0 (fun w D => w = some (.int (cutV dk x)) ∧ D = (206, .inl (0, 2, .int (Int32.ofNat (cutT dk x).length))) :: D0) := by
  have en := yi_nat (i := dk.length) (by omega)
  refine yK.of rfl (yle rfl) (L := [_, _, _]) rfl ?_
  refine xt_pure rfl rfl rfl rfl ?_
  refine yt_if rfl rfl ?_ ?_
  · intro (hb1_0 : Int32.toInt _ < (0 : Int))
    refine xt_pure rfl rfl rfl (st1 := .int (-1) :: _) rfl ?_
    refine xt_iret rfl rfl rfl rfl ?_
    try simp only [xi32_eq, xi64_eq, Int32.toInt_toInt64, Int32.reduceToInt, Int64.reduceToInt, y_m9, y_m1, y_m100, y64_m9, y64_m1, Ne, y_n1x] at hb1_0
    have hc : ¬ (0 ≤ x.toInt ∧ x.toInt ≤ dk.length) := by omega
    rw [cutV, cutT, if_neg hc, if_neg hc]
    exact ⟨rfl, rfl⟩
  · intro (hb1_0 : (0 : Int) ≤ Int32.toInt _)
    refine xt_pure rfl rfl rfl rfl ?_
    refine xt_pure rfl rfl rfl rfl ?_
    refine xt_getf rfl rfl (xmC 126 rfl) ?_
    refine xt_getf rfl rfl (xmD 0 rfl) ?_
    refine yt_ic rfl rfl ?_ ?_
    · intro (hb6_1 : Int32.toInt _ ≤ Int32.toInt _)
      refine xt_pure rfl rfl rfl rfl ?_
      refine xt_getf rfl rfl (xmC 126 rfl) ?_
      refine xt_getf rfl rfl (xmD 0 rfl) ?_
      refine xt_pure rfl rfl rfl rfl ?_
      refine xt_pure rfl rfl rfl rfl ?_
      refine xt_pure rfl rfl rfl (L1 := [_, _, _]) rfl ?_
      refine xt_pure rfl rfl rfl rfl ?_
      refine xt_getf rfl rfl (xmC 126 rfl) ?_
      refine xt_pure rfl rfl rfl rfl ?_
      refine xt_putf rfl rfl rfl rfl 0 rfl (D1 := _ :: _) rfl ?_
      refine xt_pure rfl rfl rfl rfl ?_
      refine xt_iret rfl rfl rfl rfl ?_
      try simp only [xi32_eq, xi64_eq, Int32.toInt_toInt64, Int32.reduceToInt, Int64.reduceToInt, y_m9, y_m1, y_m100, y64_m9, y64_m1, Ne, y_n1x] at hb1_0 hb6_1
      have hc : 0 ≤ x.toInt ∧ x.toInt ≤ dk.length := by omega
      rw [cutV, cutT, if_pos hc, if_pos hc]
      refine ⟨rfl, ?_⟩
      rw [List.length_take, Nat.min_eq_left (by omega)]
      obtain ⟨m, m1, rfl, m2⟩ := yi_of hc.1
      rw [m2]
      rfl
    · intro (hb6_1 : Int32.toInt _ < Int32.toInt _)
      refine xt_pure rfl rfl rfl (st1 := .int (-1) :: _) rfl ?_
      refine xt_iret rfl rfl rfl rfl ?_
      try simp only [xi32_eq, xi64_eq, Int32.toInt_toInt64, Int32.reduceToInt, Int64.reduceToInt, y_m9, y_m1, y_m100, y64_m9, y64_m1, Ne, y_n1x] at hb1_0 hb6_1
      have hc : ¬ (0 ≤ x.toInt ∧ x.toInt ≤ dk.length) := by omega
      rw [cutV, cutT, if_neg hc, if_neg hc]
      exact ⟨rfl, rfl⟩
theorem mK_cut {X : List Int32} {D0 : List xE} {dk : List Int32} {x : Int32} (hl : dk.length ≤ 1200) : yK X 1 25 286 [.ref 209, .int x] ((209, .inl (14, 38, .int (Int32.ofNat (dk).length))) :: D0) 0 0 (fun w D => w = some (.int (cutV dk x)) ∧ D = (209, .inl (14, 38, .int (Int32.ofNat (cutT dk x).length))) :: D0) := by
  have en := yi_nat (i := dk.length) (by omega)
  refine yK.of rfl (yle rfl) (L := [_, _, _]) rfl ?_
  refine xt_pure rfl rfl rfl rfl ?_
  refine xt_pure rfl rfl rfl rfl ?_
  refine xt_pure rfl rfl rfl (st1 := .long 0 :: _) rfl ?_
  refine xt_pure rfl rfl rfl rfl ?_
  refine xt_getf rfl rfl (xmD 0 rfl) ?_
  refine xt_pure rfl rfl rfl rfl ?_
  refine xt_callS rfl rfl (by decide) rfl ⟨rfl, yle rfl, yle rfl, yle rfl, yle rfl⟩ mk_in (c2 := 0) (s2 := 0) ⟨yle rfl, yle rfl⟩ ?_
  rintro _ _ (⟨rfl, hp0, rfl⟩ | ⟨rfl, hp0, rfl⟩)
  · skip
    try simp only [xi32_eq, xi64_eq, Int32.toInt_toInt64, Int32.reduceToInt, Int64.reduceToInt, y_m9, y_m1, y_m100, y64_m9, y64_m1, Ne, y_n1x] at hp0
    show yT _ _ _ _ _ _ (_ :: _) _ _ _ _
    refine xt_pure rfl rfl rfl rfl ?_
    refine xt_pure rfl rfl rfl rfl ?_
    refine xt_getf rfl rfl (xmD 0 rfl) ?_
    refine xt_pure rfl rfl rfl rfl ?_
    refine xt_pure rfl rfl rfl rfl ?_
    refine xt_pure rfl rfl rfl (L1 := [_, _, _]) rfl ?_
    refine xt_pure rfl rfl rfl rfl ?_
    refine xt_pure rfl rfl rfl rfl ?_
    refine xt_putf rfl rfl rfl rfl 0 rfl (D1 := _ :: _) rfl ?_
    refine xt_pure rfl rfl rfl rfl ?_
    refine xt_iret rfl rfl rfl rfl ?_
    try simp only [xi32_eq, xi64_eq, Int32.toInt_toInt64, Int32.reduceToInt, Int64.reduceToInt, y_m9, y_m1, y_m100, y64_m9, y64_m1, Ne, y_n1x] at hp0
    have hc : 0 ≤ x.toInt ∧ x.toInt ≤ dk.length := by omega
    rw [cutV, cutT, if_pos hc, if_pos hc]
    refine ⟨rfl, ?_⟩
    rw [List.length_take, Nat.min_eq_left (by omega)]
    obtain ⟨m, m1, rfl, m2⟩ := yi_of hc.1
    rw [m2]
    rfl
  · skip
    try simp only [xi32_eq, xi64_eq, Int32.toInt_toInt64, Int32.reduceToInt, Int64.reduceToInt, y_m9, y_m1, y_m100, y64_m9, y64_m1, Ne, y_n1x] at hp0
    show yT _ _ _ _ _ _ (_ :: _) _ _ _ _
    refine xt_pure rfl rfl rfl rfl ?_
    refine xt_pure rfl rfl rfl (st1 := .int (-1) :: _) rfl ?_
    refine xt_iret rfl rfl rfl rfl ?_
    try simp only [xi32_eq, xi64_eq, Int32.toInt_toInt64, Int32.reduceToInt, Int64.reduceToInt, y_m9, y_m1, y_m100, y64_m9, y64_m1, Ne, y_n1x] at hp0
    have hc : ¬ (0 ≤ x.toInt ∧ x.toInt ≤ dk.length) := by omega
    rw [cutV, cutT, if_neg hc, if_neg hc]
    exact ⟨rfl, rfl⟩
theorem cN_count {X : List Int32} {D0 : List xE} {x n0 n1 n2 n3 n4 n5 n6 n7 n8 : Int32} (h0 : ((78, .inl (11, 3, .int n0)) : xE) ∈ D0) (h1 : ((106, .inl (5, 2, .int n1)) : xE) ∈ D0) (h2 : ((78, .inl (11, 8, .int n2)) : xE) ∈ D0) (h3 : ((78, .inl (11, 9, .int n3)) : xE) ∈ D0) (h4 : ((78, .inl (11, 16, .int n4)) : xE) ∈ D0) (h5 : ((79, .inl (9, 1, .int n5)) : xE) ∈ D0) (h6 : ((206, .inl (0, 2, .int n6)) : xE) ∈ D0) (h7 : ((110, .inl (10, 1, .int n7)) : xE) ∈ D0) (h8 : ((78, .inl (11, 10, .int n8)) : xE) ∈ D0) : yK X 0 0 206 [.ref 78, .int x] (D0) 0 0 (fun w D => w = some (.int (countV [n0, n1, n2, n3, n4, n5, n6, n7, n8] x)) ∧ D = D0) := by
  refine yK.of rfl (yle rfl) (L := [_, _]) rfl ?_
  refine xt_pure rfl rfl rfl rfl ?_
  by_cases hw0_0 : x = 0
  · subst hw0_0
    refine xt_pure rfl rfl rfl rfl ?_
    refine xt_pure rfl rfl rfl rfl ?_
    refine xt_getf rfl rfl (xmS 0 rfl h0) ?_
    refine xt_iret rfl rfl rfl rfl ?_
    refine ⟨?_, rfl⟩
    simp only [countV, itV]
    first | (rw [gI_out (by simp only [List.length_cons, List.length_nil]; omega)]; rfl) | rfl
  by_cases hw0_1 : x = 1
  · subst hw0_1
    refine xt_pure rfl rfl rfl rfl ?_
    refine xt_pure rfl rfl rfl rfl ?_
    refine xt_getf rfl rfl (xmC 118 rfl) ?_
    refine xt_getf rfl rfl (xmS 0 rfl h1) ?_
    refine xt_iret rfl rfl rfl rfl ?_
    refine ⟨?_, rfl⟩
    simp only [countV, itV]
    first | (rw [gI_out (by simp only [List.length_cons, List.length_nil]; omega)]; rfl) | rfl
  by_cases hw0_2 : x = 2
  · subst hw0_2
    refine xt_pure rfl rfl rfl rfl ?_
    refine xt_pure rfl rfl rfl rfl ?_
    refine xt_getf rfl rfl (xmS 0 rfl h2) ?_
    refine xt_iret rfl rfl rfl rfl ?_
    refine ⟨?_, rfl⟩
    simp only [countV, itV]
    first | (rw [gI_out (by simp only [List.length_cons, List.length_nil]; omega)]; rfl) | rfl
  by_cases hw0_3 : x = 3
  · subst hw0_3
    refine xt_pure rfl rfl rfl rfl ?_
    refine xt_pure rfl rfl rfl rfl ?_
    refine xt_getf rfl rfl (xmS 0 rfl h3) ?_
    refine xt_iret rfl rfl rfl rfl ?_
    refine ⟨?_, rfl⟩
    simp only [countV, itV]
    first | (rw [gI_out (by simp only [List.length_cons, List.length_nil]; omega)]; rfl) | rfl
  by_cases hw0_4 : x = 4
  · subst hw0_4
    refine xt_pure rfl rfl rfl rfl ?_
    refine xt_pure rfl rfl rfl rfl ?_
    refine xt_getf rfl rfl (xmS 0 rfl h4) ?_
    refine xt_iret rfl rfl rfl rfl ?_
    refine ⟨?_, rfl⟩
    simp only [countV, itV]
    first | (rw [gI_out (by simp only [List.length_cons, List.length_nil]; omega)]; rfl) | rfl
  by_cases hw0_5 : x = 5
  · subst hw0_5
    refine xt_pure rfl rfl rfl rfl ?_
    refine xt_pure rfl rfl rfl rfl ?_
    refine xt_getf rfl rfl (xmC 115 rfl) ?_
    refine xt_getf rfl rfl (xmS 0 rfl h5) ?_
    refine xt_iret rfl rfl rfl rfl ?_
    refine ⟨?_, rfl⟩
    simp only [countV, itV]
    first | (rw [gI_out (by simp only [List.length_cons, List.length_nil]; omega)]; rfl) | rfl
  by_cases hw0_6 : x = 6
  · subst hw0_6
    refine xt_pure rfl rfl rfl rfl ?_
    refine xt_pure rfl rfl rfl rfl ?_
    refine xt_getf rfl rfl (xmC 126 rfl) ?_
    refine xt_getf rfl rfl (xmS 0 rfl h6) ?_
    refine xt_iret rfl rfl rfl rfl ?_
    refine ⟨?_, rfl⟩
    simp only [countV, itV]
    first | (rw [gI_out (by simp only [List.length_cons, List.length_nil]; omega)]; rfl) | rfl
  by_cases hw0_7 : x = 7
  · subst hw0_7
    refine xt_pure rfl rfl rfl rfl ?_
    refine xt_pure rfl rfl rfl rfl ?_
    refine xt_getf rfl rfl (xmC 120 rfl) ?_
    refine xt_getf rfl rfl (xmS 0 rfl h7) ?_
    refine xt_iret rfl rfl rfl rfl ?_
    refine ⟨?_, rfl⟩
    simp only [countV, itV]
    first | (rw [gI_out (by simp only [List.length_cons, List.length_nil]; omega)]; rfl) | rfl
  by_cases hw0_8 : x = 8
  · subst hw0_8
    refine xt_pure rfl rfl rfl rfl ?_
    refine xt_pure rfl rfl rfl rfl ?_
    refine xt_getf rfl rfl (xmS 0 rfl h8) ?_
    refine xt_iret rfl rfl rfl rfl ?_
    refine ⟨?_, rfl⟩
    simp only [countV, itV]
    first | (rw [gI_out (by simp only [List.length_cons, List.length_nil]; omega)]; rfl) | rfl
  have hx0_0 : ¬ x.toInt = 0 := fun h => hw0_0 (by rw [xi32_eq, h]; rfl)
  have hx0_1 : ¬ x.toInt = 1 := fun h => hw0_1 (by rw [xi32_eq, h]; rfl)
  have hx0_2 : ¬ x.toInt = 2 := fun h => hw0_2 (by rw [xi32_eq, h]; rfl)
  have hx0_3 : ¬ x.toInt = 3 := fun h => hw0_3 (by rw [xi32_eq, h]; rfl)
  have hx0_4 : ¬ x.toInt = 4 := fun h => hw0_4 (by rw [xi32_eq, h]; rfl)
  have hx0_5 : ¬ x.toInt = 5 := fun h => hw0_5 (by rw [xi32_eq, h]; rfl)
  have hx0_6 : ¬ x.toInt = 6 := fun h => hw0_6 (by rw [xi32_eq, h]; rfl)
  have hx0_7 : ¬ x.toInt = 7 := fun h => hw0_7 (by rw [xi32_eq, h]; rfl)
  have hx0_8 : ¬ x.toInt = 8 := fun h => hw0_8 (by rw [xi32_eq, h]; rfl)
  refine yt_tsd rfl rfl (by omega) rfl ?_
  refine xt_pure rfl rfl rfl (st1 := .int (-1) :: _) rfl ?_
  refine xt_iret rfl rfl rfl rfl ?_
  refine ⟨?_, rfl⟩
  simp only [countV, itV]
  first | (rw [gI_out (by simp only [List.length_cons, List.length_nil]; omega)]; rfl) | rfl
theorem mN_count {X : List Int32} {D0 : List xE} {x n0 n1 n2 n3 n4 n5 n6 n7 n8 : Int32} (h0 : ((209, .inl (14, 7, .int n0)) : xE) ∈ D0) (h1 : ((209, .inl (14, 19, .int n1)) : xE) ∈ D0) (h2 : ((209, .inl (14, 26, .int n2)) : xE) ∈ D0) (h3 : ((209, .inl (14, 65, .int n3)) : xE) ∈ D0) (h4 : ((209, .inl (14, 66, .int n4)) : xE) ∈ D0) (h5 : ((209, .inl (14, 1, .int n5)) : xE) ∈ D0) (h6 : ((209, .inl (14, 38, .int n6)) : xE) ∈ D0) (h7 : ((209, .inl (14, 24, .int n7)) : xE) ∈ D0) (h8 : ((209, .inl (14, 32, .int n8)) : xE) ∈ D0) : yK X 0 0 344 [.ref 209, .int x] (D0) 0 0 (fun w D => w = some (.int (countV [n0, n1, n2, n3, n4, n5, n6, n7, n8] x)) ∧ D = D0) := by
  refine yK.of rfl (yle rfl) (L := [_, _]) rfl ?_
  refine xt_pure rfl rfl rfl rfl ?_
  by_cases hw0_0 : x = 0
  · subst hw0_0
    refine xt_pure rfl rfl rfl rfl ?_
    refine xt_pure rfl rfl rfl rfl ?_
    refine xt_getf rfl rfl (xmS 0 rfl h0) ?_
    refine xt_iret rfl rfl rfl rfl ?_
    refine ⟨?_, rfl⟩
    simp only [countV, itV]
    first | (rw [gI_out (by simp only [List.length_cons, List.length_nil]; omega)]; rfl) | rfl
  by_cases hw0_1 : x = 1
  · subst hw0_1
    refine xt_pure rfl rfl rfl rfl ?_
    refine xt_pure rfl rfl rfl rfl ?_
    refine xt_getf rfl rfl (xmS 0 rfl h1) ?_
    refine xt_iret rfl rfl rfl rfl ?_
    refine ⟨?_, rfl⟩
    simp only [countV, itV]
    first | (rw [gI_out (by simp only [List.length_cons, List.length_nil]; omega)]; rfl) | rfl
  by_cases hw0_2 : x = 2
  · subst hw0_2
    refine xt_pure rfl rfl rfl rfl ?_
    refine xt_pure rfl rfl rfl rfl ?_
    refine xt_getf rfl rfl (xmS 0 rfl h2) ?_
    refine xt_iret rfl rfl rfl rfl ?_
    refine ⟨?_, rfl⟩
    simp only [countV, itV]
    first | (rw [gI_out (by simp only [List.length_cons, List.length_nil]; omega)]; rfl) | rfl
  by_cases hw0_3 : x = 3
  · subst hw0_3
    refine xt_pure rfl rfl rfl rfl ?_
    refine xt_pure rfl rfl rfl rfl ?_
    refine xt_getf rfl rfl (xmS 0 rfl h3) ?_
    refine xt_iret rfl rfl rfl rfl ?_
    refine ⟨?_, rfl⟩
    simp only [countV, itV]
    first | (rw [gI_out (by simp only [List.length_cons, List.length_nil]; omega)]; rfl) | rfl
  by_cases hw0_4 : x = 4
  · subst hw0_4
    refine xt_pure rfl rfl rfl rfl ?_
    refine xt_pure rfl rfl rfl rfl ?_
    refine xt_getf rfl rfl (xmS 0 rfl h4) ?_
    refine xt_iret rfl rfl rfl rfl ?_
    refine ⟨?_, rfl⟩
    simp only [countV, itV]
    first | (rw [gI_out (by simp only [List.length_cons, List.length_nil]; omega)]; rfl) | rfl
  by_cases hw0_5 : x = 5
  · subst hw0_5
    refine xt_pure rfl rfl rfl rfl ?_
    refine xt_pure rfl rfl rfl rfl ?_
    refine xt_getf rfl rfl (xmS 0 rfl h5) ?_
    refine xt_iret rfl rfl rfl rfl ?_
    refine ⟨?_, rfl⟩
    simp only [countV, itV]
    first | (rw [gI_out (by simp only [List.length_cons, List.length_nil]; omega)]; rfl) | rfl
  by_cases hw0_6 : x = 6
  · subst hw0_6
    refine xt_pure rfl rfl rfl rfl ?_
    refine xt_pure rfl rfl rfl rfl ?_
    refine xt_getf rfl rfl (xmS 0 rfl h6) ?_
    refine xt_iret rfl rfl rfl rfl ?_
    refine ⟨?_, rfl⟩
    simp only [countV, itV]
    first | (rw [gI_out (by simp only [List.length_cons, List.length_nil]; omega)]; rfl) | rfl
  by_cases hw0_7 : x = 7
  · subst hw0_7
    refine xt_pure rfl rfl rfl rfl ?_
    refine xt_pure rfl rfl rfl rfl ?_
    refine xt_getf rfl rfl (xmS 0 rfl h7) ?_
    refine xt_iret rfl rfl rfl rfl ?_
    refine ⟨?_, rfl⟩
    simp only [countV, itV]
    first | (rw [gI_out (by simp only [List.length_cons, List.length_nil]; omega)]; rfl) | rfl
  by_cases hw0_8 : x = 8
  · subst hw0_8
    refine xt_pure rfl rfl rfl rfl ?_
    refine xt_pure rfl rfl rfl rfl ?_
    refine xt_getf rfl rfl (xmS 0 rfl h8) ?_
    refine xt_iret rfl rfl rfl rfl ?_
    refine ⟨?_, rfl⟩
    simp only [countV, itV]
    first | (rw [gI_out (by simp only [List.length_cons, List.length_nil]; omega)]; rfl) | rfl
  have hx0_0 : ¬ x.toInt = 0 := fun h => hw0_0 (by rw [xi32_eq, h]; rfl)
  have hx0_1 : ¬ x.toInt = 1 := fun h => hw0_1 (by rw [xi32_eq, h]; rfl)
  have hx0_2 : ¬ x.toInt = 2 := fun h => hw0_2 (by rw [xi32_eq, h]; rfl)
  have hx0_3 : ¬ x.toInt = 3 := fun h => hw0_3 (by rw [xi32_eq, h]; rfl)
  have hx0_4 : ¬ x.toInt = 4 := fun h => hw0_4 (by rw [xi32_eq, h]; rfl)
  have hx0_5 : ¬ x.toInt = 5 := fun h => hw0_5 (by rw [xi32_eq, h]; rfl)
  have hx0_6 : ¬ x.toInt = 6 := fun h => hw0_6 (by rw [xi32_eq, h]; rfl)
  have hx0_7 : ¬ x.toInt = 7 := fun h => hw0_7 (by rw [xi32_eq, h]; rfl)
  have hx0_8 : ¬ x.toInt = 8 := fun h => hw0_8 (by rw [xi32_eq, h]; rfl)
  refine yt_tsd rfl rfl (by omega) rfl ?_
  refine xt_pure rfl rfl rfl (st1 := .int (-1) :: _) rfl ?_
  refine xt_iret rfl rfl rfl rfl ?_
  refine ⟨?_, rfl⟩
  simp only [countV, itV]
  first | (rw [gI_out (by simp only [List.length_cons, List.length_nil]; omega)]; rfl) | rfl
theorem cI_finding {X : List Int32} {D0 : List xE} {L : List (Int32 × Int32 × Int32 × Int32 × Int32)} {j0 j1 j2 j3 j4 : List Int32} {x y : Int32} (hl : L.length ≤ 32) (h0 : ((118, .inl (4, 1, .int (Int32.ofNat L.length))) : xE) ∈ D0) (h1 : ((119, .inr (0, (L.map (fun f => f.1) ++ j0).map Value.int)) : xE) ∈ D0) (h2 : ((120, .inr (0, (L.map (fun f => f.2.1) ++ j1).map Value.int)) : xE) ∈ D0) (h3 : ((121, .inr (0, (L.map (fun f => f.2.2.1) ++ j2).map Value.int)) : xE) ∈ D0) (h4 : ((122, .inr (0, (L.map (fun f => f.2.2.2.1) ++ j3).map Value.int)) : xE) ∈ D0) (h5 : ((123, .inr (0, (L.map (fun f => f.2.2.2.2) ++ j4).map Value.int)) : xE) ∈ D0) : yK X 0 0 161 [.ref 78, .int x, .int y] (D0) 0 0 (fun w D => w = some (.int (findV L x y)) ∧ D = D0) := by
  have en := yi_nat (i := L.length) (by omega)
  refine yK.of rfl (yle rfl) (L := [_, _, _]) rfl ?_
  refine xt_pure rfl rfl rfl rfl ?_
  refine yt_if rfl rfl ?_ ?_
  · intro (hb1_0 : Int32.toInt _ < (0 : Int))
    refine xt_pure rfl rfl rfl (st1 := .int (-100) :: _) rfl ?_
    refine xt_iret rfl rfl rfl rfl ?_
    refine ⟨?_, rfl⟩
    try simp only [xi32_eq, xi64_eq, Int32.toInt_toInt64, Int32.reduceToInt, Int64.reduceToInt, y_m9, y_m1, y_m100, y64_m9, y64_m1, Ne, y_n1x] at hb1_0
    cases hg : gI L x with
    | none => rw [findV, hg]
    | some f =>
      have hi := gI_some hg
      rw [findV, hg]
      simp only []
      rw [if_neg (by omega), if_neg (by omega), if_neg (by omega), if_neg (by omega), if_neg (by omega)]
  · intro (hb1_0 : (0 : Int) ≤ Int32.toInt _)
    refine xt_pure rfl rfl rfl rfl ?_
    refine xt_pure rfl rfl rfl rfl ?_
    refine xt_getf rfl rfl (xmC 121 rfl) ?_
    refine xt_getf rfl rfl (xmS 0 rfl h0) ?_
    refine yt_ic rfl rfl ?_ ?_
    · intro (hb6_1 : Int32.toInt _ < Int32.toInt _)
      refine xt_pure rfl rfl rfl rfl ?_
      by_cases hw2_0 : y = 0
      · subst hw2_0
        refine xt_pure rfl rfl rfl rfl ?_
        refine xt_pure rfl rfl rfl rfl ?_
        refine xt_getf rfl rfl (xmC 121 rfl) ?_
        refine xt_getf rfl rfl (xmC 151 rfl) ?_
        refine xt_pure rfl rfl rfl rfl ?_
        refine yt_ild rfl rfl (xmS 0 rfl h1) ⟨by first | omega | (simp only [List.length_append, List.length_set, List.length_map, List.length_replicate, List.length_cons, List.length_nil, Int32.reduceToInt]; omega), by first | omega | (simp only [List.length_append, List.length_set, List.length_map, List.length_replicate, List.length_cons, List.length_nil, Int32.reduceToInt]; omega)⟩ ?_
        intro x3 hx3
        refine xt_iret rfl rfl rfl rfl ?_
        refine ⟨?_, rfl⟩
        have ha := yapp hx3 (by simp only [List.length_map]; omega)
        rw [List.getElem?_map] at ha
        obtain ⟨f, hf, rfl⟩ := Option.map_eq_some_iff.mp ha
        rw [findV, gI_in (by omega) hf]
        rfl
      by_cases hw2_1 : y = 1
      · subst hw2_1
        refine xt_pure rfl rfl rfl rfl ?_
        refine xt_pure rfl rfl rfl rfl ?_
        refine xt_getf rfl rfl (xmC 121 rfl) ?_
        refine xt_getf rfl rfl (xmC 152 rfl) ?_
        refine xt_pure rfl rfl rfl rfl ?_
        refine yt_ild rfl rfl (xmS 0 rfl h2) ⟨by first | omega | (simp only [List.length_append, List.length_set, List.length_map, List.length_replicate, List.length_cons, List.length_nil, Int32.reduceToInt]; omega), by first | omega | (simp only [List.length_append, List.length_set, List.length_map, List.length_replicate, List.length_cons, List.length_nil, Int32.reduceToInt]; omega)⟩ ?_
        intro x4 hx4
        refine xt_iret rfl rfl rfl rfl ?_
        refine ⟨?_, rfl⟩
        have ha := yapp hx4 (by simp only [List.length_map]; omega)
        rw [List.getElem?_map] at ha
        obtain ⟨f, hf, rfl⟩ := Option.map_eq_some_iff.mp ha
        rw [findV, gI_in (by omega) hf]
        rfl
      by_cases hw2_2 : y = 2
      · subst hw2_2
        refine xt_pure rfl rfl rfl rfl ?_
        refine xt_pure rfl rfl rfl rfl ?_
        refine xt_getf rfl rfl (xmC 121 rfl) ?_
        refine xt_getf rfl rfl (xmC 153 rfl) ?_
        refine xt_pure rfl rfl rfl rfl ?_
        refine yt_ild rfl rfl (xmS 0 rfl h3) ⟨by first | omega | (simp only [List.length_append, List.length_set, List.length_map, List.length_replicate, List.length_cons, List.length_nil, Int32.reduceToInt]; omega), by first | omega | (simp only [List.length_append, List.length_set, List.length_map, List.length_replicate, List.length_cons, List.length_nil, Int32.reduceToInt]; omega)⟩ ?_
        intro x5 hx5
        refine xt_iret rfl rfl rfl rfl ?_
        refine ⟨?_, rfl⟩
        have ha := yapp hx5 (by simp only [List.length_map]; omega)
        rw [List.getElem?_map] at ha
        obtain ⟨f, hf, rfl⟩ := Option.map_eq_some_iff.mp ha
        rw [findV, gI_in (by omega) hf]
        rfl
      by_cases hw2_3 : y = 3
      · subst hw2_3
        refine xt_pure rfl rfl rfl rfl ?_
        refine xt_pure rfl rfl rfl rfl ?_
        refine xt_getf rfl rfl (xmC 121 rfl) ?_
        refine xt_getf rfl rfl (xmC 154 rfl) ?_
        refine xt_pure rfl rfl rfl rfl ?_
        refine yt_ild rfl rfl (xmS 0 rfl h4) ⟨by first | omega | (simp only [List.length_append, List.length_set, List.length_map, List.length_replicate, List.length_cons, List.length_nil, Int32.reduceToInt]; omega), by first | omega | (simp only [List.length_append, List.length_set, List.length_map, List.length_replicate, List.length_cons, List.length_nil, Int32.reduceToInt]; omega)⟩ ?_
        intro x6 hx6
        refine xt_iret rfl rfl rfl rfl ?_
        refine ⟨?_, rfl⟩
        have ha := yapp hx6 (by simp only [List.length_map]; omega)
        rw [List.getElem?_map] at ha
        obtain ⟨f, hf, rfl⟩ := Option.map_eq_some_iff.mp ha
        rw [findV, gI_in (by omega) hf]
        rfl
      by_cases hw2_4 : y = 4
      · subst hw2_4
        refine xt_pure rfl rfl rfl rfl ?_
        refine xt_pure rfl rfl rfl rfl ?_
        refine xt_getf rfl rfl (xmC 121 rfl) ?_
        refine xt_getf rfl rfl (xmC 155 rfl) ?_
        refine xt_pure rfl rfl rfl rfl ?_
        refine yt_ild rfl rfl (xmS 0 rfl h5) ⟨by first | omega | (simp only [List.length_append, List.length_set, List.length_map, List.length_replicate, List.length_cons, List.length_nil, Int32.reduceToInt]; omega), by first | omega | (simp only [List.length_append, List.length_set, List.length_map, List.length_replicate, List.length_cons, List.length_nil, Int32.reduceToInt]; omega)⟩ ?_
        intro x7 hx7
        refine xt_iret rfl rfl rfl rfl ?_
        refine ⟨?_, rfl⟩
        have ha := yapp hx7 (by simp only [List.length_map]; omega)
        rw [List.getElem?_map] at ha
        obtain ⟨f, hf, rfl⟩ := Option.map_eq_some_iff.mp ha
        rw [findV, gI_in (by omega) hf]
        rfl
      have hx2_0 : ¬ y.toInt = 0 := fun h => hw2_0 (by rw [xi32_eq, h]; rfl)
      have hx2_1 : ¬ y.toInt = 1 := fun h => hw2_1 (by rw [xi32_eq, h]; rfl)
      have hx2_2 : ¬ y.toInt = 2 := fun h => hw2_2 (by rw [xi32_eq, h]; rfl)
      have hx2_3 : ¬ y.toInt = 3 := fun h => hw2_3 (by rw [xi32_eq, h]; rfl)
      have hx2_4 : ¬ y.toInt = 4 := fun h => hw2_4 (by rw [xi32_eq, h]; rfl)
      refine yt_tsd rfl rfl (by omega) rfl ?_
      refine xt_pure rfl rfl rfl (st1 := .int (-100) :: _) rfl ?_
      refine xt_iret rfl rfl rfl rfl ?_
      refine ⟨?_, rfl⟩
      try simp only [xi32_eq, xi64_eq, Int32.toInt_toInt64, Int32.reduceToInt, Int64.reduceToInt, y_m9, y_m1, y_m100, y64_m9, y64_m1, Ne, y_n1x] at hb1_0 hb6_1 hw2_0 hw2_1 hw2_2 hw2_3 hw2_4
      cases hg : gI L x with
      | none => rw [findV, hg]
      | some f =>
        have hi := gI_some hg
        rw [findV, hg]
        simp only []
        rw [if_neg (by omega), if_neg (by omega), if_neg (by omega), if_neg (by omega), if_neg (by omega)]
    · intro (hb6_1 : Int32.toInt _ ≤ Int32.toInt _)
      refine xt_pure rfl rfl rfl (st1 := .int (-100) :: _) rfl ?_
      refine xt_iret rfl rfl rfl rfl ?_
      refine ⟨?_, rfl⟩
      try simp only [xi32_eq, xi64_eq, Int32.toInt_toInt64, Int32.reduceToInt, Int64.reduceToInt, y_m9, y_m1, y_m100, y64_m9, y64_m1, Ne, y_n1x] at hb1_0 hb6_1
      cases hg : gI L x with
      | none => rw [findV, hg]
      | some f =>
        have hi := gI_some hg
        rw [findV, hg]
        simp only []
        rw [if_neg (by omega), if_neg (by omega), if_neg (by omega), if_neg (by omega), if_neg (by omega)]
theorem yflat {L : List (Int32 × Int32 × Int32 × Int32 × Int32)} {jk : List Int32} {i w : Nat} (hi : i < L.length) (hw : w < 5) {z : Int32} (h : (L.flatMap find5 ++ jk)[5 * i + w]? = some z) : ∃ f, L[i]? = some f ∧ (find5 f)[w]? = some z := by
  induction L generalizing i with
  | nil => simp at hi
  | cons f r ih =>
    have hlen : (find5 f).length = 5 := rfl
    cases i with
    | zero =>
      refine ⟨f, rfl, ?_⟩
      rw [List.flatMap_cons, List.append_assoc, List.getElem?_append_left (by omega)] at h
      simpa using h
    | succ i =>
      obtain ⟨g, h1, h2⟩ := ih (i := i) (by simpa using hi) (by
        rw [List.flatMap_cons, List.append_assoc, List.getElem?_append_right (by omega), hlen] at h
        rwa [show 5 * (i + 1) + w - 5 = 5 * i + w by omega] at h)
      exact ⟨g, by simpa using h1, h2⟩
theorem yflen (L : List (Int32 × Int32 × Int32 × Int32 × Int32)) : (L.flatMap find5).length = 5 * L.length := by
  induction L with
  | nil => rfl
  | cons f r ih => rw [List.flatMap_cons, List.length_append, ih, List.length_cons]; show 5 + _ = _; omega
theorem mI_finding {X : List Int32} {D0 : List xE} {L : List (Int32 × Int32 × Int32 × Int32 × Int32)} {jk : List Int32} {x y : Int32} (hl : L.length ≤ 32) (hj : 5 * L.length + jk.length = 200) (h0 : ((209, .inl (14, 62, .int (Int32.ofNat L.length))) : xE) ∈ D0) (h1 : ((254, .inr (0, (L.flatMap find5 ++ jk).map Value.int)) : xE) ∈ D0) : yK X 1 25 318 [.ref 209, .int x, .int y] (D0) 0 0 (fun w D => w = some (.int (findV L x y)) ∧ D = D0) := by
  have en := y_n1 (n := L.length) (by omega)
  refine yK.of rfl (yle rfl) (L := [_, _, _]) rfl ?_
  refine xt_pure rfl rfl rfl rfl ?_
  refine xt_pure rfl rfl rfl rfl ?_
  refine xt_pure rfl rfl rfl (st1 := .long 0 :: _) rfl ?_
  refine xt_pure rfl rfl rfl rfl ?_
  refine xt_getf rfl rfl (xmS 0 rfl h0) ?_
  refine xt_pure rfl rfl rfl (st1 := .int 1 :: _) rfl ?_
  refine xt_pure rfl rfl rfl rfl ?_
  refine xt_pure rfl rfl rfl rfl ?_
  refine xt_callS rfl rfl (by decide) rfl ⟨rfl, yle rfl, yle rfl, yle rfl, yle rfl⟩ mk_in (c2 := 0) (s2 := 0) ⟨yle rfl, yle rfl⟩ ?_
  rintro _ _ (⟨rfl, hp0, rfl⟩ | ⟨rfl, hp0, rfl⟩)
  · skip
    try simp only [xi32_eq, xi64_eq, Int32.toInt_toInt64, Int32.reduceToInt, Int64.reduceToInt, y_m9, y_m1, y_m100, y64_m9, y64_m1, Ne, y_n1x] at hp0
    show yT _ _ _ _ _ _ (_ :: _) _ _ _ _
    refine xt_pure rfl rfl rfl rfl ?_
    refine xt_pure rfl rfl rfl rfl ?_
    refine xt_pure rfl rfl rfl rfl ?_
    refine xt_pure rfl rfl rfl (st1 := .long 0 :: _) rfl ?_
    refine xt_pure rfl rfl rfl (st1 := .long 4 :: _) rfl ?_
    refine xt_callS rfl rfl (by decide) rfl ⟨rfl, yle rfl, yle rfl, yle rfl, yle rfl⟩ mk_in (c2 := 0) (s2 := 0) ⟨yle rfl, yle rfl⟩ ?_
    rintro _ _ (⟨rfl, hp1, rfl⟩ | ⟨rfl, hp1, rfl⟩)
    · skip
      try simp only [xi32_eq, xi64_eq, Int32.toInt_toInt64, Int32.reduceToInt, Int64.reduceToInt, y_m9, y_m1, y_m100, y64_m9, y64_m1, Ne, y_n1x] at hp1
      show yT _ _ _ _ _ _ (_ :: _) _ _ _ _
      refine xt_pure rfl rfl rfl rfl ?_
      refine xt_pure rfl rfl rfl rfl ?_
      refine xt_getf rfl rfl (xmC 203 rfl) ?_
      refine xt_pure rfl rfl rfl (st1 := .int 5 :: _) rfl ?_
      refine xt_pure rfl rfl rfl rfl ?_
      refine xt_pure rfl rfl rfl rfl ?_
      refine xt_pure rfl rfl rfl rfl ?_
      refine xt_pure rfl rfl rfl rfl ?_
      have ej : (5 * x + y).toInt = 5 * x.toInt + y.toInt := by
        have em : (5 * x).toInt = 5 * x.toInt := yi_mul (x := 5) (by simp only [Int32.reduceToInt]; omega) (by simp only [Int32.reduceToInt]; omega)
        rw [yi_plus (by rw [em]; omega) (by rw [em]; omega), em]
      refine yt_ild rfl rfl (xmS 0 rfl h1) ⟨by rw [ej]; omega, by rw [ej, List.length_append, yflen]; omega⟩ ?_
      intro x2 hx2
      refine xt_pure rfl rfl rfl rfl ?_
      refine xt_iret rfl rfl rfl rfl ?_
      try simp only [xi32_eq, xi64_eq, Int32.toInt_toInt64, Int32.reduceToInt, Int64.reduceToInt, y_m9, y_m1, y_m100, y64_m9, y64_m1, Ne, y_n1x] at hp0 hp1
      refine ⟨?_, rfl⟩
      rw [ej, show (5 * x.toInt + y.toInt).toNat = 5 * x.toInt.toNat + y.toInt.toNat by omega] at hx2
      obtain ⟨f, hf, hz⟩ := yflat (by omega) (by omega) hx2
      rw [findV, gI_in (by omega) hf]
      have hc : y.toInt = 0 ∨ y.toInt = 1 ∨ y.toInt = 2 ∨ y.toInt = 3 ∨ y.toInt = 4 := by omega
      rcases hc with hc | hc | hc | hc | hc <;> rw [hc] at hz ⊢ <;> simp [find5] at hz <;> subst hz <;> rfl
    · skip
      try simp only [xi32_eq, xi64_eq, Int32.toInt_toInt64, Int32.reduceToInt, Int64.reduceToInt, y_m9, y_m1, y_m100, y64_m9, y64_m1, Ne, y_n1x] at hp1
      show yT _ _ _ _ _ _ (_ :: _) _ _ _ _
      refine xt_pure rfl rfl rfl rfl ?_
      refine xt_pure rfl rfl rfl (st1 := .int (-100) :: _) rfl ?_
      refine xt_iret rfl rfl rfl rfl ?_
      refine ⟨?_, rfl⟩
      try simp only [xi32_eq, xi64_eq, Int32.toInt_toInt64, Int32.reduceToInt, Int64.reduceToInt, y_m9, y_m1, y_m100, y64_m9, y64_m1, Ne, y_n1x] at hp0 hp1
      cases hg : gI L x with
      | none => rw [findV, hg]
      | some f =>
        have hi := gI_some hg
        rw [findV, hg]
        simp only []
        rw [if_neg (by omega), if_neg (by omega), if_neg (by omega), if_neg (by omega), if_neg (by omega)]
  · skip
    try simp only [xi32_eq, xi64_eq, Int32.toInt_toInt64, Int32.reduceToInt, Int64.reduceToInt, y_m9, y_m1, y_m100, y64_m9, y64_m1, Ne, y_n1x] at hp0
    show yT _ _ _ _ _ _ (_ :: _) _ _ _ _
    refine xt_pure rfl rfl rfl rfl ?_
    refine xt_pure rfl rfl rfl (st1 := .int (-100) :: _) rfl ?_
    refine xt_iret rfl rfl rfl rfl ?_
    refine ⟨?_, rfl⟩
    try simp only [xi32_eq, xi64_eq, Int32.toInt_toInt64, Int32.reduceToInt, Int64.reduceToInt, y_m9, y_m1, y_m100, y64_m9, y64_m1, Ne, y_n1x] at hp0
    cases hg : gI L x with
    | none => rw [findV, hg]
    | some f =>
      have hi := gI_some hg
      rw [findV, hg]
      simp only []
      rw [if_neg (by omega), if_neg (by omega), if_neg (by omega), if_neg (by omega), if_neg (by omega)]
