/-! THE DESK, reference: thing, cleared, line, cell, desk -/
def newv (s : Int32) : Int64 := if s.toInt = 5 ∨ s.toInt = 6 then -1 else 0
/-- m zeros from a place on -/
def clr (cs : List Int32) (a : Nat) : Nat → List Int32
  | 0 => cs
  | m + 1 => clr (cs.set a 0) (a + 1) m
theorem clr_len : ∀ (m : Nat) (cs : List Int32) (a : Nat), (clr cs a m).length = cs.length
  | 0, _, _ => rfl
  | m + 1, cs, a => by rw [clr, clr_len m, List.length_set]
theorem clr_out : ∀ (m : Nat) (cs : List Int32) (a k : Nat), k < a ∨ a + m ≤ k → (clr cs a m)[k]? = cs[k]?
  | 0, _, _, _, _ => rfl
  | m + 1, cs, a, k, h => by rw [clr, clr_out m _ _ _ (by omega), List.getElem?_set_ne (by omega)]
theorem clr_in : ∀ (m : Nat) (cs : List Int32) (a k : Nat), a ≤ k → k < a + m → k < cs.length → (clr cs a m)[k]? = some 0
  | 0, _, _, _, _, _, _ => by omega
  | m + 1, cs, a, k, h1, h2, h3 => by
    rw [clr]
    by_cases h : k = a
    · subst h
      rw [clr_out m _ _ _ (by omega), List.getElem?_set_self h3]
    · exact clr_in m _ _ _ (by omega) (by omega) (by rw [List.length_set]; exact h3)
/-- rows as the reference keeps them: how long each is, six cells for each -/
def yRel (rows : List (Option (List Int32))) (rs cs : List Int32) : Prop := rs.length = 6 ∧ cs.length = 36 ∧ (∀ (i : Nat) r, rows[i]? = some r → rs[i]? = some (rsz r)) ∧ ∀ (i : Nat) l (j : Nat) x, rows[i]? = some (some l) → l[j]? = some x → cs[6 * i + j]? = some x
theorem mcl1 {X : List Int32} {D0 : List xE} {fr lo c s : Nat} {Q : Option Value → List xE → Prop} {b ia ra ca : Nat} {sv n : Int32} (k2 : ((b, .inl (13, 2, .ref ia)) : xE) ∈ D0) (k3 : ((b, .inl (13, 3, .ref ra)) : xE) ∈ D0) (k4 : ((b, .inl (13, 4, .ref ca)) : xE) ∈ D0) {rs cs : List Int32} (hk : yT X fr lo 260 26 [some (.ref b), some (.int sv), some (.int n), some (.int (Int32.ofNat 12))] [] ((b, .inl (13, 0, .int sv)) :: (b, .inl (13, 1, .int n)) :: (ia, .inr (1, (List.replicate 12 (newv sv)).map Value.long)) :: (ra, .inr (0, rs.map Value.int)) :: (ca, .inr (0, cs.map Value.int)) :: D0) c s Q) : ∀ (m i : Nat) (r : List Int64), i + m = 12 → r.length = m → yT X fr lo 260 8 [some (.ref b), some (.int sv), some (.int n), some (.int (Int32.ofNat i))] [] ((b, .inl (13, 0, .int sv)) :: (b, .inl (13, 1, .int n)) :: (ia, .inr (1, (List.replicate i (newv sv) ++ r).map Value.long)) :: (ra, .inr (0, rs.map Value.int)) :: (ca, .inr (0, cs.map Value.int)) :: D0) c s Q := by
  intro m
  induction m with
  | zero =>
    intro i r him hr
    obtain rfl : i = 12 := by omega
    obtain rfl : r = [] := List.length_eq_zero_iff.mp hr
    rw [List.append_nil]
    refine xt_pure rfl rfl rfl rfl ?_
    refine xt_pure rfl rfl rfl (st1 := .int 12 :: _) rfl ?_
    refine yt_ic rfl rfl ?_ ?_
    · intro (h7 : (12 : Int) ≤ Int32.toInt _)
      exact hk
    · intro (h7 : Int32.toInt _ < (12 : Int))
      exact absurd h7 (by decide)
  | succ m ih =>
    intro i r him hr
    cases r with
    | nil => simp at hr
    | cons x r =>
      have e1 := yi_nat (i := i) (by omega)
      refine xt_pure rfl rfl rfl rfl ?_
      refine xt_pure rfl rfl rfl (st1 := .int 12 :: _) rfl ?_
      refine yt_ic rfl rfl ?_ ?_
      · intro (h7 : (12 : Int) ≤ Int32.toInt _)
        exact absurd h7 (by omega)
      · intro (h7 : Int32.toInt _ < (12 : Int))
        refine xt_pure rfl rfl rfl rfl ?_
        refine xt_getf rfl rfl (xmS 5 rfl k2) ?_
        refine xt_pure rfl rfl rfl rfl ?_
        refine xt_pure rfl rfl rfl rfl ?_
        refine xt_pure rfl rfl rfl (st1 := .int 5 :: _) rfl ?_
        refine yt_ic rfl rfl ?_ ?_
        · intro (hb16_1 : (_ : Int32) = 5)
          have hb16_1z : Int32.toInt _ = (5 : Int) := congrArg Int32.toInt hb16_1
          refine xt_pure rfl rfl rfl (st1 := .long (-1) :: _) rfl ?_
          refine xt_pure rfl rfl rfl rfl ?_
          rw [← show newv sv = -1 from if_pos (by omega)]
          refine yt_lst rfl rfl 2 rfl ⟨by first | omega | (simp only [List.length_append, List.length_set, List.length_map, List.length_replicate, List.length_cons, List.length_nil, Int32.reduceToInt]; omega), by first | omega | (simp only [List.length_append, List.length_set, List.length_map, List.length_replicate, List.length_cons, List.length_nil, Int32.reduceToInt]; omega)⟩ (D1 := _ :: _ :: _ :: _ :: _ :: _) rfl ?_
          refine xt_pure rfl rfl rfl (L1 := [_, _, _, some (.int (_ + 1))]) rfl ?_
          refine xt_pure rfl rfl rfl rfl ?_
          rw [yi_add1, yi_toNat (by omega), yrep_set]
          exact ih (i + 1) r (by omega) (by simpa using hr)
        · intro (hb16_1 : (_ : Int32) ≠ 5)
          have hb16_1z : ¬ Int32.toInt _ = (5 : Int) := fun h => hb16_1 (Int32.toInt_inj.mp h)
          refine xt_pure rfl rfl rfl rfl ?_
          refine xt_pure rfl rfl rfl (st1 := .int 6 :: _) rfl ?_
          refine yt_ic rfl rfl ?_ ?_
          · intro (hb19_2 : (_ : Int32) ≠ 6)
            have hb19_2z : ¬ Int32.toInt _ = (6 : Int) := fun h => hb19_2 (Int32.toInt_inj.mp h)
            refine xt_pure rfl rfl rfl (st1 := .long 0 :: _) rfl ?_
            rw [← show newv sv = 0 from if_neg (by omega)]
            refine yt_lst rfl rfl 2 rfl ⟨by first | omega | (simp only [List.length_append, List.length_set, List.length_map, List.length_replicate, List.length_cons, List.length_nil, Int32.reduceToInt]; omega), by first | omega | (simp only [List.length_append, List.length_set, List.length_map, List.length_replicate, List.length_cons, List.length_nil, Int32.reduceToInt]; omega)⟩ (D1 := _ :: _ :: _ :: _ :: _ :: _) rfl ?_
            refine xt_pure rfl rfl rfl (L1 := [_, _, _, some (.int (_ + 1))]) rfl ?_
            refine xt_pure rfl rfl rfl rfl ?_
            rw [yi_add1, yi_toNat (by omega), yrep_set]
            exact ih (i + 1) r (by omega) (by simpa using hr)
          · intro (hb19_2 : (_ : Int32) = 6)
            have hb19_2z : Int32.toInt _ = (6 : Int) := congrArg Int32.toInt hb19_2
            refine xt_pure rfl rfl rfl (st1 := .long (-1) :: _) rfl ?_
            refine xt_pure rfl rfl rfl rfl ?_
            rw [← show newv sv = -1 from if_pos (by omega)]
            refine yt_lst rfl rfl 2 rfl ⟨by first | omega | (simp only [List.length_append, List.length_set, List.length_map, List.length_replicate, List.length_cons, List.length_nil, Int32.reduceToInt]; omega), by first | omega | (simp only [List.length_append, List.length_set, List.length_map, List.length_replicate, List.length_cons, List.length_nil, Int32.reduceToInt]; omega)⟩ (D1 := _ :: _ :: _ :: _ :: _ :: _) rfl ?_
            refine xt_pure rfl rfl rfl (L1 := [_, _, _, some (.int (_ + 1))]) rfl ?_
            refine xt_pure rfl rfl rfl rfl ?_
            rw [yi_add1, yi_toNat (by omega), yrep_set]
            exact ih (i + 1) r (by omega) (by simpa using hr)
theorem mcl2 {X : List Int32} {D0 : List xE} {fr lo c s : Nat} {Q : Option Value → List xE → Prop} {b ia ra ca : Nat} {sv n : Int32} (k2 : ((b, .inl (13, 2, .ref ia)) : xE) ∈ D0) (k3 : ((b, .inl (13, 3, .ref ra)) : xE) ∈ D0) (k4 : ((b, .inl (13, 4, .ref ca)) : xE) ∈ D0) {its : List Int64} {cs : List Int32} (hk : yT X fr lo 260 38 [some (.ref b), some (.int sv), some (.int n), some (.int (Int32.ofNat 6))] [] ((b, .inl (13, 0, .int sv)) :: (b, .inl (13, 1, .int n)) :: (ia, .inr (1, its.map Value.long)) :: (ra, .inr (0, (List.replicate 6 (-1 : Int32)).map Value.int)) :: (ca, .inr (0, cs.map Value.int)) :: D0) c s Q) : ∀ (m i : Nat) (r : List Int32), i + m = 6 → r.length = m → yT X fr lo 260 28 [some (.ref b), some (.int sv), some (.int n), some (.int (Int32.ofNat i))] [] ((b, .inl (13, 0, .int sv)) :: (b, .inl (13, 1, .int n)) :: (ia, .inr (1, its.map Value.long)) :: (ra, .inr (0, (List.replicate i (-1 : Int32) ++ r).map Value.int)) :: (ca, .inr (0, cs.map Value.int)) :: D0) c s Q := by
  intro m
  induction m with
  | zero =>
    intro i r him hr
    obtain rfl : i = 6 := by omega
    obtain rfl : r = [] := List.length_eq_zero_iff.mp hr
    rw [List.append_nil]
    refine xt_pure rfl rfl rfl rfl ?_
    refine xt_pure rfl rfl rfl (st1 := .int 6 :: _) rfl ?_
    refine yt_ic rfl rfl ?_ ?_
    · intro (h7 : (6 : Int) ≤ Int32.toInt _)
      exact hk
    · intro (h7 : Int32.toInt _ < (6 : Int))
      exact absurd h7 (by decide)
  | succ m ih =>
    intro i r him hr
    cases r with
    | nil => simp at hr
    | cons x r =>
      have e1 := yi_nat (i := i) (by omega)
      refine xt_pure rfl rfl rfl rfl ?_
      refine xt_pure rfl rfl rfl (st1 := .int 6 :: _) rfl ?_
      refine yt_ic rfl rfl ?_ ?_
      · intro (h7 : (6 : Int) ≤ Int32.toInt _)
        exact absurd h7 (by omega)
      · intro (h7 : Int32.toInt _ < (6 : Int))
        refine xt_pure rfl rfl rfl rfl ?_
        refine xt_getf rfl rfl (xmS 5 rfl k3) ?_
        refine xt_pure rfl rfl rfl rfl ?_
        refine xt_pure rfl rfl rfl (st1 := .int (-1) :: _) rfl ?_
        refine yt_ist rfl rfl 3 rfl ⟨by first | omega | (simp only [List.length_append, List.length_set, List.length_map, List.length_replicate, List.length_cons, List.length_nil, Int32.reduceToInt]; omega), by first | omega | (simp only [List.length_append, List.length_set, List.length_map, List.length_replicate, List.length_cons, List.length_nil, Int32.reduceToInt]; omega)⟩ (D1 := _ :: _ :: _ :: _ :: _ :: _) rfl ?_
        refine xt_pure rfl rfl rfl (L1 := [_, _, _, some (.int (_ + 1))]) rfl ?_
        refine xt_pure rfl rfl rfl rfl ?_
        rw [yi_add1, yi_toNat (by omega), yrep_set]
        exact ih (i + 1) r (by omega) (by simpa using hr)
theorem mcl3 {X : List Int32} {D0 : List xE} {fr lo c s : Nat} {Q : Option Value → List xE → Prop} {b ia ra ca : Nat} {sv n : Int32} (k2 : ((b, .inl (13, 2, .ref ia)) : xE) ∈ D0) (k3 : ((b, .inl (13, 3, .ref ra)) : xE) ∈ D0) (k4 : ((b, .inl (13, 4, .ref ca)) : xE) ∈ D0) {its : List Int64} {rs : List Int32} (hk : yT X fr lo 260 50 [some (.ref b), some (.int sv), some (.int n), some (.int (Int32.ofNat 36))] [] ((b, .inl (13, 0, .int sv)) :: (b, .inl (13, 1, .int n)) :: (ia, .inr (1, its.map Value.long)) :: (ra, .inr (0, rs.map Value.int)) :: (ca, .inr (0, (List.replicate 36 (0 : Int32)).map Value.int)) :: D0) c s Q) : ∀ (m i : Nat) (r : List Int32), i + m = 36 → r.length = m → yT X fr lo 260 40 [some (.ref b), some (.int sv), some (.int n), some (.int (Int32.ofNat i))] [] ((b, .inl (13, 0, .int sv)) :: (b, .inl (13, 1, .int n)) :: (ia, .inr (1, its.map Value.long)) :: (ra, .inr (0, rs.map Value.int)) :: (ca, .inr (0, (List.replicate i (0 : Int32) ++ r).map Value.int)) :: D0) c s Q := by
  intro m
  induction m with
  | zero =>
    intro i r him hr
    obtain rfl : i = 36 := by omega
    obtain rfl : r = [] := List.length_eq_zero_iff.mp hr
    rw [List.append_nil]
    refine xt_pure rfl rfl rfl rfl ?_
    refine xt_pure rfl rfl rfl (st1 := .int 36 :: _) rfl ?_
    refine yt_ic rfl rfl ?_ ?_
    · intro (h7 : (36 : Int) ≤ Int32.toInt _)
      exact hk
    · intro (h7 : Int32.toInt _ < (36 : Int))
      exact absurd h7 (by decide)
  | succ m ih =>
    intro i r him hr
    cases r with
    | nil => simp at hr
    | cons x r =>
      have e1 := yi_nat (i := i) (by omega)
      refine xt_pure rfl rfl rfl rfl ?_
      refine xt_pure rfl rfl rfl (st1 := .int 36 :: _) rfl ?_
      refine yt_ic rfl rfl ?_ ?_
      · intro (h7 : (36 : Int) ≤ Int32.toInt _)
        exact absurd h7 (by omega)
      · intro (h7 : Int32.toInt _ < (36 : Int))
        refine xt_pure rfl rfl rfl rfl ?_
        refine xt_getf rfl rfl (xmS 5 rfl k4) ?_
        refine xt_pure rfl rfl rfl rfl ?_
        refine xt_pure rfl rfl rfl (st1 := .int 0 :: _) rfl ?_
        refine yt_ist rfl rfl 4 rfl ⟨by first | omega | (simp only [List.length_append, List.length_set, List.length_map, List.length_replicate, List.length_cons, List.length_nil, Int32.reduceToInt]; omega), by first | omega | (simp only [List.length_append, List.length_set, List.length_map, List.length_replicate, List.length_cons, List.length_nil, Int32.reduceToInt]; omega)⟩ (D1 := _ :: _ :: _ :: _ :: _ :: _) rfl ?_
        refine xt_pure rfl rfl rfl (L1 := [_, _, _, some (.int (_ + 1))]) rfl ?_
        refine xt_pure rfl rfl rfl rfl ?_
        rw [yi_add1, yi_toNat (by omega), yrep_set]
        exact ih (i + 1) r (by omega) (by simpa using hr)
theorem mk_cleared {X : List Int32} {D0 : List xE} {b ia ra ca : Nat} {sv n : Int32} (k2 : ((b, .inl (13, 2, .ref ia)) : xE) ∈ D0) (k3 : ((b, .inl (13, 3, .ref ra)) : xE) ∈ D0) (k4 : ((b, .inl (13, 4, .ref ca)) : xE) ∈ D0) {its : List Int64} {rs cs : List Int32} {u0 u1 : Int32} (h1 : its.length = 12) (h2 : rs.length = 6) (h3 : cs.length = 36) : yK X 0 0 260 [.ref b, .int sv, .int n] ((b, .inl (13, 0, .int u0)) :: (b, .inl (13, 1, .int u1)) :: (ia, .inr (1, its.map Value.long)) :: (ra, .inr (0, rs.map Value.int)) :: (ca, .inr (0, cs.map Value.int)) :: D0) 0 0 (fun w D => w = some (.ref b) ∧ D = (b, .inl (13, 0, .int sv)) :: (b, .inl (13, 1, .int n)) :: (ia, .inr (1, (List.replicate 12 (newv sv)).map Value.long)) :: (ra, .inr (0, (List.replicate 6 (-1 : Int32)).map Value.int)) :: (ca, .inr (0, (List.replicate 36 (0 : Int32)).map Value.int)) :: D0) := by
  refine yK.of rfl (yle rfl) (L := [_, _, _, _]) rfl ?_
  refine xt_pure rfl rfl rfl rfl ?_
  refine xt_pure rfl rfl rfl rfl ?_
  refine xt_putf rfl rfl rfl rfl 0 rfl (D1 := _ :: _ :: _ :: _ :: _ :: _) rfl ?_
  refine xt_pure rfl rfl rfl rfl ?_
  refine xt_pure rfl rfl rfl rfl ?_
  refine xt_putf rfl rfl rfl rfl 1 rfl (D1 := _ :: _ :: _ :: _ :: _ :: _) rfl ?_
  refine xt_pure rfl rfl rfl (st1 := .int 0 :: _) rfl ?_
  refine xt_pure rfl rfl rfl (L1 := [_, _, _, _]) rfl ?_
  refine mcl1 k2 k3 k4 ?_ 12 0 its (by omega) h1
  refine xt_pure rfl rfl rfl (st1 := .int 0 :: _) rfl ?_
  refine xt_pure rfl rfl rfl (L1 := [_, _, _, _]) rfl ?_
  refine mcl2 k2 k3 k4 ?_ 6 0 rs (by omega) h2
  refine xt_pure rfl rfl rfl (st1 := .int 0 :: _) rfl ?_
  refine xt_pure rfl rfl rfl (L1 := [_, _, _, _]) rfl ?_
  refine mcl3 k2 k3 k4 ?_ 36 0 cs (by omega) h3
  refine xt_pure rfl rfl rfl rfl ?_
  refine xt_aret rfl rfl rfl rfl rfl ?_
  exact ⟨rfl, rfl⟩
theorem mk_thing {X : List Int32} {D0 : List xE} {sv n : Int32} : yK X 2 120 258 [.int sv, .int n] (D0) 4 59 (fun w D => ∃ b ia ra ca, w = some (.ref b) ∧ D = (b, .inl (13, 0, .int sv)) :: (b, .inl (13, 1, .int n)) :: (ia, .inr (1, (List.replicate 12 (newv sv)).map Value.long)) :: (ra, .inr (0, (List.replicate 6 (-1 : Int32)).map Value.int)) :: (ca, .inr (0, (List.replicate 36 (0 : Int32)).map Value.int)) :: (b, .inl (13, 2, .ref ia)) :: (b, .inl (13, 3, .ref ra)) :: (b, .inl (13, 4, .ref ca)) :: D0) := by
  refine yK.of rfl (yle rfl) (L := [_, _]) rfl ?_
  refine xt_new rfl rfl rfl (c1 := 3) (s1 := 54) (by decide) (by decide) ?_
  intro b
  show yT _ _ _ _ _ _ _ (_ :: _ :: _ :: _ :: _ :: _) _ _ _
  refine xt_pure rfl rfl rfl rfl ?_
  refine yt_inI (c1 := 3) (s1 := 54) (c2 := 0) (s2 := 0) (fr1 := 1) (lo1 := 100) rfl rfl (by decide) rfl rfl ⟨rfl, yle rfl, yle rfl, yle rfl, yle rfl⟩ (yle rfl) (L1 := [_]) rfl ⟨yle rfl, yle rfl⟩ ?_
  refine xt_pure rfl rfl rfl rfl ?_
  refine xt_obji rfl rfl rfl ⟨yle rfl, yle rfl, yle rfl⟩ ?_
  refine xt_pure rfl rfl rfl rfl ?_
  refine xt_pure rfl rfl rfl (st1 := .int 12 :: _) rfl ?_
  refine yt_newJ rfl rfl ⟨by decide, by decide⟩ (c1 := 2) (s1 := 42) (yle rfl) (yle rfl) ?_
  intro ia
  refine xt_putf rfl rfl rfl rfl 3 rfl (D1 := _ :: _ :: _ :: _ :: _ :: _ :: _) rfl ?_
  refine xt_pure rfl rfl rfl rfl ?_
  refine xt_pure rfl rfl rfl (st1 := .int 6 :: _) rfl ?_
  refine yt_newI rfl rfl ⟨by decide, by decide⟩ (c1 := 1) (s1 := 36) (yle rfl) (yle rfl) ?_
  intro ra
  refine xt_putf rfl rfl rfl rfl 5 rfl (D1 := _ :: _ :: _ :: _ :: _ :: _ :: _ :: _) rfl ?_
  refine xt_pure rfl rfl rfl rfl ?_
  refine xt_pure rfl rfl rfl (st1 := .int 36 :: _) rfl ?_
  refine yt_newI rfl rfl ⟨by decide, by decide⟩ (c1 := 0) (s1 := 0) (yle rfl) (yle rfl) ?_
  intro ca
  refine xt_putf rfl rfl rfl rfl 7 rfl (D1 := _ :: _ :: _ :: _ :: _ :: _ :: _ :: _ :: _) rfl ?_
  refine xt_vret rfl rfl rfl ?_
  show yT _ _ _ _ _ _ (_) _ _ _ _
  refine xt_pure rfl rfl rfl rfl ?_
  refine xt_pure rfl rfl rfl rfl ?_
  refine yT.mv 1 rfl (D1 := _ :: _ :: _ :: _ :: _ :: _ :: _ :: _) rfl ?_
  refine yT.mv 2 rfl (D1 := _ :: _ :: _ :: _ :: _ :: _ :: _ :: _) rfl ?_
  refine yT.mv 4 rfl (D1 := _ :: _ :: _ :: _ :: _ :: _ :: _ :: _) rfl ?_
  refine yT.mv 4 rfl (D1 := _ :: _ :: _ :: _ :: _ :: _ :: _ :: _) rfl ?_
  refine xt_callS rfl rfl (by decide) rfl ⟨rfl, yle rfl, yle rfl, yle rfl, yle rfl⟩ (mk_cleared (List.mem_of_getElem? (i := 0) rfl) (List.mem_of_getElem? (i := 1) rfl) (List.mem_of_getElem? (i := 2) rfl) (by simp) (by simp) (by simp)) (c2 := 0) (s2 := 0) ⟨yle rfl, yle rfl⟩ ?_
  rintro _ _ ⟨rfl, rfl⟩
  refine xt_aret rfl rfl rfl rfl rfl ?_
  exact ⟨b, ia, ra, ca, rfl, rfl⟩
