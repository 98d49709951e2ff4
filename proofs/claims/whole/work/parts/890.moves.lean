/-! CALLS OVER BLOCKS: move, alter, cut -/
section MOVB
variable {X : List Int32} {N B B2 B3 Rm : List xE} {Fs : List yF} {Mv : List yMv} {cm dk : List Int32} {x y p q : Int32}
theorem mvE_at : ∀ {L : List yMv} {i k : Nat} {m : yMv}, L[k]? = some m → (mvE i L)[k]? = some (127 + (i + k), .inr (0, ([m.1, m.2.1, m.2.2.1, m.2.2.2] : List Int32).map Value.int))
  | [], _, _, _, h => by cases h
  | a :: L, i, 0, m, h => by
    injection h with h
    subst h
    rfl
  | a :: L, i, k + 1, m, h => by
    have := mvE_at (L := L) (i := i + 1) (k := k) h
    rw [show i + 1 + k = i + (k + 1) by omega] at this
    exact this
theorem mvE_set : ∀ {L : List yMv} {i k : Nat} {m : yMv}, (mvE i L).set k (127 + (i + k), .inr (0, ([m.1, m.2.1, m.2.2.1, m.2.2.2] : List Int32).map Value.int)) = mvE i (L.set k m)
  | [], _, _, _ => rfl
  | a :: L, i, 0, m => rfl
  | a :: L, i, k + 1, m => by
    have := mvE_set (L := L) (i := i + 1) (k := k) (m := m)
    rw [show i + 1 + k = i + (k + 1) by omega] at this
    show _ :: _ = _ :: _
    rw [this]
def mvT (Fs : List yF) (Mv : List yMv) (x p y q : Int32) : List yMv := if mvGo Fs Mv.length x p y q then Mv ++ [(x, p, y, q)] else Mv
def cmT (Fs : List yF) (Mv : List yMv) (cm : List Int32) (x p y q : Int32) : List Int32 := if mvGo Fs Mv.length x p y q then cm ++ [-9] else cm
theorem mv_ok (h : mvOk Fs Mv) : mvOk Fs (mvT Fs Mv x p y q) := by
  rw [mvT]
  cases hg : mvGo Fs Mv.length x p y q with
  | false => exact h
  | true =>
    rw [mvGo] at hg
    simp only [Bool.and_eq_true, decide_eq_true_eq] at hg
    refine ⟨by rw [if_pos rfl, List.length_append, List.length_singleton]; omega, fun m hm => ?_⟩
    rw [if_pos rfl] at hm
    rcases List.mem_append.mp hm with hm | hm
    · exact h.2 m hm
    · obtain rfl := List.mem_singleton.mp hm
      exact hg.1
theorem oC_move (hF : pFs Fs) (h40 : Mv.length ≤ 40) (hf : cFs Fs N B2) (h : cMv Mv cm B) (s2 : B2 ⊆ Rm) (sN : N ⊆ Rm) : yK X 1 30 174 [.ref 78, .int x, .int p, .int y, .int q] (B ++ Rm) 0 0 (fun w D => w = some (.int (mvV Fs Mv.length x p y q)) ∧ ∃ B', D.Perm (B' ++ Rm) ∧ cMv (mvT Fs Mv x p y q) (cmT Fs Mv cm x p y q) B') := by
  have h0 := h
  obtain ⟨jk, h1, h2, rfl⟩ := h
  refine (cK_move (n := Mv.length) (j := 0) (k := 2 + Mv.length) hF.l20 (hf.use (fun e he => List.mem_append_right _ (s2 he)) (fun e he => List.mem_append_right _ (sN he))) h40 rfl (fun hn => ?_)).mono (Nat.le_refl _) (Nat.le_refl _) ?_
  · obtain ⟨m, hm⟩ : ∃ m, (Mv ++ jk)[Mv.length]? = some m := ⟨_, List.getElem?_eq_getElem (by rw [List.length_append]; omega)⟩
    have := mvE_at (i := 0) hm
    rw [Nat.zero_add] at this
    refine ⟨m.1, m.2.1, m.2.2.1, m.2.2.2, ?_⟩
    rw [List.getElem?_append_left (by have := (List.getElem?_eq_some_iff.mp this).1; simp only [List.length_cons]; omega), show 2 + Mv.length = Mv.length + 1 + 1 by omega]
    exact this
  · rintro w D ⟨rfl, ⟨hg, rfl⟩ | ⟨hg, rfl⟩⟩
    · rw [mvT, cmT, hg]
      exact ⟨rfl, _, .refl _, h0⟩
    · rw [mvT, cmT, hg]
      have hn : Mv.length < 40 := by
        rw [mvGo] at hg
        simp only [Bool.and_eq_true, decide_eq_true_eq] at hg
        exact hg.2
      obtain ⟨j0, jr, rfl⟩ : ∃ j0 jr, jk = j0 :: jr := by
        cases jk with
        | nil => exact absurd h1 (by simp; omega)
        | cons a r => exact ⟨a, r, rfl⟩
      refine ⟨rfl, (78, .inl (11, 16, .int (Int32.ofNat (Mv.length + 1)))) :: (167, .inr (0, (cm ++ List.replicate (40 - Mv.length) (-9)).map Value.int)) :: mvE 0 (Mv ++ (x, p, y, q) :: jr), ?_, jr, by rw [if_pos rfl, List.length_append]; simp at h1 ⊢; omega, by rw [if_pos rfl, if_pos rfl, List.length_append, List.length_append, h2]; rfl, ?_⟩
      · have e1 : (mvE 0 (Mv ++ j0 :: jr)).set Mv.length (127 + Mv.length, .inr (0, ([x, p, y, q] : List Int32).map Value.int)) = mvE 0 (Mv ++ (x, p, y, q) :: jr) := by
          have := mvE_set (L := Mv ++ j0 :: jr) (i := 0) (k := Mv.length) (m := (x, p, y, q))
          rw [Nat.zero_add, List.set_append_right _ _ (Nat.le_refl _), Nat.sub_self] at this
          exact this
        have hl : Mv.length < (mvE 0 (Mv ++ j0 :: jr)).length := by
          obtain ⟨m, hm⟩ : ∃ m, (Mv ++ j0 :: jr)[Mv.length]? = some m := ⟨_, List.getElem?_eq_getElem (by rw [List.length_append, List.length_cons]; omega)⟩
          exact (List.getElem?_eq_some_iff.mp (mvE_at (i := 0) hm)).1
        rw [← e1, show 2 + Mv.length = Mv.length + 1 + 1 by omega, List.set_append_left _ _ (by simp only [List.length_cons]; omega)]
        exact .refl _
      · have e : cm ++ List.replicate (40 - Mv.length) (-9) = cm ++ [-9] ++ List.replicate (40 - (Mv.length + 1)) (-9) := by
          rw [show 40 - Mv.length = 40 - (Mv.length + 1) + 1 by omega, List.replicate_succ, List.append_assoc]
          rfl
        rw [if_pos rfl, if_pos rfl, List.length_append, List.length_singleton, List.append_assoc Mv, e]
        rfl
theorem oM_move (hF : pFs Fs) (h40 : Mv.length ≤ 40) (hf : mFs Fs N B2) (h : mMv Mv cm B) (s2 : B2 ⊆ Rm) (sN : N ⊆ Rm) : yK X 4 100 330 [.ref 209, .int x, .int p, .int y, .int q] (B ++ Rm) 0 0 (fun w D => w = some (.int (mvV Fs Mv.length x p y q)) ∧ ∃ B', D.Perm (B' ++ Rm) ∧ mMv (mvT Fs Mv x p y q) (cmT Fs Mv cm x p y q) B') := by
  have h0 := h
  obtain ⟨m0, m1, m2, m3, jk, ⟨l0, l1, l2, l3⟩, h2, h3, h4, rfl⟩ := h
  refine (mK_move (n := Mv.length) (j := 0) (k0 := 1) (k1 := 2) (k2 := 3) (k3 := 4) (k4 := 5) hF.l20 (hf.use (fun e he => List.mem_append_right _ (s2 he)) (fun e he => List.mem_append_right _ (sN he))) h40 rfl rfl l0 rfl l1 rfl l2 rfl l3 rfl (by rw [List.length_append]; exact h3)).mono (Nat.le_refl _) (Nat.le_refl _) ?_
  rintro w D ⟨rfl, ⟨hg, rfl⟩ | ⟨hg, rfl⟩⟩
  · rw [mvT, cmT, hg]
    exact ⟨rfl, _, .refl _, h0⟩
  · rw [mvT, cmT, hg]
    have hn : Mv.length < 40 := by
      rw [mvGo] at hg
      simp only [Bool.and_eq_true, decide_eq_true_eq] at hg
      exact hg.2
    obtain ⟨j0, jr, rfl⟩ : ∃ j0 jr, jk = j0 :: jr := by
      cases jk with
      | nil => exact absurd h3 (by simp; omega)
      | cons a r => exact ⟨a, r, rfl⟩
    have ec : (cm ++ j0 :: jr).set Mv.length (-9) = cm ++ [-9] ++ jr := by
      rw [← h2, List.set_append_right _ _ (Nat.le_refl _), Nat.sub_self, List.append_assoc]
      rfl
    rw [ec]
    refine ⟨rfl, [(209, .inl (14, 66, .int (Int32.ofNat (Mv.length + 1)))), (256, .inr (0, (m0.set Mv.length x).map Value.int)), (257, .inr (0, (m1.set Mv.length p).map Value.int)), (258, .inr (0, (m2.set Mv.length y).map Value.int)), (259, .inr (0, (m3.set Mv.length q).map Value.int)), (260, .inr (0, (cm ++ [-9] ++ jr).map Value.int))], .refl _, m0.set Mv.length x, m1.set Mv.length p, m2.set Mv.length y, m3.set Mv.length q, jr, ⟨by rw [List.length_set]; exact l0, by rw [List.length_set]; exact l1, by rw [List.length_set]; exact l2, by rw [List.length_set]; exact l3⟩, by rw [if_pos rfl, if_pos rfl, List.length_append, List.length_append, h2]; rfl, by rw [if_pos rfl, List.length_append]; simp at h3 ⊢; omega, ?_, by rw [if_pos rfl, if_pos rfl, List.length_append]; rfl⟩
    intro i m hm
    rw [if_pos rfl] at hm
    by_cases ei : Mv.length = i
    · subst ei
      rw [List.getElem?_append_right (Nat.le_refl _), Nat.sub_self] at hm
      injection hm with hm
      subst hm
      exact ⟨List.getElem?_set_self (by omega), List.getElem?_set_self (by omega), List.getElem?_set_self (by omega), List.getElem?_set_self (by omega)⟩
    · have := (List.getElem?_eq_some_iff.mp hm).1
      rw [List.length_append, List.length_singleton] at this
      rw [List.getElem?_append_left (by omega)] at hm
      obtain ⟨q1, q2, q3, q4⟩ := h4 i m hm
      exact ⟨by rw [List.getElem?_set_ne ei]; exact q1, by rw [List.getElem?_set_ne ei]; exact q2, by rw [List.getElem?_set_ne ei]; exact q3, by rw [List.getElem?_set_ne ei]; exact q4⟩
theorem xor255 {a b : Int32} (ha : 0 ≤ a.toInt ∧ a.toInt ≤ 255) (hb : 0 ≤ b.toInt ∧ b.toInt ≤ 255) : 0 ≤ (a ^^^ b).toInt ∧ (a ^^^ b).toInt ≤ 255 := by
  have na : a.toBitVec.toNat < 256 := by
    have : a.toInt = a.toBitVec.toInt := rfl
    rw [this, BitVec.toInt_eq_toNat_cond] at ha
    have := a.toBitVec.isLt
    split at ha <;> omega
  have nb : b.toBitVec.toNat < 256 := by
    have : b.toInt = b.toBitVec.toInt := rfl
    rw [this, BitVec.toInt_eq_toNat_cond] at hb
    have := b.toBitVec.isLt
    split at hb <;> omega
  have e : (a ^^^ b).toInt = (a.toBitVec ^^^ b.toBitVec).toInt := rfl
  have hx : (a.toBitVec ^^^ b.toBitVec).toNat < 256 := by
    rw [BitVec.toNat_xor]
    exact Nat.xor_lt_two_pow (n := 8) na nb
  rw [e, BitVec.toInt_eq_toNat_of_lt (by omega)]
  omega
theorem alt_len : (altT dk x y).length = dk.length := by
  rw [altT]
  by_cases h : 0 ≤ y.toInt ∧ y.toInt ≤ 255 ∧ 0 ≤ x.toInt ∧ x.toInt < dk.length
  · rw [if_pos h, List.length_set]
  · rw [if_neg h]
theorem alt_by {jk : List Int32} (hb : byR (dk ++ jk)) : byR (altT dk x y ++ jk) := by
  rw [altT]
  by_cases h : 0 ≤ y.toInt ∧ y.toInt ≤ 255 ∧ 0 ≤ x.toInt ∧ x.toInt < dk.length
  · rw [if_pos h]
    intro b hm
    rcases List.mem_append.mp hm with hm | hm
    · rcases List.mem_or_eq_of_mem_set hm with hm | rfl
      · exact hb b (List.mem_append_left _ hm)
      · obtain ⟨a, ha⟩ := (gI_iff (l := dk) (x := x)).mpr ⟨h.2.2.1, h.2.2.2⟩
        rw [itV, ha]
        exact xor255 (hb a (List.mem_append_left _ (List.mem_of_getElem? (gI_some ha).2.2.1))) ⟨h.1, h.2.1⟩
    · exact hb b (List.mem_append_right _ hm)
  · rw [if_neg h]
    exact hb
theorem oC_alter (h : cKd dk B) : yK X 0 0 198 [.ref 78, .int x, .int y] (B ++ Rm) 0 0 (fun w D => w = some (.int (altV dk x y)) ∧ ∃ B', D.Perm (B' ++ Rm) ∧ cKd (altT dk x y) B') := by
  obtain ⟨S, jk, bs, rfl, h1, h2, h3, h4, k1, k2, k3, k4⟩ := h
  have eB : zE zaK S 0 zTK = [(206, .inl (0, 2, .int (Int32.ofNat dk.length))), (206, .inl (0, 4, .int (zI S 1))), (206, .inl (0, 5, .int (zI S 2))), (206, .inl (0, 6, .int (zI S 3))), (207, .inr (0, (dk ++ jk).map Value.int)), (208, .inr (0, (zA S 5).map Value.int))] := by
    rw [← h1, ← h2]
    rfl
  rw [eB]
  refine yK.perm (D2 := (207, .inr (0, (dk ++ jk).map Value.int)) :: (206, .inl (0, 2, .int (Int32.ofNat dk.length))) :: (206, .inl (0, 4, .int (zI S 1))) :: (206, .inl (0, 5, .int (zI S 2))) :: (206, .inl (0, 6, .int (zI S 3))) :: (208, .inr (0, (zA S 5).map Value.int)) :: Rm) (pq fun φ => by simp only [cn_c, cn_a, cn_n]; omega) ?_
  refine (cK_alter h3 (by simp)).mono (Nat.le_refl _) (Nat.le_refl _) ?_
  rintro w D ⟨rfl, rfl⟩
  refine ⟨rfl, zE zaK (zsA S 4 (altT dk x y ++ jk)) 0 zTK, ?_, zsA S 4 (altT dk x y ++ jk), jk, bs, rfl, by rw [alt_len]; exact h1, rfl, by rw [alt_len]; exact h3, alt_by h4, k1, k2, k3, rfl, rfl, rfl, rfl⟩
  have eB2 : zE zaK (zsA S 4 (altT dk x y ++ jk)) 0 zTK = [(206, .inl (0, 2, .int (Int32.ofNat dk.length))), (206, .inl (0, 4, .int (zI S 1))), (206, .inl (0, 5, .int (zI S 2))), (206, .inl (0, 6, .int (zI S 3))), (207, .inr (0, (altT dk x y ++ jk).map Value.int)), (208, .inr (0, (zA S 5).map Value.int))] := by
    rw [← h1]
    rfl
  rw [eB2]
  exact pq fun φ => by simp only [cn_c, cn_a, cn_n]; omega
theorem oM_alter (h : mKd dk B) : yK X 1 25 285 [.ref 209, .int x, .int y] (B ++ Rm) 0 0 (fun w D => w = some (.int (altV dk x y)) ∧ ∃ B', D.Perm (B' ++ Rm) ∧ mKd (altT dk x y) B') := by
  obtain ⟨S, jk, a, b, rfl, h1, h2, h3, h4, k1⟩ := h
  have eB : zE zaL S 0 zTL = [(209, .inl (14, 38, .int (Int32.ofNat dk.length))), (209, .inl (14, 40, .int (zI S 1))), (209, .inl (14, 41, .int (zI S 2))), (209, .inl (14, 42, .int (zI S 3))), (247, .inr (0, (dk ++ jk).map Value.int)), (248, .inr (0, (zA S 5).map Value.int))] := by
    rw [← h1, ← h2]
    rfl
  rw [eB]
  refine yK.perm (D2 := (247, .inr (0, (dk ++ jk).map Value.int)) :: (209, .inl (14, 43, .int a)) :: (209, .inl (14, 44, .int b)) :: (209, .inl (14, 38, .int (Int32.ofNat dk.length))) :: (209, .inl (14, 40, .int (zI S 1))) :: (209, .inl (14, 41, .int (zI S 2))) :: (209, .inl (14, 42, .int (zI S 3))) :: (248, .inr (0, (zA S 5).map Value.int)) :: Rm) (pq fun φ => by simp only [cn_c, cn_a, cn_n]; omega) ?_
  refine (mK_alter h3 (by simp)).mono (Nat.le_refl _) (Nat.le_refl _) ?_
  rintro w D ⟨rfl, rfl⟩
  refine ⟨rfl, (209, .inl (14, 43, .int a)) :: (209, .inl (14, 44, .int b)) :: zE zaL (zsA S 4 (altT dk x y ++ jk)) 0 zTL, ?_, zsA S 4 (altT dk x y ++ jk), jk, a, b, rfl, by rw [alt_len]; exact h1, rfl, by rw [alt_len]; exact h3, alt_by h4, k1⟩
  have eB2 : zE zaL (zsA S 4 (altT dk x y ++ jk)) 0 zTL = [(209, .inl (14, 38, .int (Int32.ofNat dk.length))), (209, .inl (14, 40, .int (zI S 1))), (209, .inl (14, 41, .int (zI S 2))), (209, .inl (14, 42, .int (zI S 3))), (247, .inr (0, (altT dk x y ++ jk).map Value.int)), (248, .inr (0, (zA S 5).map Value.int))] := by
    rw [← h1]
    rfl
  rw [eB2]
  exact pq fun φ => by simp only [cn_c, cn_a, cn_n]; omega
theorem cut_app {jk : List Int32} : ∃ j2, dk ++ jk = cutT dk x ++ j2 ∧ dk.length + jk.length = (cutT dk x).length + j2.length := by
  rw [cutT]
  by_cases h : 0 ≤ x.toInt ∧ x.toInt ≤ dk.length
  · rw [if_pos h]
    refine ⟨dk.drop x.toInt.toNat ++ jk, by rw [← List.append_assoc, List.take_append_drop], ?_⟩
    rw [List.length_append, List.length_take, List.length_drop]
    omega
  · rw [if_neg h]
    exact ⟨jk, rfl, rfl⟩
theorem oC_cut (h : cKd dk B) : yK X 0 0 199 [.ref 78, .int x] (B ++ Rm) 0 0 (fun w D => w = some (.int (cutV dk x)) ∧ ∃ B', D.Perm (B' ++ Rm) ∧ cKd (cutT dk x) B') := by
  obtain ⟨S, jk, bs, rfl, h1, h2, h3, h4, k1, k2, k3, k4⟩ := h
  obtain ⟨j2, e1, e2⟩ := cut_app (dk := dk) (jk := jk) (x := x)
  have eB : zE zaK S 0 zTK = (206, .inl (0, 2, .int (Int32.ofNat dk.length))) :: zE zaK S 1 (zTK.drop 1) := by
    rw [← h1]
    rfl
  rw [eB]
  refine (cK_cut (by omega)).mono (Nat.le_refl _) (Nat.le_refl _) ?_
  rintro w D ⟨rfl, rfl⟩
  refine ⟨rfl, zE zaK (zsI S 0 (Int32.ofNat (cutT dk x).length)) 0 zTK, ?_, zsI S 0 (Int32.ofNat (cutT dk x).length), j2, bs, rfl, rfl, by rw [← e1]; exact h2, by omega, by rw [← e1]; exact h4, k1, k2, k3, rfl, rfl, rfl, rfl⟩
  have e3 : zE zaK (zsI S 0 (Int32.ofNat (cutT dk x).length)) 1 (zTK.drop 1) = zE zaK S 1 (zTK.drop 1) := zE_same fun j t hj => by rw [zo_I j t (by omega)]
  rw [← e3]
  exact .refl _
theorem oM_cut (h : mKd dk B) : yK X 1 25 286 [.ref 209, .int x] (B ++ Rm) 0 0 (fun w D => w = some (.int (cutV dk x)) ∧ ∃ B', D.Perm (B' ++ Rm) ∧ mKd (cutT dk x) B') := by
  obtain ⟨S, jk, a, b, rfl, h1, h2, h3, h4, k1⟩ := h
  obtain ⟨j2, e1, e2⟩ := cut_app (dk := dk) (jk := jk) (x := x)
  have eB : zE zaL S 0 zTL = (209, .inl (14, 38, .int (Int32.ofNat dk.length))) :: zE zaL S 1 (zTL.drop 1) := by
    rw [← h1]
    rfl
  rw [eB]
  refine yK.perm (D2 := (209, .inl (14, 38, .int (Int32.ofNat dk.length))) :: (209, .inl (14, 43, .int a)) :: (209, .inl (14, 44, .int b)) :: (zE zaL S 1 (zTL.drop 1) ++ Rm)) (pq fun φ => by simp only [cn_c, cn_a, cn_n]; omega) ?_
  refine (mK_cut (by omega)).mono (Nat.le_refl _) (Nat.le_refl _) ?_
  rintro w D ⟨rfl, rfl⟩
  refine ⟨rfl, (209, .inl (14, 43, .int a)) :: (209, .inl (14, 44, .int b)) :: zE zaL (zsI S 0 (Int32.ofNat (cutT dk x).length)) 0 zTL, ?_, zsI S 0 (Int32.ofNat (cutT dk x).length), j2, a, b, rfl, rfl, by rw [← e1]; exact h2, by omega, by rw [← e1]; exact h4, k1⟩
  have e3 : zE zaL (zsI S 0 (Int32.ofNat (cutT dk x).length)) 1 (zTL.drop 1) = zE zaL S 1 (zTL.drop 1) := zE_same fun j t hj => by rw [zo_I j t (by omega)]
  have e4 : zE zaL (zsI S 0 (Int32.ofNat (cutT dk x).length)) 0 zTL = (209, .inl (14, 38, .int (Int32.ofNat (cutT dk x).length))) :: zE zaL S 1 (zTL.drop 1) := by
    rw [← e3]
    rfl
  rw [e4]
  exact pq fun φ => by simp only [cn_c, cn_a, cn_n]; omega
end MOVB
