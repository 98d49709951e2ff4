/-! SMALL QUESTIONS: in, isForm, isDraft, formAt, isFull, isSpent .. -/
/-- the item at an int -/
def gI {α : Type} (l : List α) (x : Int32) : Option α := if 0 ≤ x.toInt then l[x.toInt.toNat]? else none
theorem gI_none {α : Type} {l : List α} {x : Int32} (h : gI l x = none) : x.toInt < 0 ∨ (l.length : Int) ≤ x.toInt := by
  unfold gI at h
  split at h
  · have := List.getElem?_eq_none_iff.mp h
    omega
  · omega
theorem gI_some {α : Type} {l : List α} {x : Int32} {a : α} (h : gI l x = some a) : 0 ≤ x.toInt ∧ x.toInt < l.length ∧ l[x.toInt.toNat]? = some a ∧ x.toNatClampNeg = x.toInt.toNat ∧ ¬ x < 0 := by
  unfold gI at h
  split at h
  · have h2 := (List.getElem?_eq_some_iff.mp h).1
    refine ⟨by omega, by omega, h, rfl, ?_⟩
    rw [Int32.lt_iff_toInt_lt]
    have : (0 : Int32).toInt = 0 := by decide
    omega
  · cases h
theorem gI_iff {α : Type} {l : List α} {x : Int32} : (∃ a, gI l x = some a) ↔ 0 ≤ x.toInt ∧ x.toInt < l.length := by
  constructor
  · rintro ⟨a, h⟩
    have := gI_some h
    omega
  · intro h
    cases hg : gI l x with
    | none => have := gI_none hg; omega
    | some a => exact ⟨a, rfl⟩
theorem gI_map {α β : Type} {l : List α} {x : Int32} {f : α → β} : gI (l.map f) x = (gI l x).map f := by
  unfold gI
  split
  · rw [List.getElem?_map]
  · rfl
theorem gI_int {l : List Int32} {x : Int32} {y : Int32} (h : gI l x = some y) : (l.map Value.int)[x.toNatClampNeg]? = some (.int y) := by
  have := gI_some h
  rw [this.2.2.2.1, List.getElem?_map, this.2.2.1]
  rfl
theorem gI_long {l : List Int64} {x : Int32} {y : Int64} (h : gI l x = some y) : (l.map Value.long)[x.toNatClampNeg]? = some (.long y) := by
  have := gI_some h
  rw [this.2.2.2.1, List.getElem?_map, this.2.2.1]
  rfl
theorem mk_in {X : List Int32} {D0 : List xE} {v a b : Int64} : yK X 0 0 251 [.long v, .long a, .long b] (D0) 0 0 (fun w D => (D0 = D ∧ (a.toInt ≤ v.toInt ∧ v.toInt ≤ b.toInt) ∧ w = some (.int 1)) ∨ (D0 = D ∧ ¬ (a.toInt ≤ v.toInt ∧ v.toInt ≤ b.toInt) ∧ w = some (.int 0))) := by
  refine yK.of rfl (yle rfl) (L := [_, _, _, _, _, _]) rfl ?_
  refine xt_pure rfl rfl rfl rfl ?_
  refine xt_pure rfl rfl rfl rfl ?_
  refine yt_lc rfl rfl rfl ?_ ?_
  · intro (h1 : Int64.toInt _ < Int64.toInt _)
    refine xt_pure rfl rfl rfl (st1 := .int 0 :: _) rfl ?_
    refine xt_iret rfl rfl rfl rfl ?_
    exact Or.inr ⟨rfl, by omega, rfl⟩
  · intro (h1 : Int64.toInt _ ≤ Int64.toInt _)
    refine xt_pure rfl rfl rfl rfl ?_
    refine xt_pure rfl rfl rfl rfl ?_
    refine yt_lc rfl rfl rfl ?_ ?_
    · intro (h2 : Int64.toInt _ < Int64.toInt _)
      refine xt_pure rfl rfl rfl (st1 := .int 0 :: _) rfl ?_
      refine xt_iret rfl rfl rfl rfl ?_
      exact Or.inr ⟨rfl, by omega, rfl⟩
    · intro (h2 : Int64.toInt _ ≤ Int64.toInt _)
      refine xt_pure rfl rfl rfl (st1 := .int 1 :: _) rfl ?_
      refine xt_pure rfl rfl rfl rfl ?_
      refine xt_iret rfl rfl rfl rfl ?_
      exact Or.inl ⟨rfl, ⟨h1, h2⟩, rfl⟩
theorem y6432 (x : Int32) : x.toInt64.toInt = x.toInt := Int32.toInt_toInt64 x
theorem y_n1 {n : Nat} (h : n < 2147483648) : (Int32.ofNat n - 1).toInt = (n : Int) - 1 := by
  have e2 : (1 : Int32).toInt = 1 := by decide
  have e1 := yi_nat h
  rw [yi_sub (by omega) (by omega), e1, e2]
theorem y64_0 : (0 : Int64).toInt = 0 := by decide
theorem y_m9 : (-9 : Int32).toInt = -9 := by decide
theorem y_m1 : (-1 : Int32).toInt = -1 := by decide
theorem y_m100 : (-100 : Int32).toInt = -100 := by decide
theorem y64_m9 : (-9 : Int64).toInt = -9 := by decide
theorem y64_m1 : (-1 : Int64).toInt = -1 := by decide
theorem y_n1x {n : Nat} (h : n ≤ 2147483647) : (Int32.ofNat n - 1).toInt = (n : Int) - 1 := y_n1 (by omega)
theorem mk_isForm {X : List Int32} {D0 : List xE} {n : Nat} {x : Int32} (hn : n < 2147483648) (he : ((209, .inl (14, 7, .int (Int32.ofNat n))) : xE) ∈ D0) : yK X 1 25 250 [.ref 209, .int x] (D0) 0 0 (fun w D => (D0 = D ∧ (0 ≤ x.toInt ∧ x.toInt < n) ∧ w = some (.int 1)) ∨ (D0 = D ∧ ¬ (0 ≤ x.toInt ∧ x.toInt < n) ∧ w = some (.int 0))) := by
  refine yK.of rfl (yle rfl) (L := [_, _]) rfl ?_
  refine xt_pure rfl rfl rfl rfl ?_
  refine xt_pure rfl rfl rfl rfl ?_
  refine xt_pure rfl rfl rfl (st1 := .long 0 :: _) rfl ?_
  refine xt_pure rfl rfl rfl rfl ?_
  refine xt_getf rfl rfl (xmS 0 rfl he) ?_
  refine xt_pure rfl rfl rfl (st1 := .int 1 :: _) rfl ?_
  refine xt_pure rfl rfl rfl rfl ?_
  refine xt_pure rfl rfl rfl rfl ?_
  refine xt_callS rfl rfl (by decide) rfl ⟨rfl, yle rfl, yle rfl, yle rfl, yle rfl⟩ mk_in (c2 := 0) (s2 := 0) ⟨yle rfl, yle rfl⟩ ?_
  rintro _ _ (⟨rfl, hp0, rfl⟩ | ⟨rfl, hp0, rfl⟩)
  · skip
    show yT _ _ _ _ _ _ (_ :: _) _ _ _ _
    refine xt_iret rfl rfl rfl rfl ?_
    rw [y6432, y6432, y_n1 hn, y64_0] at hp0
    exact Or.inl ⟨rfl, by omega, rfl⟩
  · skip
    show yT _ _ _ _ _ _ (_ :: _) _ _ _ _
    refine xt_iret rfl rfl rfl rfl ?_
    rw [y6432, y6432, y_n1 hn, y64_0] at hp0
    exact Or.inr ⟨rfl, by omega, rfl⟩
theorem mk_isDraft {X : List Int32} {D0 : List xE} {n : Nat} {x : Int32} (hn : n < 2147483648) (he : ((209, .inl (14, 26, .int (Int32.ofNat n))) : xE) ∈ D0) : yK X 1 25 271 [.ref 209, .int x] (D0) 0 0 (fun w D => (D0 = D ∧ (0 ≤ x.toInt ∧ x.toInt < n) ∧ w = some (.int 1)) ∨ (D0 = D ∧ ¬ (0 ≤ x.toInt ∧ x.toInt < n) ∧ w = some (.int 0))) := by
  refine yK.of rfl (yle rfl) (L := [_, _]) rfl ?_
  refine xt_pure rfl rfl rfl rfl ?_
  refine xt_pure rfl rfl rfl rfl ?_
  refine xt_pure rfl rfl rfl (st1 := .long 0 :: _) rfl ?_
  refine xt_pure rfl rfl rfl rfl ?_
  refine xt_getf rfl rfl (xmS 0 rfl he) ?_
  refine xt_pure rfl rfl rfl (st1 := .int 1 :: _) rfl ?_
  refine xt_pure rfl rfl rfl rfl ?_
  refine xt_pure rfl rfl rfl rfl ?_
  refine xt_callS rfl rfl (by decide) rfl ⟨rfl, yle rfl, yle rfl, yle rfl, yle rfl⟩ mk_in (c2 := 0) (s2 := 0) ⟨yle rfl, yle rfl⟩ ?_
  rintro _ _ (⟨rfl, hp0, rfl⟩ | ⟨rfl, hp0, rfl⟩)
  · skip
    show yT _ _ _ _ _ _ (_ :: _) _ _ _ _
    refine xt_iret rfl rfl rfl rfl ?_
    rw [y6432, y6432, y_n1 hn, y64_0] at hp0
    exact Or.inl ⟨rfl, by omega, rfl⟩
  · skip
    show yT _ _ _ _ _ _ (_ :: _) _ _ _ _
    refine xt_iret rfl rfl rfl rfl ?_
    rw [y6432, y6432, y_n1 hn, y64_0] at hp0
    exact Or.inr ⟨rfl, by omega, rfl⟩
theorem ck_formAt {X : List Int32} {D0 : List xE} {Fs : List yF} {x : Int32} (hF : yFsC Fs D0) : yK X 0 0 87 [.ref 78, .int x] (D0) 0 0 (fun w D => (D0 = D ∧ gI Fs x = none ∧ w = some .null) ∨ (D0 = D ∧ ∃ F a, gI Fs x = some F ∧ yFC D0 a F ∧ w = some (.ref a))) := by
  obtain ⟨fa, h1, h2, h3, h4, h5⟩ := hF
  refine yK.of rfl (yle rfl) (L := [_, _]) rfl ?_
  refine xt_pure rfl rfl rfl rfl ?_
  refine yt_if rfl rfl ?_ ?_
  · intro (h6 : Int32.toInt _ < (0 : Int))
    refine xt_pure rfl rfl rfl rfl ?_
    refine xt_pure rfl rfl rfl rfl ?_
    refine xt_aret rfl rfl rfl rfl rfl ?_
    exact Or.inl ⟨rfl, by cases hg : gI Fs x with | none => rfl | some F => have := gI_some hg; omega, rfl⟩
  · intro (h6 : (0 : Int) ≤ Int32.toInt _)
    refine xt_pure rfl rfl rfl rfl ?_
    refine xt_pure rfl rfl rfl rfl ?_
    refine xt_getf rfl rfl (xmS 0 rfl h3) ?_
    refine yt_ic rfl rfl ?_ ?_
    · intro (h7 : Int32.toInt _ < Int32.toInt _)
      rw [yi_nat (by omega)] at h7
      obtain ⟨F, hF⟩ := gI_iff.mpr (show 0 ≤ x.toInt ∧ x.toInt < Fs.length by omega)
      obtain ⟨g1, g2, g3, g4, g5⟩ := gI_some hF
      obtain ⟨a, ha⟩ : ∃ a, fa[x.toInt.toNat]? = some a := ⟨_, List.getElem?_eq_getElem (by omega)⟩
      refine xt_pure rfl rfl rfl rfl ?_
      refine xt_getf rfl rfl (xmC 117 rfl) ?_
      refine xt_pure rfl rfl rfl rfl ?_
      refine xt_aald rfl rfl ⟨by decide, rfl⟩ (xmS 0 rfl h4) g5 (v := .ref a) (by rw [g4, List.getElem?_append_left (by simp; omega), List.getElem?_map, ha]; rfl) ?_
      refine xt_aret rfl rfl rfl rfl rfl ?_
      exact Or.inr ⟨rfl, F, a, hF, h5 _ F a g3 ha, rfl⟩
    · intro (h7 : Int32.toInt _ ≤ Int32.toInt _)
      rw [yi_nat (by omega)] at h7
      refine xt_pure rfl rfl rfl rfl ?_
      refine xt_pure rfl rfl rfl rfl ?_
      refine xt_aret rfl rfl rfl rfl rfl ?_
      exact Or.inl ⟨rfl, by cases hg : gI Fs x with | none => rfl | some F => have := gI_some hg; omega, rfl⟩
