/-! CALLS OVER BLOCKS: the class's drafts -/
def updD (Dr : List yD) (x : Int32) (f : yD → yD) : List yD := match gI Dr x with
  | none => Dr
  | some d => Dr.set x.toInt.toNat (f d)
def nwD (x : Int32) : yD := (x.toInt.toNat, List.replicate 20 none, [], -9, 0)
def drfV (Fs : List yF) (Dr : List yD) (x : Int32) : Int32 := match gI Fs x with
  | none => -1
  | some _ => if Dr.length < 30 then Int32.ofNat Dr.length else -3
def drfT (Fs : List yF) (Dr : List yD) (x : Int32) : List yD := match gI Fs x with
  | none => Dr
  | some _ => if Dr.length < 30 then Dr ++ [nwD x] else Dr
def gvV (Fs : List yF) (Dr : List yD) (gv : Nat) (x y : Int32) : Int32 := match ansP Fs Dr x y with
  | none => -1
  | some (d, _, _) => if d.2.2.2.1 ≠ -9 then -2 else if gv < 400 then Int32.ofNat d.2.2.1.length + 1 else -3
def gvG (Fs : List yF) (Dr : List yD) (gv : Nat) (x y : Int32) : Bool := match ansP Fs Dr x y with
  | none => false
  | some (d, _, _) => d.2.2.2.1 == -9 && decide (gv < 400)
def gvD (y : Int32) (z : Option yO) (d : yD) : yD := (d.1, d.2.1.set y.toInt.toNat z, (y.toInt.toNat, (d.2.1[y.toInt.toNat]?).getD none) :: d.2.2.1, d.2.2.2.1, d.2.2.2.2)
def bkV (Dr : List yD) (x : Int32) : Int32 := match gI Dr x with
  | none => -1
  | some d => if d.2.2.2.1 ≠ -9 then -2 else match d.2.2.1 with
    | [] => -2
    | (p, _) :: _ => Int32.ofNat p
def bkD (d : yD) : yD := if d.2.2.2.1 ≠ -9 then d else match d.2.2.1 with
  | [] => d
  | (p, z) :: r => (d.1, d.2.1.set p z, r, d.2.2.2.1, d.2.2.2.2)
def sgT (Fs : List yF) (Dr : List yD) (x y : Int32) : List yD := match sgR Fs Dr x y with
  | none => Dr
  | some (d, _) => if d.2.2.2.1 ≠ -9 ∧ y = d.2.2.2.2 then Dr.set x.toInt.toNat (d.1, d.2.1, d.2.2.1, d.2.2.2.1, y + 1) else Dr
section DRC
variable {X : List Int32} {N B B2 B3 Rm : List xE} {Fs : List yF} {Dr : List yD} {En : List (Int64 × Int32)} {R : List yDR} {x y : Int32} {z : Option yO} {gv : Nat}
theorem fm_set {φ : xE → Nat} {r r2 : yDR} : ∀ {R : List yDR} {i : Nat}, R[i]? = some r → cn φ ((R.set i r2).flatMap dfR) + cn φ (dfR r) = cn φ (R.flatMap dfR) + cn φ (dfR r2)
  | [], _, h => by cases h
  | a :: R, 0, h => by
    injection h with h
    subst h
    rw [List.set_cons_zero, List.flatMap_cons, List.flatMap_cons, cn_a, cn_a]
    omega
  | a :: R, i + 1, h => by
    have := fm_set (φ := φ) (r2 := r2) (R := R) (i := i) h
    rw [List.set_cons_succ, List.flatMap_cons, List.flatMap_cons, cn_a, cn_a]
    omega
theorem map_set1 {α β : Type} {f : α → β} {l : List α} {i : Nat} {a a2 : α} (h : l[i]? = some a) (e : f a2 = f a) : (l.set i a2).map f = l.map f := by
  rw [List.map_set, e]
  refine List.ext_getElem? fun m => ?_
  by_cases em : i = m
  · subst em
    rw [List.getElem?_set_self (by rw [List.length_map]; exact (List.getElem?_eq_some_iff.mp h).1), List.getElem?_map, h]
    rfl
  · rw [List.getElem?_set_ne em]
theorem cRE_set {φ : xE → Nat} {r r2 : yDR} {i : Nat} (h : R[i]? = some r) (e : r2.1 = r.1) : cn φ (cRE (R.set i r2)) + cn φ (dfR r) = cn φ (cRE R) + cn φ (dfR r2) := by
  have := fm_set (φ := φ) (r2 := r2) h
  rw [cRE, cRE, cn_c, cn_c, cn_c, cn_c, List.length_set, map_set1 (f := fun r : yDR => Value.ref r.1) h (by rw [e])]
  omega
theorem cRs.set {r2 : yDR} {i : Nat} (h : cRs Fs R N) (h2 : (∃ F, Fs[r2.2.2.2.2.2.1]? = some F ∧ yFC N r2.2.2.1 F) ∧ yAnB N r2.2.2.2.1 r2.2.2.2.2.2.2.1 ∧ yCB N r2.2.2.2.2.1 r2.2.2.2.2.2.2.2.1) : cRs Fs (R.set i r2) N := by
  intro r hr
  rcases List.mem_or_eq_of_mem_set hr with hr | rfl
  · exact h r hr
  · exact h2
theorem cRs.mono {N2 : List xE} (s : N ⊆ N2) (h : cRs Fs R N) : cRs Fs R N2 := fun r hr => by
  obtain ⟨⟨F, q1, q2⟩, q3, q4⟩ := h r hr
  exact ⟨⟨F, q1, q2.mono s⟩, q3.mono s, q4.mono s⟩
theorem gI_ix {α β : Type} {l : List α} {f : α → β} {x : Int32} {a : α} (h : gI l x = some a) : gI (l.map f) x = some (f a) := by rw [gI_map, h]; rfl
theorem oC_draft (h30 : Dr.length ≤ 30) (hF : cFs Fs N B2) (h : cDr Fs Dr N B) (s2 : B2 ⊆ Rm) (sN : N ⊆ Rm) : yK X 3 150 107 [.ref 78, .int x] (B ++ Rm) 2 27 (fun w D => w = some (.int (drfV Fs Dr x)) ∧ ∃ B', D.Perm (B' ++ Rm) ∧ cDr Fs (drfT Fs Dr x) N B') := by
  obtain ⟨R, rfl, rfl, h3⟩ := h.R
  rw [List.length_map] at h30
  have u : Rm ⊆ cRE R ++ Rm := List.subset_append_right _ _
  refine yK.nd fun nd => ?_
  refine (cK_draft (n := R.length) (k := 1) (j := 0) (D0 := cRE R ++ Rm) (hF.use (fun e he => u (s2 he)) (fun e he => u (sN he))) h30 rfl (by rw [List.length_append, List.length_map, List.length_replicate]; omega) rfl).mono (Nat.le_refl _) (Nat.le_refl _) ?_
  rintro w D (⟨g1, rfl, rfl⟩ | ⟨F, g1, g2, rfl, rfl⟩ | ⟨F, fa, da, aa, g1, g2, ⟨g3, -⟩, rfl, rfl⟩)
  · rw [drfV, drfT, g1]
    exact ⟨rfl, _, .refl _, R, rfl, rfl, h3⟩
  · rw [drfV, drfT, g1]
    show _ = some (Value.int (if (R.map _).length < 30 then _ else _)) ∧ ∃ B', _ ∧ cDr Fs (if (R.map _).length < 30 then _ else _) N B'
    rw [List.length_map, if_neg (by omega), if_neg (by omega)]
    exact ⟨rfl, _, .refl _, R, rfl, rfl, h3⟩
  · rw [drfV, drfT, g1]
    show _ = some (Value.int (if (R.map _).length < 30 then _ else _)) ∧ ∃ B', _ ∧ cDr Fs (if (R.map _).length < 30 then _ else _) N B'
    rw [List.length_map, if_pos g2, if_pos g2]
    obtain ⟨x0, -, x2, -, -⟩ := gI_some g1
    refine ⟨rfl, cRE (R ++ [(da, aa, fa, List.replicate 20 Value.null, Value.null, nwD x)]), pq fun φ => ?_, R ++ [(da, aa, fa, List.replicate 20 Value.null, Value.null, nwD x)], by rw [List.map_append]; rfl, rfl, fun r hr => ?_⟩
    · have e9 : (R.map (fun r => Value.ref r.1) ++ List.replicate (30 - R.length) Value.null).set R.length (.ref da) = (R ++ [(da, aa, fa, List.replicate 20 Value.null, Value.null, nwD x)]).map (fun r => Value.ref r.1) ++ List.replicate (30 - (R ++ [(da, aa, fa, List.replicate 20 Value.null, Value.null, nwD x)]).length) Value.null := by
        rw [List.set_append_right _ _ (by rw [List.length_map]; omega), List.length_map, Nat.sub_self, List.map_append, List.length_append, List.length_singleton, show 30 - R.length = (30 - (R.length + 1)) + 1 by omega, List.replicate_succ, List.append_assoc]
        rfl
      have eD : ((cRE R ++ Rm).set 1 (109, .inr (6, (R.map (fun r => Value.ref r.1) ++ List.replicate (30 - R.length) Value.null).set R.length (.ref da)))).set 0 (78, .inl (11, 8, .int (Int32.ofNat (R.length + 1)))) = (78, .inl (11, 8, .int (Int32.ofNat (R.length + 1)))) :: (109, .inr (6, (R.map (fun r => Value.ref r.1) ++ List.replicate (30 - R.length) Value.null).set R.length (.ref da))) :: (R.flatMap dfR ++ Rm) := rfl
      rw [eD, e9, cRE, List.flatMap_append, List.length_append, List.length_singleton]
      have ex : Int32.ofNat x.toInt.toNat = x := yi_id x0
      have en : cn φ (List.flatMap dfR [(da, aa, fa, List.replicate 20 Value.null, Value.null, nwD x)]) = φ (da, .inl (1, 0, .int x)) + (φ (da, .inl (1, 1, .ref fa)) + (φ (da, .inl (1, 2, .ref aa)) + (φ (da, .inl (1, 3, .null)) + (φ (da, .inl (1, 4, .int 0)) + (φ (da, .inl (1, 5, .int (-9))) + (φ (da, .inl (1, 6, .int 0)) + (φ (aa, .inr (7, List.replicate 20 Value.null))))))))) := by
        show φ (da, .inl (1, 0, .int (Int32.ofNat x.toInt.toNat))) + _ = _
        rw [ex]
        rfl
      simp only [cn_c, cn_a, cn_n, en]
      omega
    · rcases List.mem_append.mp hr with hr | hr
      · exact h3 r hr
      · obtain rfl := List.mem_singleton.mp hr
        refine ⟨⟨F, x2, hF.fa (fun e he => u (s2 he)) nd g1 g3⟩, ⟨by simp, by simp [nwD], fun p v z hv hz => ?_⟩, rfl⟩
        rw [List.getElem?_replicate] at hv
        have hz2 : (List.replicate 20 (none : Option yO))[p]? = some z := hz
        rw [List.getElem?_replicate] at hz2
        by_cases hp : p < 20
        · rw [if_pos hp] at hv hz2
          injection hv with hv
          injection hz2 with hz2
          subst hv
          subst hz2
          exact rfl
        · rw [if_neg hp] at hv
          cases hv
end DRC
