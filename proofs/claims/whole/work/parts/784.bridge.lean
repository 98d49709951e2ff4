/-! FROM ENTRIES TO HANDLES -/
theorem ychoose {α : Type} {P : Nat → α → Prop} : ∀ (n : Nat), (∀ i, i < n → ∃ x, P i x) → ∃ l : List α, l.length = n ∧ ∀ i x, l[i]? = some x → P i x
  | 0, _ => ⟨[], rfl, fun i x h => by simp at h⟩
  | n + 1, h => by
    obtain ⟨l, h1, h2⟩ := ychoose n (fun i hi => h i (by omega))
    obtain ⟨x, hx⟩ := h n (by omega)
    refine ⟨l ++ [x], by rw [List.length_append, h1]; rfl, ?_⟩
    intro i y hy
    by_cases hi : i < n
    · rw [List.getElem?_append_left (by omega)] at hy
      exact h2 i y hy
    · have hil := (List.getElem?_eq_some_iff.mp hy).1
      rw [List.length_append, List.length_singleton] at hil
      obtain rfl : i = n := by omega
      rw [List.getElem?_append_right (by omega), h1, Nat.sub_self] at hy
      cases hy
      exact hx
/-- the class's object at an address, its items bounded -/
def yOB (D : List xE) (a : Nat) (o : yO) : Prop := ∃ (ia ra : Nat) (jk : List Int64) (rr : List Value), ((a, .inl (6, 0, .int (Int32.ofNat o.1))) : xE) ∈ D ∧ ((a, .inl (6, 1, .int (Int32.ofNat (osz o)))) : xE) ∈ D ∧ ((a, .inl (6, 2, .ref ia)) : xE) ∈ D ∧ ((a, .inl (6, 3, .ref ra)) : xE) ∈ D ∧ ((ia, .inr (1, (cit o ++ jk).map Value.long)) : xE) ∈ D ∧ ((ra, .inr (4, rr)) : xE) ∈ D ∧ (o.1 = 4 → rr.length = o.2.2.length) ∧ (∀ (i : Nat) v r, rr[i]? = some v → o.2.2[i]? = some r → yRw D v r) ∧ (cit o ++ jk).length ≤ 1000
theorem yOB.mono {D D2 : List xE} (h : D ⊆ D2) {a : Nat} {o : yO} (q : yOB D a o) : yOB D2 a o := by
  obtain ⟨ia, ra, jk, rr, h1, h2, h3, h4, h5, h6, h7, h8, h9⟩ := q
  exact ⟨ia, ra, jk, rr, h h1, h h2, h h3, h h4, h h5, h h6, h7, fun i v r q1 q2 => (h8 i v r q1 q2).mono h, h9⟩
theorem yOB.oc {D : List xE} {a : Nat} {o : yO} (q : yOB D a o) : yOC D a o := by
  obtain ⟨ia, ra, jk, rr, h1, h2, h3, h4, h5, h6, h7, h8, h9⟩ := q
  exact ⟨ia, ra, jk, rr, h1, h2, h3, h4, h5, h6, h7, h8⟩
theorem yOB.han {D : List xE} {a : Nat} {o : yO} (q : yOB D a o) : ∃ z, zOC D a z ∧ hC z o := by
  obtain ⟨ia, ra, jk, rr, h1, h2, h3, h4, h5, h6, h7, h8, h9⟩ := q
  refine ⟨(Int32.ofNat o.1, Int32.ofNat (osz o), cit o ++ jk, if o.1 = 4 then o.2.2 else []), ⟨ia, ra, rr, h1, h2, h3, h4, h5, h6, ?_⟩, rfl, rfl, ⟨jk, rfl, h9⟩, fun h => if_pos h⟩
  intro j r hj
  have hj : gI (if o.1 = 4 then o.2.2 else []) j = some r := hj
  by_cases ho : o.1 = 4
  · rw [if_pos ho] at hj
    obtain ⟨g1, g2, g3, g4, g5⟩ := gI_some hj
    obtain ⟨v, hv⟩ : ∃ v, rr[j.toInt.toNat]? = some v := ⟨_, List.getElem?_eq_getElem (by have := h7 ho; omega)⟩
    exact ⟨v, gI_in g1 hv, h8 _ v r hv g3⟩
  · rw [if_neg ho] at hj
    obtain ⟨g1, g2, _⟩ := gI_some hj
    have g2 : j.toInt < 0 := g2
    omega
def yVB (D : List xE) (v : Value) (z : Option yO) : Prop := match z with
  | none => v = .null
  | some o => ∃ a, v = .ref a ∧ yOB D a o
theorem yVB.mono {D D2 : List xE} (h : D ⊆ D2) {v : Value} {z : Option yO} (q : yVB D v z) : yVB D2 v z := by
  cases z with
  | none => exact q
  | some o =>
    obtain ⟨a, h1, h2⟩ := q
    exact ⟨a, h1, h2.mono h⟩
theorem yVB.oc {D : List xE} {v : Value} {z : Option yO} (q : yVB D v z) : yVC D v z := by
  cases z with
  | none => exact q
  | some o =>
    obtain ⟨a, h1, h2⟩ := q
    exact ⟨a, h1, h2.oc⟩
/-- the answers of a draft -/
def yAnB (D : List xE) (refs : List Value) (an : List (Option yO)) : Prop := refs.length = 20 ∧ an.length = 20 ∧ ∀ (p : Nat) v z, refs[p]? = some v → an[p]? = some z → yVB D v z
theorem yAnB.mono {D D2 : List xE} (h : D ⊆ D2) {refs : List Value} {an : List (Option yO)} (q : yAnB D refs an) : yAnB D2 refs an := ⟨q.1, q.2.1, fun p v z h1 h2 => (q.2.2 p v z h1 h2).mono h⟩
theorem yAnB.oc {D : List xE} {refs : List Value} {an : List (Option yO)} (q : yAnB D refs an) : yAns D refs an := ⟨q.1, q.2.1, fun p v z h1 h2 => (q.2.2 p v z h1 h2).oc⟩
theorem yAnB.han {D : List xE} {refs : List Value} {an : List (Option yO)} {En : List (Int64 × Int32)} {F : yF} (q : yAnB D refs an) (hl : F.1.length ≤ 20) (hk : ∀ (p : Nat) y, an[p]? = some (some y) → yOk En y) : ∃ As : List (Option zO), (∀ {j : Int32} {z : Option zO}, gI As j = some z → ∃ v, gI refs j = some v ∧ zVC D v z) ∧ aA En F an As := by
  obtain ⟨q1, q2, q3⟩ := q
  obtain ⟨As, l1, l2⟩ := ychoose (α := Option zO) (P := fun i z => (∃ v, refs[i]? = some v ∧ zVC D v z) ∧ aC En z (an[i]?.getD none)) 20 (by
    intro i hi
    obtain ⟨v, hv⟩ : ∃ v, refs[i]? = some v := ⟨_, List.getElem?_eq_getElem (by omega)⟩
    obtain ⟨z, hz⟩ : ∃ z, an[i]? = some z := ⟨_, List.getElem?_eq_getElem (by omega)⟩
    have h3 := q3 i v z hv hz
    rw [hv, hz]
    cases z with
    | none => exact ⟨none, ⟨v, rfl, h3⟩, trivial⟩
    | some y =>
      obtain ⟨a, e, b⟩ := h3
      obtain ⟨o, b1, b2⟩ := b.han
      exact ⟨some o, ⟨v, rfl, a, e, b1⟩, b2, hk i y hz⟩)
  refine ⟨As, ?_, ?_⟩
  · intro j z hj
    obtain ⟨g1, g2, g3, _⟩ := gI_some hj
    obtain ⟨⟨v, h1, h2⟩, _⟩ := l2 _ z g3
    exact ⟨v, gI_in g1 h1, h2⟩
  · intro p P hP
    have hp := (List.getElem?_eq_some_iff.mp hP).1
    obtain ⟨z, hz⟩ : ∃ z, As[p]? = some z := ⟨_, List.getElem?_eq_getElem (by omega)⟩
    refine ⟨z, by rw [gI_nat (by omega)]; exact hz, ?_⟩
    have : anR an (Int32.ofNat p) = an[p]?.getD none := by unfold anR; rw [gI_nat (by omega)]
    rw [this]
    exact (l2 p z hz).2
/-- the class's form -/
theorem yFC.han {D : List xE} {fa : Nat} {F : yF} (h : yFC D fa F) (hok : yFok F) : ∃ p gi ga, (∀ e ∈ zgE fa p gi ga, e ∈ D) ∧ fC2 F gi ga ∧ gi 8 = Int32.ofNat F.2.1.length := by
  obtain ⟨p, q, h1, h2, h3, h4, h5, h6⟩ := h
  obtain ⟨_, h560, _⟩ := hok
  refine ⟨p, fun i => if i = 0 then Int32.ofNat F.1.length else if i = 8 then Int32.ofNat F.2.1.length else if i = 10 then Int32.ofNat F.2.2.1.length else if i = 13 then F.2.2.2.1.1 else if i = 14 then F.2.2.2.1.2.1 else if i = 15 then F.2.2.2.1.2.2 else Int32.ofNat F.2.2.2.2.2.length, q, h1, ⟨⟨⟨rfl, h560⟩, h6, fun i P hP => (h3 i P hP).1, h4⟩, ⟨rfl, rfl⟩, fun i P hP => (h3 i P hP).2, h5⟩, rfl⟩
/-- the reference's form -/
theorem yFM.han {D : List xE} {fa : Nat} {F : yF} (h : yFM D fa F) : ∃ p gi ga vl, (∀ e ∈ zgF fa p gi ga vl, e ∈ D) ∧ fMr2 F gi ga vl ∧ gi 9 = Int32.ofNat F.2.1.length := by
  obtain ⟨p, q, nm, fn, vl, h1, ⟨_, _, _, _, l5, l6, l7, _⟩, h3, h4, h5, h6⟩ := h
  refine ⟨p, fun i => if i = 0 then Int32.ofNat F.1.length else if i = 9 then Int32.ofNat F.2.1.length else if i = 12 then Int32.ofNat F.2.2.1.length else if i = 15 then F.2.2.2.1.2.1 else if i = 16 then F.2.2.2.1.2.2 else if i = 17 then F.2.2.2.1.1 else Int32.ofNat F.2.2.2.2.1.length, q, vl, ?_, ⟨⟨fun i P hP => (h3 i P hP).1, h4, h6⟩, ⟨rfl, rfl⟩, ⟨l5, l6, l7⟩, fun i P hP => (h3 i P hP).2, h5⟩, rfl⟩
  intro e he
  apply h1
  have hsub : ∀ e ∈ zgF fa p (fun i => if i = 0 then Int32.ofNat F.1.length else if i = 9 then Int32.ofNat F.2.1.length else if i = 12 then Int32.ofNat F.2.2.1.length else if i = 15 then F.2.2.2.1.2.1 else if i = 16 then F.2.2.2.1.2.2 else if i = 17 then F.2.2.2.1.1 else Int32.ofNat F.2.2.2.2.1.length) q vl, e ∈ fmE fa p q nm fn vl F := by
    intro e he
    have hs : (zgF fa p (fun i => if i = 0 then Int32.ofNat F.1.length else if i = 9 then Int32.ofNat F.2.1.length else if i = 12 then Int32.ofNat F.2.2.1.length else if i = 15 then F.2.2.2.1.2.1 else if i = 16 then F.2.2.2.1.2.2 else if i = 17 then F.2.2.2.1.1 else Int32.ofNat F.2.2.2.2.1.length) q vl) = ((fmE fa p q nm fn vl F).eraseIdx 23).eraseIdx 30 := rfl
    rw [hs] at he
    exact List.mem_of_mem_eraseIdx (List.mem_of_mem_eraseIdx he)
  exact hsub e he
theorem zOC.mono {D D2 : List xE} (h : D ⊆ D2) {a : Nat} {o : zO} (q : zOC D a o) : zOC D2 a o := by
  obtain ⟨ia, ra, rr, h1, h2, h3, h4, h5, h6, h7⟩ := q
  refine ⟨ia, ra, rr, h h1, h h2, h h3, h h4, h h5, h h6, ?_⟩
  intro j r hj
  obtain ⟨v, k1, k2⟩ := h7 hj
  exact ⟨v, k1, k2.mono h⟩
theorem zVC_mono {D D2 : List xE} (h : D ⊆ D2) {v : Value} {z : Option zO} (q : zVC D v z) : zVC D2 v z := by
  cases z with
  | none => exact q
  | some o =>
    obtain ⟨a, h1, h2⟩ := q
    exact ⟨a, h1, h2.mono h⟩
theorem zOM.mono {D D2 : List xE} (h : D ⊆ D2) {a : Nat} {o : zH} (q : zOM D a o) : zOM D2 a o := by
  obtain ⟨ia, ra, ca, h1, h2, h3, h4, h5, h6, h7, h8⟩ := q
  exact ⟨ia, ra, ca, h h1, h h2, h h3, h h4, h h5, h h6, h h7, h h8⟩
theorem zVM_mono {D D2 : List xE} (h : D ⊆ D2) {v : Value} {z : Option zH} (q : zVM D v z) : zVM D2 v z := by
  cases z with
  | none => exact q
  | some o =>
    obtain ⟨a, h1, h2⟩ := q
    exact ⟨a, h1, h2.mono h⟩
theorem yOM.han {D : List xE} {a : Nat} {o : yO} (q : yOM D a o) : ∃ z, zOM D a z ∧ hM z o := by
  obtain ⟨ia, ra, ca, jk, rs, cs, h1, h2, h3, h4, h5, h6, h7, h8, h9, h10, h11, h12, h13⟩ := q
  exact ⟨(Int32.ofNat o.1, Int32.ofNat (osz o), o.2.1 ++ jk, rs, cs), ⟨ia, ra, ca, h1, h2, h3, h4, h5, h6, h8, h10⟩, rfl, rfl, ⟨jk, rfl⟩, h12, h13⟩
/-- the answers of all drafts of the reference -/
theorem anM_han {D : List xE} {mr : List Value} {As : List (List (Option yO))} {En : List (Int64 × Int32)} (h31 : As.length ≤ 31) (h20 : ∀ (i : Nat) A, As[i]? = some A → A.length = 20) (hv : ∀ (i : Nat) A, As[i]? = some A → ∀ (p : Nat) z, A[p]? = some z → ∃ v, mr[20 * i + p]? = some v ∧ yVM D v z) (hk : ∀ (i : Nat) A, As[i]? = some A → ∀ (p : Nat) y, A[p]? = some (some y) → yOk En y) : ∃ Bs : List (Option zH), (∀ {j : Int32} {z : Option zH}, gI Bs j = some z → ∃ v, gI mr j = some v ∧ zVM D v z) ∧ ∀ (F : yF) (i : Nat) A, F.1.length ≤ 20 → As[i]? = some A → aB En F A Bs (Int32.ofNat i) := by
  obtain ⟨Bs, l1, l2⟩ := ychoose (α := Option zH) (P := fun k z => (∃ v, mr[k]? = some v ∧ zVM D v z) ∧ ∃ A, As[k / 20]? = some A ∧ aM En z (A[k % 20]?.getD none)) (20 * As.length) (by
    intro k hk'
    obtain ⟨A, hA⟩ : ∃ A, As[k / 20]? = some A := ⟨_, List.getElem?_eq_getElem (by omega)⟩
    have hl := h20 _ A hA
    obtain ⟨z, hz⟩ : ∃ z, A[k % 20]? = some z := ⟨_, List.getElem?_eq_getElem (by omega)⟩
    obtain ⟨v, v1, v2⟩ := hv _ A hA _ z hz
    rw [show 20 * (k / 20) + k % 20 = k by omega] at v1
    cases z with
    | none => exact ⟨none, ⟨v, v1, v2⟩, A, hA, by rw [hz]; trivial⟩
    | some y =>
      obtain ⟨a, e, b⟩ := v2
      obtain ⟨o, b1, b2⟩ := b.han
      exact ⟨some o, ⟨v, v1, a, e, b1⟩, A, hA, by rw [hz]; exact ⟨b2, hk _ A hA _ y hz⟩⟩)
  refine ⟨Bs, ?_, ?_⟩
  · intro j z hj
    obtain ⟨g1, g2, g3, _⟩ := gI_some hj
    obtain ⟨⟨v, h1, h2⟩, _⟩ := l2 _ z g3
    exact ⟨v, gI_in g1 h1, h2⟩
  · intro F i A hF hA p P hP
    have hp := (List.getElem?_eq_some_iff.mp hP).1
    have hi := (List.getElem?_eq_some_iff.mp hA).1
    have e : (20 : Int32) * Int32.ofNat i + Int32.ofNat p = Int32.ofNat (20 * i + p) := by
      rw [Int32.ofNat_add, Int32.ofNat_mul]; rfl
    obtain ⟨z, hz⟩ : ∃ z, Bs[20 * i + p]? = some z := ⟨_, List.getElem?_eq_getElem (by omega)⟩
    refine ⟨z, by rw [e, gI_nat (by omega)]; exact hz, ?_⟩
    obtain ⟨_, A', hA', h2⟩ := l2 _ z hz
    rw [show (20 * i + p) / 20 = i by omega, hA] at hA'
    cases hA'
    rw [show (20 * i + p) % 20 = p by omega] at h2
    have : anR A (Int32.ofNat p) = A[p]?.getD none := by unfold anR; rw [gI_nat (by omega)]
    rw [this]
    exact h2
