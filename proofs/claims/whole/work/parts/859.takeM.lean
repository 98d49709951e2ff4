/-! TAKE: the rows; the reference -/
theorem mk_gotB {X : List Int32} {D0 : List xE} {S : zS} {l : List Int32} (hR : RD 2 0 3 S l) (hb : byR l) : ∃ w S' l', yK X 0 0 288 [.ref 209] (zD zTN zaN S D0) 0 0 (zQi zTN zaN D0 w S') ∧ frN S S' ∧ RD 2 0 3 S' l' ∧ byR l' ∧ (0 ≤ w.toInt ∧ w.toInt ≤ 255) ∧ ((l = [] ∧ zI S' 1 = 0) ∨ (l = w :: l' ∧ zI S' 1 = zI S 1)) := by
  obtain ⟨w, S', h1, h2, h3⟩ := mk_got (X := X) (D0 := D0) hR
  cases l with
  | nil =>
    obtain ⟨rfl, h4, h5⟩ := h3
    exact ⟨0, S', [], h1, h2, h4, (fun b h => by cases h), by decide, Or.inl ⟨rfl, h5⟩⟩
  | cons b l' =>
    obtain ⟨rfl, h4, h5⟩ := h3
    exact ⟨w, S', l', h1, h2, h4, fun b h => hb b (List.mem_cons_of_mem _ h), hb w List.mem_cons_self, Or.inr ⟨rfl, h5⟩⟩
abbrev TK (ev : Int32) (S : zS) (sp : List (Option yTg)) (mr : List Value) (dn : Int32) (D2 : List xE) : List xE := (209, .inl (14, 24, .int ev)) :: zD zTN zaN S ((237, .inr (10, svl sp)) :: (239, .inr (10, mr)) :: (209, .inl (14, 26, .int dn)) :: (sD sp ++ D2))
/-- spare things and the table of answers, the draft's row not known -/
def tkG (n : Nat) (mr0 : List Value) (sp : List (Option yTg)) (mr : List Value) : Prop := sp.length = 20 ∧ (∀ x, some x ∈ sp → tgL x) ∧ mr.length = 620 ∧ (∀ q, q < 20 * n ∨ 20 * n + 20 ≤ q → mr[q]? = mr0[q]?) ∧ ∀ (p : Nat) v, p < 20 → mr[20 * n + p]? = some v → v = .null ∨ ∃ (j : Nat) (x : yTg), sp[j]? = some (some x) ∧ v = .ref x.1
/-- the draft's row: the answers read so far -/
def tkA (n : Nat) (sp : List (Option yTg)) (mr : List Value) (A : List (Option yO)) (row : Nat) : Prop := A.length = 20 ∧ ∀ (p : Nat) v z, p < 20 → mr[20 * n + p]? = some v → A[p]? = some z → (z = none ∧ v = .null) ∨ ∃ (j : Nat) (x : yTg) (y : yO), j < row ∧ sp[j]? = some (some x) ∧ yOM (tgE x) x.1 y ∧ z = some y ∧ v = .ref x.1
theorem tkG.put {n r p : Nat} {mr0 mr : List Value} {sp : List (Option yTg)} {x : yTg} {A : List (Option yO)} (h : tkG n mr0 sp mr) (hA : tkA n sp mr A r) (hn : n < 30) (hr : r < 20) (hp : p < 20) (hx : tgL x) : tkG n mr0 (sp.set r (some x)) (mr.set (20 * n + p) (.ref x.1)) := by
  obtain ⟨h1, h2, h3, h4, h5⟩ := h
  refine ⟨by rw [List.length_set]; exact h1, fun y hy => ?_, by rw [List.length_set]; exact h3, fun q hq => ?_, fun q v hq hv => ?_⟩
  · rcases List.mem_or_eq_of_mem_set hy with h | h
    · exact h2 y h
    · injection h with h
      rw [h]; exact hx
  · rw [List.getElem?_set_ne (by omega)]
    exact h4 q hq
  · by_cases e : p = q
    · subst e
      rw [List.getElem?_set_self (by omega)] at hv
      injection hv with hv
      exact Or.inr ⟨r, x, List.getElem?_set_self (by omega), hv.symm⟩
    · rw [List.getElem?_set_ne (by omega)] at hv
      obtain ⟨z, hz⟩ : ∃ z, A[q]? = some z := ⟨_, List.getElem?_eq_getElem (by rw [hA.1]; exact hq)⟩
      rcases hA.2 q v z hq hv hz with ⟨_, h⟩ | ⟨j, y, _, hj, a, _, _, b⟩
      · exact Or.inl h
      · exact Or.inr ⟨j, y, by rw [List.getElem?_set_ne (by omega)]; exact a, b⟩
theorem tkA.put {n r p : Nat} {mr : List Value} {sp : List (Option yTg)} {x : yTg} {A : List (Option yO)} {y : yO} (hA : tkA n sp mr A r) (h1 : sp.length = 20) (h3 : mr.length = 620) (hn : n < 30) (hr : r < 20) (hp : p < 20) (hy : yOM (tgE x) x.1 y) : tkA n (sp.set r (some x)) (mr.set (20 * n + p) (.ref x.1)) (A.set p (some y)) (r + 1) := by
  refine ⟨by rw [List.length_set]; exact hA.1, fun q v z hq hv hz => ?_⟩
  by_cases e : p = q
  · subst e
    rw [List.getElem?_set_self (by omega)] at hv
    rw [List.getElem?_set_self (by rw [hA.1]; exact hp)] at hz
    injection hv with hv
    injection hz with hz
    exact Or.inr ⟨r, x, y, by omega, List.getElem?_set_self (by omega), hy, hz.symm, hv.symm⟩
  · rw [List.getElem?_set_ne (by omega)] at hv
    rw [List.getElem?_set_ne e] at hz
    rcases hA.2 q v z hq hv hz with h | ⟨j, w, u, hj, a, b, c, d⟩
    · exact Or.inl h
    · exact Or.inr ⟨j, w, u, by omega, by rw [List.getElem?_set_ne (by omega)]; exact a, b, c, d⟩
theorem svl_same {sp : List (Option yTg)} {r : Nat} {x y : yTg} (h : x.1 = y.1) : svl (sp.set r (some x)) = svl (sp.set r (some y)) := by
  rw [← svl_set, ← svl_set]
  congr 1
  show Value.ref x.1 = Value.ref y.1
  rw [h]
theorem tk_perm1 {ev : Int32} {S : zS} {L : List xE} : ((209, .inl (14, 24, .int ev)) :: zD zTN zaN S L).Perm (zD zTN zaN S ((209, .inl (14, 24, .int ev)) :: L)) := (List.perm_middle (l₁ := zE zaN S 0 zTN)).symm
theorem tk_perm2 {e a b c : xE} {S : zS} {P D2 : List xE} : (e :: zD zTN zaN S (a :: b :: c :: (P ++ D2))).Perm (a :: (P ++ (e :: zD zTN zaN S (b :: c :: D2)))) := by
  have h1 : (e :: zD zTN zaN S (a :: b :: c :: (P ++ D2))).Perm (a :: (e :: zD zTN zaN S (b :: c :: (P ++ D2)))) := List.perm_middle (a := a) (l₁ := e :: zE zaN S 0 zTN)
  refine h1.trans (List.Perm.cons _ ?_)
  have h2 := pq2 (A := e :: (zE zaN S 0 zTN ++ [b, c])) (B := P) (C := D2)
  have e1 : (e :: (zE zaN S 0 zTN ++ [b, c])) ++ (P ++ D2) = e :: zD zTN zaN S (b :: c :: (P ++ D2)) := by
    show e :: ((zE zaN S 0 zTN ++ [b, c]) ++ (P ++ D2)) = _
    rw [List.append_assoc]; rfl
  have e2 : (e :: (zE zaN S 0 zTN ++ [b, c])) ++ D2 = e :: zD zTN zaN S (b :: c :: D2) := by
    show e :: ((zE zaN S 0 zTN ++ [b, c]) ++ D2) = _
    rw [List.append_assoc]; rfl
  rw [e1, e2] at h2
  exact h2
/-- the thing comes to the front -/
theorem tk_perm3 {e a b c : xE} {S : zS} {T P D2 : List xE} : (a :: (T ++ (P ++ (e :: zD zTN zaN S (b :: c :: D2))))).Perm (e :: (T ++ zD zTN zaN S (a :: b :: c :: (P ++ D2)))) := by
  have h1 := (tk_perm2 (e := e) (a := a) (b := b) (c := c) (S := S) (P := P) (D2 := D2)).symm
  have h2 : (a :: (T ++ (P ++ (e :: zD zTN zaN S (b :: c :: D2))))).Perm (T ++ (a :: (P ++ (e :: zD zTN zaN S (b :: c :: D2))))) := (List.perm_middle (l₁ := T)).symm
  refine h2.trans ((List.Perm.append_left T h1).trans ?_)
  exact List.perm_middle
/-- the thing goes back -/
theorem tk_perm4 {e a b c : xE} {S : zS} {T P R D2 : List xE} (h : R.Perm (T ++ P)) : (e :: (T ++ zD zTN zaN S (a :: b :: c :: (P ++ D2)))).Perm (e :: zD zTN zaN S (a :: b :: c :: (R ++ D2))) := by
  refine List.Perm.cons _ ?_
  have h2 := pq2 (A := T) (B := zE zaN S 0 zTN ++ [a, b, c]) (C := P ++ D2)
  have e1 : (zE zaN S 0 zTN ++ [a, b, c]) ++ (P ++ D2) = zD zTN zaN S (a :: b :: c :: (P ++ D2)) := by
    rw [List.append_assoc]; rfl
  rw [e1] at h2
  refine h2.trans ?_
  rw [List.append_assoc]
  refine List.Perm.append_left _ ?_
  refine List.Perm.append_left [a, b, c] ?_
  rw [← List.append_assoc]
  exact List.Perm.append_right _ h.symm
