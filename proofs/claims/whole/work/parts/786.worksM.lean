/-! WORKING, AS CONTRACTS: the reference -/
/-- what the reference's working of draft d reads -/
def HM (D1 : List xE) (fa d : Nat) (F : yF) (As : List (List (Option yO))) (A : List (Option yO)) (En : List (Int64 × Int32)) : Prop := (∃ (oF : List Int32) (x : Int32) (al : List Value), ((238, .inr (0, oF.map Value.int)) : xE) ∈ D1 ∧ gI oF (Int32.ofNat d) = some x ∧ ((211, .inr (8, al)) : xE) ∈ D1 ∧ gI al x = some (.ref fa)) ∧ yFM D1 fa F ∧ yFok F ∧ En.length ≤ 100 ∧ (∃ ja : List Int64, ((235, .inr (1, (En.map Prod.fst ++ ja).map Value.long)) : xE) ∈ D1) ∧ (∃ mr : List Value, ((239, .inr (10, mr)) : xE) ∈ D1 ∧ As.length ≤ 31 ∧ (∀ (i : Nat) A, As[i]? = some A → A.length = 20) ∧ ∀ (i : Nat) A, As[i]? = some A → ∀ (p : Nat) z, A[p]? = some z → ∃ v, mr[20 * i + p]? = some v ∧ yVM D1 v z) ∧ (∀ (i : Nat) A, As[i]? = some A → ∀ (p : Nat) y, A[p]? = some (some y) → yOk En y) ∧ As[d]? = some A
theorem HM.mono {D D2 : List xE} (h : D ⊆ D2) {fa d : Nat} {F : yF} {As : List (List (Option yO))} {A : List (Option yO)} {En : List (Int64 × Int32)} (q : HM D fa d F As A En) : HM D2 fa d F As A En := by
  obtain ⟨⟨oF, x, al, q1, q2, q3, q4⟩, q5, hok, q7, ⟨ja, q8⟩, ⟨mr, q9, q10, q11, q12⟩, q13, q14⟩ := q
  refine ⟨⟨oF, x, al, h q1, q2, h q3, q4⟩, q5.mono h, hok, q7, ⟨ja, h q8⟩, ⟨mr, h q9, q10, q11, ?_⟩, q13, q14⟩
  intro i A hA p z hz
  obtain ⟨v, b1, b2⟩ := q12 i A hA p z hz
  exact ⟨v, b1, b2.mono h⟩
abbrev w1E (fv : Value) (D1 : List xE) : List xE := (209, .inl (14, 46, fv)) :: D1
theorem eM_of {En : List (Int64 × Int32)} {ja : List Int64} (h : En.length ≤ 100) : eM En (En.map Prod.fst ++ ja) := by
  refine ⟨h, fun i e he => ?_⟩
  have hi := (List.getElem?_eq_some_iff.mp he).1
  rw [List.getElem?_append_left (by rw [List.length_map]; exact hi), List.getElem?_map, he]
  rfl
section WORKSM
variable {X : List Int32} {D1 : List xE} {fa d : Nat} {F : yF} {As : List (List (Option yO))} {A : List (Option yO)} {En : List (Int64 × Int32)} {K : Nat} {Q S : zS} {w : yW} {sh : List Bool} {fd : List yFd} {uu : Value} {d0 : Int32}
theorem mk_begin (hH : HM D1 fa d F As A En) (hW : R9 S w d0) : yK X 0 0 295 [.ref 209, .int (Int32.ofNat d)] (zD zTF zaF S (w1E uu D1)) 0 0 (fun v D => ∃ S', v = none ∧ D = zD zTF zaF S' (w1E (.ref fa) D1) ∧ R0 S' (w0R w.1) (Int32.ofNat d) ∧ frM S S' ∧ zI S' 2 = 0 ∧ zI S' 3 = -9) := by
  obtain ⟨⟨oF, x, al, q1, q2, q3, q4⟩, _⟩ := hH
  obtain ⟨S', e1, e2, e3, e4, e5⟩ := R_begin (N := 2800) (dr := Int32.ofNat d) (by omega) hW
  refine yK.mono (trB_begin (N := 2800) (fr := 0) (lo := 0) q1 q2 q3 q4 e1) (Nat.le_refl _) (Nat.le_refl _) ?_
  rintro v D ⟨h1, h2⟩
  exact ⟨S', h1, h2, e2, e3, e4, e5⟩
theorem mk_findAll (hKe : K = 300) (hH : HM D1 fa d F As A En) (hW : R9 S w d0) (hI : insM Q S sh fd) : yK X 1125 32046 294 [.ref 209, .int (Int32.ofNat d)] (zD zTF zaF S (w1E uu D1)) 0 0 (fun v D => ∃ S', v = none ∧ D = zD zTF zaF S' (w1E (.ref fa) D1) ∧ R0 S' (inspR F A En K w.1).1 (Int32.ofNat d) ∧ insM Q S' (inspR F A En K w.1).2.1 (inspR F A En K w.1).2.2 ∧ (inspR F A En K w.1).2.2.length ≤ 32) := by
  obtain ⟨⟨oF, x, al, q1, q2, q3, q4⟩, q5, hok, q7, ⟨ja, q8⟩, ⟨mr, q9, q10, q11, q12⟩, q13, q14⟩ := hH
  have hok' := hok
  obtain ⟨_, _, _, _, _, hl20, _⟩ := hok'
  obtain ⟨p, gi, ga, vl, g1, g2, g3⟩ := q5.han
  obtain ⟨Bs, a1, a2⟩ := anM_han q10 q11 q12 q13
  have a2 := a2 F d A hl20 q14
  have hE := eM_of (ja := ja) q7
  have sub : D1 ⊆ w1E (.ref fa) D1 := fun e he => List.mem_cons_of_mem _ he
  have a1' : ∀ {j : Int32} {z : Option zH}, gI Bs j = some z → ∃ v, gI mr j = some v ∧ zVM (w1E (.ref fa) D1) v z := by
    intro j z hj
    obtain ⟨v, b1, b2⟩ := a1 hj
    exact ⟨v, b1, zVM_mono sub b2⟩
  have m1 : ((209, .inl (14, 46, .ref fa)) : xE) ∈ w1E (.ref fa) D1 := List.mem_cons_self
  obtain ⟨S', e1, e2, e3, e4⟩ := insp_M (N := 2800) (dr := Int32.ofNat d) hKe g2 hok a2 hE (by omega) hW hI
  refine yK.mono (trF_findAll (D0 := w1E (.ref fa) D1) (Da := w1E uu D1) m1 (sub q8) (fun e he => sub (g1 e he)) (sub q9) a1' (N := 2800) (by omega) (by omega) (fun h => trB_begin q1 q2 q3 q4 h) e1) (Nat.le_refl _) (Nat.le_refl _) ?_
  rintro v D ⟨h1, h2⟩
  exact ⟨S', h1, h2, e2, e3, e4⟩
theorem mk_keepFindings (hH : HM D1 fa d F As A En) (hW : R0 S w d0) (hI : insM Q S sh fd) (hl : fd.length ≤ 32) (l18 : (zA S 18).length = 200) : yK X 1 21 316 [.ref 209] (zD zTF zaF S (w1E (.ref fa) D1)) 0 0 (fun v D => ∃ S', v = none ∧ D = zD zTF zaF S' (w1E (.ref fa) D1) ∧ R0 S' w d0 ∧ insM S' S' sh fd ∧ lsM S' fd ∧ (zI S' 7 = w.2.1 ∧ zI S' 8 = w.2.2.1 ∧ zI S' 9 = -9) ∧ zJ S' 10 = zJ S 10 ∧ zI S' 2 = zI S 2) := by
  obtain ⟨⟨oF, x, al, q1, q2, q3, q4⟩, q5, hok, q7, ⟨ja, q8⟩, ⟨mr, q9, q10, q11, q12⟩, q13, q14⟩ := hH
  have hok' := hok
  obtain ⟨_, _, _, _, _, hl20, _⟩ := hok'
  obtain ⟨p, gi, ga, vl, g1, g2, g3⟩ := q5.han
  obtain ⟨Bs, a1, a2⟩ := anM_han q10 q11 q12 q13
  have a2 := a2 F d A hl20 q14
  have hE := eM_of (ja := ja) q7
  have sub : D1 ⊆ w1E (.ref fa) D1 := fun e he => List.mem_cons_of_mem _ he
  have a1' : ∀ {j : Int32} {z : Option zH}, gI Bs j = some z → ∃ v, gI mr j = some v ∧ zVM (w1E (.ref fa) D1) v z := by
    intro j z hj
    obtain ⟨v, b1, b2⟩ := a1 hj
    exact ⟨v, b1, zVM_mono sub b2⟩
  have m1 : ((209, .inl (14, 46, .ref fa)) : xE) ∈ w1E (.ref fa) D1 := List.mem_cons_self
  obtain ⟨S', e⟩ := R_keep (gi := gi) (ga := ga) (vl := vl) (Bs := Bs) (am := En.map Prod.fst ++ ja) (N := 2800) (by omega) hW hI hl l18
  refine yK.mono (trF_keepFindings (D0 := w1E (.ref fa) D1) m1 (sub q8) (fun e he => sub (g1 e he)) (sub q9) a1' (N := 2800) (by omega) (by omega) e.1) (Nat.le_refl _) (Nat.le_refl _) ?_
  rintro v D ⟨h1, h2⟩
  exact ⟨S', h1, h2, e.2⟩
theorem mk_keepTold {v1 : Int32} (hH : HM D1 fa d F As A En) : yK X 0 0 317 [.ref 209, .int v1] (zD zTF zaF S (w1E (.ref fa) D1)) 0 0 (zQv zTF zaF (w1E (.ref fa) D1) () (zsI (zsI (zsI S 7 (zI S 5)) 8 (zI S 6)) 9 v1)) := by
  obtain ⟨⟨oF, x, al, q1, q2, q3, q4⟩, q5, hok, q7, ⟨ja, q8⟩, ⟨mr, q9, q10, q11, q12⟩, q13, q14⟩ := hH
  have hok' := hok
  obtain ⟨_, _, _, _, _, hl20, _⟩ := hok'
  obtain ⟨p, gi, ga, vl, g1, g2, g3⟩ := q5.han
  obtain ⟨Bs, a1, a2⟩ := anM_han q10 q11 q12 q13
  have a2 := a2 F d A hl20 q14
  have hE := eM_of (ja := ja) q7
  have sub : D1 ⊆ w1E (.ref fa) D1 := fun e he => List.mem_cons_of_mem _ he
  have a1' : ∀ {j : Int32} {z : Option zH}, gI Bs j = some z → ∃ v, gI mr j = some v ∧ zVM (w1E (.ref fa) D1) v z := by
    intro j z hj
    obtain ⟨v, b1, b2⟩ := a1 hj
    exact ⟨v, b1, zVM_mono sub b2⟩
  have m1 : ((209, .inl (14, 46, .ref fa)) : xE) ∈ w1E (.ref fa) D1 := List.mem_cons_self
  exact trF_keepTold (D0 := w1E (.ref fa) D1) m1 (sub q8) (fun e he => sub (g1 e he)) (sub q9) a1' (N := 2800) (by omega) (by omega) rfl
theorem mk_seen (hKe : K = 300) (hH : HM D1 fa d F As A En) (hW : R0 S w (Int32.ofNat d)) {pt : Nat} (hp : pt < F.1.length) : yK X 1145 32466 320 [.ref 209, .int (Int32.ofNat pt)] (zD zTF zaF S (w1E (.ref fa) D1)) 0 0 (fun v D => ∃ S', v = some (.int (if (shR F A En K 20 pt w).1 then 1 else 0)) ∧ D = zD zTF zaF S' (w1E (.ref fa) D1) ∧ R0 S' (shR F A En K 20 pt w).2 (Int32.ofNat d) ∧ frM S S') := by
  obtain ⟨⟨oF, x, al, q1, q2, q3, q4⟩, q5, hok, q7, ⟨ja, q8⟩, ⟨mr, q9, q10, q11, q12⟩, q13, q14⟩ := hH
  have hok' := hok
  obtain ⟨_, _, _, _, _, hl20, _⟩ := hok'
  obtain ⟨p, gi, ga, vl, g1, g2, g3⟩ := q5.han
  obtain ⟨Bs, a1, a2⟩ := anM_han q10 q11 q12 q13
  have a2 := a2 F d A hl20 q14
  have hE := eM_of (ja := ja) q7
  have sub : D1 ⊆ w1E (.ref fa) D1 := fun e he => List.mem_cons_of_mem _ he
  have a1' : ∀ {j : Int32} {z : Option zH}, gI Bs j = some z → ∃ v, gI mr j = some v ∧ zVM (w1E (.ref fa) D1) v z := by
    intro j z hj
    obtain ⟨v, b1, b2⟩ := a1 hj
    exact ⟨v, b1, zVM_mono sub b2⟩
  have m1 : ((209, .inl (14, 46, .ref fa)) : xE) ∈ w1E (.ref fa) D1 := List.mem_cons_self
  obtain ⟨S', e1, e2, e3⟩ := r_seen (N := 2800) hKe g2 hok a2 hE (by omega) 20 pt S w (by omega) hp hW
  refine yK.mono (trF_sfix (D0 := w1E (.ref fa) D1) m1 (sub q8) (fun e he => sub (g1 e he)) (sub q9) a1' (N := 2800) (by omega) (by omega) e1) (Nat.le_refl _) (Nat.le_refl _) ?_
  rintro v D ⟨h1, h2⟩
  exact ⟨S', h1, h2, e2, e3⟩
def QwM (r : yR × yW) (S : zS) (dr : Int32) (Dw : List xE) (v : Option Value) (D : List xE) : Prop := match r with
  | (.inl x, w') => ∃ S', v = some (.long x) ∧ D = zD zTF zaF S' Dw ∧ R0 S' w' dr ∧ frM S S' ∧ zI S' 2 = 0
  | (.inr y, w') => ∃ x S', v = some (.long x) ∧ D = zD zTF zaF S' Dw ∧ R0 S' w' dr ∧ frM S S' ∧ (zI S' 2 = y.1 ∧ y.1 ≠ 0 ∧ zI S' 3 = y.2)
theorem mk_figureValue (hKe : K = 300) (hH : HM D1 fa d F As A En) (hW : R0 S w (Int32.ofNat d)) (h2 : zI S 2 = 0) {f : Nat} (hf : f < F.2.1.length) : yK X 1145 32466 305 [.ref 209, .int (Int32.ofNat f)] (zD zTF zaF S (w1E (.ref fa) D1)) 0 0 (QwM (figx F A En K 12 (Int32.ofNat f) w) S (Int32.ofNat d) (w1E (.ref fa) D1)) := by
  obtain ⟨⟨oF, x, al, q1, q2, q3, q4⟩, q5, hok, q7, ⟨ja, q8⟩, ⟨mr, q9, q10, q11, q12⟩, q13, q14⟩ := hH
  have hok' := hok
  obtain ⟨_, _, _, _, _, hl20, _⟩ := hok'
  obtain ⟨p, gi, ga, vl, g1, g2, g3⟩ := q5.han
  obtain ⟨Bs, a1, a2⟩ := anM_han q10 q11 q12 q13
  have a2 := a2 F d A hl20 q14
  have hE := eM_of (ja := ja) q7
  have sub : D1 ⊆ w1E (.ref fa) D1 := fun e he => List.mem_cons_of_mem _ he
  have a1' : ∀ {j : Int32} {z : Option zH}, gI Bs j = some z → ∃ v, gI mr j = some v ∧ zVM (w1E (.ref fa) D1) v z := by
    intro j z hj
    obtain ⟨v, b1, b2⟩ := a1 hj
    exact ⟨v, b1, zVM_mono sub b2⟩
  have m1 : ((209, .inl (14, 46, .ref fa)) : xE) ∈ w1E (.ref fa) D1 := List.mem_cons_self
  have RR := R_figure (gi := gi) (N := 2800) (m := 560) hKe g2.1 hok a2 hE (by omega) hf (by omega) hW h2
  have tr : ∀ {x : Int64} {S' : zS}, rF_figureValue gi ga vl Bs (En.map Prod.fst ++ ja) (rF_fix gi ga vl Bs (En.map Prod.fst ++ ja) 2800 560) 2800 (Int32.ofNat f) S = some (x, S') → yK X 1145 32466 305 [.ref 209, .int (Int32.ofNat f)] (zD zTF zaF S (w1E (.ref fa) D1)) 0 0 (zQl zTF zaF (w1E (.ref fa) D1) x S') := fun h => trF_figureValue (D0 := w1E (.ref fa) D1) (fr0 := 1144) (lo0 := 32437) m1 (sub q8) (fun e he => sub (g1 e he)) (sub q9) a1' (trF_fix (D0 := w1E (.ref fa) D1) m1 (sub q8) (fun e he => sub (g1 e he)) (sub q9) a1' (by omega) (by omega)) (N := 2800) (by omega) (by omega) (by omega) (by omega) h
  rcases hv : figx F A En K 12 (Int32.ofNat f) w with ⟨x | y, w'⟩
  · rw [hv] at RR
    obtain ⟨S', r1, r2, r3, r4⟩ := RR
    refine yK.mono (tr r1) (Nat.le_refl _) (Nat.le_refl _) ?_
    rintro v D ⟨k1, k2⟩
    exact ⟨S', k1, k2, r2, r3, r4⟩
  · rw [hv] at RR
    obtain ⟨x, S', r1, r2, r3, r4⟩ := RR
    refine yK.mono (tr r1) (Nat.le_refl _) (Nat.le_refl _) ?_
    rintro v D ⟨k1, k2⟩
    exact ⟨x, S', k1, k2, r2, r3, r4⟩
end WORKSM
