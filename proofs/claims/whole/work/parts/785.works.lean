/-! WORKING, AS CONTRACTS: the class -/
/-- what the class's working reads -/
def HC (D0 : List xE) (fa aa : Nat) (F : yF) (A : List (Option yO)) (En : List (Int64 × Int32)) : Prop := yFC D0 fa F ∧ yFok F ∧ (∃ refs, ((aa, .inr (7, refs)) : xE) ∈ D0 ∧ yAnB D0 refs A) ∧ (∀ (p : Nat) y, A[p]? = some (some y) → yOk En y) ∧ En.length ≤ 100 ∧ ((106, .inl (5, 2, .int (Int32.ofNat En.length))) : xE) ∈ D0 ∧ ∃ ja : List Int64, ((107, .inr (1, (En.map Prod.fst ++ ja).map Value.long)) : xE) ∈ D0
theorem HC.mono {D D2 : List xE} (h : D ⊆ D2) {fa aa : Nat} {F : yF} {A : List (Option yO)} {En : List (Int64 × Int32)} (q : HC D fa aa F A En) : HC D2 fa aa F A En := by
  obtain ⟨q1, q2, ⟨refs, q3, q4⟩, q5, q6, q7, ja, q8⟩ := q
  exact ⟨q1.mono h, q2, ⟨refs, h q3, q4.mono h⟩, q5, q6, h q7, ja, h q8⟩
abbrev w2E (fv av : Value) (D0 : List xE) : List xE := (110, .inl (10, 2, fv)) :: (110, .inl (10, 3, av)) :: D0
theorem eC_of {En : List (Int64 × Int32)} {ja : List Int64} (h : En.length ≤ 100) : eC En (Int32.ofNat En.length) (En.map Prod.fst ++ ja) := by
  refine ⟨rfl, h, fun i e he => ?_⟩
  have hi := (List.getElem?_eq_some_iff.mp he).1
  rw [List.getElem?_append_left (by rw [List.length_map]; exact hi), List.getElem?_map, he]
  rfl
section WORKS
variable {X : List Int32} {D0 : List xE} {fa aa : Nat} {F : yF} {A : List (Option yO)} {En : List (Int64 × Int32)} {K : Nat} {Q S : zS} {w : yW} {sh : List Bool} {fd : List yFd} {uu ww : Value}
theorem ck_begin (hW : W0 S w) : yK X 0 0 131 [.ref 110, .ref fa, .ref aa] (zD zTE zaE S (w2E uu ww D0)) 0 0 (fun v D => ∃ S', v = none ∧ D = zD zTE zaE S' (w2E (.ref fa) (.ref aa) D0) ∧ W0 S' (w0R w.1) ∧ frC S S' ∧ zI S' 1 = 0) := by
  obtain ⟨S', e1, e2, e3, e4⟩ := C_begin (N := 1001) (by omega) hW
  refine yK.mono (tcB_begin (N := 1001) (fr := 0) (lo := 0) (by omega) (by omega) e1) (Nat.le_refl _) (Nat.le_refl _) ?_
  rintro v D ⟨h1, h2⟩
  exact ⟨S', h1, h2, e2, e3, e4⟩
theorem ck_inspect_118 (hKe : K = 300) (hH : HC D0 fa aa F A En) (hW : W0 S w) (hI : insC118 Q S sh fd) : yK X 191 4653 130 [.ref 118, .ref fa, .ref aa] (zD zTE zaE S (w2E uu ww D0)) 0 0 (fun v D => ∃ S', v = some (.int (Int32.ofNat (inspR F A En K w.1).2.2.length)) ∧ D = zD zTE zaE S' (w2E (.ref fa) (.ref aa) D0) ∧ W0 S' (inspR F A En K w.1).1 ∧ insC118 Q S' (inspR F A En K w.1).2.1 (inspR F A En K w.1).2.2 ∧ (inspR F A En K w.1).2.2.length ≤ 32) := by
  obtain ⟨q1, hok, ⟨refs, q3, q4⟩, q5, q6, q7, ja, q8⟩ := hH
  have hok' := hok
  obtain ⟨_, _, _, _, _, hl20, _⟩ := hok'
  obtain ⟨p, gi, ga, g1, g2, g3⟩ := q1.han hok
  obtain ⟨As, a1, a2⟩ := q4.han hl20 q5
  have hE := eC_of (ja := ja) q6
  have sub : D0 ⊆ w2E (.ref fa) (.ref aa) D0 := fun e he => List.mem_cons_of_mem _ (List.mem_cons_of_mem _ he)
  have a1' : ∀ {j : Int32} {z : Option zO}, gI As j = some z → ∃ v, gI refs j = some v ∧ zVC (w2E (.ref fa) (.ref aa) D0) v z := by
    intro j z hj
    obtain ⟨v, b1, b2⟩ := a1 hj
    exact ⟨v, b1, zVC_mono sub b2⟩
  have m2 : ((110, .inl (10, 2, .ref fa)) : xE) ∈ w2E (.ref fa) (.ref aa) D0 := List.mem_cons_self
  have m3 : ((110, .inl (10, 3, .ref aa)) : xE) ∈ w2E (.ref fa) (.ref aa) D0 := List.mem_cons_of_mem _ List.mem_cons_self
  obtain ⟨S', e1, e2, e3, e4⟩ := insp_118 (N := 1001) hKe g2 hok a2 hE (by omega) hW hI
  refine yK.mono (tcE_inspect_118 (D0 := w2E (.ref fa) (.ref aa) D0) (Da := w2E uu ww D0) m2 m3 (sub q7) (sub q8) (fun e he => sub (g1 e he)) (sub q3) a1' (N := 1001) (by omega) (by omega) (fun h => tcB_begin (by omega) (by omega) h) e1) (Nat.le_refl _) (Nat.le_refl _) ?_
  rintro v D ⟨h1, h2⟩
  exact ⟨S', h1, h2, e2, e3, e4⟩
theorem ck_inspect_175 (hKe : K = 300) (hH : HC D0 fa aa F A En) (hW : W0 S w) (hI : insC175 Q S sh fd) : yK X 191 4653 130 [.ref 175, .ref fa, .ref aa] (zD zTE zaE S (w2E uu ww D0)) 0 0 (fun v D => ∃ S', v = some (.int (Int32.ofNat (inspR F A En K w.1).2.2.length)) ∧ D = zD zTE zaE S' (w2E (.ref fa) (.ref aa) D0) ∧ W0 S' (inspR F A En K w.1).1 ∧ insC175 Q S' (inspR F A En K w.1).2.1 (inspR F A En K w.1).2.2 ∧ (inspR F A En K w.1).2.2.length ≤ 32) := by
  obtain ⟨q1, hok, ⟨refs, q3, q4⟩, q5, q6, q7, ja, q8⟩ := hH
  have hok' := hok
  obtain ⟨_, _, _, _, _, hl20, _⟩ := hok'
  obtain ⟨p, gi, ga, g1, g2, g3⟩ := q1.han hok
  obtain ⟨As, a1, a2⟩ := q4.han hl20 q5
  have hE := eC_of (ja := ja) q6
  have sub : D0 ⊆ w2E (.ref fa) (.ref aa) D0 := fun e he => List.mem_cons_of_mem _ (List.mem_cons_of_mem _ he)
  have a1' : ∀ {j : Int32} {z : Option zO}, gI As j = some z → ∃ v, gI refs j = some v ∧ zVC (w2E (.ref fa) (.ref aa) D0) v z := by
    intro j z hj
    obtain ⟨v, b1, b2⟩ := a1 hj
    exact ⟨v, b1, zVC_mono sub b2⟩
  have m2 : ((110, .inl (10, 2, .ref fa)) : xE) ∈ w2E (.ref fa) (.ref aa) D0 := List.mem_cons_self
  have m3 : ((110, .inl (10, 3, .ref aa)) : xE) ∈ w2E (.ref fa) (.ref aa) D0 := List.mem_cons_of_mem _ List.mem_cons_self
  obtain ⟨S', e1, e2, e3, e4⟩ := insp_175 (N := 1001) hKe g2 hok a2 hE (by omega) hW hI
  refine yK.mono (tcE_inspect_175 (D0 := w2E (.ref fa) (.ref aa) D0) (Da := w2E uu ww D0) m2 m3 (sub q7) (sub q8) (fun e he => sub (g1 e he)) (sub q3) a1' (N := 1001) (by omega) (by omega) (fun h => tcB_begin (by omega) (by omega) h) e1) (Nat.le_refl _) (Nat.le_refl _) ?_
  rintro v D ⟨h1, h2⟩
  exact ⟨S', h1, h2, e2, e3, e4⟩
theorem ck_shows (hKe : K = 300) (hH : HC D0 fa aa F A En) (hW : W0 S w) {pt : Nat} (hp : pt < F.1.length) : yK X 191 4653 163 [.ref 118, .ref fa, .ref aa, .int (Int32.ofNat pt)] (zD zTE zaE S (w2E uu ww D0)) 0 0 (fun v D => ∃ S', v = some (.int (if (shR F A En K 20 pt (w0R w.1)).1 then 1 else 0)) ∧ D = zD zTE zaE S' (w2E (.ref fa) (.ref aa) D0) ∧ W0 S' (shR F A En K 20 pt (w0R w.1)).2 ∧ frC S S') := by
  obtain ⟨q1, hok, ⟨refs, q3, q4⟩, q5, q6, q7, ja, q8⟩ := hH
  have hok' := hok
  obtain ⟨_, _, _, _, _, hl20, _⟩ := hok'
  obtain ⟨p, gi, ga, g1, g2, g3⟩ := q1.han hok
  obtain ⟨As, a1, a2⟩ := q4.han hl20 q5
  have hE := eC_of (ja := ja) q6
  have sub : D0 ⊆ w2E (.ref fa) (.ref aa) D0 := fun e he => List.mem_cons_of_mem _ (List.mem_cons_of_mem _ he)
  have a1' : ∀ {j : Int32} {z : Option zO}, gI As j = some z → ∃ v, gI refs j = some v ∧ zVC (w2E (.ref fa) (.ref aa) D0) v z := by
    intro j z hj
    obtain ⟨v, b1, b2⟩ := a1 hj
    exact ⟨v, b1, zVC_mono sub b2⟩
  have m2 : ((110, .inl (10, 2, .ref fa)) : xE) ∈ w2E (.ref fa) (.ref aa) D0 := List.mem_cons_self
  have m3 : ((110, .inl (10, 3, .ref aa)) : xE) ∈ w2E (.ref fa) (.ref aa) D0 := List.mem_cons_of_mem _ List.mem_cons_self
  obtain ⟨S', e1, e2, e3⟩ := C_shows (N := 1001) hKe g2 hok a2 hE (by omega) hp hW
  refine yK.mono (tcE_showsAlone (D0 := w2E (.ref fa) (.ref aa) D0) (Da := w2E uu ww D0) m2 m3 (sub q7) (sub q8) (fun e he => sub (g1 e he)) (sub q3) a1' (N := 1001) (by omega) (by omega) (fun h => tcB_begin (by omega) (by omega) h) e1) (Nat.le_refl _) (Nat.le_refl _) ?_
  rintro v D ⟨h1, h2⟩
  exact ⟨S', h1, h2, e2, e3⟩
/-- what working leaves, told as a value and entries -/
def QwC (r : yR × yW) (S : zS) (Dw : List xE) (v : Option Value) (D : List xE) : Prop := match r with
  | (.inl x, w') => ∃ S', v = some (.long x) ∧ D = zD zTE zaE S' Dw ∧ W0 S' w' ∧ frC S S' ∧ zI S' 1 = 0
  | (.inr y, w') => ∃ x S', v = some (.long x) ∧ D = zD zTE zaE S' Dw ∧ W0 S' w' ∧ frC S S' ∧ (zI S' 1 = y.1 ∧ y.1 ≠ 0 ∧ zI S' 2 = y.2)
theorem ck_worth (hKe : K = 300) (hH : HC D0 fa aa F A En) (hW : W0 S w) (h1 : zI S 1 = 0) {f : Nat} (hf : f < F.2.1.length) : yK X 191 4653 135 [.ref 110, .int (Int32.ofNat f), .int 0] (zD zTE zaE S (w2E (.ref fa) (.ref aa) D0)) 0 0 (QwC (figx F A En K 12 (Int32.ofNat f) w) S (w2E (.ref fa) (.ref aa) D0)) := by
  obtain ⟨q1, hok, ⟨refs, q3, q4⟩, q5, q6, q7, ja, q8⟩ := hH
  have hok' := hok
  obtain ⟨_, _, _, _, _, hl20, _⟩ := hok'
  obtain ⟨p, gi, ga, g1, g2, g3⟩ := q1.han hok
  obtain ⟨As, a1, a2⟩ := q4.han hl20 q5
  have hE := eC_of (ja := ja) q6
  have sub : D0 ⊆ w2E (.ref fa) (.ref aa) D0 := fun e he => List.mem_cons_of_mem _ (List.mem_cons_of_mem _ he)
  have a1' : ∀ {j : Int32} {z : Option zO}, gI As j = some z → ∃ v, gI refs j = some v ∧ zVC (w2E (.ref fa) (.ref aa) D0) v z := by
    intro j z hj
    obtain ⟨v, b1, b2⟩ := a1 hj
    exact ⟨v, b1, zVC_mono sub b2⟩
  have m2 : ((110, .inl (10, 2, .ref fa)) : xE) ∈ w2E (.ref fa) (.ref aa) D0 := List.mem_cons_self
  have m3 : ((110, .inl (10, 3, .ref aa)) : xE) ∈ w2E (.ref fa) (.ref aa) D0 := List.mem_cons_of_mem _ List.mem_cons_self
  have RR := C_figure (N := 1001) (m := 20) hKe g2.1 hok a2 hE (by omega) hf (by omega) hW h1
  have tr : ∀ {x : Int64} {S' : zS}, cE_worthOf gi ga As (Int32.ofNat En.length) (En.map Prod.fst ++ ja) (cE_fix gi ga As (Int32.ofNat En.length) (En.map Prod.fst ++ ja) 1001 20) 1001 (Int32.ofNat f) 0 S = some (x, S') → yK X 191 4653 135 [.ref 110, .int (Int32.ofNat f), .int 0] (zD zTE zaE S (w2E (.ref fa) (.ref aa) D0)) 0 0 (zQl zTE zaE (w2E (.ref fa) (.ref aa) D0) x S') := fun h => tcE_worthOf (D0 := w2E (.ref fa) (.ref aa) D0) (fr0 := 190) (lo0 := 4627) m2 m3 (sub q7) (sub q8) (fun e he => sub (g1 e he)) (sub q3) a1' (tcE_fix (D0 := w2E (.ref fa) (.ref aa) D0) m2 m3 (sub q7) (sub q8) (fun e he => sub (g1 e he)) (sub q3) a1' (by omega) (by omega)) (N := 1001) (by omega) (by omega) (by omega) (by omega) h
  rcases hv : figx F A En K 12 (Int32.ofNat f) w with ⟨x | y, w'⟩
  · rw [hv] at RR
    obtain ⟨S', r1, r2, r3, r4⟩ := RR
    refine yK.mono (tr r1) (Nat.le_refl _) (Nat.le_refl _) ?_
    rintro v D ⟨k1, k2⟩
    exact ⟨S', k1, k2, r2, r3, r4⟩
  · rw [hv] at RR
    obtain ⟨x, S', r1, r2, r3, r4⟩ := RR
    refine yK.mono (tr r1) (Nat.le_refl _) (Nat.le_refl _) ?_
    rintro v D ⟨k1, k2⟩
    exact ⟨x, S', k1, k2, r2, r3, r4⟩
end WORKS
