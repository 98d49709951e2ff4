/-! FINDINGS: the reference -/
section RINSP0
variable {R Q S : zS} {F : yF} {A : List (Option yO)} {En : List (Int64 × Int32)} {gi : Nat → Int32} {ga : Nat → List Int32} {vl : List Int64} {Bs : List (Option zH)} {am : List Int64} {N : Nat} {cur dr : Int32} {w : yW} {sh : List Bool} {fd : List yFd}
theorem Rk.up {j : Nat} {S' : zS} {w' : yW} (h : Rk R S w cur dr 12) (g : Rk R S' w' cur dr j) (k : kpM j S S' w w') : Rk R S' w' cur dr 12 := by
  refine ⟨g.1, g.2.1, g.2.2.1, fun i x hi hx => ?_⟩
  by_cases hj : i < j
  · exact g.2.2.2 i x hj hx
  · obtain ⟨k1, k2, k3, k4, k5⟩ := k i (by omega)
    have o := h.2.2.2 i x hi (k1 ▸ hx)
    rcases x with _ | v | y
    · exact k2.trans o
    · exact ⟨k2.trans o.1, k3.trans o.2.1, k4.trans o.2.2⟩
    · exact ⟨k2.trans o.1, k4.trans o.2.1, k5.trans o.2.2.1, o.2.2.2⟩
theorem frM.rf : frM S S := ⟨⟨rfl, rfl, rfl, rfl, rfl, rfl⟩, rfl, rfl, rfl⟩
/-- the reference, between exps -/
def R0 (S : zS) (w : yW) (dr : Int32) : Prop := ∃ R, Rk R S w (-9) dr 12
theorem R0.rk (h : R0 S w dr) : Rk S S w (-9) dr 12 := by
  obtain ⟨R, ⟨a1, a2, a3, a4, a5, _⟩, b⟩ := h
  exact ⟨⟨a1, a2, a3, a4, a5, frM.rf⟩, b⟩
theorem R0.same {S' : zS} (e : zI S' 0 = zI S 0 ∧ zI S' 1 = zI S 1 ∧ zI S' 4 = zI S 4 ∧ zI S' 5 = zI S 5 ∧ zI S' 6 = zI S 6) (e2 : zA S' 13 = zA S 13 ∧ zB S' 14 = zB S 14 ∧ zA S' 15 = zA S 15 ∧ zA S' 16 = zA S 16) (h : R0 S w dr) : R0 S' w dr := by
  obtain ⟨R, ⟨a1, a2, a3, a4, a5, _⟩, ⟨b1, b2, b3, b4⟩, ml, mm⟩ := h
  obtain ⟨q0, q1, q4, q5, q6⟩ := e
  obtain ⟨q13, q14, q15, q16⟩ := e2
  refine ⟨S', ⟨q0.trans a1, q5.trans a2, q6.trans a3, q4.trans a4, q1.trans a5, frM.rf⟩, ⟨by rw [q13]; exact b1, by rw [q14]; exact b2, by rw [q15]; exact b3, by rw [q16]; exact b4⟩, ml, ?_⟩
  intro i x hi hx
  have o := mm i x hi hx
  rcases x with _ | v | y
  · show (zA S' 13)[i]? = some 0
    rw [q13]; exact o
  · refine ⟨?_, ?_, ?_⟩
    · rw [q13]; exact o.1
    · rw [q14]; exact o.2.1
    · rw [q15]; exact o.2.2
  · refine ⟨?_, ?_, ?_, o.2.2.2⟩
    · rw [q13]; exact o.1
    · rw [q15]; exact o.2.1
    · rw [q16]; exact o.2.2.1
theorem R0.fl {k : Int32} (h : R0 S w dr) : R0 (flM S k) (w.1 + 1, w.2) dr := by
  obtain ⟨R, ⟨a1, a2, a3, a4, a5, a6⟩, b⟩ := h
  refine ⟨R, ⟨?_, a2, a3, a4, a5, a6⟩, b⟩
  show zI S 0 + 1 = w.1 + 1
  rw [a1]
/-- what working an exp leaves -/
def WkM (r : yR × yW) (S : zS) (dr : Int32) (o : Option (Int64 × zS)) : Prop := match r with
  | (.inl v, w') => ∃ S', o = some (v, S') ∧ R0 S' w' dr ∧ frM S S' ∧ zI S' 2 = 0
  | (.inr x, w') => ∃ v S', o = some (v, S') ∧ R0 S' w' dr ∧ frM S S' ∧ (zI S' 2 = x.1 ∧ x.1 ≠ 0 ∧ zI S' 3 = x.2)
theorem R_work0 {K j m e : Nat} (hKe : K = 300) (hF : fMr F ga vl) (hok : yFok F) (hA : aB En F A Bs dr) (hE : eM En am) (hN : 1000 < N) {fe : Nat → Nat} (hfe : ∀ (i : Nat) (n q : Int32), F.2.1[i]? = some (n, q) → yExp F fe i q n (fe i)) {at' n : Int32} (hj : j ≤ F.2.1.length) (hx : yExp F fe j at' n e) (hm : 560 ≤ m) (hW : R0 S w dr) (h2 : zI S 2 = 0) : WkM (evx F A En (figx F A En K 12) K (-9) n w) S dr (rF_fix gi ga vl Bs am N m n S) := by
  have RR := R_work (gi := gi) (cur := -9) hKe hF hok hA hE hN hfe hj hx hm hW.rk h2
  rcases hv : evx F A En (figx F A En K 12) K (-9) n w with ⟨v | x, w'⟩
  · rw [hv] at RR
    obtain ⟨S', r1, r2, r3, r4⟩ := RR
    exact ⟨S', r1, ⟨_, hW.rk.up r2 r4⟩, r2.1.2.2.2.2.2, r3⟩
  · rw [hv] at RR
    obtain ⟨v, S', r1, r2, r3, r4⟩ := RR
    exact ⟨v, S', r1, ⟨_, hW.rk.up r2 r4⟩, r2.1.2.2.2.2.2, r3⟩
/-- what holds says -/
def HoM (r : yR × yW) (S : zS) (dr : Int32) (o : Option (Int32 × zS)) : Prop := match r with
  | (.inl v, w') => ∃ S', o = some (if v = 0 then 0 else 1, S') ∧ R0 S' w' dr ∧ frM S S' ∧ zI S' 2 = 0
  | (.inr x, w') => ∃ S', o = some (0, S') ∧ R0 S' w' dr ∧ frM S S' ∧ (zI S' 2 = x.1 ∧ x.1 ≠ 0 ∧ zI S' 3 = -9)
theorem holds_M {K p : Nat} {P : yPt} (hKe : K = 300) (hF : fMr2 F gi ga vl) (hok : yFok F) (hA : aB En F A Bs dr) (hE : eM En am) (hN : 2800 ≤ N) (hP : F.1[p]? = some P) (hW : R0 S w dr) : HoM (cdR F A En K P w) S dr (rF_holds gi ga vl Bs am N (Int32.ofNat p) S) := by
  have hok' := hok
  obtain ⟨fe, _, _, hfe, _, hl20, hl12, _, _, hPs⟩ := hok'
  have hpl := (List.getElem?_eq_some_iff.mp hP).1
  obtain ⟨_, _, _, _, _, _, _, _, _, _, _, _, kc⟩ := hPs p P hP
  have x8 : gI (ga 8) (Int32.ofNat p) = some P.2.2.2.2.2.2.1 := by rw [gI_nat (by omega)]; exact (hF.2.2.2.1 p P hP).2.2.2
  have hW1 : R0 (zsI S 2 0) w dr := R0.same (S := S) ⟨rfl, rfl, rfl, rfl, rfl⟩ ⟨rfl, rfl, rfl, rfl⟩ hW
  rw [rF_holds, x8, zgs]
  rcases kc with ⟨c1, c2⟩ | ⟨e, hx⟩
  · have ec : cdR F A En K P w = (.inl 1, w) := by unfold cdR; rw [if_pos c1]
    rw [ec, if_pos c1]
    exact ⟨_, rfl, hW1, frM.rf, rfl⟩
  · have hx' := hx
    obtain ⟨s, es, hse, hrep, hend, _⟩ := hx'
    have hnn : ¬ P.2.2.2.2.2.2.1 = -9 := by
      intro hh
      rw [hh] at hrep
      exact absurd hrep.1 (by decide)
    have ec : cdR F A En K P w = evx F A En (figx F A En K 12) K (-9) P.2.2.2.2.2.2.1 w := by unfold cdR; rw [if_neg hnn]
    rw [if_neg hnn, ec, zgs]
    have RR := R_work0 (gi := gi) (N := N) (m := N / 5) hKe hF.1 hok hA hE (by omega) hfe (Nat.zero_le _) hx (by omega) hW1 rfl
    rcases hv : evx F A En (figx F A En K 12) K (-9) P.2.2.2.2.2.2.1 w with ⟨v | x, w'⟩
    · rw [hv] at RR
      obtain ⟨S', r1, r2, r3, r4⟩ := RR
      refine ⟨S', ?_, r2, r3, r4⟩
      rw [r1, zbs]
      by_cases h0 : v = 0
      · rw [if_pos h0, if_pos h0]
      · rw [if_neg h0, if_neg h0, if_neg (nn r4)]
    · rw [hv] at RR
      obtain ⟨v, S', r1, r2, r3, r4, r5, r6⟩ := RR
      rw [← hKe] at hrep
      have ha : x.2 = -9 := evx_arose K _ _ _ w w' x hrep hv
      refine ⟨S', ?_, r2, r3, r4, r5, by rw [r6, ha]⟩
      have hne : zI S' 2 ≠ 0 := by rw [r4]; exact r5
      rw [r1, zbs, if_pos hne]
      split <;> rfl
/-- what was found and what is shown -/
def insM (Q S : zS) (sh : List Bool) (fd : List yFd) : Prop := zI S 11 = Int32.ofNat fd.length ∧ ((zA S 17).length = 200 ∧ (zA S 19).length = 20) ∧ (∀ (i : Nat) f, fd[i]? = some f → (zA S 17)[5 * i]? = some f.1 ∧ (zA S 17)[5 * i + 1]? = some f.2.1 ∧ (zA S 17)[5 * i + 2]? = some f.2.2.1 ∧ (zA S 17)[5 * i + 3]? = some f.2.2.2.1 ∧ (zA S 17)[5 * i + 4]? = some f.2.2.2.2) ∧ (∀ (i : Nat) b, sh[i]? = some b → (zA S 19)[i]? = some (if b then 1 else 0)) ∧ (zI S 7 = zI Q 7 ∧ zI S 8 = zI Q 8 ∧ zI S 9 = zI Q 9 ∧ zJ S 10 = zJ Q 10 ∧ zI S 12 = zI Q 12 ∧ zA S 18 = zA Q 18)
theorem insM.fr (e : frM R S) (h : insM Q R sh fd) : insM Q S sh fd := by
  obtain ⟨⟨e7, e8, e9, e10, e11, e12⟩, e17, e18, e19⟩ := e
  unfold insM at h ⊢
  rw [e7, e8, e9, e10, e11, e12, e17, e18, e19]
  exact h
theorem yi_5 (i j : Nat) : 5 * Int32.ofNat i + Int32.ofNat j = Int32.ofNat (5 * i + j) := by
  rw [Int32.ofNat_add, Int32.ofNat_mul]; rfl
theorem yi_50 (i : Nat) : 5 * Int32.ofNat i = Int32.ofNat (5 * i) := by
  rw [Int32.ofNat_mul]; rfl
theorem set5 {l : List Int32} {k : Nat} {v1 v2 v3 v4 v5 : Int32} (hl : k + 4 < l.length) : ∃ m, (((((l.set k v1).set (k + 1) v2).set (k + 2) v3).set (k + 3) v4).set (k + 4) v5) = m ∧ m.length = l.length ∧ (m[k]? = some v1 ∧ m[k + 1]? = some v2 ∧ m[k + 2]? = some v3 ∧ m[k + 3]? = some v4 ∧ m[k + 4]? = some v5) ∧ ∀ i, i < k → m[i]? = l[i]? := by
  refine ⟨_, rfl, by simp, ⟨?_, ?_, ?_, ?_, ?_⟩, ?_⟩
  · rw [List.getElem?_set_ne (by omega), List.getElem?_set_ne (by omega), List.getElem?_set_ne (by omega), List.getElem?_set_ne (by omega), List.getElem?_set_self (by omega)]
  · rw [List.getElem?_set_ne (by omega), List.getElem?_set_ne (by omega), List.getElem?_set_ne (by omega), List.getElem?_set_self (by simp; omega)]
  · rw [List.getElem?_set_ne (by omega), List.getElem?_set_ne (by omega), List.getElem?_set_self (by simp; omega)]
  · rw [List.getElem?_set_ne (by omega), List.getElem?_set_self (by simp; omega)]
  · rw [List.getElem?_set_self (by simp; omega)]
  · intro i hi
    rw [List.getElem?_set_ne (by omega), List.getElem?_set_ne (by omega), List.getElem?_set_ne (by omega), List.getElem?_set_ne (by omega), List.getElem?_set_ne (by omega)]
theorem note_M {v1 v2 v3 v4 v5 : Int32} (hW : R0 S w dr) (h : insM Q S sh fd) (hl : fd.length < 40) : ∃ S', rF_note gi ga vl Bs am N v1 v2 v3 v4 v5 S = some ((), S') ∧ R0 S' w dr ∧ insM Q S' sh (fd ++ [(v1, v2, v3, v4, v5)]) := by
  obtain ⟨h0, ⟨l1, l2⟩, h2, h3, h4⟩ := h
  obtain ⟨m, em, ml, ⟨m0, m1, m2, m3, m4⟩, mo⟩ := set5 (l := zA S 17) (k := 5 * fd.length) (v1 := v1) (v2 := v2) (v3 := v3) (v4 := v4) (v5 := v5) (by omega)
  refine ⟨zsI (zsA S 17 m) 11 (Int32.ofNat (fd.length + 1)), ?_, R0.same (S := S) ⟨rfl, rfl, rfl, rfl, rfl⟩ ⟨rfl, rfl, rfl, rfl⟩ hW, ⟨?_, ⟨?_, l2⟩, ?_, h3, h4⟩⟩
  · have e1 : Int32.ofNat (5 * fd.length) + 1 = Int32.ofNat (5 * fd.length + 1) := yi_add _ 1
    have e2 : Int32.ofNat (5 * fd.length) + 2 = Int32.ofNat (5 * fd.length + 2) := yi_add _ 2
    have e3 : Int32.ofNat (5 * fd.length) + 3 = Int32.ofNat (5 * fd.length + 3) := yi_add _ 3
    have e4 : Int32.ofNat (5 * fd.length) + 4 = Int32.ofNat (5 * fd.length + 4) := yi_add _ 4
    rw [rF_note]
    simp only [h0, e1, e2, e3, e4, yi_50, zs_nat (show 5 * fd.length < 2147483648 by omega), zs_nat (show 5 * fd.length + 1 < 2147483648 by omega), zs_nat (show 5 * fd.length + 2 < 2147483648 by omega), zs_nat (show 5 * fd.length + 3 < 2147483648 by omega), zs_nat (show 5 * fd.length + 4 < 2147483648 by omega)]
    rw [if_pos (zok_nat (by omega) (by omega)), if_pos (zok_nat (by omega) (by simp; omega)), if_pos (zok_nat (by omega) (by simp; omega)), if_pos (zok_nat (by omega) (by simp; omega)), if_pos (zok_nat (by omega) (by simp; omega))]
    simp only [zsA_twice, em, yi_add1]
  · rw [List.length_append]; rfl
  · exact ml.trans l1
  · intro i f hf
    show m[5 * i]? = _ ∧ m[5 * i + 1]? = _ ∧ m[5 * i + 2]? = _ ∧ m[5 * i + 3]? = _ ∧ m[5 * i + 4]? = _
    by_cases hi : i < fd.length
    · rw [List.getElem?_append_left hi] at hf
      rw [mo _ (by omega), mo _ (by omega), mo _ (by omega), mo _ (by omega), mo _ (by omega)]
      exact h2 i f hf
    · have hil := (List.getElem?_eq_some_iff.mp hf).1
      rw [List.length_append, List.length_singleton] at hil
      obtain rfl : i = fd.length := by omega
      rw [List.getElem?_append_right (Nat.le_refl _), Nat.sub_self] at hf
      cases hf
      exact ⟨m0, m1, m2, m3, m4⟩
end RINSP0
