/-! THE LIST OF FINDINGS, AND FIGURES -/
section KEEP
variable {Q S : zS} {F : yF} {A : List (Option yO)} {En : List (Int64 × Int32)} {gi : Nat → Int32} {ga : Nat → List Int32} {vl : List Int64} {Bs : List (Option zH)} {am : List Int64} {N K : Nat} {dr : Int32} {w : yW} {sh : List Bool} {fd : List yFd}
/-- the reference's list -/
def lsM (S : zS) (fd : List yFd) : Prop := zI S 12 = Int32.ofNat fd.length ∧ (zA S 18).length = 200 ∧ fd.length ≤ 32 ∧ ∀ (i : Nat) f, fd[i]? = some f → (zA S 18)[5 * i]? = some f.1 ∧ (zA S 18)[5 * i + 1]? = some f.2.1 ∧ (zA S 18)[5 * i + 2]? = some f.2.2.1 ∧ (zA S 18)[5 * i + 3]? = some f.2.2.2.1 ∧ (zA S 18)[5 * i + 4]? = some f.2.2.2.2
theorem keep_6 {M : Nat} (hM : M ≤ 40) : ∀ (n i : Nat) (S : zS), 5 * M < n + i → i ≤ 5 * M → zI S 11 = Int32.ofNat M → (zA S 17).length = 200 → (zA S 18).length = 200 → (∀ k, k < i → (zA S 18)[k]? = (zA S 17)[k]?) → ∃ m, rF_keepFindings_6 gi ga vl Bs am N n (Int32.ofNat i) S = some ((), zsI (zsI (zsI (zsA S 18 m) 7 (zI S 5)) 8 (zI S 6)) 9 (-9)) ∧ m.length = 200 ∧ ∀ k, k < 5 * M → m[k]? = (zA S 17)[k]?
  | 0, _, _, h, h2, _, _, _, _ => by omega
  | n + 1, i, S, h, hi, h11, l17, l18, hz => by
    rw [rF_keepFindings_6, h11, yi_50]
    by_cases e : i = 5 * M
    · rw [if_pos (by rw [e]; omega), rF_keepTold, zbs]
      refine ⟨zA S 18, by rw [zsA_same rfl], l18, ?_⟩
      rw [← e]; exact hz
    · obtain ⟨x, hx⟩ : ∃ x, (zA S 17)[i]? = some x := ⟨_, List.getElem?_eq_getElem (by omega)⟩
      rw [if_neg (by rw [yi_nat (by omega), yi_nat (by omega)]; omega), gI_nat (by omega), hx, zgs, if_pos (zok_nat (by omega) (by omega)), zs_nat (by omega), yi_add1]
      obtain ⟨m, e1, e2, e3⟩ := keep_6 hM n (i + 1) (zsA S 18 ((zA S 18).set i x)) (by omega) (by omega) h11 l17 (by show ((zA S 18).set i x).length = 200; rw [List.length_set]; exact l18) (by
        intro k hk
        show ((zA S 18).set i x)[k]? = (zA S 17)[k]?
        by_cases e : k = i
        · subst e
          rw [List.getElem?_set_self (by omega), hx]
        · rw [List.getElem?_set_ne (by omega)]
          exact hz k (by omega))
      refine ⟨m, ?_, e2, e3⟩
      rw [e1, zsA_twice]
      rfl
theorem R_keep (hN : 200 < N) (hW : R0 S w dr) (h : insM Q S sh fd) (hl : fd.length ≤ 32) (l18 : (zA S 18).length = 200) : ∃ S', rF_keepFindings gi ga vl Bs am N S = some ((), S') ∧ R0 S' w dr ∧ insM S' S' sh fd ∧ lsM S' fd ∧ (zI S' 7 = w.2.1 ∧ zI S' 8 = w.2.2.1 ∧ zI S' 9 = -9) ∧ zJ S' 10 = zJ S 10 ∧ zI S' 2 = zI S 2 := by
  obtain ⟨h0, ⟨l1, l2⟩, h2, h3, h4⟩ := h
  obtain ⟨m, e1, e2, e3⟩ := keep_6 (gi := gi) (ga := ga) (vl := vl) (Bs := Bs) (am := am) (N := N) (M := fd.length) (by omega) N 0 (zsI S 12 (zI S 11)) (by omega) (by omega) h0 l1 l18 (fun k hk => absurd hk (by omega))
  have hk := hW.rk.1
  refine ⟨_, e1, R0.same (S := S) ⟨rfl, rfl, rfl, rfl, rfl⟩ ⟨rfl, rfl, rfl, rfl⟩ hW, ⟨h0, ⟨l1, l2⟩, h2, h3, rfl, rfl, rfl, rfl, rfl, rfl⟩, ⟨h0, e2, hl, ?_⟩, ⟨hk.2.1, hk.2.2.1, rfl⟩, rfl, rfl⟩
  intro i f hf
  have hi := (List.getElem?_eq_some_iff.mp hf).1
  obtain ⟨a1, a2, a3, a4, a5⟩ := h2 i f hf
  exact ⟨(e3 _ (by omega)).trans a1, (e3 _ (by omega)).trans a2, (e3 _ (by omega)).trans a3, (e3 _ (by omega)).trans a4, (e3 _ (by omega)).trans a5⟩
/-- the reference's figure -/
theorem R_figure (hKe : K = 300) (hF : fMr F ga vl) (hok : yFok F) (hA : aB En F A Bs dr) (hE : eM En am) (hN : 1000 < N) {f m : Nat} (hf : f < F.2.1.length) (hm : 560 ≤ m) (hW : R0 S w dr) (h2 : zI S 2 = 0) : WkM (figx F A En K 12 (Int32.ofNat f) w) S dr (rF_figureValue gi ga vl Bs am (rF_fix gi ga vl Bs am N m) N (Int32.ofNat f) S) := by
  have hok' := hok
  obtain ⟨fe, h560, _, hfe, _, hl20, hl12, _, _, hPs⟩ := hok'
  have hs : ∀ i, i < F.2.1.length → fe i < 560 := by
    intro i hi
    obtain ⟨x, hx⟩ : ∃ x, F.2.1[i]? = some x := ⟨_, List.getElem?_eq_getElem hi⟩
    obtain ⟨_, _, _, _, hend, _⟩ := hfe i x.1 x.2 hx
    have := (List.getElem?_eq_some_iff.mp hend).1
    omega
  have FG := R_figs (R := S) (gi := gi) (dr := dr) (N := N) hKe hF ⟨hl20, fun i P hp => (hPs i P hp).1⟩ hA hE hN hfe hl12 12 560 F.2.1.length (by omega) (Nat.le_refl _) hs
  have hW' := hW.rk
  have RR := FG f hf S w (-9) m hm ⟨hW'.1, hW'.2.1, hW'.2.2.1, fun i x hi hx => hW'.2.2.2 i x (by omega) hx⟩ h2
  rcases hv : figx F A En K 12 (Int32.ofNat f) w with ⟨v | x, w'⟩
  · rw [hv] at RR
    obtain ⟨S', r1, r2, r3, r4⟩ := RR
    exact ⟨S', r1, ⟨_, hW'.up r2 r4⟩, r2.1.2.2.2.2.2, r3⟩
  · rw [hv] at RR
    obtain ⟨v, S', r1, r2, r3, r4⟩ := RR
    exact ⟨v, S', r1, ⟨_, hW'.up r2 r4⟩, r2.1.2.2.2.2.2, r3⟩
end KEEP
section FIGC
variable {gi : Nat → Int32} {ga : Nat → List Int32} {As : List (Option zO)} {ne : Int32} {am : List Int64} {N K : Nat} {S : zS} {En : List (Int64 × Int32)} {F : yF} {A : List (Option yO)} {w : yW}
def WkC (r : yR × yW) (S : zS) (o : Option (Int64 × zS)) : Prop := match r with
  | (.inl v, w') => ∃ S', o = some (v, S') ∧ W0 S' w' ∧ frC S S' ∧ zI S' 1 = 0
  | (.inr x, w') => ∃ v S', o = some (v, S') ∧ W0 S' w' ∧ frC S S' ∧ (zI S' 1 = x.1 ∧ x.1 ≠ 0 ∧ zI S' 2 = x.2)
/-- the class's figure -/
theorem C_figure (hKe : K = 300) (hF : fC F gi ga) (hok : yFok F) (hA : aA En F A As) (hE : eC En ne am) (hN : 1000 < N) {f m : Nat} (hf : f < F.2.1.length) (hm : 12 ≤ m) (hW : W0 S w) (h1 : zI S 1 = 0) : WkC (figx F A En K 12 (Int32.ofNat f) w) S (cE_worthOf gi ga As ne am (cE_fix gi ga As ne am N m) N (Int32.ofNat f) 0 S) := by
  have hok' := hok
  obtain ⟨fe, h560, _, hfe, _, hl20, hl12, _, _, hPs⟩ := hok'
  have hs : ∀ i, i < F.2.1.length → fe i < 560 := by
    intro i hi
    obtain ⟨x, hx⟩ : ∃ x, F.2.1[i]? = some x := ⟨_, List.getElem?_eq_getElem hi⟩
    obtain ⟨_, _, _, _, hend, _⟩ := hfe i x.1 x.2 hx
    have := (List.getElem?_eq_some_iff.mp hend).1
    omega
  have FG := C_figs (R := S) (N := N) hKe hF ⟨hl20, fun i P hp => (hPs i P hp).1⟩ hA hE hN hfe hl12 12 m 0 560 F.2.1.length (by omega) hm (Nat.le_refl _) hs (by omega)
  have RR := FG f hf S w (-9) 0 [] [] hW.wk h1 (by simp) (by simp)
  rcases hv : figx F A En K 12 (Int32.ofNat f) w with ⟨v | x, w'⟩
  · rw [hv] at RR
    obtain ⟨S', r1, r2, r3⟩ := RR
    exact ⟨S', r1, ⟨_, r2⟩, r2.1.2.2.2.2.2, r3⟩
  · rw [hv] at RR
    obtain ⟨v, S', r1, r2, r3, r4, r5⟩ := RR
    exact ⟨v, S', r1, ⟨_, r2⟩, r2.1.2.2.2.2.2, r3, r4, r5⟩
end FIGC
