/-! FINDINGS: the reference, part by part, check by check -/
section RINSP
variable {R Q S : zS} {F : yF} {A : List (Option yO)} {En : List (Int64 × Int32)} {gi : Nat → Int32} {ga : Nat → List Int32} {vl : List Int64} {Bs : List (Option zH)} {am : List Int64} {N : Nat} {cur dr : Int32} {w : yW} {sh : List Bool} {fd : List yFd} {k8 : Int32 → zS → Option (Unit × zS)}
theorem sh_M {p : Nat} {b : Bool} (hW : R0 S w dr) (h : insM Q S sh fd) (hp : sh.length = p) (hp20 : p < 20) : zok (zA S 19) (Int32.ofNat p) ∧ R0 (zsA S 19 (zs (zA S 19) (Int32.ofNat p) (if b then 1 else 0))) w dr ∧ insM Q (zsA S 19 (zs (zA S 19) (Int32.ofNat p) (if b then 1 else 0))) (sh ++ [b]) fd := by
  obtain ⟨h0, ⟨l1, l2⟩, h2, h3, h4⟩ := h
  rw [zs_nat (by omega)]
  refine ⟨zok_nat (by omega) (by omega), R0.same (S := S) ⟨rfl, rfl, rfl, rfl, rfl⟩ ⟨rfl, rfl, rfl, rfl⟩ hW, ⟨h0, ⟨l1, ?_⟩, h2, ?_, h4⟩⟩
  · show ((zA S 19).set p _).length = 20; rw [List.length_set]; exact l2
  · intro i x hx
    show ((zA S 19).set p _)[i]? = _
    by_cases hi : i < p
    · rw [List.getElem?_append_left (by omega)] at hx
      rw [List.getElem?_set_ne (by omega)]
      exact h3 i x hx
    · have hil := (List.getElem?_eq_some_iff.mp hx).1
      rw [List.length_append, List.length_singleton] at hil
      obtain rfl : i = p := by omega
      rw [List.getElem?_append_right (by omega), hp, Nat.sub_self] at hx
      cases hx
      rw [List.getElem?_set_self (by omega)]
theorem sh_at {p : Nat} {b : Bool} (h : insM Q S (sh ++ [b]) fd) (hp : sh.length = p) (hp20 : p < 20) : gI (zA S 19) (Int32.ofNat p) = some (if b then 1 else 0) := by
  rw [gI_nat (by omega)]
  exact h.2.2.2.1 p b (by rw [List.getElem?_append_right (by omega), hp, Nat.sub_self]; rfl)
theorem R0.z2 {v : Int32} (hW : R0 S w dr) : R0 (zsI S 2 v) w dr := R0.same (S := S) ⟨rfl, rfl, rfl, rfl, rfl⟩ ⟨rfl, rfl, rfl, rfl⟩ hW
theorem f92 {p : Nat} {c : Int32} (hW : R0 S w dr) (h : insM Q S sh fd) (hl : fd.length < 40) : ∃ S', rF_findAll_92 gi ga vl Bs am N k8 (Int32.ofNat p) c S = k8 (Int32.ofNat (p + 1)) S' ∧ R0 S' w dr ∧ insM Q S' sh (fdAdd c p fd) ∧ zI S' 2 = 0 := by
  unfold fdAdd
  rw [rF_findAll_92, yi_add1]
  by_cases h0 : c = 0
  · rw [if_pos h0, if_pos h0]
    exact ⟨_, rfl, hW.z2, h, rfl⟩
  · obtain ⟨S', p1, p2, p3⟩ := note_M (gi := gi) (ga := ga) (vl := vl) (Bs := Bs) (am := am) (N := N) (v1 := c) (v2 := Int32.ofNat p) (v3 := -9) (v4 := 0) (v5 := -9) hW h hl
    rw [if_neg h0, if_neg h0, p1, zbs]
    exact ⟨_, rfl, p2.z2, p3, rfl⟩
theorem f60_no {p : Nat} (hW : R0 S w dr) (h : insM Q S (sh ++ [false]) fd) (hp : sh.length = p) (hp20 : p < 20) : ∃ S', rF_findAll_60 gi ga vl Bs am N k8 (Int32.ofNat p) S = k8 (Int32.ofNat (p + 1)) S' ∧ R0 S' w dr ∧ insM Q S' (sh ++ [false]) fd ∧ zI S' 2 = 0 := by
  have e : gI (zA S 19) (Int32.ofNat p) = some 0 := sh_at h hp hp20
  rw [rF_findAll_60, e, zgs, if_pos rfl, yi_add1]
  exact ⟨_, rfl, hW.z2, h, rfl⟩
theorem f60_yes {p : Nat} {P : yPt} (hF : fMr2 F gi ga vl) (hok : yFok F) (hA : aB En F A Bs dr) (hE : eM En am) (hN : 1000 < N) (hP : F.1[p]? = some P) (hW : R0 S w dr) (h : insM Q S (sh ++ [true]) fd) (hp : sh.length = p) (hl : fd.length < 40) : ∃ S', rF_findAll_60 gi ga vl Bs am N k8 (Int32.ofNat p) S = k8 (Int32.ofNat (p + 1)) S' ∧ R0 S' (if P.1 = 11 then (w, sh ++ [true], fd) else ((fdAns A p P w).2, sh ++ [true], fdAdd (fdAns A p P w).1 p fd) : yI).1 dr ∧ insM Q S' (sh ++ [true]) (if P.1 = 11 then (w, sh ++ [true], fd) else ((fdAns A p P w).2, sh ++ [true], fdAdd (fdAns A p P w).1 p fd) : yI).2.2 ∧ zI S' 2 = 0 := by
  have hok' := hok
  obtain ⟨fe, _, _, hfe, _, hl20, hl12, _, _, hPs⟩ := hok'
  have hpl := (List.getElem?_eq_some_iff.mp hP).1
  obtain ⟨k1, k2, k3, k4, k5, k6, k7, k8', k9, k10, k11, k12, kc⟩ := hPs p P hP
  obtain ⟨g3, g4, _, _⟩ := hF.2.2.2.1 p P hP
  have x2 : gI (ga 2) (Int32.ofNat p) = some P.1 := by rw [gI_nat (by omega)]; exact hF.1.1 p P hP
  have x4 : gI (ga 4) (Int32.ofNat p) = some P.2.2.1 := by rw [gI_nat (by omega)]; exact g4
  have e : gI (zA S 19) (Int32.ofNat p) = some 1 := sh_at h hp (by omega)
  have hd : zI S 1 = dr := hW.rk.1.2.2.2.2.1
  obtain ⟨z, hz1, hz2⟩ := hA p P hP
  have hW1 : R0 (zsI S 2 0) w dr := hW.z2
  have h1 : insM Q (zsI S 2 0) (sh ++ [true]) fd := h
  rw [rF_findAll_60, e, zgs, if_neg (by decide), x2, zgs]
  by_cases k11' : P.1 = 11
  · rw [if_pos k11', if_pos k11', yi_add1]
    exact ⟨_, rfl, hW1, h1, rfl⟩
  · rw [if_neg k11', if_neg k11', r_answer (S := zsI S 2 0) hd hz1, zbs]
    have hk10 : P.1.toInt ≤ 10 := by
      have : P.1.toInt ≠ 11 := fun hh => k11' (by rw [xi32_eq, hh]; rfl)
      omega
    rcases z with _ | o
    · rcases hy : anR A (Int32.ofNat p) with _ | y
      · have ef : fdAns A p P w = (if P.2.2.1 = 1 then 7 else 0, w) := by unfold fdAns; rw [hy]
        rw [ef]
        show ∃ S', (zg (gI (ga 4) (Int32.ofNat p)) _) = _ ∧ _
        rw [x4, zgs]
        rcases k3 with h0 | h1'
        · rw [if_pos h0, if_neg (by rw [h0]; decide)]
          exact f92 hW1 h1 hl
        · rw [if_neg (by rw [h1']; decide), if_pos h1']
          exact f92 hW1 h1 hl
      · rw [hy] at hz2; exact absurd hz2 id
    · rcases hy : anR A (Int32.ofNat p) with _ | y
      · rw [hy] at hz2; exact absurd hz2 id
      · rw [hy] at hz2
        obtain ⟨hc1, hc2⟩ := hz2
        have ef : fdAns A p P w = (jdOne P y, if jdE (jdOne P y) then (w.1 + 1, w.2) else w) := by unfold fdAns; rw [hy]
        rw [ef]
        show ∃ S', (zb (rF_judged gi ga vl Bs am N (Int32.ofNat p) (zsI S 2 0)) _) = _ ∧ _
        rw [r_judged (S := zsI S 2 0) hE hN hF hl20 hP ⟨k1.1, hk10⟩ ⟨k4, k5, k6, k7, k8', k9, k10, k11, k12⟩ hd hz1 hc1 hc2, zbs]
        have s2 : R0 (stM (zsI (zsI S 2 0) 2 0) (jdOne P y)) (if jdE (jdOne P y) then (w.1 + 1, w.2) else w) dr := by
          unfold stM
          by_cases hj : jdE (jdOne P y)
          · rw [if_pos hj, if_pos hj]
            exact R0.fl hW1.z2
          · rw [if_neg hj, if_neg hj]
            exact hW1.z2
        have s3 : insM Q (stM (zsI (zsI S 2 0) 2 0) (jdOne P y)) (sh ++ [true]) fd := by
          unfold stM
          split
          · exact h1
          · exact h1
        exact f92 s2 s3 hl
end RINSP
