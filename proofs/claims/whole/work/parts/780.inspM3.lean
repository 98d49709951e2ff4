/-! FINDINGS: all of the reference's -/
section RINSP2
variable {R Q S : zS} {F : yF} {A : List (Option yO)} {En : List (Int64 × Int32)} {gi : Nat → Int32} {ga : Nat → List Int32} {vl : List Int64} {Bs : List (Option zH)} {am : List Int64} {N : Nat} {cur dr : Int32} {w : yW} {sh : List Bool} {fd : List yFd} {k8 : Int32 → zS → Option (Unit × zS)}
theorem f45 {p : Nat} {P : yPt} {v : Int64} (hF : fMr2 F gi ga vl) (hok : yFok F) (hA : aB En F A Bs dr) (hE : eM En am) (hN : 1000 < N) (hP : F.1[p]? = some P) (hW : R0 S w dr) (h : insM Q S sh fd) (h2 : zI S 2 = 0) (hp : sh.length = p) (hl : fd.length < 40) : ∃ S', rF_findAll_45 gi ga vl Bs am N k8 (Int32.ofNat p) 1 (Int32.ofNat p) (if v = 0 then 0 else 1) S = k8 (Int32.ofNat (p + 1)) S' ∧ R0 S' (if v = 0 then (w, sh ++ [false], fd) else if P.1 = 11 then (w, sh ++ [true], fd) else ((fdAns A p P w).2, sh ++ [true], fdAdd (fdAns A p P w).1 p fd) : yI).1 dr ∧ insM Q S' (if v = 0 then (w, sh ++ [false], fd) else if P.1 = 11 then (w, sh ++ [true], fd) else ((fdAns A p P w).2, sh ++ [true], fdAdd (fdAns A p P w).1 p fd) : yI).2.1 (if v = 0 then (w, sh ++ [false], fd) else if P.1 = 11 then (w, sh ++ [true], fd) else ((fdAns A p P w).2, sh ++ [true], fdAdd (fdAns A p P w).1 p fd) : yI).2.2 ∧ zI S' 2 = 0 := by
  have hok' := hok
  obtain ⟨_, _, _, _, _, hl20, _⟩ := hok'
  have hpl := (List.getElem?_eq_some_iff.mp hP).1
  by_cases hv : v = 0
  · rw [if_pos hv, if_pos hv]
    obtain ⟨s1, s2, s3⟩ := sh_M (b := false) hW h hp (by omega)
    have s1' : zok (zA S 19) (Int32.ofNat p) ∧ ((0 : Int32) = 0 ∨ (0 : Int32) = 1) := ⟨s1, Or.inl rfl⟩
    rw [rF_findAll_45, if_pos s1', if_neg (by decide), if_pos h2]
    exact f60_no s2 s3 hp (by omega)
  · rw [if_neg hv, if_neg hv]
    obtain ⟨s1, s2, s3⟩ := sh_M (b := true) hW h hp (by omega)
    have s1' : zok (zA S 19) (Int32.ofNat p) ∧ ((1 : Int32) = 0 ∨ (1 : Int32) = 1) := ⟨s1, Or.inr rfl⟩
    rw [rF_findAll_45, if_pos s1', if_neg (by decide), if_pos h2]
    obtain ⟨S', a1, a2, a3, a4⟩ := f60_yes (k8 := k8) hF hok hA hE hN hP s2 s3 hp hl
    refine ⟨S', a1, a2, ?_, a4⟩
    by_cases k : P.1 = 11
    · rw [if_pos k] at a3 ⊢; exact a3
    · rw [if_neg k] at a3 ⊢; exact a3
theorem part_M {K p n : Nat} {P : yPt} (hKe : K = 300) (hF : fMr2 F gi ga vl) (hok : yFok F) (hA : aB En F A Bs dr) (hE : eM En am) (hN : 2800 ≤ N) (hP : F.1[p]? = some P) (hW : R0 S w dr) (h : insM Q S sh fd) (hp : sh.length = p) (hl : fd.length < 40) : ∃ S', rF_findAll_8 gi ga vl Bs am N (n + 1) (Int32.ofNat p) S = rF_findAll_8 gi ga vl Bs am N n (Int32.ofNat (p + 1)) S' ∧ R0 S' (ipPart F A En K p P (w, sh, fd)).1 dr ∧ insM Q S' (ipPart F A En K p P (w, sh, fd)).2.1 (ipPart F A En K p P (w, sh, fd)).2.2 ∧ zI S' 2 = 0 := by
  have hok' := hok
  obtain ⟨fe, _, _, hfe, _, hl20, hl12, _, _, hPs⟩ := hok'
  have hpl := (List.getElem?_eq_some_iff.mp hP).1
  obtain ⟨k1, k2, _⟩ := hPs p P hP
  have x3 : gI (ga 3) (Int32.ofNat p) = some P.2.1 := by rw [gI_nat (by omega)]; exact (hF.2.2.2.1 p P hP).1
  rw [rF_findAll_8, if_neg (by rw [hF.2.1.1, yi_nat (by omega), yi_nat (by omega)]; omega), x3, zgs]
  have yes : ∃ S', rF_findAll_32 gi ga vl Bs am N (rF_findAll_8 gi ga vl Bs am N n) (Int32.ofNat p) 1 S = rF_findAll_8 gi ga vl Bs am N n (Int32.ofNat (p + 1)) S' ∧ R0 S' (match cdR F A En K P w with
      | (.inr x, w') => (w', sh ++ [false], fd ++ [(x.1, Int32.ofNat p, -9, 0, -9)])
      | (.inl v, w') => if v = 0 then (w', sh ++ [false], fd) else if P.1 = 11 then (w', sh ++ [true], fd) else ((fdAns A p P w').2, sh ++ [true], fdAdd (fdAns A p P w').1 p fd) : yI).1 dr ∧ insM Q S' (match cdR F A En K P w with
      | (.inr x, w') => (w', sh ++ [false], fd ++ [(x.1, Int32.ofNat p, -9, 0, -9)])
      | (.inl v, w') => if v = 0 then (w', sh ++ [false], fd) else if P.1 = 11 then (w', sh ++ [true], fd) else ((fdAns A p P w').2, sh ++ [true], fdAdd (fdAns A p P w').1 p fd) : yI).2.1 (match cdR F A En K P w with
      | (.inr x, w') => (w', sh ++ [false], fd ++ [(x.1, Int32.ofNat p, -9, 0, -9)])
      | (.inl v, w') => if v = 0 then (w', sh ++ [false], fd) else if P.1 = 11 then (w', sh ++ [true], fd) else ((fdAns A p P w').2, sh ++ [true], fdAdd (fdAns A p P w').1 p fd) : yI).2.2 ∧ zI S' 2 = 0 := by
    have HH := holds_M (K := K) (N := N) hKe hF hok hA hE hN hP hW
    rw [rF_findAll_32, if_neg (by decide)]
    rcases hc : cdR F A En K P w with ⟨v | x, w'⟩
    · rw [hc] at HH
      obtain ⟨S1, e1, e2, e3, e4⟩ := HH
      obtain ⟨S', a1, a2, a3, a4⟩ := f45 (v := v) (k8 := rF_findAll_8 gi ga vl Bs am N n) hF hok hA hE (by omega : 1000 < N) hP e2 (h.fr e3) e4 hp hl
      refine ⟨S', ?_, a2, a3, a4⟩
      rw [e1, zbs]
      by_cases hv : v = 0
      · rw [if_pos hv] at a1 ⊢
        rw [if_pos rfl]; exact a1
      · rw [if_neg hv] at a1 ⊢
        rw [if_neg (by decide)]; exact a1
    · rw [hc] at HH
      obtain ⟨S1, e1, e2, e3, e4, e5, e6⟩ := HH
      obtain ⟨s1, s2, s3⟩ := sh_M (b := false) e2 (h.fr e3) hp (by omega)
      have s1' : zok (zA S1 19) (Int32.ofNat p) ∧ ((0 : Int32) = 0 ∨ (0 : Int32) = 1) := ⟨s1, Or.inl rfl⟩
      obtain ⟨S2, p1, p2, p3⟩ := note_M (gi := gi) (ga := ga) (vl := vl) (Bs := Bs) (am := am) (N := N) (v1 := zI S1 2) (v2 := Int32.ofNat p) (v3 := -9) (v4 := 0) (v5 := zI S1 3) s2 s3 hl
      have p1' : rF_note gi ga vl Bs am N (zI S1 2) (Int32.ofNat p) (-9) 0 (zI S1 3) (zsA S1 19 (zs (zA S1 19) (Int32.ofNat p) 0)) = some ((), S2) := p1
      rw [e1, zbs, if_pos rfl, rF_findAll_45, if_pos s1', if_neg (by decide), if_neg (by rw [e4]; exact e5), p1', zbs]
      rw [e4, e6] at p3
      exact f60_no p2 p3 hp (by omega)
  have sp : ipPart F A En K p P (w, sh, fd) = if ¬ isOp P sh then (w, sh ++ [false], fd) else match cdR F A En K P w with
      | (.inr x, w') => (w', sh ++ [false], fd ++ [(x.1, Int32.ofNat p, -9, 0, -9)])
      | (.inl v, w') => if v = 0 then (w', sh ++ [false], fd) else if P.1 = 11 then (w', sh ++ [true], fd) else ((fdAns A p P w').2, sh ++ [true], fdAdd (fdAns A p P w').1 p fd) := rfl
  rw [sp]
  rcases k2 with hg | ⟨g, hg, hg'⟩
  · rw [if_pos hg, if_neg (nn (Or.inl hg))]
    exact yes
  · have hne : ¬ P.2.1 = -9 := by rw [hg', xi32_eq, yi_nat (by omega), y_m9]; omega
    obtain ⟨b, hb⟩ : ∃ b, sh[g]? = some b := ⟨_, List.getElem?_eq_getElem (by omega)⟩
    have hx := h.2.2.2.1 g b hb
    have hgx : gI (zA S 19) P.2.1 = some (if b then 1 else 0) := by rw [hg', gI_nat (by omega)]; exact hx
    have hgn : P.2.1.toInt.toNat = g := by rw [hg', yi_nat (by omega)]; omega
    rw [if_neg hne, zgs, hgx, zgs]
    cases b
    · rw [if_pos (by rfl), if_pos (by rintro (hh | hh); exact hne hh; rw [hgn, hb] at hh; cases hh)]
      obtain ⟨s1, s2, s3⟩ := sh_M (b := false) hW h hp (by omega)
      have s1' : zok (zA S 19) (Int32.ofNat p) ∧ ((0 : Int32) = 0 ∨ (0 : Int32) = 1) := ⟨s1, Or.inl rfl⟩
      rw [rF_findAll_32, if_pos rfl, rF_findAll_45, if_pos s1', if_pos rfl]
      exact f60_no s2 s3 hp (by omega)
    · rw [if_neg (by decide), if_neg (nn (Or.inr (by rw [hgn]; exact hb)))]
      exact yes
theorem parts_M {K : Nat} (hKe : K = 300) (hF : fMr2 F gi ga vl) (hok : yFok F) (hA : aB En F A Bs dr) (hE : eM En am) (hN : 2800 ≤ N) : ∀ (r pre : List yPt) (n : Nat) (S : zS) (st : yI), F.1 = pre ++ r → r.length < n → R0 S st.1 dr → insM Q S st.2.1 st.2.2 → zI S 2 = 0 → st.2.1.length = pre.length → st.2.2.length ≤ pre.length → ∃ S', rF_findAll_8 gi ga vl Bs am N n (Int32.ofNat pre.length) S = rF_findAll_109 gi ga vl Bs am N N 0 S' ∧ R0 S' (ipParts F A En K pre.length r st).1 dr ∧ insM Q S' (ipParts F A En K pre.length r st).2.1 (ipParts F A En K pre.length r st).2.2 ∧ (ipParts F A En K pre.length r st).2.2.length ≤ F.1.length ∧ zI S' 2 = 0
  | _, _, 0, _, _, _, hn, _, _, _, _, _ => by omega
  | [], pre, n + 1, S, st, hp, _, hW, h, h2, _, hfl => by
    rw [List.append_nil] at hp
    rw [rF_findAll_8, if_pos (by rw [hF.2.1.1, hp]; omega), ipParts]
    exact ⟨S, rfl, hW, h, by rw [hp]; exact hfl, h2⟩
  | P :: r, pre, n + 1, S, st, hp, hn, hW, h, h2, hsl, hfl => by
    have hok' := hok
    obtain ⟨_, _, _, _, _, hl20, _⟩ := hok'
    have hlen : F.1.length = pre.length + (r.length + 1) := by rw [hp, List.length_append, List.length_cons]
    rw [List.length_cons] at hn
    have hP : F.1[pre.length]? = some P := by rw [hp, List.getElem?_append_right (Nat.le_refl _), Nat.sub_self]; rfl
    obtain ⟨S1, e1, e2, e3, e4⟩ := part_M (n := n) hKe hF hok hA hE hN hP hW h hsl (by omega)
    have hst : ((st.1, st.2.1, st.2.2) : yI) = st := rfl
    rw [hst] at e2 e3
    obtain ⟨L1, L2⟩ := ipPart_len (F := F) (A := A) (En := En) (K := K) (p := pre.length) (P := P) (st := st)
    obtain ⟨S', f1, f2, f3, f4, f5⟩ := parts_M hKe hF hok hA hE hN r (pre ++ [P]) n S1 (ipPart F A En K pre.length P st) (by rw [hp]; simp) (by omega) e2 e3 e4 (by rw [L1, List.length_append, List.length_singleton, hsl]) (by rw [List.length_append, List.length_singleton]; omega)
    rw [List.length_append, List.length_singleton] at f1 f2 f3 f4
    refine ⟨S', ?_, ?_, ?_, ?_, f5⟩
    · rw [e1, f1]
    · rw [ipParts]; exact f2
    · rw [ipParts]; exact f3
    · rw [ipParts]; exact f4
theorem f140 {i : Nat} {m c : Int32} {k9 : Int32 → zS → Option (Unit × zS)} (x13 : gI (ga 13) (Int32.ofNat i) = some m) (hW : R0 S w dr) (h : insM Q S sh fd) (hl : fd.length < 40) : ∃ S', rF_findAll_140 gi ga vl Bs am N k9 (Int32.ofNat i) c S = k9 (Int32.ofNat (i + 1)) S' ∧ R0 S' w dr ∧ insM Q S' sh (fd ++ [(c, -9, Int32.ofNat i, m, if zI S 2 = 0 then -9 else zI S 3)]) := by
  rw [rF_findAll_140, x13, zgs, yi_add1]
  by_cases h0 : zI S 2 = 0
  · obtain ⟨S', p1, p2, p3⟩ := note_M (gi := gi) (ga := ga) (vl := vl) (Bs := Bs) (am := am) (N := N) (v1 := c) (v2 := -9) (v3 := Int32.ofNat i) (v4 := m) (v5 := -9) hW h hl
    rw [if_pos h0, if_pos h0, p1, zbs]
    exact ⟨_, rfl, p2.z2, p3⟩
  · obtain ⟨S', p1, p2, p3⟩ := note_M (gi := gi) (ga := ga) (vl := vl) (Bs := Bs) (am := am) (N := N) (v1 := c) (v2 := -9) (v3 := Int32.ofNat i) (v4 := m) (v5 := zI S 3) hW h hl
    rw [if_neg h0, if_neg h0, p1, zbs]
    exact ⟨_, rfl, p2.z2, p3⟩
theorem chk_M {K n : Nat} (hKe : K = 300) (hF : fMr2 F gi ga vl) (hok : yFok F) (hA : aB En F A Bs dr) (hE : eM En am) (hN : 2800 ≤ N) {i : Nat} {c : Int32 × Int32 × Int32} (hP : F.2.2.1[i]? = some c) (hW : R0 S w dr) (h : insM Q S sh fd) (hl : fd.length < 40) : ∃ S', rF_findAll_109 gi ga vl Bs am N (n + 1) (Int32.ofNat i) S = rF_findAll_109 gi ga vl Bs am N n (Int32.ofNat (i + 1)) S' ∧ R0 S' (ipChk F A En K i c (w, sh, fd)).1 dr ∧ insM Q S' (ipChk F A En K i c (w, sh, fd)).2.1 (ipChk F A En K i c (w, sh, fd)).2.2 := by
  have hok' := hok
  obtain ⟨fe, _, _, hfe, hch, hl20, _, hc12, _⟩ := hok'
  obtain ⟨mg, nd, cd⟩ := c
  have hil := (List.getElem?_eq_some_iff.mp hP).1
  obtain ⟨g11, g12⟩ := hF.2.2.2.2 i mg nd cd hP
  obtain ⟨j, e, hj, hx⟩ := hch i mg nd cd hP
  have x13 : gI (ga 13) (Int32.ofNat i) = some mg := by rw [gI_nat (by omega)]; exact g11
  have x14 : gI (ga 14) (Int32.ofNat i) = some nd := by rw [gI_nat (by omega)]; exact g12
  have hW1 : R0 (zsI S 2 0) w dr := hW.z2
  have h1 : insM Q (zsI S 2 0) sh fd := h
  rw [rF_findAll_109, if_neg (by rw [hF.2.1.2, yi_nat (by omega), yi_nat (by omega)]; omega), x14, zgs]
  have RR := R_work0 (gi := gi) (N := N) (m := N / 5) hKe hF.1 hok hA hE (by omega) hfe hj hx (by omega) hW1 rfl
  have sp : ipChk F A En K i (mg, nd, cd) (w, sh, fd) = match evx F A En (figx F A En K 12) K (-9) nd w with
      | (.inr x, w') => (w', sh, fd ++ [(x.1, -9, Int32.ofNat i, mg, x.2)])
      | (.inl v, w') => (w', sh, if v = 0 then fd ++ [(9, -9, Int32.ofNat i, mg, -9)] else fd) := rfl
  rw [sp]
  rcases hv : evx F A En (figx F A En K 12) K (-9) nd w with ⟨v | x, w'⟩
  · rw [hv] at RR
    obtain ⟨S2, r1, r2, r3, r4⟩ := RR
    rw [r1, zbs, if_neg (nn r4), if_pos r4]
    by_cases h0 : v = 0
    · rw [if_neg (nn h0)]
      obtain ⟨S', a1, a2, a3⟩ := f140 (gi := gi) (vl := vl) (Bs := Bs) (am := am) (N := N) (c := 9) (k9 := rF_findAll_109 gi ga vl Bs am N n) x13 r2 (h1.fr r3) hl
      rw [if_pos r4] at a3
      refine ⟨S', a1, a2, ?_⟩
      show insM Q S' sh (if v = 0 then fd ++ [(9, -9, Int32.ofNat i, mg, -9)] else fd)
      rw [if_pos h0]
      exact a3
    · rw [if_pos h0, yi_add1]
      refine ⟨_, rfl, r2.z2, ?_⟩
      show insM Q S2 sh (if v = 0 then fd ++ [(9, -9, Int32.ofNat i, mg, -9)] else fd)
      rw [if_neg h0]
      exact h1.fr r3
  · rw [hv] at RR
    obtain ⟨v, S2, r1, r2, r3, r4, r5, r6⟩ := RR
    have hne : zI S2 2 ≠ 0 := by rw [r4]; exact r5
    rw [r1, zbs, if_pos hne, if_neg hne]
    obtain ⟨S', a1, a2, a3⟩ := f140 (gi := gi) (vl := vl) (Bs := Bs) (am := am) (N := N) (c := zI S2 2) (k9 := rF_findAll_109 gi ga vl Bs am N n) x13 r2 (h1.fr r3) hl
    rw [if_neg hne, r4, r6] at a3
    exact ⟨S', a1, a2, a3⟩
theorem chks_M {K : Nat} (hKe : K = 300) (hF : fMr2 F gi ga vl) (hok : yFok F) (hA : aB En F A Bs dr) (hE : eM En am) (hN : 2800 ≤ N) : ∀ (r pre : List (Int32 × Int32 × Int32)) (n : Nat) (S : zS) (st : yI), F.2.2.1 = pre ++ r → r.length < n → R0 S st.1 dr → insM Q S st.2.1 st.2.2 → st.2.2.length ≤ F.1.length + pre.length → ∃ S', rF_findAll_109 gi ga vl Bs am N n (Int32.ofNat pre.length) S = some ((), S') ∧ R0 S' (ipChks F A En K pre.length r st).1 dr ∧ insM Q S' (ipChks F A En K pre.length r st).2.1 (ipChks F A En K pre.length r st).2.2 ∧ (ipChks F A En K pre.length r st).2.2.length ≤ 32
  | _, _, 0, _, _, _, hn, _, _, _ => by omega
  | [], pre, n + 1, S, st, hp, _, hW, h, hfl => by
    have hok' := hok
    obtain ⟨_, _, _, _, _, hl20, _, hc12, _⟩ := hok'
    rw [List.append_nil] at hp
    rw [rF_findAll_109, if_pos (by rw [hF.2.1.2, hp]; omega), ipChks]
    exact ⟨S, rfl, hW, h, by rw [hp] at hc12; omega⟩
  | c :: r, pre, n + 1, S, st, hp, hn, hW, h, hfl => by
    have hok' := hok
    obtain ⟨_, _, _, _, _, hl20, _, hc12, _⟩ := hok'
    have hlen : F.2.2.1.length = pre.length + (r.length + 1) := by rw [hp, List.length_append, List.length_cons]
    rw [List.length_cons] at hn
    have hP : F.2.2.1[pre.length]? = some c := by rw [hp, List.getElem?_append_right (Nat.le_refl _), Nat.sub_self]; rfl
    obtain ⟨S1, e1, e2, e3⟩ := chk_M (n := n) hKe hF hok hA hE hN hP hW h (by omega)
    have hst : ((st.1, st.2.1, st.2.2) : yI) = st := rfl
    rw [hst] at e2 e3
    have L := ipChk_len (F := F) (A := A) (En := En) (K := K) (i := pre.length) (c := c) (st := st)
    obtain ⟨S', f1, f2, f3, f4⟩ := chks_M hKe hF hok hA hE hN r (pre ++ [c]) n S1 (ipChk F A En K pre.length c st) (by rw [hp]; simp) (by omega) e2 e3 (by rw [List.length_append, List.length_singleton]; omega)
    rw [List.length_append, List.length_singleton] at f1 f2 f3 f4
    refine ⟨S', ?_, ?_, ?_, ?_⟩
    · rw [e1, f1]
    · rw [ipChks]; exact f2
    · rw [ipChks]; exact f3
    · rw [ipChks]; exact f4
theorem begM_29 : ∀ (n i : Nat) (S : zS), 12 < n + i → i ≤ 12 → (zA S 13).length = 12 → (∀ k, k < i → (zA S 13)[k]? = some 0) → ∃ m, rB_begin_12_29 N n (Int32.ofNat i) S = some ((), zsA S 13 m) ∧ m.length = 12 ∧ ∀ k, k < 12 → m[k]? = some 0
  | 0, i, _, h, h2, _, _ => by omega
  | n + 1, i, S, h, hi, hl, hz => by
    rw [rB_begin_12_29]
    by_cases h12 : i = 12
    · subst h12
      rw [if_pos (by decide)]
      exact ⟨zA S 13, by rw [zsA_same rfl], hl, hz⟩
    · rw [if_neg (by rw [yi_nat (by omega)]; omega), if_pos (zok_nat (by omega) (by omega)), zs_nat (by omega), yi_add1]
      obtain ⟨m, e1, e2, e3⟩ := begM_29 n (i + 1) (zsA S 13 ((zA S 13).set i 0)) (by omega) (by omega) (by show ((zA S 13).set i 0).length = 12; rw [List.length_set]; exact hl) (set_rep hl (by omega) hz)
      exact ⟨m, by rw [e1, zsA_twice], e2, e3⟩
/-- the reference between calls: as R0, but for the figure at hand (a fresh one has 0 there) -/
def R9 (S : zS) (w : yW) (dr : Int32) : Prop := ∃ R, Rk R S w (zI S 4) dr 12
theorem R0.out (h : R0 S w dr) : R9 S w dr := by
  obtain ⟨R, ⟨a1, a2, a3, a4, a5, a6⟩, b⟩ := h
  exact ⟨R, ⟨a1, a2, a3, rfl, a5, a6⟩, b⟩
theorem R_begin {d0 : Int32} (hN : 12 < N) (h : R9 S w d0) : ∃ S', rB_begin N dr S = some ((), S') ∧ R0 S' (w0R w.1) dr ∧ frM S S' ∧ zI S' 2 = 0 ∧ zI S' 3 = -9 := by
  obtain ⟨R, ⟨a1, a2, a3, a4, a5, _⟩, ⟨d1, d2, d3, d4⟩, ml, mm⟩ := h
  obtain ⟨m, e1, e2, e3⟩ := begM_29 (N := N) N 0 (zsI (zsI (zsI (zsI (zsI (zsI S 1 dr) 2 0) 3 (-9)) 4 (-9)) 5 0) 6 0) (by omega) (by omega) d1 (fun k hk => absurd hk (by omega))
  refine ⟨_, e1, ⟨S, ⟨a1, rfl, rfl, rfl, rfl, frM.rf⟩, ⟨e2, d2, d3, d4⟩, rfl, ?_⟩, frM.rf, rfl, rfl⟩
  intro i x hi hx
  have : x = none := by
    have h2 : (List.replicate 12 (none : Option yR))[i]? = some x := hx
    rw [List.getElem?_replicate, if_pos hi] at h2
    cases h2; rfl
  subst this
  exact e3 i hi
theorem insp_M {K : Nat} {d0 : Int32} (hKe : K = 300) (hF : fMr2 F gi ga vl) (hok : yFok F) (hA : aB En F A Bs dr) (hE : eM En am) (hN : 2800 ≤ N) (hW : R9 S w d0) (h : insM Q S sh fd) : ∃ S', rF_findAll gi ga vl Bs am N dr S = some ((), S') ∧ R0 S' (inspR F A En K w.1).1 dr ∧ insM Q S' (inspR F A En K w.1).2.1 (inspR F A En K w.1).2.2 ∧ (inspR F A En K w.1).2.2.length ≤ 32 := by
  obtain ⟨S1, e1, e2, e3, e4, _⟩ := R_begin (N := N) (dr := dr) (by omega) hW
  have i1 := insM.fr e3 h
  have i2 : insM Q (zsI S1 11 0) [] [] := by
    obtain ⟨_, l, _, _, o⟩ := i1
    exact ⟨rfl, l, fun i f hf => by simp at hf, fun i b hb => by simp at hb, o⟩
  have e2' : R0 (zsI S1 11 0) (w0R w.1) dr := R0.same (S := S1) ⟨rfl, rfl, rfl, rfl, rfl⟩ ⟨rfl, rfl, rfl, rfl⟩ e2
  have hok' := hok
  obtain ⟨_, _, _, _, _, hl20, _, hc12, _⟩ := hok'
  obtain ⟨S2, f1, f2, f3, f4, f5⟩ := parts_M hKe hF hok hA hE hN F.1 [] N (zsI S1 11 0) (w0R w.1, [], []) rfl (by omega) e2' i2 e4 rfl (by simp)
  obtain ⟨S3, g1, g2, g3, g4⟩ := chks_M hKe hF hok hA hE hN F.2.2.1 [] N S2 (ipParts F A En K 0 F.1 (w0R w.1, [], [])) rfl (by omega) f2 f3 (by simpa using f4)
  refine ⟨S3, ?_, g2, g3, g4⟩
  rw [rF_findAll, e1, zbs]
  exact f1.trans g1
end RINSP2
