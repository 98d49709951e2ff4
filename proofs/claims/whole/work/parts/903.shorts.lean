/-! CALLS OVER BLOCKS: shortest -/
def shG (Fs : List yF) (ev x y : Int32) : Int32 × Option yF := match gI Fs x with
  | none => (-1, none)
  | some F => if ¬ (1 ≤ y.toInt ∧ y.toInt ≤ 100) ∨ 8 < (plF F F.1.length 0).length then (-1, none) else if 10000 ≤ ev.toInt then (-3, none) else (0, some F)
def shV (En : List (Int64 × Int32)) (K : Nat) (ev x y : Int32) (se : ySe) (g : Int32 × Option yF) : Int32 := match g.2 with
  | none => g.1
  | some F => (shT F En K x y se.1 se.2.1 se.2.2.2.1 se.2.2.2.2.1 se.2.2.2.2.2 ev).1
def shS (En : List (Int64 × Int32)) (K : Nat) (ev x y : Int32) (se : ySe) (o : Option yF) : ySe := match o with
  | none => se
  | some F => (x, (shT F En K x y se.1 se.2.1 se.2.2.2.1 se.2.2.2.2.1 se.2.2.2.2.2 ev).2.2.2.2.2, (shT F En K x y se.1 se.2.1 se.2.2.2.1 se.2.2.2.2.1 se.2.2.2.2.2 ev).2.2.2.2.1, (shT F En K x y se.1 se.2.1 se.2.2.2.1 se.2.2.2.2.1 se.2.2.2.2.2 ev).2.1.1, (shT F En K x y se.1 se.2.1 se.2.2.2.1 se.2.2.2.2.1 se.2.2.2.2.2 ev).2.1.2, (shT F En K x y se.1 se.2.1 se.2.2.2.1 se.2.2.2.2.1 se.2.2.2.2.2 ev).2.2.1)
def shE (En : List (Int64 × Int32)) (K : Nat) (ev x y : Int32) (se : ySe) (o : Option yF) : Int32 := match o with
  | none => ev
  | some F => (shT F En K x y se.1 se.2.1 se.2.2.2.1 se.2.2.2.2.1 se.2.2.2.2.2 ev).2.2.2.1
section SHOB
variable {X : List Int32} {N B B2 B3 B4 B5 B6 D Rm : List xE} {Fs : List yF} {Dr : List yD} {En : List (Int64 × Int32)} {K : Nat} {ev x y : Int32} {fd : List yFd} {to : Int32 × Int32 × Int32} {va : Int64} {gv : Nat} {se : ySe}
theorem sh_1 (h : ∀ F, gI Fs x = some F → (1 ≤ y.toInt ∧ y.toInt ≤ 100) → 8 < (plF F F.1.length 0).length) : shG Fs ev x y = (-1, none) := by
  rw [shG]
  rcases hg : gI Fs x with _ | F
  · rfl
  · refine if_pos ?_
    by_cases hy : 1 ≤ y.toInt ∧ y.toInt ≤ 100
    · exact .inr (h F hg hy)
    · exact .inl hy
theorem sh_2 {F : yF} (h : gI Fs x = some F) (h1 : 1 ≤ y.toInt ∧ y.toInt ≤ 100) (h2 : (plF F F.1.length 0).length ≤ 8) : shG Fs ev x y = if 10000 ≤ ev.toInt then (-3, none) else (0, some F) := by
  rw [shG, h]
  refine if_neg ?_
  rintro (hc | hc)
  · exact hc h1
  · omega
/-- it goes on only where nothing was found -/
theorem try_go {F : yF} {pl : List Nat} : ∀ (n : Nat) (sr cr : List Nat) (tr : List Int32) (ev : Int32), (tryR F En K pl n sr cr tr ev).2.2.2.2.2 = true → (tryR F En K pl n sr cr tr ev).2.2.2.2.1 = false
  | 0, _, _, _, _, _ => rfl
  | n + 1, sr, cr, tr, ev, h => by
    rw [tryR] at h ⊢
    by_cases h1 : 10000 ≤ ev.toInt
    · rw [if_pos h1]
    · rw [if_neg h1] at h ⊢
      by_cases h2 : (inspR F (layR F pl sr cr) En K ev).2.2.length = 0
      · rw [if_pos h2] at h
        cases h
      · rw [if_neg h2] at h ⊢
        cases ha : advS (mnF F pl) pl.length sr cr with
        | none =>
          rw [ha] at h
        | some q =>
          rw [ha] at h
          exact try_go n q.1 q.2 _ _ h
theorem shT_go {F : yF} {fn : Int32} {go : Bool} {sr cr : List Nat} {tr : List Int32} (h : (shT F En K x y fn go sr cr tr ev).2.2.2.2.2 = true) : (shT F En K x y fn go sr cr tr ev).2.2.2.2.1 = false := by
  rw [shT] at h ⊢
  by_cases hc : go = true ∧ fn = x
  · rw [if_pos hc] at h ⊢
    exact try_go _ _ _ _ _ h
  · rw [if_neg hc] at h ⊢
    exact try_go _ _ _ _ _ h
theorem oC_short (hKe : K = 300) (hF : pFs Fs) (hgf : se.2.1 = true → se.2.2.1 = false) (hf : cFs Fs N B4) (hE : cLe En B5) (hW : cWk ev fd B) (hT : cTo to B2) (hs : cSe Fs se N B3) (s4 : B4 ⊆ Rm) (s5 : B5 ⊆ Rm) (sN : N ⊆ Rm) : yK X 200 5000 180 [.ref 78, .int x, .int y] (B ++ (B2 ++ (B3 ++ Rm))) 0 0 (fun w D => w = some (.int (shV En K ev x y se (shG Fs ev x y))) ∧ ∃ B' B2' B3', D.Perm (B' ++ (B2' ++ (B3' ++ Rm))) ∧ cWk (shE En K ev x y se (shG Fs ev x y).2) fd B' ∧ cTo to B2' ∧ cSe Fs (shS En K ev x y se (shG Fs ev x y).2) N B3') := by
  have hW0 := hW
  have hs0 := hs
  obtain ⟨S0, w, u, v, sh, sh2, fd2, rfl, w1, rfl, w3, w4⟩ := hW
  obtain rfl : B2 = _ := hT
  obtain ⟨S, refs, sl, fv, rfl, t2, t3, t4, t5, t6, t7, t8, t9, t10, t11⟩ := hs
  obtain ⟨ja, jb, e1, e2, rfl⟩ := hE
  have pm : ∀ {Se S : zS} {u v : Value} {refs : List Value} {sl : List ySl} {fv : Value}, (EC Se u v [to.1, to.1, to.2.1, to.2.2] (LY S refs sl ((168, .inl (8, 2, fv)) :: Rm))).Perm ((zE zaE Se 0 zTE ++ ([(110, .inl (10, 2, u)), (110, .inl (10, 3, v))] : List xE)) ++ ([(125, .inr (0, ([to.1, to.1, to.2.1, to.2.2] : List Int32).map Value.int))] ++ (LY S refs sl [(168, .inl (8, 2, fv))] ++ Rm))) := pq fun φ => by
    simp only [cn_c, cn_a, cn_n, cn_z]
    omega
  refine yK.perm pm.symm ?_
  refine yK.nd fun nd => ?_
  have nd2 : (Rm.map xkey).Nodup := by
    refine nd.sublist (List.Sublist.map _ ?_)
    refine List.Sublist.trans ?_ (List.sublist_append_right _ _)
    refine List.Sublist.trans ?_ (List.sublist_cons_self _ _)
    refine List.Sublist.trans ?_ (List.sublist_cons_self _ _)
    refine List.Sublist.trans ?_ (List.sublist_cons_self _ _)
    refine List.Sublist.trans ?_ (List.sublist_append_right _ _)
    refine List.Sublist.trans ?_ (List.sublist_cons_self _ _)
    refine List.Sublist.trans ?_ (List.sublist_append_right _ _)
    exact List.sublist_cons_self _ _
  refine (cK_shortest (x := x) (y := y) (En := En) (ja := ja) (sr := se.2.2.2.1) (cr := se.2.2.2.2.1) (go := se.2.1) (fn := se.1) (t := [to.1, to.1, to.2.1, to.2.2]) hKe (hf.use s4 sN) hF (fun j hj e he => sN (t11 j hj e he)) (by omega) (s5 (by simp)) (s5 (by simp)) w1 w4 t2 t3 t4 (fun hg => ?_) t8 t9 t10).mono (Nat.le_refl _) (Nat.le_refl _) ?_
  · obtain ⟨F, fa, q1, q2, q3, q4⟩ := t7 (by rw [hg, Bool.or_true])
    refine ⟨by rw [t5, hgf hg]; rfl, F, fa, q1, q2, q3.mono sN, q4⟩
  rintro a D (⟨g1, rfl, rfl⟩ | ⟨F, g1, g2, g3, g4, rfl, rfl⟩ | ⟨F, fa, S1, g1, g2, g3, g4, ⟨g5, -⟩, S', Se', w', u', v', refs', sl', sh', fd', rfl, rfl, k1, k2, k3, k4, k5, k6, k7, k8, k9, k10, k11, k12⟩)
  · rw [sh_1 g1]
    exact ⟨rfl, _, _, _, pm, hW0, rfl, hs0⟩
  · rw [sh_2 g1 g2 g3, if_pos g4]
    exact ⟨rfl, _, _, _, pm, hW0, rfl, hs0⟩
  · rw [sh_2 g1 g2 g3, if_neg g4]
    rw [t6] at k2 k5 k6 k7 k9 ⊢
    have hfa : yFC N fa F := by
      rcases g5 with g5 | ⟨c1, c2, c3⟩
      · exact hf.fa s4 nd2 g1 g5
      · obtain ⟨F2, fa2, q1, q2, q3, q4⟩ := t7 (by rw [c1, Bool.or_true])
        rw [c2, g1] at q1
        injection q1 with q1
        rw [c3] at q2
        injection q2 with q2
        rw [q1, q2]
        exact q3
    exact ⟨rfl, _, _, _, pm, ⟨Se', w', u', v', sh, sh', fd', rfl, k1, k2, ins_118 k3 w3, k3.self⟩, rfl, S', refs', sl', .ref fa, rfl, k8, k4, k7, k6, k5, fun hg => ⟨F, fa, g1, rfl, hfa, k9 hg⟩, k10, k11, k12, t11⟩
end SHOB
