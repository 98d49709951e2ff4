/-! SHORTEST: the call, the class -/
section SHORTC
variable {X : List Int32} {D1 : List xE} {Fs : List yF} {En : List (Int64 × Int32)} {K : Nat} {t : List Int32} {x y : Int32}
theorem ck_begin2 {F : yF} {S : zS} {fa : Nat} {fv : Value} {refs : List Value} {sl : List ySl} {D : List xE} (hC : yFC D fa F) (hok : yFok F) (h8 : (plF F F.1.length 0).length ≤ 8) (hl : lnS S) : yK X 5 200 182 [.ref 168, .int x, .ref fa] (LY S refs sl ((168, .inl (8, 2, fv)) :: D)) 0 0 (fun a D' => ∃ S', a = none ∧ D' = LY S' refs sl ((168, .inl (8, 2, .ref fa)) :: D) ∧ stC2 F S' (plF F F.1.length 0) [] [] ∧ zA S' 8 = List.replicate 9 0 ∧ zI S' 0 = x) := by
  obtain ⟨fe, _, _, _, _, hl20, _, _, _, hok9⟩ := id hok
  obtain ⟨pp, gi, ga, g1, g2, g3⟩ := hC.han hok
  obtain ⟨cp, cq, f1, _⟩ := id hC
  refine yK.of rfl (yle rfl) (L := [_, _, _, _]) rfl ?_
  refine xt_pure rfl rfl rfl rfl ?_
  refine xt_pure rfl rfl rfl rfl ?_
  refine xt_putf rfl rfl rfl rfl 0 rfl (D1 := LY (zsI S 0 x) refs sl ((168, .inl (8, 2, fv)) :: D)) rfl ?_
  refine xt_pure rfl rfl rfl rfl ?_
  refine xt_pure rfl rfl rfl rfl ?_
  have e0 : ∀ (Sx : zS) (q : Value), LY Sx refs sl ((168, .inl (8, 2, q)) :: D) = (zE zaS Sx 0 zTS ++ ((173, .inr (7, refs)) :: slD 0 sl)) ++ ((168, .inl (8, 2, q)) :: D) := fun _ _ => LY_app
  have pmA : ∀ (Sx : zS) (q : Value), (LY Sx refs sl ((168, .inl (8, 2, q)) :: D)).Perm ((168, .inl (8, 2, q)) :: LY Sx refs sl D) := by
    intro Sx q
    rw [e0, LY_app]
    exact List.perm_middle
  refine yT.perm (pmA _ _) ?_
  refine xt_putf rfl rfl rfl rfl 0 rfl (D1 := (168, .inl (8, 2, .ref fa)) :: LY (zsI S 0 x) refs sl D) rfl ?_
  refine yT.perm (pmA _ _).symm ?_
  refine xt_pure rfl rfl rfl rfl ?_
  refine xt_pure rfl rfl rfl (st1 := .int 0 :: _) rfl ?_
  refine xt_putf rfl rfl rfl rfl 2 rfl (D1 := LY (zsI (zsI S 0 x) 2 0) refs sl ((168, .inl (8, 2, .ref fa)) :: D)) rfl ?_
  refine xt_pure rfl rfl rfl rfl ?_
  refine xt_pure rfl rfl rfl (st1 := .int 0 :: _) rfl ?_
  refine xt_putf rfl rfl rfl rfl 3 rfl (D1 := LY (zsI (zsI (zsI S 0 x) 2 0) 3 0) refs sl ((168, .inl (8, 2, .ref fa)) :: D)) rfl ?_
  obtain ⟨S', a1, a2, a3, a4⟩ := C_begin2 (N := 21) g2 hl20 (by omega) (S := zsI (zsI (zsI S 0 x) 2 0) 3 0) h8 rfl hl
  have sb : D ⊆ (173, .inr (7, refs)) :: (slD 0 sl ++ ((168, .inl (8, 2, .ref fa)) :: D)) := fun _ he => List.mem_cons_of_mem _ (List.mem_append_right _ (List.mem_cons_of_mem _ he))
  refine (tcS_begin (D0 := (173, .inr (7, refs)) :: (slD 0 sl ++ ((168, .inl (8, 2, .ref fa)) :: D))) (List.mem_cons_of_mem _ (List.mem_append_right _ List.mem_cons_self)) (fun e he => sb (g1 e he)) (N := 21) (by omega) (by omega) a1).mono (Nat.le_refl _) (Nat.le_refl _) ?_
  rintro a D' ⟨h1, h2⟩
  exact ⟨S', h1, h2, a2, a3, a4 0 (by omega) (by omega)⟩
theorem LY_perm {S : zS} {refs : List Value} {sl : List ySl} {A B : List xE} (h : A.Perm B) : (LY S refs sl A).Perm (LY S refs sl B) := by
  rw [LY_app, LY_app]
  exact List.Perm.append_left _ h
theorem EC_cons {Se : zS} {u v : Value} {t : List Int32} {e : xE} {D : List xE} : (EC Se u v t (e :: D)).Perm (e :: EC Se u v t D) := EC_push (P := [e])
theorem ck_formAt2 {D0 : List xE} (sub : D1 ⊆ D0) (hF : yFsC Fs D1) : yK X 0 0 87 [.ref 78, .int x] D0 0 0 (fun w D => (D0 = D ∧ gI Fs x = none ∧ w = some .null) ∨ (D0 = D ∧ ∃ F a, gI Fs x = some F ∧ yFC D1 a F ∧ w = some (.ref a))) := by
  obtain ⟨fa, h1, h2, h3, h4, h5⟩ := hF
  refine yK.of rfl (yle rfl) (L := [_, _]) rfl ?_
  refine xt_pure rfl rfl rfl rfl ?_
  refine yt_if rfl rfl ?_ ?_
  · intro (h6 : Int32.toInt _ < (0 : Int))
    refine xt_pure rfl rfl rfl rfl ?_
    refine xt_pure rfl rfl rfl rfl ?_
    refine xt_aret rfl rfl rfl rfl rfl ?_
    exact Or.inl ⟨rfl, by cases hg : gI Fs x with | none => rfl | some F => have := gI_some hg; omega, rfl⟩
  · intro (h6 : (0 : Int) ≤ Int32.toInt _)
    refine xt_pure rfl rfl rfl rfl ?_
    refine xt_pure rfl rfl rfl rfl ?_
    refine xt_getf rfl rfl (xmS 0 rfl (sub h3)) ?_
    refine yt_ic rfl rfl ?_ ?_
    · intro (h7 : Int32.toInt _ < Int32.toInt _)
      rw [yi_nat (by omega)] at h7
      obtain ⟨F, hF⟩ := gI_iff.mpr (show 0 ≤ x.toInt ∧ x.toInt < Fs.length by omega)
      obtain ⟨g1, g2, g3, g4, g5⟩ := gI_some hF
      obtain ⟨a, ha⟩ : ∃ a, fa[x.toInt.toNat]? = some a := ⟨_, List.getElem?_eq_getElem (by omega)⟩
      refine xt_pure rfl rfl rfl rfl ?_
      refine xt_getf rfl rfl (xmC 117 rfl) ?_
      refine xt_pure rfl rfl rfl rfl ?_
      refine xt_aald rfl rfl ⟨by decide, rfl⟩ (xmS 0 rfl (sub h4)) g5 (v := .ref a) (by rw [g4, List.getElem?_append_left (by simp; omega), List.getElem?_map, ha]; rfl) ?_
      refine xt_aret rfl rfl rfl rfl rfl ?_
      exact Or.inr ⟨rfl, F, a, hF, h5 _ F a g3 ha, rfl⟩
    · intro (h7 : Int32.toInt _ ≤ Int32.toInt _)
      rw [yi_nat (by omega)] at h7
      refine xt_pure rfl rfl rfl rfl ?_
      refine xt_pure rfl rfl rfl rfl ?_
      refine xt_aret rfl rfl rfl rfl rfl ?_
      exact Or.inl ⟨rfl, by cases hg : gI Fs x with | none => rfl | some F => have := gI_some hg; omega, rfl⟩
theorem ck_formAt3 {D0 : List xE} (sub : D1 ⊆ D0) (hF : yFsC Fs D1) : yK X 0 0 87 [.ref 78, .int x] D0 0 0 (fun w D => (D0 = D ∧ gI Fs x = none ∧ w = some .null) ∨ (D0 = D ∧ ∃ F a, gI Fs x = some F ∧ (yFaC Fs D1 x a ∧ yFC D1 a F) ∧ w = some (.ref a))) := by
  obtain ⟨fa, h1, h2, h3, h4, h5⟩ := hF
  refine yK.of rfl (yle rfl) (L := [_, _]) rfl ?_
  refine xt_pure rfl rfl rfl rfl ?_
  refine yt_if rfl rfl ?_ ?_
  · intro (h6 : Int32.toInt _ < (0 : Int))
    refine xt_pure rfl rfl rfl rfl ?_
    refine xt_pure rfl rfl rfl rfl ?_
    refine xt_aret rfl rfl rfl rfl rfl ?_
    exact Or.inl ⟨rfl, by cases hg : gI Fs x with | none => rfl | some F => have := gI_some hg; omega, rfl⟩
  · intro (h6 : (0 : Int) ≤ Int32.toInt _)
    refine xt_pure rfl rfl rfl rfl ?_
    refine xt_pure rfl rfl rfl rfl ?_
    refine xt_getf rfl rfl (xmS 0 rfl (sub h3)) ?_
    refine yt_ic rfl rfl ?_ ?_
    · intro (h7 : Int32.toInt _ < Int32.toInt _)
      rw [yi_nat (by omega)] at h7
      obtain ⟨F, hF⟩ := gI_iff.mpr (show 0 ≤ x.toInt ∧ x.toInt < Fs.length by omega)
      obtain ⟨g1, g2, g3, g4, g5⟩ := gI_some hF
      obtain ⟨a, ha⟩ : ∃ a, fa[x.toInt.toNat]? = some a := ⟨_, List.getElem?_eq_getElem (by omega)⟩
      refine xt_pure rfl rfl rfl rfl ?_
      refine xt_getf rfl rfl (xmC 117 rfl) ?_
      refine xt_pure rfl rfl rfl rfl ?_
      refine xt_aald rfl rfl ⟨by decide, rfl⟩ (xmS 0 rfl (sub h4)) g5 (v := .ref a) (by rw [g4, List.getElem?_append_left (by simp; omega), List.getElem?_map, ha]; rfl) ?_
      refine xt_aret rfl rfl rfl rfl rfl ?_
      exact Or.inr ⟨rfl, F, a, hF, ⟨⟨fa, h1, h4, ha⟩, h5 _ F a g3 ha⟩, rfl⟩
    · intro (h7 : Int32.toInt _ ≤ Int32.toInt _)
      rw [yi_nat (by omega)] at h7
      refine xt_pure rfl rfl rfl rfl ?_
      refine xt_pure rfl rfl rfl rfl ?_
      refine xt_aret rfl rfl rfl rfl rfl ?_
      exact Or.inl ⟨rfl, by cases hg : gI Fs x with | none => rfl | some F => have := gI_some hg; omega, rfl⟩
theorem tryI {D : List xE} {c s : Nat} {Q : Option Value → List xE → Prop} (w : yT X 195 4800 183 2 [some (.ref 168), some (.int y), some (.int (Int32.ofNat 0))] [] D c s Q) : yT X 195 4800 183 0 [some (.ref 168), some (.int y), none] [] D c s Q := by
  refine xt_pure rfl rfl rfl (st1 := .int 0 :: _) rfl ?_
  refine xt_pure rfl rfl rfl (L1 := [_, _, _]) rfl ?_
  exact w
/-- what shortest answers -/
def shT (F : yF) (En : List (Int64 × Int32)) (K : Nat) (x y fn : Int32) (go : Bool) (sr cr : List Nat) (tr : List Int32) (ev : Int32) : yTr := if go = true ∧ fn = x then tryR F En K (plF F F.1.length 0) y.toInt.toNat sr cr tr ev else tryR F En K (plF F F.1.length 0) y.toInt.toNat [] [] (List.replicate 9 0) ev
def QhC (Fs : List yF) (En : List (Int64 × Int32)) (K : Nat) (Q S Se : zS) (w : yW) (u v : Value) (t : List Int32) (refs : List Value) (sl : List ySl) (fv : Value) (x y fn : Int32) (go : Bool) (sr cr : List Nat) (D1 : List xE) (a : Option Value) (D : List xE) : Prop := ((∀ F, gI Fs x = some F → (1 ≤ y.toInt ∧ y.toInt ≤ 100) → 8 < (plF F F.1.length 0).length) ∧ a = some (.int (-1)) ∧ D = (EC Se u v t (LY S refs sl ((168, .inl (8, 2, fv)) :: D1)))) ∨ (∃ F, gI Fs x = some F ∧ (1 ≤ y.toInt ∧ y.toInt ≤ 100) ∧ (plF F F.1.length 0).length ≤ 8 ∧ 10000 ≤ w.1.toInt ∧ a = some (.int (-3)) ∧ D = (EC Se u v t (LY S refs sl ((168, .inl (8, 2, fv)) :: D1)))) ∨ ∃ F fa S0, gI Fs x = some F ∧ (1 ≤ y.toInt ∧ y.toInt ≤ 100) ∧ (plF F F.1.length 0).length ≤ 8 ∧ ¬ 10000 ≤ w.1.toInt ∧ ((yFaC Fs D1 x fa ∨ (go = true ∧ fn = x ∧ fv = .ref fa)) ∧ yFC D1 fa F) ∧ trC2 F (plF F F.1.length 0) Q S0 x (shT F En K x y fn go sr cr (zA S 8) w.1) t ((168, .inl (8, 2, .ref fa)) :: D1) a D
theorem cK_shortest (hKe : K = 300) (hFs : yFsC Fs D1) (hFok : ∀ (i : Nat) F, Fs[i]? = some F → yFok F) (hk : ∀ j, j < 8 → ∀ e ∈ slK j, e ∈ D1) (hE : En.length ≤ 100) (hc0 : ((106, .inl (5, 2, .int (Int32.ofNat En.length))) : xE) ∈ D1) {ja : List Int64} (hc1 : ((107, .inr (1, (En.map Prod.fst ++ ja).map Value.long)) : xE) ∈ D1) {Q S Se : zS} {w : yW} {u v fv : Value} {refs : List Value} {sl : List ySl} {sh : List Bool} {fd : List yFd} {fn : Int32} {go : Bool} {sr cr : List Nat} (hW : W0 Se w) (hI : insC175 Q Se sh fd) (hln : lnS S) (h0 : zI S 0 = fn) (h1 : zI S 1 = b32 go) (hgo : go = true → zI S 2 = 0 ∧ ∃ F fa, gI Fs fn = some F ∧ fv = .ref fa ∧ yFC D1 fa F ∧ stC2 F S (plF F F.1.length 0) sr cr) (hr : refs.length = 20) (hl : sl.length = 8) (hx : ∀ x ∈ sl, x.2.2.length = 8) : yK X 200 5000 180 [.ref 78, .int x, .int y] (EC Se u v t (LY S refs sl ((168, .inl (8, 2, fv)) :: D1))) 0 0 (QhC Fs En K Q S Se w u v t refs sl fv x y fn go sr cr D1) := by
  have inE : D1 ⊆ (EC Se u v t (LY S refs sl ((168, .inl (8, 2, fv)) :: D1))) := fun _ he => inEC (inLY (List.mem_cons_of_mem _ he))
  have hw0 := hW.tell.2.2.2
  refine yK.of rfl (yle rfl) (L := [_, _, _, _]) rfl ?_
  refine xt_pure rfl rfl rfl rfl ?_
  refine xt_pure rfl rfl rfl rfl ?_
  refine xt_callV rfl rfl rfl rfl (xmC 115 rfl) ⟨rfl, rfl, yle rfl, yle rfl, yle rfl, yle rfl⟩ (ck_formAt3 inE hFs) (c2 := 0) (s2 := 0) ⟨yle rfl, yle rfl⟩ ?_
  rintro _ _ (⟨rfl, hg, rfl⟩ | ⟨rfl, F, fa, hg, ⟨hCa, hC⟩, rfl⟩)
  · skip
    refine xt_pure rfl rfl rfl (L1 := [_, _, _, _]) rfl ?_
    refine xt_pure rfl rfl rfl rfl ?_
    refine xt_pure rfl rfl rfl rfl ?_
    refine xt_pure rfl rfl rfl (st1 := .int (-1) :: _) rfl ?_
    exact xt_iret rfl rfl rfl rfl (Or.inl ⟨(fun F h _ => by rw [hg] at h; cases h), rfl, rfl⟩)
  · obtain ⟨g1, g2, g3, g4, g5⟩ := gI_some hg
    have hok := hFok _ F g3
    obtain ⟨fe, _, _, _, _, hl20, _, _, _, hok9⟩ := id hok
    refine xt_pure rfl rfl rfl (L1 := [_, _, _, _]) rfl ?_
    refine xt_pure rfl rfl rfl rfl ?_
    refine xt_pure rfl rfl rfl rfl ?_
    refine xt_pure rfl rfl rfl rfl ?_
    refine xt_pure rfl rfl rfl (st1 := .int 1 :: _) rfl ?_
    refine yt_ic rfl rfl (fun (h : y.toInt < (1 : Int)) => ?_) (fun (hy1 : (1 : Int) ≤ y.toInt) => ?_)
    · skip
      refine xt_pure rfl rfl rfl (st1 := .int (-1) :: _) rfl ?_
      exact xt_iret rfl rfl rfl rfl (Or.inl ⟨(fun F _ h => by omega), rfl, rfl⟩)
    · skip
      refine xt_pure rfl rfl rfl rfl ?_
      refine xt_pure rfl rfl rfl (st1 := .int 100 :: _) rfl ?_
      refine yt_ic rfl rfl (fun (h : (100 : Int) < y.toInt) => ?_) (fun (hy2 : y.toInt ≤ (100 : Int)) => ?_)
      · skip
        refine xt_pure rfl rfl rfl (st1 := .int (-1) :: _) rfl ?_
        exact xt_iret rfl rfl rfl rfl (Or.inl ⟨(fun F _ h => by omega), rfl, rfl⟩)
      · obtain ⟨pp, gi, ga, q1, q2, q3⟩ := hC.han hok
        have hcd : cW_candidateParts gi ga 21 S = some (Int32.ofNat (plF F F.1.length 0).length, S) := by
          have := w_cands (gi := gi) (ga := ga) (N := 21) q2 hl20 F.1.length 0 21 0 S (by omega) (by omega)
          rw [Nat.zero_add] at this
          exact this
        have hpl := plF_len (F := F) F.1.length 0
        have tpl := yi_nat (i := (plF F F.1.length 0).length) (by omega)
        refine xt_pure rfl rfl rfl rfl ?_
        refine xt_getf rfl rfl (xmC 125 rfl) ?_
        refine xt_pure rfl rfl rfl rfl ?_
        refine yT.perm EL_perm ?_
        have sbc : D1 ⊆ (173, .inr (7, refs)) :: (slD 0 sl ++ EC Se u v t ((168, .inl (8, 2, fv)) :: D1)) := fun _ he => List.mem_cons_of_mem _ (List.mem_append_right _ (inEC (List.mem_cons_of_mem _ he)))
        refine xt_callV rfl rfl rfl rfl (xmC 158 rfl) ⟨rfl, rfl, yle rfl, yle rfl, yle rfl, yle rfl⟩ (tcW_candidateParts (D0 := (173, .inr (7, refs)) :: (slD 0 sl ++ EC Se u v t ((168, .inl (8, 2, fv)) :: D1))) (fun e he => sbc (q1 e he)) (N := 21) (fr := 5) (lo := 200) (by omega) (by omega) hcd) (c2 := 0) (s2 := 0) ⟨yle rfl, yle rfl⟩ ?_
        rintro _ _ ⟨rfl, rfl⟩
        refine yT.perm (D2 := (EC Se u v t (LY S refs sl ((168, .inl (8, 2, fv)) :: D1)))) EL_perm.symm ?_
        refine xt_pure rfl rfl rfl (st1 := .int 8 :: _) rfl ?_
        refine yt_ic rfl rfl (fun (h : Int32.toInt _ ≤ (8 : Int)) => ?_) (fun (h : (8 : Int) < Int32.toInt _) => ?_)
        rotate_left
        · rw [tpl] at h
          refine xt_pure rfl rfl rfl (st1 := .int (-1) :: _) rfl ?_
          exact xt_iret rfl rfl rfl rfl (Or.inl ⟨(fun F2 h2 _ => by rw [hg] at h2; injection h2 with h2; subst h2; omega), rfl, rfl⟩)
        · rw [tpl] at h
          have h8 : (plF F F.1.length 0).length ≤ 8 := by omega
          refine xt_pure rfl rfl rfl rfl ?_
          refine xt_getf rfl rfl (xmC 120 rfl) ?_
          refine xt_callV rfl rfl rfl rfl (xmC 142 rfl) ⟨rfl, rfl, yle rfl, yle rfl, yle rfl, yle rfl⟩ (ck_isFull (fl := zI Se 0) (List.mem_of_getElem? (i := 0) rfl)) (c2 := 0) (s2 := 0) ⟨yle rfl, yle rfl⟩ ?_
          rintro _ _ (⟨rfl, hf, rfl⟩ | ⟨rfl, hf, rfl⟩)
          · rw [hw0] at hf
            refine xt_pure rfl rfl rfl rfl ?_
            refine xt_pure rfl rfl rfl (st1 := .int (-3) :: _) rfl ?_
            exact xt_iret rfl rfl rfl rfl (Or.inr (Or.inl ⟨F, hg, ⟨hy1, hy2⟩, h8, hf, rfl, rfl⟩))
          · rw [hw0] at hf
            have again : ¬ (go = true ∧ fn = x) → yT X 200 5000 180 35 [some (.ref 78), some (.int x), some (.int y), some (.ref fa)] [] (EC Se u v t (LY S refs sl ((168, .inl (8, 2, fv)) :: D1))) 0 0 (QhC Fs En K Q S Se w u v t refs sl fv x y fn go sr cr D1) := by
              intro hno
              refine xt_pure rfl rfl rfl rfl ?_
              refine xt_getf rfl rfl (xmC 125 rfl) ?_
              refine xt_pure rfl rfl rfl rfl ?_
              refine xt_pure rfl rfl rfl rfl ?_
              refine yT.perm EL_perm ?_
              refine yT.perm (D2 := LY S refs sl ((168, .inl (8, 2, fv)) :: EC Se u v t D1)) ?_ ?_
              · exact LY_perm EC_cons
              · refine xt_callV rfl rfl rfl rfl (xmC 158 rfl) ⟨rfl, rfl, yle rfl, yle rfl, yle rfl, yle rfl⟩ (ck_begin2 (D := EC Se u v t D1) (hC.mono inEC) hok h8 hln) (c2 := 0) (s2 := 0) ⟨yle rfl, yle rfl⟩ ?_
                rintro _ _ ⟨S1, rfl, rfl, b1, b2, b3⟩
                refine yT.perm (D2 := EC Se u v t (LY S1 refs sl ((168, .inl (8, 2, .ref fa)) :: D1))) ((LY_perm EC_cons).symm.trans EL_perm.symm) ?_
                refine xt_pure rfl rfl rfl rfl ?_
                refine xt_getf rfl rfl (xmC 125 rfl) ?_
                refine xt_pure rfl rfl rfl rfl ?_
                have TL := try_loop (X := X) (t := t) (D1 := (168, .inl (8, 2, .ref fa)) :: D1) hKe List.mem_cons_self (hC.mono (fun _ he => List.mem_cons_of_mem _ he)) hok (fun j hj e he => List.mem_cons_of_mem _ (hk j hj e he)) hE (List.mem_cons_of_mem _ hc0) (List.mem_cons_of_mem _ hc1) (wk := y) (n0 := x) (Q := Q) hy2 y.toInt.toNat 0 S1 Se w u v refs sl sh fd [] [] (by omega) hW hI b1 b3 hr hl hx (Or.inl ⟨by omega, hf⟩)
                rw [b2] at TL
                refine xt_callV rfl rfl rfl rfl (xmC 158 rfl) ⟨rfl, rfl, yle rfl, yle rfl, yle rfl, yle rfl⟩ (yK.of (fr := 195) (lo := 4800) rfl (yle rfl) (L := [_, _, _]) rfl (tryI TL)) (c2 := 0) (s2 := 0) ⟨yle rfl, yle rfl⟩ ?_
                intro a D hT
                have hT2 := hT
                obtain ⟨S', Se', w', u', v', refs', sl', sh', fd', rfl, rfl, _⟩ := hT
                refine xt_iret rfl rfl rfl rfl (Or.inr (Or.inr ⟨F, fa, S1, hg, ⟨hy1, hy2⟩, h8, hf, ⟨.inl hCa, hC⟩, ?_⟩))
                rw [shT, if_neg hno]
                exact hT2
            refine xt_pure rfl rfl rfl rfl ?_
            refine xt_pure rfl rfl rfl rfl ?_
            refine xt_getf rfl rfl (xmC 125 rfl) ?_
            refine xt_getf rfl rfl (xmD 34 rfl) ?_
            rw [show zI S 1 = _ from h1]
            by_cases hgg : go = true
            rotate_left
            · rw [show b32 go = 0 by cases go <;> first | rfl | exact absurd rfl hgg]
              refine xt_pure rfl rfl rfl rfl ?_
              exact again (fun h => hgg h.1)
            · rw [show b32 go = 1 by rw [hgg]; rfl]
              refine xt_pure rfl rfl rfl rfl ?_
              refine xt_pure rfl rfl rfl rfl ?_
              refine xt_getf rfl rfl (xmC 125 rfl) ?_
              refine xt_getf rfl rfl (xmD 33 rfl) ?_
              rw [show zI S 0 = _ from h0]
              refine xt_pure rfl rfl rfl rfl ?_
              refine yt_ic rfl rfl (fun (he : fn = x) => ?_) (fun (he : fn ≠ x) => again (fun h => he h.2))
              obtain ⟨z2, F2, fa2, k1, k2, k3, k4⟩ := hgo hgg
              rw [he, hg] at k1
              injection k1 with k1
              subst k1
              subst k2
              refine xt_pure rfl rfl rfl rfl ?_
              refine xt_getf rfl rfl (xmC 125 rfl) ?_
              refine xt_pure rfl rfl rfl rfl ?_
              have TL := try_loop (X := X) (t := t) (D1 := (168, .inl (8, 2, .ref fa2)) :: D1) hKe List.mem_cons_self (k3.mono (fun _ he => List.mem_cons_of_mem _ he)) hok (fun j hj e he => List.mem_cons_of_mem _ (hk j hj e he)) hE (List.mem_cons_of_mem _ hc0) (List.mem_cons_of_mem _ hc1) (wk := y) (n0 := x) (Q := Q) hy2 y.toInt.toNat 0 S Se w u v refs sl sh fd sr cr (by omega) hW hI k4 (h0.trans he) hr hl hx (Or.inl ⟨by omega, hf⟩)
              refine xt_callV rfl rfl rfl rfl (xmC 158 rfl) ⟨rfl, rfl, yle rfl, yle rfl, yle rfl, yle rfl⟩ (yK.of (fr := 195) (lo := 4800) rfl (yle rfl) (L := [_, _, _]) rfl (tryI TL)) (c2 := 0) (s2 := 0) ⟨yle rfl, yle rfl⟩ ?_
              intro a D hT
              have hT2 := hT
              obtain ⟨S', Se', w', u', v', refs', sl', sh', fd', rfl, rfl, _⟩ := hT
              refine xt_iret rfl rfl rfl rfl (Or.inr (Or.inr ⟨F, fa2, S, hg, ⟨hy1, hy2⟩, h8, hf, ⟨.inr ⟨hgg, he, rfl⟩, k3⟩, ?_⟩))
              rw [shT, if_pos ⟨hgg, he⟩]
              exact hT2
end SHORTC
