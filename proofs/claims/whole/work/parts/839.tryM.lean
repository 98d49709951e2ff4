/-! SHORTEST: fillings tried; the reference -/
section TRYM
variable {X : List Int32} {D1 D3 : List xE} {Fs : List yF} {F : yF} {En : List (Int64 × Int32)} {K : Nat} {fa : Nat} {pl : List Nat}
theorem mk_findAll2 {A : List (Option yO)} {S Q : zS} {w : yW} {sh : List Bool} {fd : List yFd} {uu : Value} {d0 : Int32} {oF : List Int32} {x : Int32} {al mr : List Value} {ja : List Int64} (hKe : K = 300) (q1 : ((238, .inr (0, oF.map Value.int)) : xE) ∈ D1) (q2 : gI oF (Int32.ofNat 30) = some x) (q3 : ((211, .inr (8, al)) : xE) ∈ D1) (q4 : gI al x = some (.ref fa)) (q5 : yFM D1 fa F) (hok : yFok F) (q7 : En.length ≤ 100) (q8 : ((235, .inr (1, (En.map Prod.fst ++ ja).map Value.long)) : xE) ∈ D1) (q9 : ((239, .inr (10, mr)) : xE) ∈ D1) (ql : mr.length = 620) (qh : ∀ (q : Nat) v, mr[q]? = some v → ∃ z, zVM D1 v z) (qr : ∀ (p : Nat) P, F.1[p]? = some P → ∃ v z, mr[600 + p]? = some v ∧ zVM D1 v z ∧ aM En z (anR A (Int32.ofNat p))) (hW : R9 S w d0) (hI : insM Q S sh fd) : yK X 1125 32046 294 [.ref 209, .int (Int32.ofNat 30)] (zD zTF zaF S (w1E uu D1)) 0 0 (fun v D => ∃ S', v = none ∧ D = zD zTF zaF S' (w1E (.ref fa) D1) ∧ R0 S' (inspR F A En K w.1).1 (Int32.ofNat 30) ∧ insM Q S' (inspR F A En K w.1).2.1 (inspR F A En K w.1).2.2 ∧ (inspR F A En K w.1).2.2.length ≤ 32) := by
  have hok' := hok
  obtain ⟨_, _, _, _, _, hl20, _⟩ := hok'
  obtain ⟨p, gi, ga, vl, g1, g2, g3⟩ := q5.han
  obtain ⟨Bs, b1, b2⟩ := ychoose (P := fun i (z : Option zH) => (∃ v, mr[i]? = some v ∧ zVM D1 v z) ∧ ∀ (p : Nat) P, i = 600 + p → F.1[p]? = some P → aM En z (anR A (Int32.ofNat p))) 620 (by
    intro i hi
    by_cases h : ∃ p P, i = 600 + p ∧ F.1[p]? = some P
    · obtain ⟨p, P, h1, h2⟩ := h
      obtain ⟨v, z, c1, c2, c3⟩ := qr p P h2
      refine ⟨z, ⟨v, by rw [h1]; exact c1, c2⟩, ?_⟩
      intro p' P' h3 _
      have : p' = p := by omega
      subst this
      exact c3
    · obtain ⟨v, hv⟩ : ∃ v, mr[i]? = some v := ⟨_, List.getElem?_eq_getElem (by omega)⟩
      obtain ⟨z, hz⟩ := qh i v hv
      refine ⟨z, ⟨v, hv, hz⟩, ?_⟩
      intro p' P' h3 h4
      exact absurd ⟨p', P', h3, h4⟩ h)
  have a2 : aB En F A Bs (Int32.ofNat 30) := by
    intro p P hP
    have hp := (List.getElem?_eq_some_iff.mp hP).1
    obtain ⟨z, hz⟩ : ∃ z, Bs[600 + p]? = some z := ⟨_, List.getElem?_eq_getElem (by omega)⟩
    refine ⟨z, ?_, (b2 _ _ hz).2 p P rfl hP⟩
    rw [show (20 : Int32) * Int32.ofNat 30 + Int32.ofNat p = Int32.ofNat (600 + p) by rw [Int32.ofNat_add]; rfl, gI_nat (by omega)]
    exact hz
  have hE := eM_of (ja := ja) q7
  have sub : D1 ⊆ w1E (.ref fa) D1 := fun e he => List.mem_cons_of_mem _ he
  have a1' : ∀ {j : Int32} {z : Option zH}, gI Bs j = some z → ∃ v, gI mr j = some v ∧ zVM (w1E (.ref fa) D1) v z := by
    intro j z hj
    obtain ⟨j1, j2, j3, j4, j5⟩ := gI_some hj
    obtain ⟨⟨v, c1, c2⟩, _⟩ := b2 _ _ j3
    exact ⟨v, gI_in j1 c1, zVM_mono sub c2⟩
  have m1 : ((209, .inl (14, 46, .ref fa)) : xE) ∈ w1E (.ref fa) D1 := List.mem_cons_self
  obtain ⟨S', e1, e2, e3, e4⟩ := insp_M (N := 2800) (dr := Int32.ofNat 30) hKe g2 hok a2 hE (by omega) hW hI
  refine yK.mono (trF_findAll (D0 := w1E (.ref fa) D1) (Da := w1E uu D1) m1 (sub q8) (fun e he => sub (g1 e he)) (sub q9) a1' (N := 2800) (by omega) (by omega) (fun h => trB_begin q1 q2 q3 q4 h) e1) (Nat.le_refl _) (Nat.le_refl _) ?_
  rintro v D ⟨h1, h2⟩
  exact ⟨S', h1, h2, e2, e3, e4⟩
theorem mk_parts {D0 : List xE} {St : zS} {x : Int32} {al : List Value} (hal : ((211, .inr (8, al)) : xE) ∈ D0) (haf : gI al x = some (.ref fa)) (hF : yFM D0 fa F) (hok : yFok F) (hl : lnT St) : yK X 5 200 336 [.ref 209, .int x] (zD zTT zaT St D0) 0 0 (fun a D => ∃ St', a = some (.int (Int32.ofNat (plF F F.1.length 0).length)) ∧ D = zD zTT zaT St' D0 ∧ plM F St' (plF F F.1.length 0) ∧ lnT St' ∧ (∀ j, zI St' j = zI St j) ∧ ∀ j, j ≠ 5 → j ≠ 6 → zA St' j = zA St j) := by
  obtain ⟨fe, _, _, _, _, hl20, _, _, _, hok9⟩ := id hok
  obtain ⟨p, gi, ga, vl, g1, g2, g3⟩ := hF.han
  obtain ⟨S', a1, a2, a3, a4, a5⟩ := M_parts (N := 21) g2 hok hl20 (by omega) hl
  obtain ⟨fg1, fg2, fg3, fg4, fg5⟩ := gI_some haf
  refine yK.of rfl (yle rfl) (L := [_, _, _, _, _, _]) rfl ?_
  refine xt_pure rfl rfl rfl rfl ?_
  refine xt_getf rfl rfl (xmC 177 rfl) ?_
  refine xt_pure rfl rfl rfl rfl ?_
  refine xt_aald rfl rfl ⟨by decide, rfl⟩ (xmS 10 rfl hal) fg5 (v := .ref fa) (by rw [fg4, fg3]) ?_
  refine xt_pure rfl rfl rfl (L1 := [_, _, _, _, _, _]) rfl ?_
  refine (trT_partsWith g1 (N := 21) (by omega) (by omega) a1).mono (Nat.le_refl _) (Nat.le_refl _) ?_
  rintro a D ⟨h1, h2⟩
  exact ⟨S', h1, h2, a2, a3, a4, a5⟩
/-- the reference's entries in a search -/
abbrev TM (S : zS) (u : Value) (St : zS) (a b c e : xE) (mr : List Value) (ps : List yTg) (D3 : List xE) : List xE := EM S u (zE zaT St 0 zTT ++ (a :: b :: c :: e :: (239, .inr (10, mr)) :: (266, .inr (10, pvl ps)) :: (pD ps ++ D3)))
theorem TM_LM {S St : zS} {u : Value} {a b c e : xE} {mr : List Value} {ps : List yTg} {D3 : List xE} : (TM S u St a b c e mr ps D3).Perm (LM S u a b c e mr ps (zD zTT zaT St D3)) := by
  have h : ∀ (A B C : List xE), (A ++ (B ++ C)).Perm (B ++ (A ++ C)) := fun A B C => by
    rw [← List.append_assoc, ← List.append_assoc]
    exact List.Perm.append_right _ List.perm_append_comm
  refine List.Perm.append_left _ (List.Perm.cons _ ?_)
  have := h (zE zaT St 0 zTT) ([a, b, c, e, (239, .inr (10, mr)), (266, .inr (10, pvl ps))] ++ pD ps) D3
  rw [List.append_assoc, List.append_assoc] at this
  exact this
theorem TM_T {S St : zS} {u : Value} {a b c e : xE} {mr : List Value} {ps : List yTg} {D3 : List xE} : (TM S u St a b c e mr ps D3).Perm (zD zTT zaT St (EM S u (a :: b :: c :: e :: (239, .inr (10, mr)) :: (266, .inr (10, pvl ps)) :: (pD ps ++ D3)))) := by
  have h : ∀ (A B C : List xE), (A ++ (B ++ C)).Perm (B ++ (A ++ C)) := fun A B C => by
    rw [← List.append_assoc, ← List.append_assoc]
    exact List.Perm.append_right _ List.perm_append_comm
  have := h (zE zaF S 0 zTF ++ [(209, .inl (14, 46, u))]) (zE zaT St 0 zTT) (a :: b :: c :: e :: (239, .inr (10, mr)) :: (266, .inr (10, pvl ps)) :: (pD ps ++ D3))
  rw [List.append_assoc, List.append_assoc] at this
  exact this
theorem inTM {S St : zS} {u : Value} {a b c e : xE} {mr : List Value} {ps : List yTg} {D3 : List xE} : D3 ⊆ TM S u St a b c e mr ps D3 := fun _ he => inEM (List.mem_append_right _ (List.mem_cons_of_mem _ (List.mem_cons_of_mem _ (List.mem_cons_of_mem _ (List.mem_cons_of_mem _ (List.mem_cons_of_mem _ (List.mem_cons_of_mem _ (List.mem_append_right _ he))))))))
/-- rows of drafts but for the search's -/
def rw30 (of of' : List Int32) : Prop := of'.length = 31 ∧ ∀ q, q < 30 → of'[q]? = of[q]?
theorem rw30.rf {l : List Int32} (h : l.length = 31) : rw30 l l := ⟨h, fun _ _ => rfl⟩
theorem rw30.tr {a b c : List Int32} (h : rw30 a b) (k : rw30 b c) : rw30 a c := ⟨k.1, fun q hq => (k.2 q hq).trans (h.2 q hq)⟩
theorem rw30.st {l : List Int32} {v : Int32} (h : l.length = 31) : rw30 l (l.set 30 v) := ⟨by rw [List.length_set]; exact h, fun q hq => List.getElem?_set_ne (by omega)⟩
abbrev TMx (S : zS) (u : Value) (St : zS) (of fi rc sg : List Int32) (mr : List Value) (ps : List yTg) (D3 : List xE) : List xE := TM S u St (238, .inr (0, of.map Value.int)) (240, .inr (3, fi.map Value.int)) (241, .inr (0, rc.map Value.int)) (242, .inr (0, sg.map Value.int)) mr ps D3
/-- what a search leaves, in the reference -/
def trM2 (F : yF) (pl : List Nat) (Q : zS) (n0 : Int32) (of fi rc sg : List Int32) (mr : List Value) (r : yTr) (D3 : List xE) (a : Option Value) (D : List xE) : Prop := ∃ St' S' w' u' d0' of' fi' rc' sg' mr' ps' sh' fd', a = some (.int r.1) ∧ D = TMx S' u' St' of' fi' rc' sg' mr' ps' D3 ∧ R9 S' w' d0' ∧ w'.1 = r.2.2.2.1 ∧ insM Q S' sh' fd' ∧ zI St' 0 = n0 ∧ zA St' 9 = r.2.2.1 ∧ zI St' 2 = b32 r.2.2.2.2.1 ∧ zI St' 1 = b32 (!r.2.2.2.2.2) ∧ lnT St' ∧ plM F St' pl ∧ ((r.2.2.2.2.1 || r.2.2.2.2.2) = true → stM2 F St' pl r.2.1.1 r.2.1.2) ∧ (rw30 of of' ∧ rw30 fi fi' ∧ rw30 rc rc' ∧ rw30 sg sg') ∧ mr'.length = 620 ∧ (∀ q, q < 600 → mr'[q]? = mr[q]?) ∧ ps'.length ≤ 9 ∧ (∀ x ∈ ps', tgL x)
theorem stM2.tr {St : zS} {sr cr : List Nat} {v : List Int32} (h : stM2 F St pl sr cr) (hv : v.length = 9) : stM2 F (zsA St 9 v) pl sr cr := by
  obtain ⟨h4, h3, h8, ⟨l5, l6, l7, l8, l9⟩, h5, h7, h8a, hpk, hv2⟩ := h
  exact ⟨h4, h3, h8, ⟨l5, l6, l7, l8, hv⟩, h5, h7, h8a, hpk, hv2⟩
theorem stM2.fl {St : zS} {sr cr : List Nat} {i : Nat} {v : Int32} (h : stM2 F St pl sr cr) (hi : i ≤ 2) : stM2 F (zsI St i v) pl sr cr := by
  obtain ⟨h4, h3, h8, hl, h5, h7, h8a, hpk, hv2⟩ := h
  refine ⟨?_, ?_, h8, hl, h5, h7, h8a, hpk, hv2⟩
  · show zup St.1 i v 4 = _
    rw [zup_ne (by omega)]; exact h4
  · show zup St.1 i v 3 = _
    rw [zup_ne (by omega)]; exact h3
theorem tryM_loop (hKe : K = 300) (hF : yFM D3 fa F) (hok : yFok F) {al : List Value} {tf : Int32} (hal : ((211, .inr (8, al)) : xE) ∈ D3) (haf : gI al tf = some (.ref fa)) (hE : En.length ≤ 100) {ja : List Int64} {js : List Int32} (hAm : ((235, .inr (1, (En.map Prod.fst ++ ja).map Value.long)) : xE) ∈ D3) (hNe : ((209, .inl (14, 19, .int (Int32.ofNat En.length))) : xE) ∈ D3) (hSn : ((236, .inr (0, (En.map Prod.snd ++ js).map Value.int)) : xE) ∈ D3) {wk x : Int32} {Q : zS} (hwk : wk.toInt ≤ 100) : ∀ (n i : Nat) (S St : zS) (w : yW) (u : Value) (d0 : Int32) (of fi rc sg : List Int32) (mr : List Value) (ps : List yTg) (sh : List Bool) (fd : List yFd) (sr cr : List Nat) (l3 : Int32), (i + n : Int) = wk.toInt → R9 S w d0 → insM Q S sh fd → stM2 F St pl sr cr → zI St 0 = tf → zI St 1 = 0 → zI St 2 = 0 → (of.length = 31 ∧ fi.length = 31 ∧ rc.length = 31 ∧ sg.length = 31) → mr.length = 620 → (∀ (q : Nat) v, q < 600 → mr[q]? = some v → ∃ z, zVM D3 v z) → ps.length ≤ 9 → (∀ x ∈ ps, tgL x) → yT X 1150 33000 335 80 [some (.ref 209), some (.int x), some (.int wk), some (.int l3), some (.int (Int32.ofNat i))] [] (TMx S u St of fi rc sg mr ps D3) (4 * (9 - ps.length)) (59 * (9 - ps.length)) (trM2 F pl Q tf of fi rc sg mr (tryR F En K pl n sr cr (zA St 9) w.1) D3)
  | 0, i, S, St, w, u, d0, of, fi, rc, sg, mr, ps, sh, fd, sr, cr, l3, hi, hW, hI, hst, h0, h1, h2, ⟨f1, f2, f3, f4⟩, hm, hh, hp, hx => by
    have ti := yi_nat (i := i) (by omega)
    refine xt_pure rfl rfl rfl rfl ?_
    refine xt_pure rfl rfl rfl rfl ?_
    refine yt_ic rfl rfl (fun _ => ?_) (fun (h : Int32.toInt _ < Int32.toInt _) => ?_)
    · skip
      refine xt_pure rfl rfl rfl (st1 := .int 2 :: _) rfl ?_
      exact xt_iret rfl rfl rfl rfl ⟨St, S, w, u, d0, of, fi, rc, sg, mr, ps, sh, fd, rfl, rfl, hW, rfl, hI, h0, rfl, h2, h1, hst.2.2.2.1, hst.2.2.2.2.1, fun _ => hst, ⟨rw30.rf f1, rw30.rf f2, rw30.rf f3, rw30.rf f4⟩, hm, fun _ _ => rfl, hp, hx⟩
    · rw [ti] at h
      omega
  | n + 1, i, S, St, w, u, d0, of, fi, rc, sg, mr, ps, sh, fd, sr, cr, l3, hi, hW, hI, hst, h0, h1, h2, ⟨f1, f2, f3, f4⟩, hm, hh, hp, hx => by
    have ti := yi_nat (i := i) (by omega)
    have hw0 := hW.fl0.1
    obtain ⟨h4, h3, h8, ⟨l5, l6, l7, l8, l9⟩, hpm, _, _, hpk, hv⟩ := id hst
    have hle := hv.1.le (Nat.zero_le _)
    have tm := yi_nat (i := sr.length) (by omega)
    have tm3 : (Int32.ofNat sr.length).toInt.toNat = sr.length := yi_toNat (by omega)
    have tm4 := yjn (j := Int32.ofNat sr.length) (by rw [tm]; omega)
    obtain ⟨q, hq⟩ : ∃ q, (zA St 9)[sr.length]? = some q := ⟨_, List.getElem?_eq_getElem (by omega)⟩
    refine xt_pure rfl rfl rfl rfl ?_
    refine xt_pure rfl rfl rfl rfl ?_
    refine yt_ic rfl rfl (fun (h : Int32.toInt _ ≤ Int32.toInt _) => ?_) (fun _ => ?_)
    · rw [ti] at h
      omega
    · skip
      refine xt_pure rfl rfl rfl rfl ?_
      refine xt_callV rfl rfl rfl rfl (xmC 176 rfl) ⟨rfl, rfl, yle rfl, yle rfl, yle rfl, yle rfl⟩ (mk_isSpent (fl := zI S 0) (List.mem_of_getElem? (i := 0) rfl)) (c2 := 4 * (9 - ps.length)) (s2 := 59 * (9 - ps.length)) ⟨yle2, yle2⟩ ?_
      rintro _ _ (⟨rfl, hf, rfl⟩ | ⟨rfl, hf, rfl⟩)
      · rw [hw0] at hf
        refine xt_pure rfl rfl rfl rfl ?_
        refine xt_pure rfl rfl rfl (st1 := .int (-3) :: _) rfl ?_
        rw [tryR, if_pos hf]
        exact xt_iret rfl rfl rfl rfl ⟨St, S, w, u, d0, of, fi, rc, sg, mr, ps, sh, fd, rfl, rfl, hW, rfl, hI, h0, rfl, h2, h1, hst.2.2.2.1, hst.2.2.2.2.1, fun _ => hst, ⟨rw30.rf f1, rw30.rf f2, rw30.rf f3, rw30.rf f4⟩, hm, fun _ _ => rfl, hp, hx⟩
      · rw [hw0] at hf
        refine xt_pure rfl rfl rfl rfl ?_
        refine xt_pure rfl rfl rfl rfl ?_
        refine xt_pure rfl rfl rfl (st1 := .int 30 :: _) rfl ?_
        refine yT.perm TM_LM ?_
        have inT : D3 ⊆ zD zTT zaT St D3 := fun _ he => List.mem_append_right _ he
        refine xt_callV rfl rfl rfl rfl (xmC 176 rfl) ⟨rfl, rfl, yle rfl, yle rfl, yle rfl, yle rfl⟩ (mk_laid f1 f2 f3 f4 hm (fun e he => List.mem_append_left _ he) h0 (inT hal) haf (inT hNe) (inT hSn) (hF.mono inT) hok hst hp hx) (c2 := 4 * (9 - max ps.length sr.length)) (s2 := 59 * (9 - max ps.length sr.length)) ⟨by omega, by omega⟩ ?_
        rintro _ _ ⟨mr1, ps1, rfl, rfl, y1, y2, y3, y4, y5⟩
        refine yT.perm (D2 := TMx S u St (of.set 30 tf) (fi.set 30 0) (rc.set 30 (-9)) (sg.set 30 0) mr1 ps1 D3) TM_LM.symm ?_
        have sb3 : D3 ⊆ zE zaT St 0 zTT ++ ((238, .inr (0, (of.set 30 tf).map Value.int)) :: (240, .inr (3, (fi.set 30 0).map Value.int)) :: (241, .inr (0, (rc.set 30 (-9)).map Value.int)) :: (242, .inr (0, (sg.set 30 0).map Value.int)) :: (239, .inr (10, mr1)) :: (266, .inr (10, pvl ps1)) :: (pD ps1 ++ D3)) := fun _ he => List.mem_append_right _ (List.mem_cons_of_mem _ (List.mem_cons_of_mem _ (List.mem_cons_of_mem _ (List.mem_cons_of_mem _ (List.mem_cons_of_mem _ (List.mem_cons_of_mem _ (List.mem_append_right _ he)))))))
        have sbp : ∀ {x : yTg}, x ∈ ps1 → tgE x ⊆ zE zaT St 0 zTT ++ ((238, .inr (0, (of.set 30 tf).map Value.int)) :: (240, .inr (3, (fi.set 30 0).map Value.int)) :: (241, .inr (0, (rc.set 30 (-9)).map Value.int)) :: (242, .inr (0, (sg.set 30 0).map Value.int)) :: (239, .inr (10, mr1)) :: (266, .inr (10, pvl ps1)) :: (pD ps1 ++ D3)) := fun hx _ he => List.mem_append_right _ (List.mem_cons_of_mem _ (List.mem_cons_of_mem _ (List.mem_cons_of_mem _ (List.mem_cons_of_mem _ (List.mem_cons_of_mem _ (List.mem_cons_of_mem _ (List.mem_append_left _ (pD_mem hx he))))))))
        have ho30 : gI (of.set 30 tf) (Int32.ofNat 30) = some tf := by rw [gI_nat (by omega), List.getElem?_set_self (by omega)]
        have hall : ∀ (q : Nat) v, mr1[q]? = some v → ∃ z, zVM (zE zaT St 0 zTT ++ ((238, .inr (0, (of.set 30 tf).map Value.int)) :: (240, .inr (3, (fi.set 30 0).map Value.int)) :: (241, .inr (0, (rc.set 30 (-9)).map Value.int)) :: (242, .inr (0, (sg.set 30 0).map Value.int)) :: (239, .inr (10, mr1)) :: (266, .inr (10, pvl ps1)) :: (pD ps1 ++ D3))) v z := by
          intro q v hv1
          by_cases hq6 : q < 600
          · rw [y4 q hq6] at hv1
            obtain ⟨z, hz⟩ := hh q v hq6 hv1
            exact ⟨z, zVM_mono sb3 hz⟩
          · have hq7 : q < 620 := by
              have := (List.getElem?_eq_some_iff.mp hv1).1
              rw [y1.1] at this
              exact this
            obtain ⟨z, hz⟩ : ∃ z, (layR F pl sr cr)[q - 600]? = some z := ⟨_, List.getElem?_eq_getElem (by rw [y1.2.1]; omega)⟩
            rcases y1.2.2 (q - 600) v z (by omega) (by rw [show 600 + (q - 600) = q by omega]; exact hv1) hz with ⟨_, hvn⟩ | ⟨j, xx, yy, _, hxx, _, _, hvr⟩
            · exact ⟨none, hvn⟩
            · exact ⟨some _, xx.1, hvr, tg_han.mono (sbp (List.mem_of_getElem? hxx))⟩
        have hrow : ∀ (p : Nat) P, F.1[p]? = some P → ∃ v z, mr1[600 + p]? = some v ∧ zVM (zE zaT St 0 zTT ++ ((238, .inr (0, (of.set 30 tf).map Value.int)) :: (240, .inr (3, (fi.set 30 0).map Value.int)) :: (241, .inr (0, (rc.set 30 (-9)).map Value.int)) :: (242, .inr (0, (sg.set 30 0).map Value.int)) :: (239, .inr (10, mr1)) :: (266, .inr (10, pvl ps1)) :: (pD ps1 ++ D3))) v z ∧ aM En z (anR (layR F pl sr cr) (Int32.ofNat p)) := by
          intro p P hP
          obtain ⟨fe, _, _, _, _, hl20, _⟩ := id hok
          have hp20 := (List.getElem?_eq_some_iff.mp hP).1
          obtain ⟨z, hz⟩ : ∃ z, (layR F pl sr cr)[p]? = some z := ⟨_, List.getElem?_eq_getElem (by rw [y1.2.1]; omega)⟩
          obtain ⟨v, hv1⟩ : ∃ v, mr1[600 + p]? = some v := ⟨_, List.getElem?_eq_getElem (by rw [y1.1]; omega)⟩
          have hanR : anR (layR F pl sr cr) (Int32.ofNat p) = z := by rw [anR, gI_nat (by omega), hz]; rfl
          rw [hanR]
          rcases y1.2.2 p v z (by omega) hv1 hz with ⟨rfl, rfl⟩ | ⟨j, xx, yy, _, hxx, hom, rfl, rfl⟩
          · exact ⟨_, none, hv1, rfl, trivial⟩
          · obtain ⟨zz, zz1, zz2⟩ := hom.han
            exact ⟨_, some zz, hv1, ⟨xx.1, rfl, zz1.mono (sbp (List.mem_of_getElem? hxx))⟩, zz2, layR_ok (sr := sr) (cr := cr) hok hpk sr cr hv.1.lt hv.2 p yy hz⟩
        refine xt_pure rfl rfl rfl rfl ?_
        refine xt_pure rfl rfl rfl (st1 := .int 30 :: _) rfl ?_
        refine xt_callV rfl rfl rfl rfl (xmC 176 rfl) ⟨rfl, rfl, yle rfl, yle rfl, yle rfl, yle rfl⟩ (mk_findAll2 hKe (List.mem_append_right _ List.mem_cons_self) ho30 (sb3 hal) haf (hF.mono sb3) hok hE (sb3 hAm) (List.mem_append_right _ (List.mem_of_getElem? (i := 4) rfl)) y1.1 hall hrow hW hI) (c2 := 4 * (9 - max ps.length sr.length)) (s2 := 59 * (9 - max ps.length sr.length)) ⟨yle2, yle2⟩ ?_
        rintro _ _ ⟨S1, rfl, rfl, e1, e2, e3⟩
        refine xt_pure rfl rfl rfl rfl ?_
        refine xt_getf rfl rfl (xmC 214 rfl) ?_
        refine xt_pure rfl rfl rfl rfl ?_
        refine xt_getf rfl rfl (xmD 24 rfl) ?_
        rw [show zI St 3 = _ from h3]
        refine xt_pure rfl rfl rfl rfl ?_
        refine xt_iald rfl rfl (xmD 30 rfl) tm4.1 (v := .int q) (by rw [tm4.2, tm3]; show ((zA St 9).map Value.int)[sr.length]? = _; rw [List.getElem?_map, hq]; rfl) ?_
        refine xt_pure rfl rfl rfl (st1 := .int 1 :: _) rfl ?_
        refine xt_pure rfl rfl rfl rfl ?_
        have htr : trI (zA St 9) sr.length = (zA St 9).set sr.length (q + 1) := by rw [trI, hq]; rfl
        refine yt_ist rfl rfl 30 rfl ⟨by rw [tm]; omega, by rw [tm]; show (sr.length : Int) < (zA St 9).length; omega⟩ (D1 := TMx S1 (.ref fa) (zsA St 9 (trI (zA St 9) sr.length)) (of.set 30 tf) (fi.set 30 0) (rc.set 30 (-9)) (sg.set 30 0) mr1 ps1 D3) (by rw [tm3, htr]; rfl) ?_
        have hst1 := hst.tr (v := trI (zA St 9) sr.length) (by rw [htr, List.length_set]; exact l9)
        have tfd := yi_nat (i := (inspR F (layR F pl sr cr) En K w.1).2.2.length) (by omega)
        have hrws := And.intro (rw30.st (v := tf) f1) (And.intro (rw30.st (v := 0) f2) (And.intro (rw30.st (v := -9) f3) (rw30.st (v := 0) f4)))
        refine xt_pure rfl rfl rfl rfl ?_
        refine xt_getf rfl rfl (xmD 11 rfl) ?_
        rw [show zI S1 11 = _ from e2.1]
        refine yt_if rfl rfl (fun (hz : Int32.ofNat _ ≠ 0) => ?_) (fun (hz : Int32.ofNat _ = 0) => ?_)
        rotate_left
        · have hz : (inspR F (layR F pl sr cr) En K w.1).2.2.length = 0 := by
            have := congrArg Int32.toInt hz
            rw [tfd, show (0 : Int32).toInt = 0 from rfl] at this
            omega
          rw [tryR, if_neg hf, if_pos hz]
          refine xt_pure rfl rfl rfl rfl ?_
          refine xt_pure rfl rfl rfl (st1 := .int 1 :: _) rfl ?_
          refine xt_putf rfl rfl rfl rfl 22 rfl (D1 := TMx S1 (.ref fa) (zsI (zsA St 9 (trI (zA St 9) sr.length)) 1 1) (of.set 30 tf) (fi.set 30 0) (rc.set 30 (-9)) (sg.set 30 0) mr1 ps1 D3) rfl ?_
          refine xt_pure rfl rfl rfl rfl ?_
          refine xt_pure rfl rfl rfl (st1 := .int 1 :: _) rfl ?_
          refine xt_putf rfl rfl rfl rfl 23 rfl (D1 := TMx S1 (.ref fa) (zsI (zsI (zsA St 9 (trI (zA St 9) sr.length)) 1 1) 2 1) (of.set 30 tf) (fi.set 30 0) (rc.set 30 (-9)) (sg.set 30 0) mr1 ps1 D3) rfl ?_
          refine xt_pure rfl rfl rfl (st1 := .int 100 :: _) rfl ?_
          refine xt_pure rfl rfl rfl rfl ?_
          refine xt_getf rfl rfl (xmD 24 rfl) ?_
          rw [show zI (zsI (zsI (zsA St 9 (trI (zA St 9) sr.length)) 1 1) 2 1) 3 = _ from h3]
          refine xt_pure rfl rfl rfl rfl ?_
          have hst3 := (hst1.fl (i := 1) (v := 1) (by omega)).fl (i := 2) (v := 1) (by omega)
          exact xt_iret rfl rfl rfl rfl ⟨_, S1, _, _, _, _, _, _, _, mr1, ps1, _, _, rfl, rfl, e1.out, rfl, e2, h0, rfl, rfl, rfl, hst3.2.2.2.1, hst3.2.2.2.2.1, fun _ => hst3, hrws, y1.1, y4, y2, y3⟩
        · have hz : (inspR F (layR F pl sr cr) En K w.1).2.2.length ≠ 0 := fun h => hz (by rw [h]; rfl)
          rw [tryR, if_neg hf, if_neg hz]
          obtain ⟨pp, gi, ga, vl, g1, g2, g3⟩ := hF.han
          have NXT := M_next (gi := gi) (ga := ga) (N := 21) hok (by omega) hst1
          have sbn : D3 ⊆ EM S1 (.ref fa) ((238, .inr (0, (of.set 30 tf).map Value.int)) :: (240, .inr (3, (fi.set 30 0).map Value.int)) :: (241, .inr (0, (rc.set 30 (-9)).map Value.int)) :: (242, .inr (0, (sg.set 30 0).map Value.int)) :: (239, .inr (10, mr1)) :: (266, .inr (10, pvl ps1)) :: (pD ps1 ++ D3)) := fun _ he => inEM (List.mem_cons_of_mem _ (List.mem_cons_of_mem _ (List.mem_cons_of_mem _ (List.mem_cons_of_mem _ (List.mem_cons_of_mem _ (List.mem_cons_of_mem _ (List.mem_append_right _ he)))))))
          have trn : ∀ {r : Int32} {S2 : zS}, rT_isNext gi ga 21 (zsA St 9 (trI (zA St 9) sr.length)) = some (r, S2) → yK X 100 1000 341 [.ref 209] (zD zTT zaT (zsA St 9 (trI (zA St 9) sr.length)) (EM S1 (.ref fa) ((238, .inr (0, (of.set 30 tf).map Value.int)) :: (240, .inr (3, (fi.set 30 0).map Value.int)) :: (241, .inr (0, (rc.set 30 (-9)).map Value.int)) :: (242, .inr (0, (sg.set 30 0).map Value.int)) :: (239, .inr (10, mr1)) :: (266, .inr (10, pvl ps1)) :: (pD ps1 ++ D3)))) 0 0 (zQi zTT zaT (EM S1 (.ref fa) ((238, .inr (0, (of.set 30 tf).map Value.int)) :: (240, .inr (3, (fi.set 30 0).map Value.int)) :: (241, .inr (0, (rc.set 30 (-9)).map Value.int)) :: (242, .inr (0, (sg.set 30 0).map Value.int)) :: (239, .inr (10, mr1)) :: (266, .inr (10, pvl ps1)) :: (pD ps1 ++ D3))) r S2) := fun h => trT_isNext (fun e he => sbn (g1 e he)) (N := 21) (by omega) (by omega) h
          refine xt_pure rfl rfl rfl rfl ?_
          refine yT.perm TM_T ?_
          rcases ha : advS (mnF F pl) pl.length sr cr with _ | ⟨s', c'⟩
          · rw [ha] at NXT
            obtain ⟨S2, b1, b2, b3, b4, b5⟩ := NXT
            refine xt_callV rfl rfl rfl rfl (xmC 176 rfl) ⟨rfl, rfl, yle rfl, yle rfl, yle rfl, yle rfl⟩ (trn b1) (c2 := 4 * (9 - max ps.length sr.length)) (s2 := 59 * (9 - max ps.length sr.length)) ⟨yle2, yle2⟩ ?_
            rintro _ _ ⟨rfl, rfl⟩
            refine yT.perm (D2 := TMx S1 (.ref fa) S2 (of.set 30 tf) (fi.set 30 0) (rc.set 30 (-9)) (sg.set 30 0) mr1 ps1 D3) TM_T.symm ?_
            refine xt_pure rfl rfl rfl rfl ?_
            refine xt_pure rfl rfl rfl rfl ?_
            refine xt_pure rfl rfl rfl (st1 := .int 1 :: _) rfl ?_
            refine xt_putf rfl rfl rfl rfl 22 rfl (D1 := TMx S1 (.ref fa) (zsI S2 1 1) (of.set 30 tf) (fi.set 30 0) (rc.set 30 (-9)) (sg.set 30 0) mr1 ps1 D3) rfl ?_
            refine xt_pure rfl rfl rfl (st1 := .int 1 :: _) rfl ?_
            exact xt_iret rfl rfl rfl rfl ⟨zsI S2 1 1, S1, _, _, _, _, _, _, _, mr1, ps1, _, _, rfl, rfl, e1.out, rfl, e2, (b4 0 (by omega)).trans h0, b5, (b4 2 (by omega)).trans h2, rfl, b2, b3, (fun h => by cases h), hrws, y1.1, y4, y2, y3⟩
          · rw [ha] at NXT
            obtain ⟨S2, b1, b2, b3, b4⟩ := NXT
            refine xt_callV rfl rfl rfl rfl (xmC 176 rfl) ⟨rfl, rfl, yle rfl, yle rfl, yle rfl, yle rfl⟩ (trn b1) (c2 := 4 * (9 - max ps.length sr.length)) (s2 := 59 * (9 - max ps.length sr.length)) ⟨yle2, yle2⟩ ?_
            rintro _ _ ⟨rfl, rfl⟩
            refine yT.perm (D2 := TMx S1 (.ref fa) S2 (of.set 30 tf) (fi.set 30 0) (rc.set 30 (-9)) (sg.set 30 0) mr1 ps1 D3) TM_T.symm ?_
            refine xt_pure rfl rfl rfl rfl ?_
            refine xt_pure rfl rfl rfl (L1 := [_, _, _, _, some (.int (_ + 1))]) rfl ?_
            refine xt_pure rfl rfl rfl rfl ?_
            rw [yi_add1]
            have hrec := tryM_loop hKe hF hok hal haf hE hAm hNe hSn (x := x) (Q := Q) hwk n (i + 1) S1 S2 _ (.ref fa) _ (of.set 30 tf) (fi.set 30 0) (rc.set 30 (-9)) (sg.set 30 0) mr1 ps1 _ _ s' c' l3 (by omega) e1.out e2 b2 ((b3 0 (by omega)).trans h0) ((b3 1 (by omega)).trans h1) ((b3 2 (by omega)).trans h2) ⟨hrws.1.1, hrws.2.1.1, hrws.2.2.1.1, hrws.2.2.2.1⟩ y1.1 (fun q v hq hv1 => hh q v hq (by rw [← y4 q hq]; exact hv1)) y2 y3
            rw [show zA S2 9 = trI (zA St 9) sr.length from b4] at hrec
            refine hrec.mono ?_ ?_ ?_
            · omega
            · omega
            · rintro a D ⟨St', S', w', u', d0', of', fi', rc', sg', mr', ps', sh', fd', k1, k2, k3, k4, k5, k6, k7, k8, k9, k10, k11, k12, ⟨k13, k14, k15, k16⟩, k17, k18, k19, k20⟩
              exact ⟨St', S', w', u', d0', of', fi', rc', sg', mr', ps', sh', fd', k1, k2, k3, k4, k5, k6, k7, k8, k9, k10, k11, k12, ⟨hrws.1.tr k13, hrws.2.1.tr k14, hrws.2.2.1.tr k15, hrws.2.2.2.tr k16⟩, k17, fun q hq => (k18 q hq).trans (y4 q hq), k19, k20⟩
end TRYM
