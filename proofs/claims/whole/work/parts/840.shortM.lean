/-! SHORTEST: the call, the reference -/
section SHORTM
variable {X : List Int32} {D3 : List xE} {Fs : List yF} {En : List (Int64 × Int32)} {K : Nat} {x y : Int32}
/-- where the reference's search stands -/
def srM (Fs : List yF) (St : zS) (fn : Int32) (go fd : Bool) (sr cr : List Nat) (tr : List Int32) : Prop := lnT St ∧ zI St 0 = fn ∧ zA St 9 = tr ∧ zI St 2 = b32 fd ∧ ((fn = -9 ∧ go = false ∧ fd = false ∧ zI St 1 = 0) ∨ (fn ≠ -9 ∧ ∃ F, gI Fs fn = some F ∧ zI St 1 = b32 (!go) ∧ plM F St (plF F F.1.length 0) ∧ ((fd || go) = true → stM2 F St (plF F F.1.length 0) sr cr)))
theorem srM.re {St St' : zS} {fn : Int32} {go fd : Bool} {sr cr : List Nat} {tr : List Int32} (h : srM Fs St fn go fd sr cr tr) (hl : lnT St') (hI : ∀ j, zI St' j = zI St j) (hA : ∀ j, j ≠ 5 → j ≠ 6 → zA St' j = zA St j) (hp : fn = -9 ∨ ∃ F, gI Fs fn = some F ∧ plM F St' (plF F F.1.length 0)) : srM Fs St' fn go fd sr cr tr := by
  obtain ⟨h1, h2, h3, h4, h5⟩ := h
  refine ⟨hl, (hI 0).trans h2, (hA 9 (by omega) (by omega)).trans h3, (hI 2).trans h4, ?_⟩
  rcases h5 with ⟨a1, a2, a3, a4⟩ | ⟨a1, F, a2, a3, a4, a5⟩
  · exact Or.inl ⟨a1, a2, a3, (hI 1).trans a4⟩
  · refine Or.inr ⟨a1, F, a2, (hI 1).trans a3, ?_, ?_⟩
    · rcases hp with hp | ⟨F2, p1, p2⟩
      · exact absurd hp a1
      · rw [a2] at p1
        injection p1 with p1
        subst p1
        exact p2
    · intro hg
      obtain ⟨b1, b2, b3, b4, b5, ⟨t7, b6⟩, ⟨t8, b7⟩, b8, b9⟩ := a5 hg
      refine ⟨(hI 4).trans b1, (hI 3).trans b2, b3, hl, ?_, ⟨t7, (hA 7 (by omega) (by omega)).trans b6⟩, ⟨t8, (hA 8 (by omega) (by omega)).trans b7⟩, b8, b9⟩
      rcases hp with hp | ⟨F2, p1, p2⟩
      · exact absurd hp a1
      · rw [a2] at p1
        injection p1 with p1
        subst p1
        exact p2
/-- .. behind fillings tried -/
theorem trM2.sr {F : yF} {Q : zS} {n0 : Int32} {of fi rc sg : List Int32} {mr : List Value} {r : yTr} {a : Option Value} {D : List xE} (hF : gI Fs n0 = some F) (h : trM2 F (plF F F.1.length 0) Q n0 of fi rc sg mr r D3 a D) : ∃ St' S' w' u' d0' of' fi' rc' sg' mr' ps' sh' fd', a = some (.int r.1) ∧ D = TMx S' u' St' of' fi' rc' sg' mr' ps' D3 ∧ R9 S' w' d0' ∧ w'.1 = r.2.2.2.1 ∧ insM Q S' sh' fd' ∧ srM Fs St' n0 r.2.2.2.2.2 r.2.2.2.2.1 r.2.1.1 r.2.1.2 r.2.2.1 ∧ (rw30 of of' ∧ rw30 fi fi' ∧ rw30 rc rc' ∧ rw30 sg sg') ∧ mr'.length = 620 ∧ (∀ q, q < 600 → mr'[q]? = mr[q]?) ∧ ps'.length ≤ 9 ∧ (∀ x ∈ ps', tgL x) := by
  obtain ⟨St', S', w', u', d0', of', fi', rc', sg', mr', ps', sh', fd', k1, k2, k3, k4, k5, k6, k7, k8, k9, k10, k11, k12, k13, k17, k18, k19, k20⟩ := h
  refine ⟨St', S', w', u', d0', of', fi', rc', sg', mr', ps', sh', fd', k1, k2, k3, k4, k5, ⟨k10, k6, k7, k8, Or.inr ⟨?_, F, hF, k9, k11, k12⟩⟩, k13, k17, k18, k19, k20⟩
  rintro rfl
  have := (gI_some hF).1
  exact absurd this (by decide)
def QhM (Fs : List yF) (En : List (Int64 × Int32)) (K : Nat) (Q S : zS) (w : yW) (u : Value) (x y fn : Int32) (go fd : Bool) (sr cr : List Nat) (tr : List Int32) (of fi rc sg : List Int32) (mr : List Value) (ps : List yTg) (D3 : List xE) (a : Option Value) (D : List xE) : Prop := ((∀ F, gI Fs x = some F → (1 ≤ y.toInt ∧ y.toInt ≤ 100) → 8 < (plF F F.1.length 0).length) ∧ a = some (.int (-1)) ∧ ∃ St', D = TMx S u St' of fi rc sg mr ps D3 ∧ srM Fs St' fn go fd sr cr tr) ∨ (∃ F, gI Fs x = some F ∧ (1 ≤ y.toInt ∧ y.toInt ≤ 100) ∧ (plF F F.1.length 0).length ≤ 8 ∧ 10000 ≤ w.1.toInt ∧ a = some (.int (-3)) ∧ ∃ St', D = TMx S u St' of fi rc sg mr ps D3 ∧ srM Fs St' fn go fd sr cr tr) ∨ ∃ F, gI Fs x = some F ∧ (1 ≤ y.toInt ∧ y.toInt ≤ 100) ∧ (plF F F.1.length 0).length ≤ 8 ∧ ¬ 10000 ≤ w.1.toInt ∧ trM2 F (plF F F.1.length 0) Q x of fi rc sg mr (shT F En K x y fn go sr cr tr w.1) D3 a D
theorem zer_loop {fr lo c s : Nat} {S St : zS} {u : Value} {of fi rc sg : List Int32} {mr : List Value} {ps : List yTg} {l1 l2 l3 : Int32} {Q : Option Value → List xE → Prop} (kk : yT X fr lo 335 78 [some (.ref 209), some (.int l1), some (.int l2), some (.int l3), some (.int 9)] [] (TMx S u (zsA St 9 (List.replicate 9 0)) of fi rc sg mr ps D3) c s Q) : ∀ (m i : Nat) (r : List Int32), i + m = 9 → r.length = 9 → yT X fr lo 335 68 [some (.ref 209), some (.int l1), some (.int l2), some (.int l3), some (.int (Int32.ofNat i))] [] (TMx S u (zsA St 9 (List.replicate i 0 ++ r.drop i)) of fi rc sg mr ps D3) c s Q
  | 0, i, r, hi, hr => by
    have e : i = 9 := by omega
    subst e
    rw [List.drop_eq_nil_iff.mpr (by omega), List.append_nil]
    refine xt_pure rfl rfl rfl rfl ?_
    refine xt_pure rfl rfl rfl (st1 := .int 9 :: _) rfl ?_
    refine yt_ic rfl rfl (fun _ => kk) (fun (h : Int32.toInt _ < (9 : Int)) => ?_)
    rw [yi_nat (by omega)] at h
    omega
  | m + 1, i, r, hi, hr => by
    have ti := yi_nat (i := i) (by omega)
    refine xt_pure rfl rfl rfl rfl ?_
    refine xt_pure rfl rfl rfl (st1 := .int 9 :: _) rfl ?_
    refine yt_ic rfl rfl (fun (h : (9 : Int) ≤ Int32.toInt _) => ?_) (fun _ => ?_)
    · rw [ti] at h
      omega
    · skip
      refine xt_pure rfl rfl rfl rfl ?_
      refine xt_getf rfl rfl (xmC 214 rfl) ?_
      refine xt_pure rfl rfl rfl rfl ?_
      refine xt_pure rfl rfl rfl (st1 := .int 0 :: _) rfl ?_
      refine yt_ist rfl rfl 30 rfl ⟨by rw [ti]; omega, by rw [ti]; show (i : Int) < (List.replicate i (0 : Int32) ++ r.drop i).length; rw [List.length_append, List.length_replicate, List.length_drop]; omega⟩ (D1 := TMx S u (zsA St 9 (List.replicate (i + 1) 0 ++ r.drop (i + 1))) of fi rc sg mr ps D3) ?_ ?_
      · rw [yi_toNat (by omega)]
        have e : (List.replicate i (0 : Int32) ++ r.drop i).set i 0 = List.replicate (i + 1) 0 ++ r.drop (i + 1) := by rw [List.drop_eq_getElem_cons (by omega), yrep_set]
        show (TMx S u (zsA St 9 (List.replicate i 0 ++ r.drop i)) of fi rc sg mr ps D3).set 30 (265, .inr (0, ((List.replicate i (0 : Int32) ++ r.drop i).set i 0).map Value.int)) = _
        rw [e]
        rfl
      · refine xt_pure rfl rfl rfl (L1 := [_, _, _, _, some (.int (_ + 1))]) rfl ?_
        refine xt_pure rfl rfl rfl rfl ?_
        rw [yi_add1]
        exact zer_loop kk m (i + 1) r (by omega) hr
theorem mK_shortest (hKe : K = 300) (hFs : yFsM Fs D3) (hFok : ∀ (i : Nat) F, Fs[i]? = some F → yFok F) (hE : En.length ≤ 100) {ja : List Int64} {js : List Int32} (hAm : ((235, .inr (1, (En.map Prod.fst ++ ja).map Value.long)) : xE) ∈ D3) (hNe : ((209, .inl (14, 19, .int (Int32.ofNat En.length))) : xE) ∈ D3) (hSn : ((236, .inr (0, (En.map Prod.snd ++ js).map Value.int)) : xE) ∈ D3) {Q S St : zS} {w : yW} {u : Value} {d0 fn : Int32} {go fd : Bool} {sr cr : List Nat} {tr : List Int32} {of fi rc sg : List Int32} {mr : List Value} {ps : List yTg} {sh : List Bool} {fnd : List yFd} (hW : R9 S w d0) (hI : insM Q S sh fnd) (hsr : srM Fs St fn go fd sr cr tr) (hgf : go = true → fd = false) (hf4 : of.length = 31 ∧ fi.length = 31 ∧ rc.length = 31 ∧ sg.length = 31) (hm : mr.length = 620) (hh : ∀ (q : Nat) v, q < 600 → mr[q]? = some v → ∃ z, zVM D3 v z) (hp : ps.length ≤ 9) (hx : ∀ x ∈ ps, tgL x) : yK X 1200 34000 335 [.ref 209, .int x, .int y] (TMx S u St of fi rc sg mr ps D3) (4 * (9 - ps.length)) (59 * (9 - ps.length)) (QhM Fs En K Q S w u x y fn go fd sr cr tr of fi rc sg mr ps D3) := by
  obtain ⟨fs, f1, f2, f3, f4, f5⟩ := hFs
  have hw0 := hW.fl0.1
  have adr : ∀ {z : Int32} {F : yF}, gI Fs z = some F → ∃ fa, gI (fs.map Value.ref ++ List.replicate (10 - Fs.length) Value.null) z = some (.ref fa) ∧ yFM D3 fa F ∧ yFok F := by
    intro z F hz
    obtain ⟨g1, g2, g3, g4, g5⟩ := gI_some hz
    obtain ⟨fa, hfa⟩ := yfa g3 f1
    obtain ⟨_, nm2⟩ := yform g3 hfa f1 f2
    rw [yi_id g1, g4] at nm2
    exact ⟨fa, gI_in g1 nm2, f5 _ F fa g3 hfa, hFok _ F g3⟩
  have sbT : D3 ⊆ EM S u ((238, .inr (0, of.map Value.int)) :: (240, .inr (3, fi.map Value.int)) :: (241, .inr (0, rc.map Value.int)) :: (242, .inr (0, sg.map Value.int)) :: (239, .inr (10, mr)) :: (266, .inr (10, pvl ps)) :: (pD ps ++ D3)) := fun _ he => inEM (List.mem_cons_of_mem _ (List.mem_cons_of_mem _ (List.mem_cons_of_mem _ (List.mem_cons_of_mem _ (List.mem_cons_of_mem _ (List.mem_cons_of_mem _ (List.mem_append_right _ he)))))))
  refine yK.of rfl (yle rfl) (L := [_, _, _, _, _]) rfl ?_
  refine xt_pure rfl rfl rfl rfl ?_
  refine xt_pure rfl rfl rfl rfl ?_
  refine xt_callV rfl rfl rfl rfl (xmC 176 rfl) ⟨rfl, rfl, yle rfl, yle rfl, yle rfl, yle rfl⟩ (mk_isForm (n := Fs.length) (by omega) (inTM f3)) (c2 := 4 * (9 - ps.length)) (s2 := 59 * (9 - ps.length)) ⟨yle2, yle2⟩ ?_
  rintro _ _ (⟨rfl, hy, rfl⟩ | ⟨rfl, hy, rfl⟩)
  rotate_left
  · skip
    refine xt_pure rfl rfl rfl rfl ?_
    refine xt_pure rfl rfl rfl (st1 := .int (-1) :: _) rfl ?_
    exact xt_iret rfl rfl rfl rfl (Or.inl ⟨(fun F h _ => by rw [gI_out (by omega)] at h; cases h), rfl, St, rfl, hsr⟩)
  · obtain ⟨F, hF⟩ := (gI_iff (l := Fs)).mpr hy
    obtain ⟨fa, haf, hFa, hok⟩ := adr hF
    have hpl := plF_len (F := F) F.1.length 0
    obtain ⟨fe, _, _, _, _, hl20, _⟩ := id hok
    have tpl := yi_nat (i := (plF F F.1.length 0).length) (by omega)
    refine xt_pure rfl rfl rfl rfl ?_
    refine xt_pure rfl rfl rfl rfl ?_
    refine xt_pure rfl rfl rfl rfl ?_
    refine xt_pure rfl rfl rfl (st1 := .long 1 :: _) rfl ?_
    refine xt_pure rfl rfl rfl (st1 := .long 100 :: _) rfl ?_
    refine xt_callS rfl rfl (by decide) rfl ⟨rfl, yle rfl, yle rfl, yle rfl, yle rfl⟩ mk_in (c2 := 4 * (9 - ps.length)) (s2 := 59 * (9 - ps.length)) ⟨yle2, yle2⟩ ?_
    rintro _ _ (⟨rfl, hy2, rfl⟩ | ⟨rfl, hy2, rfl⟩)
    rotate_left
    · rw [y6432, show (1 : Int64).toInt = 1 from rfl, show (100 : Int64).toInt = 100 from rfl] at hy2
      refine xt_pure rfl rfl rfl rfl ?_
      refine xt_pure rfl rfl rfl (st1 := .int (-1) :: _) rfl ?_
      exact xt_iret rfl rfl rfl rfl (Or.inl ⟨fun F _ h => absurd h hy2, rfl, St, rfl, hsr⟩)
    · rw [y6432, show (1 : Int64).toInt = 1 from rfl, show (100 : Int64).toInt = 100 from rfl] at hy2
      refine xt_pure rfl rfl rfl rfl ?_
      refine xt_pure rfl rfl rfl rfl ?_
      refine xt_pure rfl rfl rfl rfl ?_
      refine yT.perm TM_T ?_
      refine xt_callV rfl rfl rfl rfl (xmC 176 rfl) ⟨rfl, rfl, yle rfl, yle rfl, yle rfl, yle rfl⟩ (mk_parts (sbT f4) haf (hFa.mono sbT) hok hsr.1) (c2 := 4 * (9 - ps.length)) (s2 := 59 * (9 - ps.length)) ⟨yle2, yle2⟩ ?_
      rintro _ _ ⟨St1, rfl, rfl, p1, p2, p3, p4⟩
      refine yT.perm (D2 := TMx S u St1 of fi rc sg mr ps D3) TM_T.symm ?_
      have hfn1 : zI St1 0 = fn := (p3 0).trans hsr.2.1
      refine xt_pure rfl rfl rfl (L1 := [_, _, _, _, _]) rfl ?_
      refine xt_pure rfl rfl rfl rfl ?_
      refine xt_pure rfl rfl rfl (st1 := .int 8 :: _) rfl ?_
      refine yt_ic rfl rfl (fun (h8 : Int32.toInt _ ≤ (8 : Int)) => ?_) (fun (h8 : (8 : Int) < Int32.toInt _) => ?_)
      rotate_left
      · rw [tpl] at h8
        refine xt_pure rfl rfl rfl rfl ?_
        refine xt_getf rfl rfl (xmD 21 rfl) ?_
        rw [show zI St1 0 = _ from hfn1]
        refine xt_pure rfl rfl rfl (st1 := .int (-9) :: _) rfl ?_
        refine yt_ic rfl rfl (fun (e9 : fn = -9) => ?_) (fun (e9 : fn ≠ -9) => ?_)
        · skip
          refine xt_pure rfl rfl rfl (st1 := .int (-1) :: _) rfl ?_
          exact xt_iret rfl rfl rfl rfl (Or.inl ⟨(fun F3 h3 _ => by rw [hF] at h3; injection h3 with h3; subst h3; omega), rfl, St1, rfl, hsr.re p2 p3 p4 (Or.inl e9)⟩)
        · obtain ⟨F2, hF2⟩ : ∃ F2, gI Fs fn = some F2 := by
            rcases hsr.2.2.2.2 with ⟨a1, _⟩ | ⟨_, F2, a2, _⟩
            · exact absurd a1 e9
            · exact ⟨F2, a2⟩
          obtain ⟨fa2, haf2, hFa2, hok2⟩ := adr hF2
          refine xt_pure rfl rfl rfl rfl ?_
          refine xt_pure rfl rfl rfl rfl ?_
          refine xt_getf rfl rfl (xmD 21 rfl) ?_
          rw [show zI St1 0 = _ from hfn1]
          refine yT.perm TM_T ?_
          refine xt_callV rfl rfl rfl rfl (xmC 176 rfl) ⟨rfl, rfl, yle rfl, yle rfl, yle rfl, yle rfl⟩ (mk_parts (sbT f4) haf2 (hFa2.mono sbT) hok2 p2) (c2 := 4 * (9 - ps.length)) (s2 := 59 * (9 - ps.length)) ⟨yle2, yle2⟩ ?_
          rintro _ _ ⟨St2, rfl, rfl, r1, r2, r3, r4⟩
          refine yT.perm (D2 := TMx S u St2 of fi rc sg mr ps D3) TM_T.symm ?_
          refine xt_pure rfl rfl rfl rfl ?_
          refine xt_pure rfl rfl rfl (st1 := .int (-1) :: _) rfl ?_
          exact xt_iret rfl rfl rfl rfl (Or.inl ⟨(fun F3 h3 _ => by rw [hF] at h3; injection h3 with h3; subst h3; omega), rfl, St2, rfl, hsr.re r2 (fun j => (r3 j).trans (p3 j)) (fun j h5 h6 => (r4 j h5 h6).trans (p4 j h5 h6)) (Or.inr ⟨F2, hF2, r1⟩)⟩)
      · rw [tpl] at h8
        have h8 : (plF F F.1.length 0).length ≤ 8 := by omega
        refine xt_pure rfl rfl rfl rfl ?_
        refine xt_callV rfl rfl rfl rfl (xmC 176 rfl) ⟨rfl, rfl, yle rfl, yle rfl, yle rfl, yle rfl⟩ (mk_isSpent (fl := zI S 0) (List.mem_of_getElem? (i := 0) rfl)) (c2 := 4 * (9 - ps.length)) (s2 := 59 * (9 - ps.length)) ⟨yle2, yle2⟩ ?_
        rintro _ _ (⟨rfl, hf, rfl⟩ | ⟨rfl, hf, rfl⟩)
        · rw [hw0] at hf
          refine xt_pure rfl rfl rfl rfl ?_
          refine xt_pure rfl rfl rfl rfl ?_
          refine xt_getf rfl rfl (xmD 21 rfl) ?_
          rw [show zI St1 0 = _ from hfn1]
          refine xt_pure rfl rfl rfl (st1 := .int (-9) :: _) rfl ?_
          refine yt_ic rfl rfl (fun (e9 : fn = -9) => ?_) (fun (e9 : fn ≠ -9) => ?_)
          · skip
            refine xt_pure rfl rfl rfl (st1 := .int (-3) :: _) rfl ?_
            exact xt_iret rfl rfl rfl rfl (Or.inr (Or.inl ⟨F, hF, hy2, h8, hf, rfl, St1, rfl, hsr.re p2 p3 p4 (Or.inl e9)⟩))
          · obtain ⟨F2, hF2⟩ : ∃ F2, gI Fs fn = some F2 := by
              rcases hsr.2.2.2.2 with ⟨a1, _⟩ | ⟨_, F2, a2, _⟩
              · exact absurd a1 e9
              · exact ⟨F2, a2⟩
            obtain ⟨fa2, haf2, hFa2, hok2⟩ := adr hF2
            refine xt_pure rfl rfl rfl rfl ?_
            refine xt_pure rfl rfl rfl rfl ?_
            refine xt_getf rfl rfl (xmD 21 rfl) ?_
            rw [show zI St1 0 = _ from hfn1]
            refine yT.perm TM_T ?_
            refine xt_callV rfl rfl rfl rfl (xmC 176 rfl) ⟨rfl, rfl, yle rfl, yle rfl, yle rfl, yle rfl⟩ (mk_parts (sbT f4) haf2 (hFa2.mono sbT) hok2 p2) (c2 := 4 * (9 - ps.length)) (s2 := 59 * (9 - ps.length)) ⟨yle2, yle2⟩ ?_
            rintro _ _ ⟨St2, rfl, rfl, r1, r2, r3, r4⟩
            refine yT.perm (D2 := TMx S u St2 of fi rc sg mr ps D3) TM_T.symm ?_
            refine xt_pure rfl rfl rfl rfl ?_
            refine xt_pure rfl rfl rfl (st1 := .int (-3) :: _) rfl ?_
            exact xt_iret rfl rfl rfl rfl (Or.inr (Or.inl ⟨F, hF, hy2, h8, hf, rfl, St2, rfl, hsr.re r2 (fun j => (r3 j).trans (p3 j)) (fun j h5 h6 => (r4 j h5 h6).trans (p4 j h5 h6)) (Or.inr ⟨F2, hF2, r1⟩)⟩))
        · rw [hw0] at hf
          have ln1 := p2
          obtain ⟨m5, m6, m7, m8, m9⟩ := p2
          have again : ¬ (go = true ∧ fn = x) → ∀ l4 : Option Value, yT X 1200 34000 335 51 [some (.ref 209), some (.int x), some (.int y), some (.int (Int32.ofNat (plF F F.1.length 0).length)), l4] [] (TMx S u St1 of fi rc sg mr ps D3) (4 * (9 - ps.length)) (59 * (9 - ps.length)) (QhM Fs En K Q S w u x y fn go fd sr cr tr of fi rc sg mr ps D3) := by
            intro hno l4
            refine xt_pure rfl rfl rfl rfl ?_
            refine xt_pure rfl rfl rfl rfl ?_
            refine xt_putf rfl rfl rfl rfl 21 rfl (D1 := TMx S u (zsI St1 0 x) of fi rc sg mr ps D3) rfl ?_
            refine xt_pure rfl rfl rfl rfl ?_
            refine xt_pure rfl rfl rfl (st1 := .int 0 :: _) rfl ?_
            refine xt_putf rfl rfl rfl rfl 22 rfl (D1 := TMx S u (zsI (zsI St1 0 x) 1 0) of fi rc sg mr ps D3) rfl ?_
            refine xt_pure rfl rfl rfl rfl ?_
            refine xt_pure rfl rfl rfl (st1 := .int 0 :: _) rfl ?_
            refine xt_putf rfl rfl rfl rfl 23 rfl (D1 := TMx S u (zsI (zsI (zsI St1 0 x) 1 0) 2 0) of fi rc sg mr ps D3) rfl ?_
            refine xt_pure rfl rfl rfl rfl ?_
            refine xt_pure rfl rfl rfl (st1 := .int 0 :: _) rfl ?_
            refine xt_putf rfl rfl rfl rfl 24 rfl (D1 := TMx S u (zsI (zsI (zsI (zsI St1 0 x) 1 0) 2 0) 3 0) of fi rc sg mr ps D3) rfl ?_
            refine xt_pure rfl rfl rfl rfl ?_
            refine xt_pure rfl rfl rfl rfl ?_
            refine xt_putf rfl rfl rfl rfl 25 rfl (D1 := TMx S u (zsI (zsI (zsI (zsI (zsI St1 0 x) 1 0) 2 0) 3 0) 4 (Int32.ofNat (plF F F.1.length 0).length)) of fi rc sg mr ps D3) rfl ?_
            refine xt_pure rfl rfl rfl (st1 := .int 0 :: _) rfl ?_
            refine xt_pure rfl rfl rfl (L1 := [_, _, _, _, _]) rfl ?_
            refine zer_loop (St := zsI (zsI (zsI (zsI (zsI St1 0 x) 1 0) 2 0) 3 0) 4 (Int32.ofNat (plF F F.1.length 0).length)) ?_ 9 0 (zA St1 9) (by omega) m9
            refine xt_pure rfl rfl rfl (st1 := .int 0 :: _) rfl ?_
            refine xt_pure rfl rfl rfl (L1 := [_, _, _, _, _]) rfl ?_
            have hst0 : stM2 F (zsA (zsI (zsI (zsI (zsI (zsI St1 0 x) 1 0) 2 0) 3 0) 4 (Int32.ofNat (plF F F.1.length 0).length)) 9 (List.replicate 9 0)) (plF F F.1.length 0) [] [] := ⟨rfl, rfl, h8, ⟨m5, m6, m7, m8, rfl⟩, p1, ⟨zA St1 7, rfl⟩, ⟨zA St1 8, rfl⟩, plF_ok _ _, trivial, trivial⟩
            have TL := tryM_loop (X := X) (x := x) (wk := y) (Q := Q) hKe hFa hok f4 haf hE hAm hNe hSn hy2.2 y.toInt.toNat 0 S _ w u d0 of fi rc sg mr ps sh fnd [] [] (Int32.ofNat (plF F F.1.length 0).length) (by omega) hW hI hst0 rfl rfl rfl hf4 hm hh hp hx
            refine (TL.up (by omega) (by omega)).mono (Nat.le_refl _) (Nat.le_refl _) ?_
            intro a D hT
            refine Or.inr (Or.inr ⟨F, hF, hy2, h8, hf, ?_⟩)
            rw [shT, if_neg hno]
            exact hT
          refine xt_pure rfl rfl rfl rfl ?_
          refine xt_pure rfl rfl rfl rfl ?_
          refine xt_getf rfl rfl (xmD 21 rfl) ?_
          rw [show zI St1 0 = _ from hfn1]
          refine xt_pure rfl rfl rfl rfl ?_
          refine yt_ic rfl rfl (fun (he : fn ≠ x) => again (fun h => he h.2) _) (fun (he : fn = x) => ?_)
          have hn9 : fn ≠ -9 := by
            rintro rfl
            rw [← he] at hF
            exact absurd (gI_some hF).1 (by decide)
          obtain ⟨q1, q2, q3, q4, q5⟩ := hsr
          rcases q5 with ⟨a1, _⟩ | ⟨_, F2, a2, a3, a4, a5⟩
          · exact absurd a1 hn9
          · rw [he, hF] at a2
            injection a2 with a2
            subst a2
            refine xt_pure rfl rfl rfl rfl ?_
            refine xt_getf rfl rfl (xmD 22 rfl) ?_
            rw [show zI St1 1 = _ from (p3 1).trans a3]
            by_cases hgg : go = true
            rotate_left
            · rw [show b32 (!go) = 1 by cases go <;> first | rfl | exact absurd rfl hgg]
              refine xt_pure rfl rfl rfl rfl ?_
              exact again (fun h => hgg h.1) _
            · rw [show b32 (!go) = 0 by rw [hgg]; rfl]
              refine xt_pure rfl rfl rfl rfl ?_
              refine xt_pure rfl rfl rfl (st1 := .int 0 :: _) rfl ?_
              refine xt_pure rfl rfl rfl (L1 := [_, _, _, _, _]) rfl ?_
              have hst0 : stM2 F St1 (plF F F.1.length 0) sr cr := by
                obtain ⟨b1, b2, b3, b4, b5, ⟨t7, b6⟩, ⟨t8, b7⟩, b8, b9⟩ := a5 (by rw [hgg]; cases fd <;> rfl)
                exact ⟨(p3 4).trans b1, (p3 3).trans b2, b3, ln1, p1, ⟨t7, (p4 7 (by omega) (by omega)).trans b6⟩, ⟨t8, (p4 8 (by omega) (by omega)).trans b7⟩, b8, b9⟩
              have TL := tryM_loop (X := X) (x := x) (wk := y) (Q := Q) hKe hFa hok f4 haf hE hAm hNe hSn hy2.2 y.toInt.toNat 0 S St1 w u d0 of fi rc sg mr ps sh fnd sr cr (Int32.ofNat (plF F F.1.length 0).length) (by omega) hW hI hst0 (hfn1.trans he) ((p3 1).trans (by rw [a3, hgg]; rfl)) ((p3 2).trans (by rw [q4, hgf hgg]; rfl)) hf4 hm hh hp hx
              rw [show zA St1 9 = tr from (p4 9 (by omega) (by omega)).trans q3] at TL
              refine (TL.up (by omega) (by omega)).mono (Nat.le_refl _) (Nat.le_refl _) ?_
              intro a D hT
              refine Or.inr (Or.inr ⟨F, hF, hy2, h8, hf, ?_⟩)
              rw [shT, if_pos ⟨hgg, he⟩]
              exact hT
end SHORTM
