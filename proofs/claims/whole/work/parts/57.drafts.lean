/-! DRAFTS: how class and reference hold them; draftAt, isAnswered, isAnswer -/
/-- a DRAFT: its form's number, answers, the givings that stand (latest first: part, what was there), receipt, signed -/
abbrev yD : Type := Nat × List (Option yO) × List (Nat × Option yO) × Int32 × Int32
/-- the class's draft: addresses of it, of its answers, of its form; the answers' references, the latest giving -/
abbrev yDR : Type := Nat × Nat × Nat × List Value × Value × yD
def dfE (da aa fa : Nat) (refs : List Value) (lt : Value) (d : yD) : List xE := [(da, .inl (1, 0, .int (Int32.ofNat d.1))), (da, .inl (1, 1, .ref fa)), (da, .inl (1, 2, .ref aa)), (da, .inl (1, 3, lt)), (da, .inl (1, 4, .int (Int32.ofNat d.2.2.1.length))), (da, .inl (1, 5, .int d.2.2.2.1)), (da, .inl (1, 6, .int d.2.2.2.2)), (aa, .inr (7, refs))]
def dfR (r : yDR) : List xE := dfE r.1 r.2.1 r.2.2.1 r.2.2.2.1 r.2.2.2.2.1 r.2.2.2.2.2
/-- the chain of givings -/
def yCh (D : List xE) : Value → List (Nat × Option yO) → Prop
  | v, [] => v = .null
  | v, (p, z) :: r => ∃ g bv ev, v = .ref g ∧ ((g, .inl (3, 0, .int (Int32.ofNat p))) : xE) ∈ D ∧ ((g, .inl (3, 1, bv)) : xE) ∈ D ∧ ((g, .inl (3, 2, ev)) : xE) ∈ D ∧ yVC D bv z ∧ p < 20 ∧ yCh D ev r
theorem yCh.mono {D D2 : List xE} (h : D ⊆ D2) : ∀ {s : List (Nat × Option yO)} {v : Value}, yCh D v s → yCh D2 v s
  | [], _, q => q
  | (p, z) :: r, _, ⟨g, bv, ev, h1, h2, h3, h4, h5, h6, h7⟩ => ⟨g, bv, ev, h1, h h2, h h3, h h4, h5.mono h, h6, yCh.mono h h7⟩
def yAns (D : List xE) (refs : List Value) (an : List (Option yO)) : Prop := refs.length = 20 ∧ an.length = 20 ∧ ∀ (p : Nat) v z, refs[p]? = some v → an[p]? = some z → yVC D v z
theorem yAns.mono {D D2 : List xE} (h : D ⊆ D2) {refs : List Value} {an : List (Option yO)} (q : yAns D refs an) : yAns D2 refs an := ⟨q.1, q.2.1, fun p v z h1 h2 => (q.2.2 p v z h1 h2).mono h⟩
def yDC (Fs : List yF) (D : List xE) (r : yDR) : Prop := ∃ F, Fs[r.2.2.2.2.2.1]? = some F ∧ yFC D r.2.2.1 F ∧ yAns D r.2.2.2.1 r.2.2.2.2.2.2.1 ∧ yCh D r.2.2.2.2.1 r.2.2.2.2.2.2.2.1
theorem yDC.mono {Fs : List yF} {D D2 : List xE} (h : D ⊆ D2) {r : yDR} (q : yDC Fs D r) : yDC Fs D2 r := by
  obtain ⟨F, h1, h2, h3, h4⟩ := q
  exact ⟨F, h1, h2.mono h, h3.mono h, h4.mono h⟩
def yDsA (R : List yDR) (D : List xE) : Prop := R.length ≤ 30 ∧ ((78, .inl (11, 8, .int (Int32.ofNat R.length))) : xE) ∈ D ∧ ((109, .inr (6, R.map (fun r => Value.ref r.1) ++ List.replicate (30 - R.length) Value.null)) : xE) ∈ D
def yDsC (Fs : List yF) (R : List yDR) (D : List xE) : Prop := yDsA R D ∧ ∀ r ∈ R, (∀ e ∈ dfR r, e ∈ D) ∧ yDC Fs D r
theorem yDsA.mono {R : List yDR} {D D2 : List xE} (h : D ⊆ D2) (q : yDsA R D) : yDsA R D2 := ⟨q.1, h q.2.1, h q.2.2⟩
theorem yDsC.mono {Fs : List yF} {R : List yDR} {D D2 : List xE} (h : D ⊆ D2) (q : yDsC Fs R D) : yDsC Fs R D2 := ⟨q.1.mono h, fun r hr => ⟨fun e he => h ((q.2 r hr).1 e he), (q.2 r hr).2.mono h⟩⟩
/-- the reference's drafts: forms, whether filed, receipts, signed, answers -/
def yDsM (Fs : List yF) (Dr : List yD) (D : List xE) : Prop := ∃ (of fi rc sg : List Int32) (mr : List Value), Dr.length ≤ 30 ∧ (of.length = 31 ∧ fi.length = 31 ∧ rc.length = 31 ∧ sg.length = 31 ∧ mr.length = 620) ∧ ((209, .inl (14, 26, .int (Int32.ofNat Dr.length))) : xE) ∈ D ∧ ((238, .inr (0, of.map Value.int)) : xE) ∈ D ∧ ((240, .inr (3, fi.map Value.int)) : xE) ∈ D ∧ ((241, .inr (0, rc.map Value.int)) : xE) ∈ D ∧ ((242, .inr (0, sg.map Value.int)) : xE) ∈ D ∧ ((239, .inr (10, mr)) : xE) ∈ D ∧ ∀ (i : Nat) (d : yD), Dr[i]? = some d → of[i]? = some (Int32.ofNat d.1) ∧ (∃ F, Fs[d.1]? = some F) ∧ fi[i]? = some (if d.2.2.2.1 = -9 then 0 else 1) ∧ rc[i]? = some d.2.2.2.1 ∧ sg[i]? = some d.2.2.2.2 ∧ d.2.1.length = 20 ∧ ∀ (p : Nat) z, d.2.1[p]? = some z → ∃ v, mr[20 * i + p]? = some v ∧ yVM D v z
theorem yDsM.mono {Fs : List yF} {Dr : List yD} {D D2 : List xE} (h : D ⊆ D2) (q : yDsM Fs Dr D) : yDsM Fs Dr D2 := by
  obtain ⟨of, fi, rc, sg, mr, h1, h2, h3, h4, h5, h6, h7, h8, h9⟩ := q
  refine ⟨of, fi, rc, sg, mr, h1, h2, h h3, h h4, h h5, h h6, h h7, h h8, fun i d hd => ?_⟩
  obtain ⟨o1, o2, o3, o4, o5, o6, o7⟩ := h9 i d hd
  refine ⟨o1, o2, o3, o4, o5, o6, fun p z hz => ?_⟩
  obtain ⟨v, v1, v2⟩ := o7 p z hz
  exact ⟨v, v1, v2.mono h⟩
/-- a part that can be asked for -/
def askP (F : yF) (p : Int32) : Option yPt := (gI F.1 p).bind fun P => if P.1 = 11 then none else some P
def ansP (Fs : List yF) (Dr : List yD) (x p : Int32) : Option (yD × yF × yPt) := (gI Dr x).bind fun d => (Fs[d.1]?).bind fun F => (askP F p).map fun P => (d, F, P)
/-- an answer -/
def answ (Fs : List yF) (Dr : List yD) (x p : Int32) : Option (Option yO) := (ansP Fs Dr x p).bind fun t => t.1.2.1[p.toInt.toNat]?
theorem yat {l : List Int32} {x y : Int32} (h : 0 ≤ x.toInt) (hl : l[x.toInt.toNat]? = some y) : ¬ x < 0 ∧ (l.map Value.int)[x.toNatClampNeg]? = some (.int y) := ⟨(yjn h).1, by rw [(yjn h).2, List.getElem?_map, hl]; rfl⟩
theorem yform {Fs : List yF} {fa : List Nat} {n a : Nat} {F : yF} (hF : Fs[n]? = some F) (ha : fa[n]? = some a) (h1 : fa.length = Fs.length) (h2 : Fs.length ≤ 10) : ¬ Int32.ofNat n < 0 ∧ (fa.map Value.ref ++ List.replicate (10 - Fs.length) Value.null)[(Int32.ofNat n).toNatClampNeg]? = some (.ref a) := by
  have hn := (List.getElem?_eq_some_iff.mp hF).1
  refine ⟨yi_nn (by omega), ?_⟩
  rw [yi_tn (by omega), List.getElem?_append_left (by simp; omega), List.getElem?_map, ha]
  rfl
theorem yfa {Fs : List yF} {fa : List Nat} {n : Nat} {F : yF} (hF : Fs[n]? = some F) (h1 : fa.length = Fs.length) : ∃ a, fa[n]? = some a := ⟨_, List.getElem?_eq_getElem (by have := (List.getElem?_eq_some_iff.mp hF).1; omega)⟩
theorem ynth {α : Type} {l : List α} {x : Int32} (h : 0 ≤ x.toInt ∧ x.toInt < l.length) : ∃ a, l[x.toInt.toNat]? = some a := ⟨_, List.getElem?_eq_getElem (by omega)⟩
theorem ck_draftAt {X : List Int32} {D0 : List xE} {R : List yDR} {x : Int32} (hA : yDsA R D0) : yK X 0 0 111 [.ref 78, .int x] (D0) 0 0 (fun w D => (D0 = D ∧ gI R x = none ∧ w = some .null) ∨ (D0 = D ∧ ∃ r, gI R x = some r ∧ w = some (.ref r.1))) := by
  obtain ⟨h1, h2, h3⟩ := hA
  have en := yi_nat (i := R.length) (by omega)
  refine yK.of rfl (yle rfl) (L := [_, _]) rfl ?_
  refine xt_pure rfl rfl rfl rfl ?_
  refine yt_if rfl rfl ?_ ?_
  · intro (hb1_0 : Int32.toInt _ < (0 : Int))
    refine xt_pure rfl rfl rfl rfl ?_
    refine xt_pure rfl rfl rfl rfl ?_
    refine xt_aret rfl rfl rfl rfl rfl ?_
    exact Or.inl ⟨rfl, gI_out (by omega), rfl⟩
  · intro (hb1_0 : (0 : Int) ≤ Int32.toInt _)
    refine xt_pure rfl rfl rfl rfl ?_
    refine xt_pure rfl rfl rfl rfl ?_
    refine xt_getf rfl rfl (xmS 0 rfl h2) ?_
    refine yt_ic rfl rfl ?_ ?_
    · intro (hb5_1 : Int32.toInt _ < Int32.toInt _)
      obtain ⟨r, hr⟩ := ynth (l := R) (x := x) (by omega)
      refine xt_pure rfl rfl rfl rfl ?_
      refine xt_getf rfl rfl (xmC 119 rfl) ?_
      refine xt_pure rfl rfl rfl rfl ?_
      refine xt_aald rfl rfl ⟨by decide, rfl⟩ (xmS 0 rfl h3) (yjn (by omega)).1 (v := .ref r.1) (by rw [(yjn (by omega)).2, List.getElem?_append_left (by rw [List.length_map]; omega), List.getElem?_map, hr]; rfl) ?_
      refine xt_aret rfl rfl rfl rfl rfl ?_
      exact Or.inr ⟨rfl, r, gI_in (by omega) hr, rfl⟩
    · intro (hb5_1 : Int32.toInt _ ≤ Int32.toInt _)
      refine xt_pure rfl rfl rfl rfl ?_
      refine xt_pure rfl rfl rfl rfl ?_
      refine xt_aret rfl rfl rfl rfl rfl ?_
      exact Or.inl ⟨rfl, gI_out (by omega), rfl⟩
theorem ck_answered {X : List Int32} {D0 : List xE} {a : Nat} {F : yF} {x : Int32} (h20 : F.1.length ≤ 20) (hC : yFC D0 a F) : yK X 0 0 85 [.ref a, .int x] (D0) 0 0 (fun w D => (D0 = D ∧ (∃ P, askP F x = some P) ∧ w = some (.int 1)) ∨ (D0 = D ∧ askP F x = none ∧ w = some (.int 0))) := by
  obtain ⟨p, q, hE, hL, hP, hQ, hR, hS⟩ := hC
  have en := yi_nat (i := F.1.length) (by omega)
  refine yK.of rfl (yle rfl) (L := [_, _]) rfl ?_
  refine xt_pure rfl rfl rfl rfl ?_
  refine yt_if rfl rfl ?_ ?_
  · intro (hb1_0 : Int32.toInt _ < (0 : Int))
    refine xt_pure rfl rfl rfl (st1 := .int 0 :: _) rfl ?_
    refine xt_iret rfl rfl rfl rfl ?_
    skip
    exact Or.inr ⟨rfl, by rw [askP, gI_out (by omega)]; rfl, rfl⟩
  · intro (hb1_0 : (0 : Int) ≤ Int32.toInt _)
    refine xt_pure rfl rfl rfl rfl ?_
    refine xt_pure rfl rfl rfl rfl ?_
    refine xt_getf rfl rfl (xmS 0 rfl (ymm hE 0 rfl)) ?_
    refine yt_ic rfl rfl ?_ ?_
    · intro (hb5_1 : Int32.toInt _ ≤ Int32.toInt _)
      refine xt_pure rfl rfl rfl (st1 := .int 0 :: _) rfl ?_
      refine xt_iret rfl rfl rfl rfl ?_
      skip
      exact Or.inr ⟨rfl, by rw [askP, gI_out (by omega)]; rfl, rfl⟩
    · intro (hb5_1 : Int32.toInt _ < Int32.toInt _)
      refine xt_pure rfl rfl rfl rfl ?_
      refine xt_getf rfl rfl (xmS 0 rfl (ymm hE 1 rfl)) ?_
      refine xt_pure rfl rfl rfl rfl ?_
      refine yt_ild rfl rfl (xmS 0 rfl (ymm hE 19 rfl)) ⟨by first | omega | (simp only [List.length_append, List.length_set, List.length_map, List.length_replicate, List.length_cons, List.length_nil, Int32.reduceToInt]; omega), by first | omega | (simp only [List.length_append, List.length_set, List.length_map, List.length_replicate, List.length_cons, List.length_nil, Int32.reduceToInt]; omega)⟩ ?_
      intro x2 hx2
      refine xt_pure rfl rfl rfl (st1 := .int 11 :: _) rfl ?_
      refine yt_ic rfl rfl ?_ ?_
      · intro (hb11_3 : (_ : Int32) = 11)
        have hb11_3z : Int32.toInt _ = (11 : Int) := congrArg Int32.toInt hb11_3
        refine xt_pure rfl rfl rfl (st1 := .int 0 :: _) rfl ?_
        refine xt_iret rfl rfl rfl rfl ?_
        skip
        obtain ⟨P, hP1⟩ := ynth (l := F.1) (x := x) (by omega)
        have h1 := (hP _ P hP1).1
        cases hx2.symm.trans h1
        exact Or.inr ⟨rfl, by rw [askP, gI_in (by omega) hP1]; exact if_pos (by assumption), rfl⟩
      · intro (hb11_3 : (_ : Int32) ≠ 11)
        have hb11_3z : ¬ Int32.toInt _ = (11 : Int) := fun h => hb11_3 (Int32.toInt_inj.mp h)
        refine xt_pure rfl rfl rfl (st1 := .int 1 :: _) rfl ?_
        refine xt_pure rfl rfl rfl rfl ?_
        refine xt_iret rfl rfl rfl rfl ?_
        skip
        obtain ⟨P, hP1⟩ := ynth (l := F.1) (x := x) (by omega)
        have h1 := (hP _ P hP1).1
        cases hx2.symm.trans h1
        exact Or.inl ⟨rfl, ⟨P, by rw [askP, gI_in (by omega) hP1]; exact if_neg (by assumption)⟩, rfl⟩
theorem mk_isAnswer {X : List Int32} {D0 : List xE} {Fs : List yF} {Dr : List yD} {x y : Int32} (hok : ∀ (i : Nat) F, Fs[i]? = some F → F.1.length ≤ 20) (hFs : yFsM Fs D0) (hDs : yDsM Fs Dr D0) : yK X 2 46 270 [.ref 209, .int x, .int y] (D0) 0 0 (fun w D => (D0 = D ∧ (∃ t, ansP Fs Dr x y = some t) ∧ w = some (.int 1)) ∨ (D0 = D ∧ ansP Fs Dr x y = none ∧ w = some (.int 0))) := by
  obtain ⟨fa, f1, f2, f3, f4, f5⟩ := hFs
  obtain ⟨of, fi, rc, sg, mr, d1, d2, d3, d4, d5, d6, d7, d8, hD⟩ := hDs
  refine yK.of rfl (yle rfl) (L := [_, _, _]) rfl ?_
  refine xt_pure rfl rfl rfl rfl ?_
  refine xt_pure rfl rfl rfl rfl ?_
  refine xt_callV rfl rfl rfl rfl (xmC 176 rfl) ⟨rfl, rfl, yle rfl, yle rfl, yle rfl, yle rfl⟩ (mk_isDraft (by omega) d3) (c2 := 0) (s2 := 0) ⟨yle rfl, yle rfl⟩ ?_
  rintro _ _ (⟨rfl, hp0, rfl⟩ | ⟨rfl, hp0, rfl⟩)
  · skip
    obtain ⟨d, hd⟩ := ynth (l := Dr) (x := x) (by omega)
    obtain ⟨o1, ⟨F, hF⟩, o3, o4, o5, o6, o7⟩ := hD _ d hd
    obtain ⟨a, ha⟩ := yfa hF f1
    obtain ⟨p, q, nm, fn, vl, hE, hL, hP, hQ, hR, hT⟩ := f5 _ F a hF ha
    have h20 := hok d.1 F hF
    have en := y_n1 (n := F.1.length) (by omega)
    show yT _ _ _ _ _ _ (_ :: _) _ _ _ _
    refine xt_pure rfl rfl rfl rfl ?_
    refine xt_pure rfl rfl rfl rfl ?_
    refine xt_pure rfl rfl rfl rfl ?_
    refine xt_pure rfl rfl rfl (st1 := .long 0 :: _) rfl ?_
    refine xt_pure rfl rfl rfl rfl ?_
    refine xt_getf rfl rfl (xmC 177 rfl) ?_
    refine xt_pure rfl rfl rfl rfl ?_
    refine xt_getf rfl rfl (xmC 187 rfl) ?_
    refine xt_pure rfl rfl rfl rfl ?_
    refine xt_iald rfl rfl (xmS 0 rfl d4) (yat (by omega) o1).1 (yat (by omega) o1).2 ?_
    refine xt_aald rfl rfl ⟨by decide, rfl⟩ (xmS 0 rfl f4) (yform hF ha f1 f2).1 (yform hF ha f1 f2).2 ?_
    refine xt_getf rfl rfl (xmS 0 rfl (ymm hE 0 rfl)) ?_
    refine xt_pure rfl rfl rfl (st1 := .int 1 :: _) rfl ?_
    refine xt_pure rfl rfl rfl rfl ?_
    refine xt_pure rfl rfl rfl rfl ?_
    refine xt_callS rfl rfl (by decide) rfl ⟨rfl, yle rfl, yle rfl, yle rfl, yle rfl⟩ mk_in (c2 := 0) (s2 := 0) ⟨yle rfl, yle rfl⟩ ?_
    rintro _ _ (⟨rfl, hp1, rfl⟩ | ⟨rfl, hp1, rfl⟩)
    · skip
      try simp only [xi32_eq, xi64_eq, Int32.toInt_toInt64, Int32.reduceToInt, Int64.reduceToInt, y_m9, y_m1, y_m100, y64_m9, y64_m1, Ne, y_n1x] at hp1
      show yT _ _ _ _ _ _ (_ :: _) _ _ _ _
      refine xt_pure rfl rfl rfl rfl ?_
      refine xt_pure rfl rfl rfl rfl ?_
      refine xt_getf rfl rfl (xmC 177 rfl) ?_
      refine xt_pure rfl rfl rfl rfl ?_
      refine xt_getf rfl rfl (xmC 187 rfl) ?_
      refine xt_pure rfl rfl rfl rfl ?_
      refine xt_iald rfl rfl (xmS 0 rfl d4) (yat (by omega) o1).1 (yat (by omega) o1).2 ?_
      refine xt_aald rfl rfl ⟨by decide, rfl⟩ (xmS 0 rfl f4) (yform hF ha f1 f2).1 (yform hF ha f1 f2).2 ?_
      refine xt_getf rfl rfl (xmS 0 rfl (ymm hE 2 rfl)) ?_
      refine xt_pure rfl rfl rfl rfl ?_
      refine yt_ild rfl rfl (xmS 0 rfl (ymm hE 24 rfl)) ⟨by first | omega | (simp only [List.length_append, List.length_set, List.length_map, List.length_replicate, List.length_cons, List.length_nil, Int32.reduceToInt]; omega), by first | omega | (simp only [List.length_append, List.length_set, List.length_map, List.length_replicate, List.length_cons, List.length_nil, Int32.reduceToInt]; omega)⟩ ?_
      intro x2 hx2
      refine xt_pure rfl rfl rfl (st1 := .int 11 :: _) rfl ?_
      refine yt_ic rfl rfl ?_ ?_
      · intro (hk : (_ : Int32) = 11)
        have hkz : Int32.toInt _ = (11 : Int) := congrArg Int32.toInt hk
        refine xt_pure rfl rfl rfl (st1 := .int 0 :: _) rfl ?_
        refine xt_iret rfl rfl rfl rfl ?_
        skip
        obtain ⟨P, hP1⟩ := ynth (l := F.1) (x := y) (by omega)
        have h1 := (hP _ P hP1).1
        cases hx2.symm.trans h1
        refine Or.inr ⟨rfl, ?_, rfl⟩
        rw [ansP, gI_in (by omega) hd]
        simp only [Option.bind_some, hF, askP, gI_in (show 0 ≤ y.toInt by omega) hP1]
        rw [if_pos (by assumption)]
        rfl
      · intro (hk : (_ : Int32) ≠ 11)
        have hkz : ¬ Int32.toInt _ = (11 : Int) := fun h => hk (Int32.toInt_inj.mp h)
        refine xt_pure rfl rfl rfl (st1 := .int 1 :: _) rfl ?_
        refine xt_pure rfl rfl rfl rfl ?_
        refine xt_iret rfl rfl rfl rfl ?_
        skip
        obtain ⟨P, hP1⟩ := ynth (l := F.1) (x := y) (by omega)
        have h1 := (hP _ P hP1).1
        cases hx2.symm.trans h1
        refine Or.inl ⟨rfl, ⟨(d, F, P), ?_⟩, rfl⟩
        rw [ansP, gI_in (by omega) hd]
        simp only [Option.bind_some, hF, askP, gI_in (show 0 ≤ y.toInt by omega) hP1]
        rw [if_neg (by assumption)]
        rfl
    · skip
      try simp only [xi32_eq, xi64_eq, Int32.toInt_toInt64, Int32.reduceToInt, Int64.reduceToInt, y_m9, y_m1, y_m100, y64_m9, y64_m1, Ne, y_n1x] at hp1
      show yT _ _ _ _ _ _ (_ :: _) _ _ _ _
      refine xt_pure rfl rfl rfl rfl ?_
      refine xt_pure rfl rfl rfl (st1 := .int 0 :: _) rfl ?_
      refine xt_iret rfl rfl rfl rfl ?_
      skip
      refine Or.inr ⟨rfl, ?_, rfl⟩
      rw [ansP, gI_in (by omega) hd]
      simp only [Option.bind_some, hF, askP, gI_out (show y.toInt < 0 ∨ (F.1.length : Int) ≤ y.toInt by omega)]
      rfl
  · skip
    show yT _ _ _ _ _ _ (_ :: _) _ _ _ _
    refine xt_pure rfl rfl rfl rfl ?_
    refine xt_pure rfl rfl rfl (st1 := .int 0 :: _) rfl ?_
    refine xt_iret rfl rfl rfl rfl ?_
    skip
    refine Or.inr ⟨rfl, ?_, rfl⟩
    rw [ansP, gI_out (by omega)]
    rfl
