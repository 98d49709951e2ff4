/-! KEEP: the class -/
/-- a chain of givings, with bounded objects -/
def yCB (D : List xE) : Value → List (Nat × Option yO) → Prop
  | v, [] => v = .null
  | v, (p, z) :: r => ∃ g bv ev, v = .ref g ∧ ((g, .inl (3, 0, .int (Int32.ofNat p))) : xE) ∈ D ∧ ((g, .inl (3, 1, bv)) : xE) ∈ D ∧ ((g, .inl (3, 2, ev)) : xE) ∈ D ∧ yVB D bv z ∧ p < 20 ∧ yCB D ev r
theorem yCB.mono {D D2 : List xE} (h : D ⊆ D2) : ∀ {s : List (Nat × Option yO)} {v : Value}, yCB D v s → yCB D2 v s
  | [], _, q => q
  | (p, z) :: r, _, ⟨g, bv, ev, h1, h2, h3, h4, h5, h6, h7⟩ => ⟨g, bv, ev, h1, h h2, h h3, h h4, h5.mono h, h6, yCB.mono h h7⟩
theorem yCB.ch {D : List xE} : ∀ {s : List (Nat × Option yO)} {v : Value}, yCB D v s → yCh D v s
  | [], _, q => q
  | (p, z) :: r, _, ⟨g, bv, ev, h1, h2, h3, h4, h5, h6, h7⟩ => ⟨g, bv, ev, h1, h2, h3, h4, h5.oc, h6, yCB.ch h7⟩
theorem yCB.rf {D : List xE} : ∀ {s : List (Nat × Option yO)} {v : Value}, yCB D v s → rfV v
  | [], _, q => Or.inl q
  | (p, z) :: r, _, ⟨g, bv, ev, h1, _⟩ => Or.inr ⟨g, h1⟩
/-- the givings of a filling, the latest first -/
def chR (F : yF) (pl : List Nat) : List Nat → List Nat → List (Nat × Option yO)
  | s :: ss, c :: cs => ((pl[s]?).getD 0, anR (layR F pl ss cs) (Int32.ofNat ((pl[s]?).getD 0))) :: chR F pl ss cs
  | _, _ => []
theorem chR_len {F : yF} {pl : List Nat} : ∀ (ss cs : List Nat), ss.length = cs.length → (chR F pl ss cs).length = ss.length
  | [], [], _ => rfl
  | s :: ss, c :: cs, h => by rw [chR, List.length_cons, List.length_cons, chR_len ss cs (Nat.succ.inj h)]
  | [], _ :: _, h => by cases h
  | _ :: _, [], h => by cases h
section KEEPC
variable {X : List Int32} {D0 D1 : List xE} {F : yF} {S : zS} {fa : Nat} {pl sr cr : List Nat}
theorem kp_perm1 {a b c d e f : xE} {L : List xE} : (f :: c :: a :: b :: d :: e :: L).Perm (a :: b :: c :: d :: e :: f :: L) := by
  refine (List.perm_middle (a := f) (l₁ := [c, a, b, d, e]) (l₂ := L)).symm.trans ?_
  exact (List.perm_middle (a := c) (l₁ := [a, b]) (l₂ := d :: e :: f :: L)).symm
theorem kp_perm2 {g1 g2 g3 a b c d e f x y z : xE} {N D1 : List xE} : (g1 :: g2 :: g3 :: a :: b :: c :: d :: e :: f :: x :: y :: z :: (N ++ D1)).Perm (x :: y :: z :: ((([g1, g2, g3] ++ [a, b, c, d, e, f]) ++ N) ++ D1)) := by
  have h : ∀ (A B C : List xE), (A ++ (B ++ C)).Perm (B ++ (A ++ C)) := fun A B C => by
    rw [← List.append_assoc, ← List.append_assoc]
    exact List.Perm.append_right _ List.perm_append_comm
  rw [List.append_assoc]
  exact h [g1, g2, g3, a, b, c, d, e, f] [x, y, z] (N ++ D1)
theorem ck_sizeOf {D : List xE} {p : Nat} {P : yPt} (hS2 : ((168, .inl (8, 2, .ref fa)) : xE) ∈ D) (hC : yFC D fa F) (hok : yFok F) (hP : F.1[p]? = some P) (h5 : P.1.toInt ≤ 5) : yK X 0 0 186 [.ref 168, .int (Int32.ofNat p)] D 0 0 (fun a D' => a = some (.int (Int32.ofNat (cszP P))) ∧ D' = D) := by
  obtain ⟨fe, _, _, _, _, hl20, _, _, _, hok9⟩ := id hok
  have hp : p < F.1.length := (List.getElem?_eq_some_iff.mp hP).1
  have hw : 0 ≤ P.2.2.2.2.2.1.toInt := by
    obtain ⟨_, _, _, _, _, _, _, _, _, _, _, hw, _⟩ := hok9 p P hP
    exact hw.1
  obtain ⟨cp, cq, f1, _, fP, _⟩ := id hC
  have h11 : P.1 ≠ 11 := by
    intro h; rw [h] at h5; exact absurd h5 (by decide)
  have tp := yi_nat (i := p) (by omega)
  have tp3 : (Int32.ofNat p).toInt.toNat = p := yi_toNat (by omega)
  have tp4 := yjn (j := Int32.ofNat p) (by rw [tp]; omega)
  have fq := fP p P hP
  refine yK.of rfl (yle rfl) (L := [_, _]) rfl ?_
  refine xt_pure rfl rfl rfl rfl ?_
  refine xt_getf rfl rfl (xmS 0 rfl hS2) ?_
  refine xt_getf rfl rfl (xmS 0 rfl (ymm f1 1 rfl)) ?_
  refine xt_pure rfl rfl rfl rfl ?_
  refine xt_iald rfl rfl (xmS 0 rfl (ymm f1 19 rfl)) tp4.1 (v := .int P.1) (by rw [tp4.2, tp3, List.getElem?_map, fq.1]; rfl) ?_
  refine xt_pure rfl rfl rfl (st1 := .int 5 :: _) rfl ?_
  refine yt_ic rfl rfl (fun (h : P.1 ≠ 5) => ?_) (fun (h : P.1 = 5) => ?_)
  · have e : cszP P = 1 := by unfold cszP; rw [if_neg h]
    refine xt_pure rfl rfl rfl (st1 := .int 1 :: _) rfl ?_
    exact xt_iret rfl rfl rfl rfl ⟨by rw [e]; rfl, rfl⟩
  · have e : Int32.ofNat (cszP P) = P.2.2.2.2.2.1 := by unfold cszP; rw [if_pos h, yi_id hw]
    refine xt_pure rfl rfl rfl rfl ?_
    refine xt_getf rfl rfl (xmS 0 rfl hS2) ?_
    refine xt_getf rfl rfl (xmS 0 rfl (ymm f1 6 rfl)) ?_
    refine xt_pure rfl rfl rfl rfl ?_
    refine xt_iald rfl rfl (xmS 0 rfl (ymm f1 24 rfl)) tp4.1 (v := .int P.2.2.2.2.2.1) (by rw [tp4.2, tp3, List.getElem?_map, (fq.2.2.2.1 h11).2.2]; rfl) ?_
    refine xt_pure rfl rfl rfl rfl ?_
    exact xt_iret rfl rfl rfl rfl ⟨by rw [e], rfl⟩
theorem give_loop {da aa : Nat} {j5 t6 t7 : List Int32} (h4e : ((168, .inl (8, 7, .int (Int32.ofNat sr.length))) : xE) ∈ D1) (h5e : ((169, .inr (0, (pl.map Int32.ofNat ++ j5).map Value.int)) : xE) ∈ D1) (h6e : ((170, .inr (0, (arr sr t6).map Value.int)) : xE) ∈ D1) (h7e : ((171, .inr (0, (arr cr t7).map Value.int)) : xE) ∈ D1) (hS2 : ((168, .inl (8, 2, .ref fa)) : xE) ∈ D1) (hd2 : ((da, .inl (1, 2, .ref aa)) : xE) ∈ D1) (hC : yFC D1 fa F) (hok : yFok F) (h8 : pl.length ≤ 8) (hpk : plOk F pl) (hv : vlF (mnF F pl) pl.length sr cr) : ∀ (td tc dn dc : List Nat) (refs : List Value) (lt : Value) (N : List xE) (l3 l4 : Option Value), sr = td.reverse ++ dn → cr = tc.reverse ++ dc → td.length = tc.length → dn.length = dc.length → yAnB N refs (layR F pl dn dc) → yCB N lt (chR F pl dn dc) → yT X 20 700 194 2 [some (.ref 168), some (.ref da), some (.int (Int32.ofNat dn.length)), l3, l4] [] ((aa, .inr (7, refs)) :: (da, .inl (1, 3, lt)) :: (da, .inl (1, 4, .int (Int32.ofNat dn.length))) :: (N ++ D1)) (4 * td.length) (31 * td.length) (fun a D => ∃ refs' lt' N', a = none ∧ D = (aa, .inr (7, refs')) :: (da, .inl (1, 3, lt')) :: (da, .inl (1, 4, .int (Int32.ofNat sr.length))) :: (N' ++ D1) ∧ yAnB N' refs' (layR F pl sr cr) ∧ yCB N' lt' (chR F pl sr cr))
  | [], tc, dn, dc, refs, lt, N, l3, l4, hs, hc, htl, hdl, hA, hB => by
    have : tc = [] := List.length_eq_zero_iff.mp htl.symm
    subst this
    rw [List.reverse_nil, List.nil_append] at hs hc
    subst hs hc
    refine xt_pure rfl rfl rfl rfl ?_
    refine xt_pure rfl rfl rfl rfl ?_
    refine xt_getf rfl rfl (xmS 3 rfl (List.mem_append_right _ h4e)) ?_
    refine yt_ic rfl rfl (fun _ => ?_) (fun (h : Int32.toInt _ < Int32.toInt _) => by omega)
    exact xt_vret rfl rfl rfl ⟨refs, lt, N, rfl, rfl, hA, hB⟩
  | s :: td, [], dn, dc, refs, lt, N, l3, l4, hs, hc, htl, hdl, hA, hB => by cases htl
  | s :: td, c :: tc, dn, dc, refs, lt, N, l3, l4, hs, hc, htl, hdl, hA, hB => by
    have hle := hv.1.le (Nat.zero_le _)
    rw [List.reverse_cons, List.append_assoc] at hs hc
    have hs : sr = td.reverse ++ s :: dn := hs
    have hc : cr = tc.reverse ++ c :: dc := hc
    have hsl : sr.length = td.length + (dn.length + 1) := by rw [hs, List.length_append, List.length_reverse, List.length_cons]
    have hsp : s < pl.length := hv.1.lt s (by rw [hs]; exact List.mem_append_right _ List.mem_cons_self)
    have hcm : c < mnF F pl s := vlC_at hv.2 hs hc (Nat.succ.inj htl)
    obtain ⟨p, hp⟩ : ∃ p, pl[s]? = some p := ⟨_, List.getElem?_eq_getElem hsp⟩
    obtain ⟨P, hP, hPk⟩ := hpk p (List.mem_of_getElem? hp)
    have hmn : mnF F pl s = mnP P := by rw [mnF, hp, Option.bind_some, hP]; rfl
    rw [hmn] at hcm
    have hm8 := (mnP_le hok hP).1
    have hpl : p < F.1.length := (List.getElem?_eq_some_iff.mp hP).1
    have hsz := cszP_le hok hP
    obtain ⟨fe, _, _, _, _, hl20, _, _, _, hok9⟩ := id hok
    have hk0 := (hok9 p P hP).1
    obtain ⟨pp, gi, ga, g1, g2, g3⟩ := hC.han hok
    obtain ⟨cp, cq, f1, _, fP, _⟩ := id hC
    have tp := yi_nat (i := p) (by omega)
    have tp3 : (Int32.ofNat p).toInt.toNat = p := yi_toNat (by omega)
    have tp4 := yjn (j := Int32.ofNat p) (by rw [tp]; omega)
    have ti := yi_nat (i := dn.length) (by omega)
    have e6 : gI (arr sr t6) (Int32.ofNat dn.length) = some (Int32.ofNat s) := by rw [hs]; exact arr_mid (by omega)
    have e7 : gI (arr cr t7) (Int32.ofNat dn.length) = some (Int32.ofNat c) := by rw [hc, hdl]; exact arr_mid (by omega)
    have e5 : gI (pl.map Int32.ofNat ++ j5) (Int32.ofNat s) = some (Int32.ofNat p) := by
      rw [gI_nat (by omega), List.getElem?_append_left (by rw [List.length_map]; exact hsp), List.getElem?_map, hp]; rfl
    have sO := sOf_5 hk0.1 hPk
    have s2 : sOf P.1 ≤ 2 := by rw [sO]; split <;> (try split) <;> omega
    have hxa := xas_at (k := P.1) ⟨hk0.1, by omega⟩
    obtain ⟨v0, hv0⟩ : ∃ v0, refs[p]? = some v0 := ⟨_, List.getElem?_eq_getElem (by rw [hA.1]; omega)⟩
    obtain ⟨z0, hz0⟩ : ∃ z0, (layR F pl dn dc)[p]? = some z0 := ⟨_, List.getElem?_eq_getElem (by rw [hA.2.1]; omega)⟩
    have hvB := hA.2.2 p v0 z0 hv0 hz0
    have hanR : anR (layR F pl dn dc) (Int32.ofNat p) = z0 := by rw [anR, gI_nat (by omega), hz0]; rfl
    refine xt_pure rfl rfl rfl rfl ?_
    refine xt_pure rfl rfl rfl rfl ?_
    refine xt_getf rfl rfl (xmS 3 rfl (List.mem_append_right _ h4e)) ?_
    refine yt_ic rfl rfl (fun (h : Int32.toInt _ ≤ Int32.toInt _) => ?_) (fun _ => ?_)
    · rw [ti, yi_nat (by omega)] at h
      omega
    · skip
      refine xt_pure rfl rfl rfl rfl ?_
      refine xt_getf rfl rfl (xmC 159 rfl) ?_
      refine xt_pure rfl rfl rfl rfl ?_
      refine xt_getf rfl rfl (xmC 160 rfl) ?_
      refine xt_pure rfl rfl rfl rfl ?_
      refine xt_iald rfl rfl (xmS 3 rfl (List.mem_append_right _ h6e)) (gI_some e6).2.2.2.2 (v := .int (Int32.ofNat s)) (gI_int e6) ?_
      refine xt_iald rfl rfl (xmS 3 rfl (List.mem_append_right _ h5e)) (gI_some e5).2.2.2.2 (v := .int (Int32.ofNat p)) (gI_int e5) ?_
      refine xt_pure rfl rfl rfl (L1 := [_, _, _, _, _]) rfl ?_
      refine xt_new rfl rfl rfl (c1 := 2 + 1 + 4 * td.length) (s1 := 24 + 3 + 31 * td.length) (by rw [List.length_cons]; omega) (by show 24 + 3 + 31 * td.length + 4 ≤ 31 * (td.length + 1); omega) ?_
      intro ob
      show yT _ _ _ _ _ _ _ ((ob, .inl (6, 0, .int 0)) :: (ob, .inl (6, 1, .int 0)) :: (ob, .inl (6, 2, .null)) :: (ob, .inl (6, 3, .null)) :: ((aa, .inr (7, refs)) :: (da, .inl (1, 3, lt)) :: (da, .inl (1, 4, .int (Int32.ofNat dn.length))) :: (N ++ D1))) _ _ _
      have sb7 : D1 ⊆ (ob, .inl (6, 0, .int 0)) :: (ob, .inl (6, 1, .int 0)) :: (ob, .inl (6, 2, .null)) :: (ob, .inl (6, 3, .null)) :: ((aa, .inr (7, refs)) :: (da, .inl (1, 3, lt)) :: (da, .inl (1, 4, .int (Int32.ofNat dn.length))) :: (N ++ D1)) := fun _ he => List.mem_cons_of_mem _ (List.mem_cons_of_mem _ (List.mem_cons_of_mem _ (List.mem_cons_of_mem _ (List.mem_cons_of_mem _ (List.mem_cons_of_mem _ (List.mem_cons_of_mem _ (List.mem_append_right _ he)))))))
      refine xt_pure rfl rfl rfl rfl ?_
      refine xt_gets rfl rfl rfl ?_
      refine xt_pure rfl rfl rfl rfl ?_
      refine xt_getf rfl rfl (xmS 0 rfl (sb7 hS2)) ?_
      refine xt_getf rfl rfl (xmS 0 rfl (sb7 (ymm f1 1 rfl))) ?_
      refine xt_pure rfl rfl rfl rfl ?_
      refine xt_iald rfl rfl (xmS 0 rfl (sb7 (ymm f1 19 rfl))) tp4.1 (v := .int P.1) (by rw [tp4.2, tp3, List.getElem?_map, (fP p P hP).1]; rfl) ?_
      refine xt_iald rfl rfl (xmC 0 rfl) (gI_some hxa).2.2.2.2 (v := .int (Int32.ofNat (sOf P.1))) (gI_int hxa) ?_
      refine xt_pure rfl rfl rfl rfl ?_
      refine xt_pure rfl rfl rfl rfl ?_
      refine xt_callV rfl rfl rfl rfl (xmC 158 rfl) ⟨rfl, rfl, yle rfl, yle rfl, yle rfl, yle rfl⟩ (ck_sizeOf (sb7 hS2) (hC.mono sb7) hok hP hPk) (c2 := 2 + 1 + 4 * td.length) (s2 := 24 + 3 + 31 * td.length) ⟨yle2, yle2⟩ ?_
      rintro _ _ ⟨rfl, rfl⟩
      refine xt_callI rfl rfl (by decide) rfl rfl ⟨rfl, yle rfl, yle rfl, yle rfl, yle rfl⟩ (yObj (s := sOf P.1) (n := cszP P) (by omega) (by omega)) (c2 := 1 + 4 * td.length) (s2 := 3 + 31 * td.length) ⟨by omega, by omega⟩ ?_
      rintro _ _ ⟨oi, ora, rfl, rfl⟩
      have hnI : newI (sOf P.1) (cszP P) = List.replicate (cszP P) 0 := by unfold newI; rw [if_neg (by omega), if_neg (by omega)]
      have hnR : newR (sOf P.1) (cszP P) = [] := by unfold newR; rw [if_neg (by omega)]
      rw [hnI, hnR]
      refine yT.perm (D2 := zD zTY (zaY ob oi) (sY (Int32.ofNat (sOf P.1)) (Int32.ofNat (cszP P)) (List.replicate (cszP P) 0)) ((ob, .inl (6, 2, .ref oi)) :: (ob, .inl (6, 3, .ref ora)) :: (ora, .inr (4, [])) :: ((aa, .inr (7, refs)) :: (da, .inl (1, 3, lt)) :: (da, .inl (1, 4, .int (Int32.ofNat dn.length))) :: (N ++ D1)))) ?_ ?_
      · exact kp_perm1
      · have sb4 : D1 ⊆ (ob, .inl (6, 2, .ref oi)) :: (ob, .inl (6, 3, .ref ora)) :: (ora, .inr (4, [])) :: ((aa, .inr (7, refs)) :: (da, .inl (1, 3, lt)) :: (da, .inl (1, 4, .int (Int32.ofNat dn.length))) :: (N ++ D1)) := fun _ he => List.mem_cons_of_mem _ (List.mem_cons_of_mem _ (List.mem_cons_of_mem _ (List.mem_cons_of_mem _ (List.mem_cons_of_mem _ (List.mem_cons_of_mem _ (List.mem_append_right _ he))))))
        refine xt_pure rfl rfl rfl (L1 := [_, _, _, _, _]) rfl ?_
        refine xt_pure rfl rfl rfl rfl ?_
        refine xt_pure rfl rfl rfl rfl ?_
        refine xt_pure rfl rfl rfl rfl ?_
        refine xt_pure rfl rfl rfl rfl ?_
        refine xt_getf rfl rfl (xmC 161 rfl) ?_
        refine xt_pure rfl rfl rfl rfl ?_
        refine xt_iald rfl rfl (xmS 3 rfl (sb4 h7e)) (gI_some e7).2.2.2.2 (v := .int (Int32.ofNat c)) (gI_int e7) ?_
        obtain ⟨S', a1, a2, a3, a4⟩ := C_fill (N := 9) (S := sY (Int32.ofNat (sOf P.1)) (Int32.ofNat (cszP P)) (List.replicate (cszP P) 0)) g2 hok (by omega) hP hPk hcm rfl (by show cszP P ≤ (List.replicate (cszP P) (0 : Int64)).length; rw [List.length_replicate]; exact Nat.le_refl _) (by show (List.replicate (cszP P) (0 : Int64)).length ≤ 100; rw [List.length_replicate]; omega)
        have a4 : zB S' 2 = List.replicate (cszP P) (cvl P c) := by
          rw [a4]
          show _ ++ (List.replicate (cszP P) (0 : Int64)).drop (cszP P) = _
          rw [List.drop_replicate, Nat.sub_self, List.replicate_zero, List.append_nil]
        refine xt_callV rfl rfl rfl rfl (xmC 158 rfl) ⟨rfl, rfl, yle rfl, yle rfl, yle rfl, yle rfl⟩ (tcY_fill (N := 9) (fr := 1) (lo := 23) List.mem_cons_self (sb4 hS2) (fun e he => sb4 (g1 e he)) (by omega) (by omega) a1) (c2 := 1 + 4 * td.length) (s2 := 3 + 31 * td.length) ⟨yle2, yle2⟩ ?_
        rintro _ _ ⟨rfl, rfl⟩
        have hoz : osz (cndP P c) = cszP P := by
          rw [osz_n4 (by show sOf P.1 ≠ 4; omega)]
          show (List.replicate _ _).length = _
          rw [List.length_replicate]
        have hci : cit (cndP P c) = List.replicate (cszP P) (cvl P c) := by
          unfold cit
          rw [if_neg (by show ¬ (sOf P.1 = 5 ∨ sOf P.1 = 6); omega)]
          rfl
        have hOB : yOB [(ob, .inl (6, 0, .int (zI S' 0))), (ob, .inl (6, 1, .int (zI S' 1))), (oi, .inr (1, (zB S' 2).map Value.long)), (ob, .inl (6, 2, .ref oi)), (ob, .inl (6, 3, .ref ora)), (ora, .inr (4, []))] ob (cndP P c) := by
          refine ⟨oi, ora, [], [], ?_, ?_, List.mem_of_getElem? (i := 3) rfl, List.mem_of_getElem? (i := 4) rfl, ?_, List.mem_of_getElem? (i := 5) rfl, (fun h => absurd h (by show sOf P.1 ≠ 4; omega)), (fun i v r h => by cases h), ?_⟩
          · rw [a2]; exact List.mem_of_getElem? (i := 0) rfl
          · rw [a3, hoz]; exact List.mem_of_getElem? (i := 1) rfl
          · rw [a4, hci, List.append_nil]; exact List.mem_of_getElem? (i := 2) rfl
          · rw [hci, List.append_nil, List.length_replicate]; omega
        refine xt_pure rfl rfl rfl rfl ?_
        refine xt_pure rfl rfl rfl rfl ?_
        refine xt_pure rfl rfl rfl rfl ?_
        refine xt_callV rfl rfl rfl rfl (xmS 0 rfl (List.mem_append_right _ (sb4 hd2))) ⟨rfl, rfl, yle rfl, yle rfl, yle rfl, yle rfl⟩ (ck_put (x := Int32.ofNat p) (v0 := v0) (lt := lt) (hv := .ref ob) (n0 := Int32.ofNat dn.length) (i7 := 6) (i3 := 7) (i4 := 8) (yVC_rf hvB.oc) hB.rf (Or.inr ⟨ob, _, rfl, List.mem_of_getElem? (i := 0) rfl⟩) (List.mem_append_right _ (sb4 hd2)) rfl rfl rfl (by rw [gI_nat (by omega)]; exact hv0)) (c2 := 4 * td.length) (s2 := 31 * td.length) ⟨by omega, by omega⟩ ?_
        rintro _ _ ⟨g, rfl, rfl⟩
        rw [yi_add1, tp3]
        refine yT.perm (D2 := (aa, .inr (7, refs.set p (.ref ob))) :: (da, .inl (1, 3, .ref g)) :: (da, .inl (1, 4, .int (Int32.ofNat (dn.length + 1)))) :: ((([(g, .inl (3, 0, .int (Int32.ofNat p))), (g, .inl (3, 1, v0)), (g, .inl (3, 2, lt))] ++ [(ob, .inl (6, 0, .int (zI S' 0))), (ob, .inl (6, 1, .int (zI S' 1))), (oi, .inr (1, (zB S' 2).map Value.long)), (ob, .inl (6, 2, .ref oi)), (ob, .inl (6, 3, .ref ora)), (ora, .inr (4, []))]) ++ N) ++ D1)) ?_ ?_
        · exact kp_perm2
        · refine xt_pure rfl rfl rfl (L1 := [_, _, some (.int (_ + 1)), _, _]) rfl ?_
          refine xt_pure rfl rfl rfl rfl ?_
          rw [yi_add1]
          have sN : N ⊆ (([(g, .inl (3, 0, .int (Int32.ofNat p))), (g, .inl (3, 1, v0)), (g, .inl (3, 2, lt))] ++ [(ob, .inl (6, 0, .int (zI S' 0))), (ob, .inl (6, 1, .int (zI S' 1))), (oi, .inr (1, (zB S' 2).map Value.long)), (ob, .inl (6, 2, .ref oi)), (ob, .inl (6, 3, .ref ora)), (ora, .inr (4, []))]) ++ N) := fun _ he => List.mem_append_right _ he
          refine give_loop h4e h5e h6e h7e hS2 hd2 hC hok h8 hpk hv td tc (s :: dn) (c :: dc) (refs.set p (.ref ob)) (.ref g) _ _ _ hs hc (Nat.succ.inj htl) (by rw [List.length_cons, List.length_cons, hdl]) ?_ ?_
          · rw [layR_s hp hP]
            refine yAnB.put (hA.mono sN) ⟨ob, rfl, hOB.mono ?_⟩
            exact fun _ he => List.mem_append_left _ (List.mem_append_right _ he)
          · rw [chR, hp]
            refine ⟨g, v0, lt, rfl, List.mem_of_getElem? (i := 0) rfl, List.mem_of_getElem? (i := 1) rfl, List.mem_of_getElem? (i := 2) rfl, ?_, ?_, hB.mono sN⟩
            · show yVB _ v0 (anR (layR F pl dn dc) (Int32.ofNat p))
              rw [hanR]
              exact hvB.mono sN
            · show p < 20
              omega
end KEEPC
