/-! MIGRATE: the reference -/
section MIGM
variable {X : List Int32} {D1 D2 : List xE} {Fs : List yF} {Dr : List yD} {As : List (List (Option yO))} {En : List (Int64 × Int32)} {S : zS} {w : yW} {u : Value} {d0 x y : Int32} {Mv : List yMv}
/-- a view of a thing that is being made -/
def sC (s n : Int32) (its : List Int64) (rs cs : List Int32) (ev : Int32) : zS := (fun i => ([s, n, 0, 0, 0, ev] : List Int32).getD i 0, fun _ => 0, fun _ => .null, fun i => ([[], [], [], rs, cs] : List (List Int32)).getD i [], fun i => ([[], [], its] : List (List Int64)).getD i [], fun _ => [])
/-- a thing's entries -/
abbrev thE (b ia ra ca : Nat) (s n : Int32) (its : List Int64) (rs cs : List Int32) : List xE := [(b, .inl (13, 0, .int s)), (b, .inl (13, 1, .int n)), (ia, .inr (1, its.map Value.long)), (ra, .inr (0, rs.map Value.int)), (ca, .inr (0, cs.map Value.int)), (b, .inl (13, 2, .ref ia)), (b, .inl (13, 3, .ref ra)), (b, .inl (13, 4, .ref ca))]
theorem thV.om {S : zS} {y : yO} {b ia ra ca : Nat} (h : thV S y) : yOM (thE b ia ra ca (zI S 0) (zI S 1) (zB S 2) (zA S 3) (zA S 4)) b y := by
  obtain ⟨h0, h1, ⟨jk, h2, h3⟩, h4, h5, h6, h7⟩ := h
  refine ⟨ia, ra, ca, jk, zA S 3, zA S 4, ?_, ?_, List.mem_of_getElem? (i := 5) rfl, List.mem_of_getElem? (i := 6) rfl, List.mem_of_getElem? (i := 7) rfl, ?_, h3, List.mem_of_getElem? (i := 3) rfl, h4, List.mem_of_getElem? (i := 4) rfl, h5, h6, h7⟩
  · rw [← h0]; exact List.mem_of_getElem? (i := 0) rfl
  · rw [← h1]; exact List.mem_of_getElem? (i := 1) rfl
  · rw [← h2]; exact List.mem_of_getElem? (i := 2) rfl
theorem mk_copied {b ia ra ca oa fa : Nat} {ob : yO} {ev kd : Int32} {js : List Int32} {F : yF} (hE : En.length ≤ 100) (hNe : ((209, .inl (14, 19, .int (Int32.ofNat En.length))) : xE) ∈ D1) (hSn : ((236, .inr (0, (En.map Prod.snd ++ js).map Value.int)) : xE) ∈ D1) (hF : yFM D1 fa F) (hO : yOM D1 oa ob) (hk : yOk En ob) : yK X 0 0 333 [.ref 209, .ref oa, .ref b, .int kd] ((209, .inl (14, 24, .int ev)) :: (thE b ia ra ca (Int32.ofNat ob.1) (Int32.ofNat (osz ob)) (List.replicate 12 (newv (Int32.ofNat ob.1))) (List.replicate 6 (-1)) (List.replicate 36 0) ++ D1)) 0 0 (fun r D => ∃ N, r = some (.int (Int32.ofNat (cryR En kd ob).2.1)) ∧ D = (209, .inl (14, 24, .int (ev + (cryR En kd ob).2.2))) :: (N ++ D1) ∧ yOM N b (cryR En kd ob).1) := by
  obtain ⟨p, gi, ga, vl, g1, _, _⟩ := hF.han
  obtain ⟨zo, z1, z2⟩ := hO.han6
  obtain ⟨S', e1, e2, e3⟩ := r_copied (gi := gi) (ga := ga) (ne := Int32.ofNat En.length) (N := 13) (kd := kd) (S := sC (Int32.ofNat ob.1) (Int32.ofNat (osz ob)) (List.replicate 12 (newv (Int32.ofNat ob.1))) (List.replicate 6 (-1)) (List.replicate 36 0) ev) rfl hE (by omega) z2 hk rfl rfl rfl rfl rfl
  have sub : D1 ⊆ (b, .inl (13, 2, .ref ia)) :: (b, .inl (13, 3, .ref ra)) :: (b, .inl (13, 4, .ref ca)) :: D1 := fun _ he => List.mem_cons_of_mem _ (List.mem_cons_of_mem _ (List.mem_cons_of_mem _ he))
  have tr := trC_copied (X := X) (D0 := (b, .inl (13, 2, .ref ia)) :: (b, .inl (13, 3, .ref ra)) :: (b, .inl (13, 4, .ref ca)) :: D1) (tb := b) (ti := ia) (tr := ra) (tc := ca) (fr := 0) (lo := 0) List.mem_cons_self (List.mem_cons_of_mem _ List.mem_cons_self) (List.mem_cons_of_mem _ (List.mem_cons_of_mem _ List.mem_cons_self)) (sub hNe) (sub hSn) (fun e he => sub (g1 e he)) (by omega) (by omega) (z1.mono sub) e1
  have pm : ∀ (a e1 e2 e3 e4 e5 : xE) (L : List xE), (a :: e1 :: e2 :: e3 :: e4 :: e5 :: L).Perm (e1 :: e2 :: e3 :: e4 :: e5 :: a :: L) := fun a e1 e2 e3 e4 e5 L => (List.perm_middle (a := a) (l₁ := [e1, e2, e3, e4, e5]) (l₂ := L)).symm
  refine yK.post (yK.perm (pm _ _ _ _ _ _ _) tr) ?_
  rintro r D ⟨rfl, rfl⟩
  refine ⟨(209, .inl (14, 24, .int (ev + (cryR En kd ob).2.2))) :: (thE b ia ra ca (zI S' 0) (zI S' 1) (zB S' 2) (zA S' 3) (zA S' 4) ++ D1), ?_, _, rfl, rfl, e2.om⟩
  have e3 : zI S' 5 = ev + (cryR En kd ob).2.2 := e3
  rw [← e3]
  exact (pm _ _ _ _ _ _ _).symm
theorem yle2 {a : Nat} : 0 + a ≤ a := Nat.le_of_eq (Nat.zero_add _)
theorem mgm_perm {S : zS} {u : Value} {q : Int32} {a b c e f g h : xE} {N1 N D2 : List xE} : ((209, .inl (14, 24, .int q)) :: (N1 ++ (zE zaF S 1 zTF.tail ++ ((209, .inl (14, 46, u)) :: a :: b :: c :: e :: f :: g :: h :: (N ++ D2))))).Perm (EM (zsI S 0 q) u (a :: b :: c :: e :: f :: g :: h :: ((N1 ++ N) ++ D2))) := by
  have hh : ∀ (A B : List xE), (N1 ++ (A ++ B)).Perm (A ++ (N1 ++ B)) := fun A B => by
    rw [← List.append_assoc, ← List.append_assoc]
    exact List.Perm.append_right _ List.perm_append_comm
  have e0 : zE zaF (zsI S 0 q) 1 zTF.tail = zE zaF S 1 zTF.tail := zE_same (fun j t hj => zo_I j t (by omega))
  have e1 : EM (zsI S 0 q) u (a :: b :: c :: e :: f :: g :: h :: ((N1 ++ N) ++ D2)) = (209, .inl (14, 24, .int q)) :: (zE zaF (zsI S 0 q) 1 zTF.tail ++ ((209, .inl (14, 46, u)) :: a :: b :: c :: e :: f :: g :: h :: ((N1 ++ N) ++ D2))) := rfl
  rw [e1, e0, List.append_assoc]
  exact List.Perm.cons _ ((hh (zE zaF S 1 zTF.tail) _).trans (List.Perm.append_left _ (hh [_, a, b, c, e, f, g, h] (N ++ D2))))
theorem inEM7 {S : zS} {u : Value} {a b c e f g h : xE} {N D2 : List xE} : D2 ⊆ EM S u (a :: b :: c :: e :: f :: g :: h :: (N ++ D2)) := fun _ he => inEM (List.mem_cons_of_mem _ (List.mem_cons_of_mem _ (List.mem_cons_of_mem _ (List.mem_cons_of_mem _ (List.mem_cons_of_mem _ (List.mem_cons_of_mem _ (List.mem_cons_of_mem _ (List.mem_append_right _ he))))))))
theorem migM_loop {F0 F : yF} {A : List (Option yO)} {fa n d f0 : Nat} {of fi rc sg c0 js : List Int32} {m0 m1 m2 m3 : List Int32} {al : List Value} {M : List xE} (hM : M ⊆ D2) (hn : n < 30) (hd : d < n) (hE : En.length ≤ 100) (hNe : ((209, .inl (14, 19, .int (Int32.ofNat En.length))) : xE) ∈ D2) (hSn : ((236, .inr (0, (En.map Prod.snd ++ js).map Value.int)) : xE) ∈ D2) (hF : yFM D2 fa F) (hFy : gI Fs y = some F) (h20 : ∀ (i : Nat) F, Fs[i]? = some F → F.1.length ≤ 20) (hF0 : Fs[f0]? = some F0) (hFl : Fs.length ≤ 10) (hof : of[d]? = some (Int32.ofNat f0)) (hal : ((211, .inr (8, al)) : xE) ∈ D2) (haf : gI al y = some (.ref fa)) (hA20 : A.length = 20) (hAk : ∀ (p : Nat) ob, A[p]? = some (some ob) → yOk En ob) (hmn : ((209, .inl (14, 66, .int (Int32.ofNat Mv.length))) : xE) ∈ D2) (hm0 : ((256, .inr (0, m0.map Value.int)) : xE) ∈ D2) (hm1 : ((257, .inr (0, m1.map Value.int)) : xE) ∈ D2) (hm2 : ((258, .inr (0, m2.map Value.int)) : xE) ∈ D2) (hm3 : ((259, .inr (0, m3.map Value.int)) : xE) ∈ D2) (hmr : ∀ (i : Nat) m, Mv[i]? = some m → m0[i]? = some m.1 ∧ m1[i]? = some m.2.1 ∧ m2[i]? = some m.2.2.1 ∧ m3[i]? = some m.2.2.2) (hmv : mvOk Fs Mv) (hc40 : c0.length = 40) : ∀ (ms : List yMv) (i : Nat) (S : zS) (w : yW) (mr : List Value) (B : List (Option yO)) (cm : List Int32) (N : List xE) (l5 l6 : Option Value), Mv.drop i = ms → i ≤ Mv.length → cm.length = i → R9 S w d0 → B.length = 20 → mr.length = 620 → (∀ (p : Nat) z, A[p]? = some z → ∃ v, mr[20 * d + p]? = some v ∧ yVM D2 v z) → (∀ (p : Nat) z, B[p]? = some z → ∃ v, mr[20 * n + p]? = some v ∧ yVM (N ++ M) v z) → yT X 20 700 332 28 [some (.ref 209), some (.int (Int32.ofNat d)), some (.int y), some (.int (Int32.ofNat n)), some (.int (Int32.ofNat i)), l5, l6] [] (EM S u ((238, .inr (0, of.map Value.int)) :: (240, .inr (3, fi.map Value.int)) :: (241, .inr (0, rc.map Value.int)) :: (242, .inr (0, sg.map Value.int)) :: (239, .inr (10, mr)) :: (209, .inl (14, 26, .int (Int32.ofNat n))) :: (260, .inr (0, (cm ++ c0.drop i).map Value.int)) :: (N ++ D2))) (4 * ms.length) (59 * ms.length) (fun a D => ∃ S' w' mr' N', a = some (.int (Int32.ofNat n)) ∧ D = EM S' u ((238, .inr (0, of.map Value.int)) :: (240, .inr (3, fi.map Value.int)) :: (241, .inr (0, rc.map Value.int)) :: (242, .inr (0, sg.map Value.int)) :: (239, .inr (10, mr')) :: (209, .inl (14, 26, .int (Int32.ofNat (n + 1)))) :: (260, .inr (0, ((mgR En A F (Int32.ofNat f0) y ms B cm w.1).2.1 ++ c0.drop Mv.length).map Value.int)) :: (N' ++ D2)) ∧ R9 S' w' d0 ∧ frM S S' ∧ w'.1 = (mgR En A F (Int32.ofNat f0) y ms B cm w.1).2.2 ∧ mr'.length = 620 ∧ (∀ q, ¬ (20 * n ≤ q ∧ q < 20 * n + 20) → mr'[q]? = mr[q]?) ∧ ∀ (p : Nat) z, (mgR En A F (Int32.ofNat f0) y ms B cm w.1).1[p]? = some z → ∃ v, mr'[20 * n + p]? = some v ∧ yVM (N' ++ M) v z)
  | [], i, S, w, mr, B, cm, N, l5, l6, hdr, hi0, hcm, hW, hB20, hl, hA, hB => by
    have hi : Mv.length ≤ i := List.drop_eq_nil_iff.mp hdr
    have e : i = Mv.length := by omega
    have h40 := hmv.1
    refine xt_pure rfl rfl rfl rfl ?_
    refine xt_pure rfl rfl rfl rfl ?_
    refine xt_getf rfl rfl (xmS 0 rfl (inEM7 hmn)) ?_
    refine yt_ic rfl rfl (fun _ => ?_) (fun (h : Int32.toInt _ < Int32.toInt _) => ?_)
    · skip
      refine xt_pure rfl rfl rfl rfl ?_
      refine xt_pure rfl rfl rfl rfl ?_
      refine xt_getf rfl rfl (xmD 26 rfl) ?_
      refine xt_pure rfl rfl rfl (st1 := .int 1 :: _) rfl ?_
      refine xt_pure rfl rfl rfl rfl ?_
      rw [yi_add1]
      refine xt_putf rfl rfl rfl rfl 26 rfl (D1 := EM S u ((238, .inr (0, of.map Value.int)) :: (240, .inr (3, fi.map Value.int)) :: (241, .inr (0, rc.map Value.int)) :: (242, .inr (0, sg.map Value.int)) :: (239, .inr (10, mr)) :: (209, .inl (14, 26, .int (Int32.ofNat (n + 1)))) :: (260, .inr (0, (cm ++ c0.drop i).map Value.int)) :: (N ++ D2))) rfl ?_
      refine xt_pure rfl rfl rfl rfl ?_
      rw [e]
      exact xt_iret rfl rfl rfl rfl ⟨S, w, mr, N, rfl, rfl, hW, frM.rf, rfl, hl, fun _ _ => rfl, hB⟩
    · rw [yi_nat (by omega), yi_nat (by omega)] at h
      omega
  | m :: ms, i, S, w, mr, B, cm, N, l5, l6, hdr, hi0, hcm, hW, hB20, hl, hA, hB => by
    have h40 := hmv.1
    have hri : Mv[i]? = some m := by rw [← Nat.add_zero i, ← List.getElem?_drop, hdr]; rfl
    have hi : i < Mv.length := (List.getElem?_eq_some_iff.mp hri).1
    have hd2 : Mv.drop (i + 1) = ms := by rw [← List.drop_drop, hdr]; rfl
    have ti := yi_nat (i := i) (by omega)
    have t3 : (Int32.ofNat i).toInt.toNat = i := yi_toNat (by omega)
    have t4 := yjn (j := Int32.ofNat i) (by rw [ti]; omega)
    have td := yi_nat (i := d) (by omega)
    have td3 : (Int32.ofNat d).toInt.toNat = d := yi_toNat (by omega)
    have td4 := yjn (j := Int32.ofNat d) (by rw [td]; omega)
    obtain ⟨r0, r1, r2, r3⟩ := hmr i m hri
    have hfl : f0 < Fs.length := (List.getElem?_eq_some_iff.mp hF0).1
    have hcl : (cm ++ c0.drop i).length = 40 := by rw [List.length_append, List.length_drop]; omega
    have hcs : ∀ z : Int32, (cm ++ c0.drop i).set i z = (cm ++ [z]) ++ c0.drop (i + 1) := by
      intro z
      rw [List.set_append_right _ _ (by omega), hcm, Nat.sub_self, List.drop_eq_getElem_cons (by omega), List.set_cons_zero, List.append_assoc]
      rfl
    have hcz : ∀ z z' : Int32, ((cm ++ [z]) ++ c0.drop (i + 1)).set i z' = (cm ++ [z']) ++ c0.drop (i + 1) := by
      intro z z'
      rw [← hcs z, List.set_set, hcs]
    have skip : (mgR En A F (Int32.ofNat f0) y (m :: ms) B cm w.1) = (mgR En A F (Int32.ofNat f0) y ms B (cm ++ [-9]) w.1) → ∀ (l5' l6' : Option Value), yT X 20 700 332 108 [some (.ref 209), some (.int (Int32.ofNat d)), some (.int y), some (.int (Int32.ofNat n)), some (.int (Int32.ofNat i)), l5', l6'] [] (EM S u ((238, .inr (0, of.map Value.int)) :: (240, .inr (3, fi.map Value.int)) :: (241, .inr (0, rc.map Value.int)) :: (242, .inr (0, sg.map Value.int)) :: (239, .inr (10, mr)) :: (209, .inl (14, 26, .int (Int32.ofNat n))) :: (260, .inr (0, ((cm ++ [-9]) ++ c0.drop (i + 1)).map Value.int)) :: (N ++ D2))) (4 * (m :: ms).length) (59 * (m :: ms).length) (fun a D => ∃ S' w' mr' N', a = some (.int (Int32.ofNat n)) ∧ D = EM S' u ((238, .inr (0, of.map Value.int)) :: (240, .inr (3, fi.map Value.int)) :: (241, .inr (0, rc.map Value.int)) :: (242, .inr (0, sg.map Value.int)) :: (239, .inr (10, mr')) :: (209, .inl (14, 26, .int (Int32.ofNat (n + 1)))) :: (260, .inr (0, ((mgR En A F (Int32.ofNat f0) y (m :: ms) B cm w.1).2.1 ++ c0.drop Mv.length).map Value.int)) :: (N' ++ D2)) ∧ R9 S' w' d0 ∧ frM S S' ∧ w'.1 = (mgR En A F (Int32.ofNat f0) y (m :: ms) B cm w.1).2.2 ∧ mr'.length = 620 ∧ (∀ q, ¬ (20 * n ≤ q ∧ q < 20 * n + 20) → mr'[q]? = mr[q]?) ∧ ∀ (p : Nat) z, (mgR En A F (Int32.ofNat f0) y (m :: ms) B cm w.1).1[p]? = some z → ∃ v, mr'[20 * n + p]? = some v ∧ yVM (N' ++ M) v z) := by
      intro hs l5' l6'
      refine xt_pure rfl rfl rfl (L1 := [_, _, _, _, some (.int (_ + 1)), _, _]) rfl ?_
      refine xt_pure rfl rfl rfl rfl ?_
      rw [yi_add1, hs]
      exact (migM_loop hM hn hd hE hNe hSn hF hFy h20 hF0 hFl hof hal haf hA20 hAk hmn hm0 hm1 hm2 hm3 hmr hmv hc40 ms (i + 1) S w mr B (cm ++ [-9]) N l5' l6' hd2 (by omega) (by rw [List.length_append, hcm]; rfl) hW hB20 hl hA hB).mono (by rw [List.length_cons]; omega) (by rw [List.length_cons]; omega) (fun _ _ h => h)
    refine xt_pure rfl rfl rfl rfl ?_
    refine xt_pure rfl rfl rfl rfl ?_
    refine xt_getf rfl rfl (xmS 0 rfl (inEM7 hmn)) ?_
    refine yt_ic rfl rfl (fun (h : Int32.toInt _ ≤ Int32.toInt _) => ?_) (fun _ => ?_)
    · rw [ti, yi_nat (by omega)] at h
      omega
    · skip
      refine xt_pure rfl rfl rfl rfl ?_
      refine xt_getf rfl rfl (xmC 209 rfl) ?_
      refine xt_pure rfl rfl rfl rfl ?_
      refine xt_pure rfl rfl rfl (st1 := .int (-9) :: _) rfl ?_
      refine yt_ist rfl rfl 27 rfl ⟨by rw [ti]; omega, by rw [ti, hcl]; omega⟩ (D1 := (EM S u ((238, .inr (0, of.map Value.int)) :: (240, .inr (3, fi.map Value.int)) :: (241, .inr (0, rc.map Value.int)) :: (242, .inr (0, sg.map Value.int)) :: (239, .inr (10, mr)) :: (209, .inl (14, 26, .int (Int32.ofNat n))) :: (260, .inr (0, ((cm ++ [-9]) ++ c0.drop (i + 1)).map Value.int)) :: (N ++ D2)))) (by rw [t3, hcs]; rfl) ?_
      refine xt_pure rfl rfl rfl rfl ?_
      refine xt_getf rfl rfl (xmC 205 rfl) ?_
      refine xt_pure rfl rfl rfl rfl ?_
      refine xt_iald rfl rfl (xmS 0 rfl (inEM7 hm0)) t4.1 (v := .int m.1) (by rw [t4.2, t3, List.getElem?_map, r0]; rfl) ?_
      refine xt_pure rfl rfl rfl rfl ?_
      refine xt_getf rfl rfl (xmC 187 rfl) ?_
      refine xt_pure rfl rfl rfl rfl ?_
      refine xt_iald rfl rfl (xmD 21 rfl) td4.1 (v := .int (Int32.ofNat f0)) (by rw [td4.2, td3, List.getElem?_map, hof]; rfl) ?_
      refine yt_ic rfl rfl (fun (h : m.1 ≠ Int32.ofNat f0) => ?_) (fun (h : m.1 = Int32.ofNat f0) => ?_)
      · refine skip ?_ _ _
        rw [mgR, if_neg (fun k => h k.1)]
      · skip
        refine xt_pure rfl rfl rfl rfl ?_
        refine xt_getf rfl rfl (xmC 207 rfl) ?_
        refine xt_pure rfl rfl rfl rfl ?_
        refine xt_iald rfl rfl (xmS 0 rfl (inEM7 hm2)) t4.1 (v := .int m.2.2.1) (by rw [t4.2, t3, List.getElem?_map, r2]; rfl) ?_
        refine xt_pure rfl rfl rfl rfl ?_
        refine yt_ic rfl rfl (fun (h2 : m.2.2.1 ≠ y) => ?_) (fun (h2 : m.2.2.1 = y) => ?_)
        · refine skip ?_ _ _
          rw [mgR, if_neg (fun k => h2 k.2)]
        · obtain ⟨v1, v2⟩ := hmv.2 m (List.mem_of_getElem? hri)
          obtain ⟨Fa, Pa, a1, a2⟩ := mvA_inv v1
          obtain ⟨Fb, Pb, b1, b2⟩ := mvA_inv v2
          have eFa : Fa = F0 := by
            rw [h, gI_nat (by omega), hF0] at a1
            injection a1 with a1
            exact a1.symm
          have eFb : Fb = F := by
            rw [h2, hFy] at b1
            injection b1 with b1
            exact b1.symm
          subst eFa eFb
          obtain ⟨p1, p2, p3, p4⟩ := askP_some a2
          obtain ⟨s1, s2, s3, s4⟩ := askP_some b2
          have hl1 := h20 _ _ hF0
          have hl2 := h20 _ _ (gI_some hFy).2.2.1
          have hkd : knd Fb m.2.2.2 = Pb.1 := (askP_ask b2).2
          obtain ⟨an, han⟩ : ∃ an, A[m.2.1.toInt.toNat]? = some an := ⟨_, List.getElem?_eq_getElem (by omega)⟩
          obtain ⟨rv, hrv, hv⟩ := hA _ an han
          have hanR : anR A m.2.1 = an := by rw [anR, gI_in p1 han]; rfl
          have hgo : (mgR En A Fb (Int32.ofNat f0) y (m :: ms) B cm w.1) = (mgR En A Fb (Int32.ofNat f0) y ms (B.set m.2.2.2.toInt.toNat (cryO En Pb.1 an).1) (cm ++ [Int32.ofNat (cryO En Pb.1 an).2.1]) (w.1 + (cryO En Pb.1 an).2.2)) := by
            rw [mgR, if_pos ⟨h, h2⟩, hkd, hanR]
          have tx : (20 : Int32) * Int32.ofNat d + m.2.1 = Int32.ofNat (20 * d + m.2.1.toInt.toNat) := by
            rw [Int32.ofNat_add, Int32.ofNat_mul, yi_id p1]; rfl
          have t2 := yi_nat (i := 20 * d + m.2.1.toInt.toNat) (by omega)
          have t23 : (Int32.ofNat (20 * d + m.2.1.toInt.toNat)).toInt.toNat = 20 * d + m.2.1.toInt.toNat := yi_toNat (by omega)
          have t24 := yjn (j := Int32.ofNat (20 * d + m.2.1.toInt.toNat)) (by rw [t2]; omega)
          have wx : (20 : Int32) * Int32.ofNat n + m.2.2.2 = Int32.ofNat (20 * n + m.2.2.2.toInt.toNat) := by
            rw [Int32.ofNat_add, Int32.ofNat_mul, yi_id s1]; rfl
          have w2 := yi_nat (i := 20 * n + m.2.2.2.toInt.toNat) (by omega)
          have w23 : (Int32.ofNat (20 * n + m.2.2.2.toInt.toNat)).toInt.toNat = 20 * n + m.2.2.2.toInt.toNat := yi_toNat (by omega)
          have go : ∀ (S' : zS) (w' : yW) (v' : Value) (N1 : List xE) (l5' : Option Value), R9 S' w' d0 → frM S S' → w'.1 = w.1 + (cryO En Pb.1 an).2.2 → yVM (N1 ++ M) v' (cryO En Pb.1 an).1 → yT X 20 700 332 95 [some (.ref 209), some (.int (Int32.ofNat d)), some (.int y), some (.int (Int32.ofNat n)), some (.int (Int32.ofNat i)), l5', some v'] [.int (Int32.ofNat (cryO En Pb.1 an).2.1), .int (Int32.ofNat i), .ref 260] (EM S' u ((238, .inr (0, of.map Value.int)) :: (240, .inr (3, fi.map Value.int)) :: (241, .inr (0, rc.map Value.int)) :: (242, .inr (0, sg.map Value.int)) :: (239, .inr (10, mr)) :: (209, .inl (14, 26, .int (Int32.ofNat n))) :: (260, .inr (0, ((cm ++ [-9]) ++ c0.drop (i + 1)).map Value.int)) :: ((N1 ++ N) ++ D2))) (4 * ms.length) (59 * ms.length) (fun a D => ∃ S' w' mr' N', a = some (.int (Int32.ofNat n)) ∧ D = EM S' u ((238, .inr (0, of.map Value.int)) :: (240, .inr (3, fi.map Value.int)) :: (241, .inr (0, rc.map Value.int)) :: (242, .inr (0, sg.map Value.int)) :: (239, .inr (10, mr')) :: (209, .inl (14, 26, .int (Int32.ofNat (n + 1)))) :: (260, .inr (0, ((mgR En A Fb (Int32.ofNat f0) y (m :: ms) B cm w.1).2.1 ++ c0.drop Mv.length).map Value.int)) :: (N' ++ D2)) ∧ R9 S' w' d0 ∧ frM S S' ∧ w'.1 = (mgR En A Fb (Int32.ofNat f0) y (m :: ms) B cm w.1).2.2 ∧ mr'.length = 620 ∧ (∀ q, ¬ (20 * n ≤ q ∧ q < 20 * n + 20) → mr'[q]? = mr[q]?) ∧ ∀ (p : Nat) z, (mgR En A Fb (Int32.ofNat f0) y (m :: ms) B cm w.1).1[p]? = some z → ∃ v, mr'[20 * n + p]? = some v ∧ yVM (N' ++ M) v z) := by
            intro S' w' v' N1 l5' g1 g2 g3 g4
            have hob : obM (EM S' u ((238, .inr (0, of.map Value.int)) :: (240, .inr (3, fi.map Value.int)) :: (241, .inr (0, rc.map Value.int)) :: (242, .inr (0, sg.map Value.int)) :: (239, .inr (10, mr)) :: (209, .inl (14, 26, .int (Int32.ofNat n))) :: (260, .inr (0, (((cm ++ [Int32.ofNat (cryO En Pb.1 an).2.1]) ++ c0.drop (i + 1))).map Value.int)) :: ((N1 ++ N) ++ D2))) v' := yVM_ob (g4.mono (fun e he => by
              refine inEM (List.mem_cons_of_mem _ (List.mem_cons_of_mem _ (List.mem_cons_of_mem _ (List.mem_cons_of_mem _ (List.mem_cons_of_mem _ (List.mem_cons_of_mem _ (List.mem_cons_of_mem _ ?_)))))))
              rcases List.mem_append.mp he with he | he
              · exact List.mem_append_left _ (List.mem_append_left _ he)
              · exact List.mem_append_right _ (hM he)))
            refine yt_ist rfl rfl 27 rfl ⟨by rw [ti]; omega, by rw [ti, ← hcs (-9), List.length_set, hcl]; omega⟩ (D1 := EM S' u ((238, .inr (0, of.map Value.int)) :: (240, .inr (3, fi.map Value.int)) :: (241, .inr (0, rc.map Value.int)) :: (242, .inr (0, sg.map Value.int)) :: (239, .inr (10, mr)) :: (209, .inl (14, 26, .int (Int32.ofNat n))) :: (260, .inr (0, (((cm ++ [Int32.ofNat (cryO En Pb.1 an).2.1]) ++ c0.drop (i + 1))).map Value.int)) :: ((N1 ++ N) ++ D2))) (by rw [t3, hcz]; rfl) ?_
            refine xt_pure rfl rfl rfl rfl ?_
            refine xt_getf rfl rfl (xmC 188 rfl) ?_
            refine xt_pure rfl rfl rfl (st1 := .int 20 :: _) rfl ?_
            refine xt_pure rfl rfl rfl rfl ?_
            refine xt_pure rfl rfl rfl rfl ?_
            refine xt_pure rfl rfl rfl rfl ?_
            refine xt_getf rfl rfl (xmC 208 rfl) ?_
            refine xt_pure rfl rfl rfl rfl ?_
            refine xt_iald rfl rfl (xmS 0 rfl (inEM7 hm3)) t4.1 (v := .int m.2.2.2) (by rw [t4.2, t3, List.getElem?_map, r3]; rfl) ?_
            refine xt_pure rfl rfl rfl rfl ?_
            rw [wx]
            have fin : yT X 20 700 332 107 [some (.ref 209), some (.int (Int32.ofNat d)), some (.int y), some (.int (Int32.ofNat n)), some (.int (Int32.ofNat i)), l5', some v'] [v', .int (Int32.ofNat (20 * n + m.2.2.2.toInt.toNat)), .ref 239] (EM S' u ((238, .inr (0, of.map Value.int)) :: (240, .inr (3, fi.map Value.int)) :: (241, .inr (0, rc.map Value.int)) :: (242, .inr (0, sg.map Value.int)) :: (239, .inr (10, mr)) :: (209, .inl (14, 26, .int (Int32.ofNat n))) :: (260, .inr (0, (((cm ++ [Int32.ofNat (cryO En Pb.1 an).2.1]) ++ c0.drop (i + 1))).map Value.int)) :: ((N1 ++ N) ++ D2))) (4 * ms.length) (59 * ms.length) (fun a D => ∃ S' w' mr' N', a = some (.int (Int32.ofNat n)) ∧ D = EM S' u ((238, .inr (0, of.map Value.int)) :: (240, .inr (3, fi.map Value.int)) :: (241, .inr (0, rc.map Value.int)) :: (242, .inr (0, sg.map Value.int)) :: (239, .inr (10, mr')) :: (209, .inl (14, 26, .int (Int32.ofNat (n + 1)))) :: (260, .inr (0, ((mgR En A Fb (Int32.ofNat f0) y (m :: ms) B cm w.1).2.1 ++ c0.drop Mv.length).map Value.int)) :: (N' ++ D2)) ∧ R9 S' w' d0 ∧ frM S S' ∧ w'.1 = (mgR En A Fb (Int32.ofNat f0) y (m :: ms) B cm w.1).2.2 ∧ mr'.length = 620 ∧ (∀ q, ¬ (20 * n ≤ q ∧ q < 20 * n + 20) → mr'[q]? = mr[q]?) ∧ ∀ (p : Nat) z, (mgR En A Fb (Int32.ofNat f0) y (m :: ms) B cm w.1).1[p]? = some z → ∃ v, mr'[20 * n + p]? = some v ∧ yVM (N' ++ M) v z) := by
              refine yt_ast rfl rfl 25 rfl rfl (by decide) (asM hob) ⟨by rw [w2]; omega, by rw [w2]; omega⟩ (D1 := EM S' u ((238, .inr (0, of.map Value.int)) :: (240, .inr (3, fi.map Value.int)) :: (241, .inr (0, rc.map Value.int)) :: (242, .inr (0, sg.map Value.int)) :: (239, .inr (10, mr.set (20 * n + m.2.2.2.toInt.toNat) v')) :: (209, .inl (14, 26, .int (Int32.ofNat n))) :: (260, .inr (0, (((cm ++ [Int32.ofNat (cryO En Pb.1 an).2.1]) ++ c0.drop (i + 1))).map Value.int)) :: ((N1 ++ N) ++ D2))) (by rw [w23]; rfl) ?_
              refine xt_pure rfl rfl rfl (L1 := [_, _, _, _, some (.int (_ + 1)), _, _]) rfl ?_
              refine xt_pure rfl rfl rfl rfl ?_
              rw [yi_add1]
              refine (migM_loop hM hn hd hE hNe hSn hF hFy h20 hF0 hFl hof hal haf hA20 hAk hmn hm0 hm1 hm2 hm3 hmr hmv hc40 ms (i + 1) S' w' _ (B.set m.2.2.2.toInt.toNat (cryO En Pb.1 an).1) (cm ++ [Int32.ofNat (cryO En Pb.1 an).2.1]) (N1 ++ N) _ _ hd2 (by omega) (by rw [List.length_append, hcm]; rfl) g1 (by rw [List.length_set]; exact hB20) (by rw [List.length_set]; exact hl) ?_ ?_).mono (Nat.le_refl _) (Nat.le_refl _) ?_
              · intro p z hz
                obtain ⟨v2, e1, e2⟩ := hA p z hz
                have hp20 := (List.getElem?_eq_some_iff.mp hz).1
                exact ⟨v2, by rw [List.getElem?_set_ne (by omega)]; exact e1, e2⟩
              · intro p z hz
                have hp20 : p < 20 := by
                  have := (List.getElem?_eq_some_iff.mp hz).1
                  rwa [List.length_set, hB20] at this
                by_cases e : m.2.2.2.toInt.toNat = p
                · subst e
                  rw [List.getElem?_set_self (by omega)] at hz
                  injection hz with hz
                  subst hz
                  refine ⟨v', List.getElem?_set_self (by omega), g4.mono ?_⟩
                  intro e he
                  rcases List.mem_append.mp he with he | he
                  · exact List.mem_append_left _ (List.mem_append_left _ he)
                  · exact List.mem_append_right _ he
                · rw [List.getElem?_set_ne e] at hz
                  obtain ⟨v2, e1, e2⟩ := hB p z hz
                  refine ⟨v2, by rw [List.getElem?_set_ne (by omega)]; exact e1, e2.mono ?_⟩
                  rw [List.append_assoc]
                  exact fun _ he => List.mem_append_right _ he
              · rintro a D ⟨S2, w2', mr2, N2, k1, k2, k3, k4, k5, k6, k7, k8⟩
                rw [hgo, ← g3]
                refine ⟨S2, w2', mr2, N2, k1, k2, k3, g2.tr k4, k5, k6, ?_, k8⟩
                intro q hq
                rw [k7 q hq, List.getElem?_set_ne]
                intro e
                exact hq (by omega)
            rcases id hob with rfl | ⟨a, w0, rfl, _⟩
            · refine xt_pure rfl rfl rfl rfl ?_
              exact fin
            · refine xt_pure rfl rfl rfl rfl ?_
              exact fin
          refine xt_pure rfl rfl rfl rfl ?_
          refine xt_getf rfl rfl (xmC 188 rfl) ?_
          refine xt_pure rfl rfl rfl (st1 := .int 20 :: _) rfl ?_
          refine xt_pure rfl rfl rfl rfl ?_
          refine xt_pure rfl rfl rfl rfl ?_
          refine xt_pure rfl rfl rfl rfl ?_
          refine xt_getf rfl rfl (xmC 206 rfl) ?_
          refine xt_pure rfl rfl rfl rfl ?_
          refine xt_iald rfl rfl (xmS 0 rfl (inEM7 hm1)) t4.1 (v := .int m.2.1) (by rw [t4.2, t3, List.getElem?_map, r1]; rfl) ?_
          refine xt_pure rfl rfl rfl rfl ?_
          rw [tx]
          refine xt_aald rfl rfl ⟨by decide, rfl⟩ (xmD 25 rfl) t24.1 (v := rv) (by rw [t24.2, t23]; exact hrv) ?_
          cases an with
          | none =>
            have hv : rv = .null := hv
            subst hv
            refine xt_pure rfl rfl rfl (L1 := [_, _, _, _, _, _, _]) rfl ?_
            refine xt_pure rfl rfl rfl rfl ?_
            refine xt_pure rfl rfl rfl rfl ?_
            refine xt_pure rfl rfl rfl rfl ?_
            refine xt_pure rfl rfl rfl rfl ?_
            refine xt_pure rfl rfl rfl (L1 := [_, _, _, _, _, _, _]) rfl ?_
            refine xt_pure rfl rfl rfl rfl ?_
            refine xt_getf rfl rfl (xmC 209 rfl) ?_
            refine xt_pure rfl rfl rfl rfl ?_
            refine xt_pure rfl rfl rfl rfl ?_
            refine xt_pure rfl rfl rfl rfl ?_
            refine xt_pure rfl rfl rfl (st1 := .int 0 :: _) rfl ?_
            refine xt_pure rfl rfl rfl rfl ?_
            exact (go S w .null [] _ hW frM.rf (Int32.add_zero _).symm rfl).mono (by rw [List.length_cons]; omega) (by rw [List.length_cons]; omega) (fun _ _ h => h)
          | some ob =>
            obtain ⟨oa, rfl, hv⟩ := hv
            have hok := hAk _ ob han
            obtain ⟨ia, ra, ca, jk, rs, cs, o1, o2, _⟩ := id hv
            refine xt_pure rfl rfl rfl (L1 := [_, _, _, _, _, _, _]) rfl ?_
            refine xt_pure rfl rfl rfl rfl ?_
            refine xt_pure rfl rfl rfl rfl ?_
            refine xt_pure rfl rfl rfl rfl ?_
            refine xt_getf rfl rfl (xmS 0 rfl (inEM7 o1)) ?_
            refine xt_pure rfl rfl rfl rfl ?_
            refine xt_getf rfl rfl (xmS 0 rfl (inEM7 o2)) ?_
            refine xt_callS rfl rfl (by decide) rfl ⟨rfl, yle rfl, yle rfl, yle rfl, yle rfl⟩ mk_thing (c2 := 4 * ms.length) (s2 := 59 * ms.length) ⟨by rw [List.length_cons]; omega, by rw [List.length_cons]; omega⟩ ?_
            rintro _ _ ⟨b, ib, rb, cb, rfl, rfl⟩
            refine xt_pure rfl rfl rfl (L1 := [_, _, _, _, _, _, _]) rfl ?_
            refine xt_pure rfl rfl rfl rfl ?_
            refine xt_getf rfl rfl (xmC 209 rfl) ?_
            refine xt_pure rfl rfl rfl rfl ?_
            refine xt_pure rfl rfl rfl rfl ?_
            refine xt_pure rfl rfl rfl rfl ?_
            refine xt_pure rfl rfl rfl rfl ?_
            refine xt_pure rfl rfl rfl rfl ?_
            refine xt_pure rfl rfl rfl rfl ?_
            refine xt_pure rfl rfl rfl rfl ?_
            refine xt_getf rfl rfl (xmC 177 rfl) ?_
            refine xt_pure rfl rfl rfl rfl ?_
            obtain ⟨fg1, fg2, fg3, fg4, fg5⟩ := gI_some haf
            refine xt_aald rfl rfl ⟨by decide, rfl⟩ (xmS 8 rfl (inEM7 hal)) fg5 (v := .ref fa) (by rw [fg4, fg3]) ?_
            obtain ⟨pp, qq, nm, fn, vl, fE, _, fP, _⟩ := id hF
            refine xt_getf rfl rfl (xmS 8 rfl (inEM7 (ymm fE 2 rfl))) ?_
            refine xt_pure rfl rfl rfl rfl ?_
            refine xt_getf rfl rfl (xmC 208 rfl) ?_
            refine xt_pure rfl rfl rfl rfl ?_
            refine xt_iald rfl rfl (xmS 8 rfl (inEM7 hm3)) t4.1 (v := .int m.2.2.2) (by rw [t4.2, t3, List.getElem?_map, r3]; rfl) ?_
            refine xt_iald rfl rfl (xmS 8 rfl (inEM7 (ymm fE 24 rfl))) (yjn s1).1 (v := .int Pb.1) (by rw [(yjn s1).2, List.getElem?_map, (fP _ Pb s3).1]; rfl) ?_
            refine yT.perm (D2 := (209, .inl (14, 24, .int (zI S 0))) :: (thE b ib rb cb (Int32.ofNat ob.1) (Int32.ofNat (osz ob)) (List.replicate 12 (newv (Int32.ofNat ob.1))) (List.replicate 6 (-1)) (List.replicate 36 0) ++ (zE zaF S 1 zTF.tail ++ ((209, .inl (14, 46, u)) :: (238, .inr (0, of.map Value.int)) :: (240, .inr (3, fi.map Value.int)) :: (241, .inr (0, rc.map Value.int)) :: (242, .inr (0, sg.map Value.int)) :: (239, .inr (10, mr)) :: (209, .inl (14, 26, .int (Int32.ofNat n))) :: (260, .inr (0, ((cm ++ [-9]) ++ c0.drop (i + 1)).map Value.int)) :: (N ++ D2))))) ?_ ?_
            · exact List.perm_middle (l₁ := thE b ib rb cb (Int32.ofNat ob.1) (Int32.ofNat (osz ob)) (List.replicate 12 (newv (Int32.ofNat ob.1))) (List.replicate 6 (-1)) (List.replicate 36 0))
            · have sbr : D2 ⊆ (zE zaF S 1 zTF.tail ++ ((209, .inl (14, 46, u)) :: (238, .inr (0, of.map Value.int)) :: (240, .inr (3, fi.map Value.int)) :: (241, .inr (0, rc.map Value.int)) :: (242, .inr (0, sg.map Value.int)) :: (239, .inr (10, mr)) :: (209, .inl (14, 26, .int (Int32.ofNat n))) :: (260, .inr (0, ((cm ++ [-9]) ++ c0.drop (i + 1)).map Value.int)) :: (N ++ D2))) := fun e he => List.mem_append_right _ (List.mem_cons_of_mem _ (List.mem_cons_of_mem _ (List.mem_cons_of_mem _ (List.mem_cons_of_mem _ (List.mem_cons_of_mem _ (List.mem_cons_of_mem _ (List.mem_cons_of_mem _ (List.mem_cons_of_mem _ (List.mem_append_right _ he)))))))))
              refine xt_callV rfl rfl rfl rfl (xmC 176 rfl) ⟨rfl, rfl, yle rfl, yle rfl, yle rfl, yle rfl⟩ (mk_copied hE (sbr hNe) (sbr hSn) (hF.mono sbr) (hv.mono sbr) hok) (c2 := 4 * ms.length) (s2 := 59 * ms.length) ⟨yle2, yle2⟩ ?_
              rintro _ _ ⟨N1, rfl, rfl, hN1⟩
              refine yT.perm (D2 := EM (zsI S 0 (zI S 0 + (cryR En Pb.1 ob).2.2)) u ((238, .inr (0, of.map Value.int)) :: (240, .inr (3, fi.map Value.int)) :: (241, .inr (0, rc.map Value.int)) :: (242, .inr (0, sg.map Value.int)) :: (239, .inr (10, mr)) :: (209, .inl (14, 26, .int (Int32.ofNat n))) :: (260, .inr (0, ((cm ++ [-9]) ++ c0.drop (i + 1)).map Value.int)) :: ((N1 ++ N) ++ D2))) ?_ ?_
              · exact mgm_perm
              · refine go (zsI S 0 (zI S 0 + (cryR En Pb.1 ob).2.2)) (w.1 + (cryR En Pb.1 ob).2.2, w.2) (.ref b) N1 _ ?_ frM.rf rfl ⟨b, rfl, hN1.mono (fun _ he => List.mem_append_left _ he)⟩
                obtain ⟨R, ⟨a1, a2, a3, a4, a5, _⟩, bb⟩ := hW
                exact ⟨_, ⟨by show zI S 0 + _ = w.1 + _; rw [a1], a2, a3, a4, a5, frM.rf⟩, bb⟩
/-- what the reference answers to migrate -/
def QmgM (Fs : List yF) (Dr : List yD) (En : List (Int64 × Int32)) (Mv : List yMv) (S : zS) (w : yW) (u : Value) (d0 x y : Int32) (of fi rc sg c0 : List Int32) (mr : List Value) (n : Nat) (M D2 : List xE) (a : Option Value) (D : List xE) : Prop := ((gI Dr x = none ∨ gI Fs y = none) ∧ a = some (.int (-1)) ∧ D = (EM S u ((238, .inr (0, of.map Value.int)) :: (240, .inr (3, fi.map Value.int)) :: (241, .inr (0, rc.map Value.int)) :: (242, .inr (0, sg.map Value.int)) :: (239, .inr (10, mr)) :: (209, .inl (14, 26, .int (Int32.ofNat n))) :: (260, .inr (0, c0.map Value.int)) :: D2))) ∨ (∃ dd F, gI Dr x = some dd ∧ gI Fs y = some F ∧ (10000 ≤ w.1.toInt ∨ n = 30) ∧ a = some (.int (-3)) ∧ D = (EM S u ((238, .inr (0, of.map Value.int)) :: (240, .inr (3, fi.map Value.int)) :: (241, .inr (0, rc.map Value.int)) :: (242, .inr (0, sg.map Value.int)) :: (239, .inr (10, mr)) :: (209, .inl (14, 26, .int (Int32.ofNat n))) :: (260, .inr (0, c0.map Value.int)) :: D2))) ∨ ∃ dd F S' w' mr' N', gI Dr x = some dd ∧ gI Fs y = some F ∧ ¬ 10000 ≤ w.1.toInt ∧ n < 30 ∧ a = some (.int (Int32.ofNat n)) ∧ D = EM S' u ((238, .inr (0, (of.set n y).map Value.int)) :: (240, .inr (3, (fi.set n 0).map Value.int)) :: (241, .inr (0, (rc.set n (-9)).map Value.int)) :: (242, .inr (0, (sg.set n 0).map Value.int)) :: (239, .inr (10, mr')) :: (209, .inl (14, 26, .int (Int32.ofNat (n + 1)))) :: (260, .inr (0, ((mgR En dd.2.1 F (Int32.ofNat dd.1) y Mv (List.replicate 20 none) [] w.1).2.1 ++ c0.drop Mv.length).map Value.int)) :: (N' ++ D2)) ∧ R9 S' w' d0 ∧ frM S S' ∧ w'.1 = (mgR En dd.2.1 F (Int32.ofNat dd.1) y Mv (List.replicate 20 none) [] w.1).2.2 ∧ mr'.length = 620 ∧ (∀ q, ¬ (20 * n ≤ q ∧ q < 20 * n + 20) → mr'[q]? = mr[q]?) ∧ ∀ (p : Nat) z, (mgR En dd.2.1 F (Int32.ofNat dd.1) y Mv (List.replicate 20 none) [] w.1).1[p]? = some z → ∃ v, mr'[20 * n + p]? = some v ∧ yVM (N' ++ M) v z
theorem mK_migrate {n : Nat} {of fi rc sg c0 js : List Int32} {m0 m1 m2 m3 : List Int32} {mr : List Value} {M : List xE} (hM : M ⊆ D2) (hDn : Dr.length = n) (hn : n ≤ 30) (l1 : of.length = 31) (l2 : fi.length = 31) (l3 : rc.length = 31) (l4 : sg.length = 31) (l5 : mr.length = 620) (hD : ∀ (i : Nat) (d : yD), Dr[i]? = some d → of[i]? = some (Int32.ofNat d.1) ∧ (∃ F, Fs[d.1]? = some F) ∧ d.2.1.length = 20 ∧ (∀ (p : Nat) ob, d.2.1[p]? = some (some ob) → yOk En ob) ∧ ∀ (p : Nat) z, d.2.1[p]? = some z → ∃ v, mr[20 * i + p]? = some v ∧ yVM D2 v z) (hFs : yFsM Fs D2) (h20 : ∀ (i : Nat) F, Fs[i]? = some F → F.1.length ≤ 20) (hE : En.length ≤ 100) (hNe : ((209, .inl (14, 19, .int (Int32.ofNat En.length))) : xE) ∈ D2) (hSn : ((236, .inr (0, (En.map Prod.snd ++ js).map Value.int)) : xE) ∈ D2) (hmn : ((209, .inl (14, 66, .int (Int32.ofNat Mv.length))) : xE) ∈ D2) (hm0 : ((256, .inr (0, m0.map Value.int)) : xE) ∈ D2) (hm1 : ((257, .inr (0, m1.map Value.int)) : xE) ∈ D2) (hm2 : ((258, .inr (0, m2.map Value.int)) : xE) ∈ D2) (hm3 : ((259, .inr (0, m3.map Value.int)) : xE) ∈ D2) (hmr : ∀ (i : Nat) m, Mv[i]? = some m → m0[i]? = some m.1 ∧ m1[i]? = some m.2.1 ∧ m2[i]? = some m.2.2.1 ∧ m3[i]? = some m.2.2.2) (hmv : mvOk Fs Mv) (hc40 : c0.length = 40) (hW : R9 S w d0) : yK X 40 1000 332 [.ref 209, .int x, .int y] (EM S u ((238, .inr (0, of.map Value.int)) :: (240, .inr (3, fi.map Value.int)) :: (241, .inr (0, rc.map Value.int)) :: (242, .inr (0, sg.map Value.int)) :: (239, .inr (10, mr)) :: (209, .inl (14, 26, .int (Int32.ofNat n))) :: (260, .inr (0, c0.map Value.int)) :: D2)) 160 2360 (QmgM Fs Dr En Mv S w u d0 x y of fi rc sg c0 mr n M D2) := by
  have hFs0 := hFs
  obtain ⟨fs, f1, f2, f3, f4, f5⟩ := hFs
  have ti := yi_nat (i := n) (by omega)
  have h0 := hW.fl0.1
  have h40 := hmv.1
  have sub : ∀ {e : xE}, e ∈ D2 → e ∈ (EM S u ((238, .inr (0, of.map Value.int)) :: (240, .inr (3, fi.map Value.int)) :: (241, .inr (0, rc.map Value.int)) :: (242, .inr (0, sg.map Value.int)) :: (239, .inr (10, mr)) :: (209, .inl (14, 26, .int (Int32.ofNat n))) :: (260, .inr (0, c0.map Value.int)) :: D2)) := fun he => inEM7 (N := []) he
  refine yK.of rfl (yle rfl) (L := [_, _, _, _, _, _, _]) rfl ?_
  refine xt_pure rfl rfl rfl rfl ?_
  refine xt_pure rfl rfl rfl rfl ?_
  refine xt_callV rfl rfl rfl rfl (xmC 176 rfl) ⟨rfl, rfl, yle rfl, yle rfl, yle rfl, yle rfl⟩ (mk_isDraft (n := n) (by omega) (List.mem_of_getElem? (i := 26) rfl)) (c2 := 160) (s2 := 2360) ⟨yle rfl, yle rfl⟩ ?_
  rintro _ _ (⟨rfl, hx, rfl⟩ | ⟨rfl, hx, rfl⟩)
  rotate_left
  · skip
    refine xt_pure rfl rfl rfl rfl ?_
    refine xt_pure rfl rfl rfl (st1 := .int (-1) :: _) rfl ?_
    exact xt_iret rfl rfl rfl rfl (Or.inl ⟨Or.inl (gI_out (by omega)), rfl, rfl⟩)
  · obtain ⟨dd, hg⟩ := (gI_iff (l := Dr)).mpr (by rw [hDn]; exact hx)
    obtain ⟨_, _, hgi, _, _⟩ := gI_some hg
    obtain ⟨z1, ⟨F0, z2⟩, z3, z4, z5⟩ := hD _ dd hgi
    have hlt := (List.getElem?_eq_some_iff.mp hgi).1
    refine xt_pure rfl rfl rfl rfl ?_
    refine xt_pure rfl rfl rfl rfl ?_
    refine xt_pure rfl rfl rfl rfl ?_
    refine xt_callV rfl rfl rfl rfl (xmC 176 rfl) ⟨rfl, rfl, yle rfl, yle rfl, yle rfl, yle rfl⟩ (mk_isForm (n := Fs.length) (by omega) (sub f3)) (c2 := 160) (s2 := 2360) ⟨yle rfl, yle rfl⟩ ?_
    rintro _ _ (⟨rfl, hy, rfl⟩ | ⟨rfl, hy, rfl⟩)
    rotate_left
    · skip
      refine xt_pure rfl rfl rfl rfl ?_
      refine xt_pure rfl rfl rfl (st1 := .int (-1) :: _) rfl ?_
      exact xt_iret rfl rfl rfl rfl (Or.inl ⟨Or.inr (gI_out (by omega)), rfl, rfl⟩)
    · obtain ⟨F, hF⟩ := (gI_iff (l := Fs)).mpr hy
      obtain ⟨g1, g2, g3, g4, g5⟩ := gI_some hF
      obtain ⟨fa, hfa⟩ := yfa g3 f1
      have hC2 := f5 _ F fa g3 hfa
      refine xt_pure rfl rfl rfl rfl ?_
      refine xt_pure rfl rfl rfl rfl ?_
      refine xt_callV rfl rfl rfl rfl (xmC 176 rfl) ⟨rfl, rfl, yle rfl, yle rfl, yle rfl, yle rfl⟩ (mk_isSpent (fl := zI S 0) (List.mem_of_getElem? (i := 0) rfl)) (c2 := 160) (s2 := 2360) ⟨yle rfl, yle rfl⟩ ?_
      rintro _ _ (⟨rfl, hf, rfl⟩ | ⟨rfl, hf, rfl⟩)
      · rw [h0] at hf
        refine xt_pure rfl rfl rfl rfl ?_
        refine xt_pure rfl rfl rfl (st1 := .int (-3) :: _) rfl ?_
        exact xt_iret rfl rfl rfl rfl (Or.inr (Or.inl ⟨dd, F, hg, hF, Or.inl hf, rfl, rfl⟩))
      · rw [h0] at hf
        refine xt_pure rfl rfl rfl rfl ?_
        refine xt_pure rfl rfl rfl rfl ?_
        refine xt_getf rfl rfl (xmD 26 rfl) ?_
        refine xt_pure rfl rfl rfl (st1 := .int 30 :: _) rfl ?_
        refine yt_ic rfl rfl (fun (h7 : Int32.ofNat n ≠ 30) => ?_) (fun (h7 : Int32.ofNat n = 30) => ?_)
        rotate_left
        · have h9 := congrArg Int32.toInt h7
          rw [ti, show (30 : Int32).toInt = 30 from rfl] at h9
          refine xt_pure rfl rfl rfl (st1 := .int (-3) :: _) rfl ?_
          exact xt_iret rfl rfl rfl rfl (Or.inr (Or.inl ⟨dd, F, hg, hF, Or.inr (by omega), rfl, rfl⟩))
        · have h9 : n < 30 := by
            rcases Nat.lt_or_ge n 30 with h | h
            · exact h
            · exact absurd (by rw [show n = 30 by omega]; rfl) h7
          refine xt_pure rfl rfl rfl rfl ?_
          refine xt_getf rfl rfl (xmD 26 rfl) ?_
          refine xt_pure rfl rfl rfl (L1 := [_, _, _, _, _, _, _]) rfl ?_
          refine xt_pure rfl rfl rfl rfl ?_
          refine xt_pure rfl rfl rfl rfl ?_
          refine xt_pure rfl rfl rfl rfl ?_
          refine xt_callV rfl rfl rfl rfl (xmC 176 rfl) ⟨rfl, rfl, yle rfl, yle rfl, yle rfl, yle rfl⟩ (mk_emptied (d := n) (x := y) (by omega) (k0 := 21) rfl l1 (k1 := 22) rfl l2 (k2 := 23) rfl l3 (k3 := 24) rfl l4 (k4 := 25) rfl l5) (c2 := 160) (s2 := 2360) ⟨yle rfl, yle rfl⟩ ?_
          rintro _ _ ⟨rfl, rfl⟩
          refine xt_pure rfl rfl rfl (st1 := .int 0 :: _) rfl ?_
          refine xt_pure rfl rfl rfl (L1 := [_, _, _, _, _, _, _]) rfl ?_
          rw [show (Value.int x) = Value.int (Int32.ofNat x.toInt.toNat) by rw [yi_id hx.1]]
          have hal : gI (fs.map Value.ref ++ List.replicate (10 - Fs.length) Value.null) y = some (.ref fa) := by
            obtain ⟨_, nm2⟩ := yform g3 hfa f1 f2
            rw [yi_id g1, g4] at nm2
            exact gI_in g1 nm2
          refine ((migM_loop (of := of.set n y) (fi := fi.set n 0) (rc := rc.set n (-9)) (sg := sg.set n 0) (c0 := c0) hM (by omega) (by omega) hE hNe hSn hC2 hF h20 z2 f2 (by rw [List.getElem?_set_ne (by omega)]; exact z1) f4 hal z3 z4 hmn hm0 hm1 hm2 hm3 hmr hmv hc40 Mv 0 S w (nul mr (20 * n) 20) (List.replicate 20 none) [] [] none none rfl (by omega) rfl hW (by simp) (by rw [nul_len]; exact l5) ?_ ?_).up (by omega) (by omega)).mono (by omega) (by omega) ?_
          · intro p z hz
            obtain ⟨v, e1, e2⟩ := z5 p z hz
            have hp := (List.getElem?_eq_some_iff.mp hz).1
            exact ⟨v, by rw [nul_out _ (by omega)]; exact e1, e2⟩
          · intro p z hz
            have hp : p < 20 := by
              have := (List.getElem?_eq_some_iff.mp hz).1
              rwa [List.length_replicate] at this
            have e2 := (List.mem_replicate.mp (List.mem_of_getElem? hz)).2
            subst e2
            exact ⟨.null, nul_in _ hp (by omega), rfl⟩
          · rintro a D ⟨S', w', mr', N', k1, k2, k3, k4, k5, k6, k7, k8⟩
            refine Or.inr (Or.inr ⟨dd, F, S', w', mr', N', hg, hF, hf, by omega, k1, k2, k3, k4, k5, k6, ?_, k8⟩)
            intro q hq
            rw [k7 q hq, nul_out _ (by omega)]
end MIGM
