/-! KEEP: the reference -/
/-- a giving of the log: draft, part, what it took the place of, undone -/
abbrev yLg : Type := Nat × Nat × Option yO × Bool
/-- the log's rows -/
def lgA (lg : List yLg) (gd gp gu : List Int32) (gw : List Value) (D : List xE) : Prop := (gd.length = 400 ∧ gp.length = 400 ∧ gu.length = 400 ∧ gw.length = 400) ∧ lg.length ≤ 400 ∧ ∀ (i : Nat) e, lg[i]? = some e → gd[i]? = some (Int32.ofNat e.1) ∧ gp[i]? = some (Int32.ofNat e.2.1) ∧ gu[i]? = some (b32 e.2.2.2) ∧ ∃ v, gw[i]? = some v ∧ yVM D v e.2.2.1
theorem lgA.mono {lg : List yLg} {gd gp gu : List Int32} {gw : List Value} {D D2 : List xE} (h : D ⊆ D2) (q : lgA lg gd gp gu gw D) : lgA lg gd gp gu gw D2 := ⟨q.1, q.2.1, fun i e hi => by
  obtain ⟨a, b, c, v, d, e⟩ := q.2.2 i e hi
  exact ⟨a, b, c, v, d, e.mono h⟩⟩
theorem lgA.push {lg : List yLg} {gd gp gu : List Int32} {gw : List Value} {D : List xE} {d p : Nat} {v : Value} {z : Option yO} (q : lgA lg gd gp gu gw D) (hl : lg.length < 400) (hv : yVM D v z) : lgA (lg ++ [(d, p, z, false)]) (gd.set lg.length (Int32.ofNat d)) (gp.set lg.length (Int32.ofNat p)) (gu.set lg.length 0) (gw.set lg.length v) D := by
  obtain ⟨⟨l1, l2, l3, l4⟩, _, h⟩ := q
  refine ⟨⟨by rw [List.length_set]; exact l1, by rw [List.length_set]; exact l2, by rw [List.length_set]; exact l3, by rw [List.length_set]; exact l4⟩, by rw [List.length_append, List.length_singleton]; omega, ?_⟩
  intro i e hi
  by_cases e1 : lg.length = i
  · subst e1
    rw [List.getElem?_append_right (Nat.le_refl _), Nat.sub_self] at hi
    injection hi with hi
    subst hi
    exact ⟨List.getElem?_set_self (by omega), List.getElem?_set_self (by omega), List.getElem?_set_self (by omega), v, List.getElem?_set_self (by omega), hv⟩
  · have hlt : i < lg.length := by
      have := (List.getElem?_eq_some_iff.mp hi).1
      rw [List.length_append, List.length_singleton] at this
      omega
    rw [List.getElem?_append_left hlt] at hi
    obtain ⟨a, b, c, v2, d2, e2⟩ := h i e hi
    exact ⟨by rw [List.getElem?_set_ne e1]; exact a, by rw [List.getElem?_set_ne e1]; exact b, by rw [List.getElem?_set_ne e1]; exact c, v2, by rw [List.getElem?_set_ne e1]; exact d2, e2⟩
/-- a filling's givings in the log -/
def lgK (d : Nat) (l : List (Nat × Option yO)) : List yLg := l.reverse.map (fun q => (d, q.1, q.2, false))
section KEEPM
variable {X : List Int32} {D2 : List xE} {Fs : List yF} {F : yF} {En : List (Int64 × Int32)} {fa : Nat} {pl sr cr : List Nat} {St : zS}
theorem kk_perm {a b c d e f g h i j k l : xE} {x : yTg} {N D2 : List xE} : (a :: (tgE x ++ (b :: c :: d :: e :: f :: g :: h :: i :: j :: k :: l :: (N ++ D2)))).Perm (a :: b :: c :: d :: e :: f :: g :: h :: i :: j :: k :: l :: ((tgE x ++ N) ++ D2)) := by
  have hh : ∀ (A B C : List xE), (A ++ (B ++ C)).Perm (B ++ (A ++ C)) := fun A B C => by
    rw [← List.append_assoc, ← List.append_assoc]
    exact List.Perm.append_right _ List.perm_append_comm
  rw [List.append_assoc]
  exact List.Perm.cons _ (hh (tgE x) [b, c, d, e, f, g, h, i, j, k, l] (N ++ D2))
theorem keepM_loop {M : List xE} (hM : M ⊆ D2) (hT : ∀ q ∈ zE zaT St 0 zTT, q ∈ D2) {tf : Int32} (htf : zI St 0 = tf) {al : List Value} (hal : ((211, .inr (8, al)) : xE) ∈ D2) (haf : gI al tf = some (.ref fa)) {js : List Int32} (hNe : ((209, .inl (14, 19, .int (Int32.ofNat En.length))) : xE) ∈ D2) (hSn : ((236, .inr (0, (En.map Prod.snd ++ js).map Value.int)) : xE) ∈ D2) (hF : yFM D2 fa F) (hok : yFok F) (hst : stM2 F St pl sr cr) {n : Nat} {lg : List yLg} {of fi rc sg : List Int32} {ev : Int32} (hn : n < 30) (hlg : lg.length + sr.length ≤ 400) : ∀ (td tc dn dc : List Nat) (mr : List Value) (gd gp gu : List Int32) (gw : List Value) (N : List xE) (l3 : Option Value), sr = td.reverse ++ dn → cr = tc.reverse ++ dc → td.length = tc.length → dn.length = dc.length → lgA (lg ++ lgK n (chR F pl dn dc)) gd gp gu gw (N ++ M) → mr.length = 620 → (∀ (p : Nat) z, (layR F pl dn dc)[p]? = some z → ∃ v, mr[20 * n + p]? = some v ∧ yVM (N ++ M) v z) → yT X 20 700 343 34 [some (.ref 209), some (.int (Int32.ofNat n)), some (.int (Int32.ofNat dn.length)), l3] [] ((209, .inl (14, 24, .int ev)) :: (238, .inr (0, (of).map Value.int)) :: (240, .inr (3, (fi).map Value.int)) :: (241, .inr (0, (rc).map Value.int)) :: (242, .inr (0, (sg).map Value.int)) :: (239, .inr (10, mr)) :: (209, .inl (14, 26, .int (Int32.ofNat (n + 1)))) :: (243, .inr (0, (gd).map Value.int)) :: (244, .inr (0, (gp).map Value.int)) :: (245, .inr (10, gw)) :: (246, .inr (3, (gu).map Value.int)) :: (209, .inl (14, 32, .int (Int32.ofNat (lg.length + dn.length)))) :: (N ++ D2)) (4 * td.length) (59 * td.length) (fun a D => ∃ mr' gd' gp' gw' gu' N', a = some (.int (Int32.ofNat n)) ∧ D = ((209, .inl (14, 24, .int ev)) :: (238, .inr (0, (of).map Value.int)) :: (240, .inr (3, (fi).map Value.int)) :: (241, .inr (0, (rc).map Value.int)) :: (242, .inr (0, (sg).map Value.int)) :: (239, .inr (10, mr')) :: (209, .inl (14, 26, .int (Int32.ofNat (n + 1)))) :: (243, .inr (0, (gd').map Value.int)) :: (244, .inr (0, (gp').map Value.int)) :: (245, .inr (10, gw')) :: (246, .inr (3, (gu').map Value.int)) :: (209, .inl (14, 32, .int (Int32.ofNat (lg.length + sr.length)))) :: (N' ++ D2)) ∧ lgA (lg ++ lgK n (chR F pl sr cr)) gd' gp' gu' gw' (N' ++ M) ∧ mr'.length = 620 ∧ (∀ q, ¬ (20 * n ≤ q ∧ q < 20 * n + 20) → mr'[q]? = mr[q]?) ∧ ∀ (p : Nat) z, (layR F pl sr cr)[p]? = some z → ∃ v, mr'[20 * n + p]? = some v ∧ yVM (N' ++ M) v z)
  | [], tc, dn, dc, mr, gd, gp, gu, gw, N, l3, hs, hc, htl, hdl, hL, hm, hA => by
    have : tc = [] := List.length_eq_zero_iff.mp htl.symm
    subst this
    rw [List.reverse_nil, List.nil_append] at hs hc
    subst hs hc
    have h3 := hst.2.1
    refine xt_pure rfl rfl rfl rfl ?_
    refine xt_pure rfl rfl rfl rfl ?_
    refine xt_getf rfl rfl (xmS 12 rfl (List.mem_append_right _ (ymm hT 3 rfl))) ?_
    rw [show zI St 3 = _ from h3]
    refine yt_ic rfl rfl (fun _ => ?_) (fun (h : Int32.toInt _ < Int32.toInt _) => by omega)
    refine xt_pure rfl rfl rfl rfl ?_
    exact xt_iret rfl rfl rfl rfl ⟨mr, gd, gp, gw, gu, N, rfl, rfl, hL, hm, fun _ _ => rfl, hA⟩
  | s :: td, [], dn, dc, mr, gd, gp, gu, gw, N, l3, hs, hc, htl, hdl, hL, hm, hA => by cases htl
  | s :: td, c :: tc, dn, dc, mr, gd, gp, gu, gw, N, l3, hs, hc, htl, hdl, hL, hm, hA => by
    obtain ⟨h4, h3, h8, ⟨l5, l6, l7, l8, l9⟩, ⟨⟨j5, h5⟩, h6⟩, ⟨t7, h7⟩, ⟨t8, h8a⟩, hpk, hv⟩ := id hst
    have hle := hv.1.le (Nat.zero_le _)
    rw [List.reverse_cons, List.append_assoc] at hs hc
    have hs : sr = td.reverse ++ s :: dn := hs
    have hc : cr = tc.reverse ++ c :: dc := hc
    have hsl : sr.length = td.length + (dn.length + 1) := by rw [hs, List.length_append, List.length_reverse, List.length_cons]
    have hsp : s < pl.length := hv.1.lt s (by rw [hs]; exact List.mem_append_right _ List.mem_cons_self)
    have hcm : c < mnF F pl s := vlC_at hv.2 hs hc (Nat.succ.inj htl)
    obtain ⟨p, hp⟩ : ∃ p, pl[s]? = some p := ⟨_, List.getElem?_eq_getElem hsp⟩
    obtain ⟨P, hP, hPk⟩ := hpk p (List.mem_of_getElem? hp)
    have hmn : mnF F pl s = mnP P := by rw [mnF, hp, Option.bind_some, hP]; rfl
    rw [hmn] at hcm
    have hpl : p < F.1.length := (List.getElem?_eq_some_iff.mp hP).1
    obtain ⟨fe, _, _, _, _, hl20, _, _, _, hok9⟩ := id hok
    have ti := yi_nat (i := dn.length) (by omega)
    have e7 : gI (zA St 7) (Int32.ofNat dn.length) = some (Int32.ofNat s) := by rw [h7, hs]; exact arr_mid (by omega)
    have e8 : gI (zA St 8) (Int32.ofNat dn.length) = some (Int32.ofNat c) := by rw [h8a, hc, hdl]; exact arr_mid (by omega)
    have e5 : gI (zA St 5) (Int32.ofNat s) = some (Int32.ofNat p) := by
      rw [gI_nat (by omega), h5, List.getElem?_append_left (by rw [List.length_map]; exact hsp), List.getElem?_map, hp]; rfl
    have hlk : (lg ++ lgK n (chR F pl dn dc)).length = lg.length + dn.length := by
      rw [List.length_append]
      unfold lgK
      rw [List.length_map, List.length_reverse, chR_len dn dc hdl]
    obtain ⟨z0, hz0⟩ : ∃ z0, (layR F pl dn dc)[p]? = some z0 := ⟨_, List.getElem?_eq_getElem (by rw [layR_len]; omega)⟩
    obtain ⟨v0, hv0, hvm⟩ := hA p z0 hz0
    have hanR : anR (layR F pl dn dc) (Int32.ofNat p) = z0 := by rw [anR, gI_nat (by omega), hz0]; rfl
    obtain ⟨fg1, fg2, fg3, fg4, fg5⟩ := gI_some haf
    refine xt_pure rfl rfl rfl rfl ?_
    refine xt_pure rfl rfl rfl rfl ?_
    refine xt_getf rfl rfl (xmS 12 rfl (List.mem_append_right _ (ymm hT 3 rfl))) ?_
    rw [show zI St 3 = _ from h3]
    refine yt_ic rfl rfl (fun (h : Int32.toInt _ ≤ Int32.toInt _) => ?_) (fun _ => ?_)
    · rw [ti, yi_nat (by omega)] at h
      omega
    · skip
      refine xt_pure rfl rfl rfl rfl ?_
      refine xt_getf rfl rfl (xmC 210 rfl) ?_
      refine xt_pure rfl rfl rfl rfl ?_
      refine xt_getf rfl rfl (xmC 212 rfl) ?_
      refine xt_pure rfl rfl rfl rfl ?_
      refine xt_iald rfl rfl (xmS 12 rfl (List.mem_append_right _ (ymm hT 7 rfl))) (gI_some e7).2.2.2.2 (v := .int (Int32.ofNat s)) (gI_int e7) ?_
      refine xt_iald rfl rfl (xmS 12 rfl (List.mem_append_right _ (ymm hT 5 rfl))) (gI_some e5).2.2.2.2 (v := .int (Int32.ofNat p)) (gI_int e5) ?_
      refine xt_pure rfl rfl rfl (L1 := [_, _, _, _]) rfl ?_
      refine xt_pure rfl rfl rfl rfl ?_
      refine xt_pure rfl rfl rfl rfl ?_
      refine xt_pure rfl rfl rfl rfl ?_
      refine xt_pure rfl rfl rfl (st1 := .int 0 :: _) rfl ?_
      refine xt_pure rfl rfl rfl (st1 := .int 0 :: _) rfl ?_
      refine xt_callS rfl rfl (by decide) rfl ⟨rfl, yle rfl, yle rfl, yle rfl, yle rfl⟩ mk_thing (c2 := 4 * td.length) (s2 := 59 * td.length) ⟨by rw [List.length_cons]; omega, by rw [List.length_cons]; omega⟩ ?_
      rintro _ _ ⟨b, ib, rb, cb, rfl, rfl⟩
      refine xt_pure rfl rfl rfl rfl ?_
      refine xt_getf rfl rfl (xmC 177 rfl) ?_
      refine xt_pure rfl rfl rfl rfl ?_
      refine xt_getf rfl rfl (xmS 20 rfl (List.mem_append_right _ (ymm hT 0 rfl))) ?_
      rw [show zI St 0 = _ from htf]
      refine xt_aald rfl rfl ⟨by decide, rfl⟩ (xmS 20 rfl (List.mem_append_right _ hal)) fg5 (v := .ref fa) (by rw [fg4, fg3]) ?_
      refine xt_pure rfl rfl rfl rfl ?_
      refine xt_pure rfl rfl rfl rfl ?_
      refine xt_getf rfl rfl (xmC 213 rfl) ?_
      refine xt_pure rfl rfl rfl rfl ?_
      refine xt_iald rfl rfl (xmS 20 rfl (List.mem_append_right _ (ymm hT 8 rfl))) (gI_some e8).2.2.2.2 (v := .int (Int32.ofNat c)) (gI_int e8) ?_
      refine yT.perm (D2 := (209, .inl (14, 24, .int ev)) :: (tgE (b, ib, rb, cb, 0, 0, List.replicate 12 (newv 0), List.replicate 6 (-1), List.replicate 36 0) ++ ((238, .inr (0, (of).map Value.int)) :: (240, .inr (3, (fi).map Value.int)) :: (241, .inr (0, (rc).map Value.int)) :: (242, .inr (0, (sg).map Value.int)) :: (239, .inr (10, mr)) :: (209, .inl (14, 26, .int (Int32.ofNat (n + 1)))) :: (243, .inr (0, (gd).map Value.int)) :: (244, .inr (0, (gp).map Value.int)) :: (245, .inr (10, gw)) :: (246, .inr (3, (gu).map Value.int)) :: (209, .inl (14, 32, .int (Int32.ofNat (lg.length + dn.length)))) :: (N ++ D2)))) ?_ ?_
      · exact List.perm_middle (l₁ := tgE (b, ib, rb, cb, 0, 0, List.replicate 12 (newv 0), List.replicate 6 (-1), List.replicate 36 0))
      · have sbr : D2 ⊆ ((238, .inr (0, (of).map Value.int)) :: (240, .inr (3, (fi).map Value.int)) :: (241, .inr (0, (rc).map Value.int)) :: (242, .inr (0, (sg).map Value.int)) :: (239, .inr (10, mr)) :: (209, .inl (14, 26, .int (Int32.ofNat (n + 1)))) :: (243, .inr (0, (gd).map Value.int)) :: (244, .inr (0, (gp).map Value.int)) :: (245, .inr (10, gw)) :: (246, .inr (3, (gu).map Value.int)) :: (209, .inl (14, 32, .int (Int32.ofNat (lg.length + dn.length)))) :: (N ++ D2)) := fun _ he => List.mem_cons_of_mem _ (List.mem_cons_of_mem _ (List.mem_cons_of_mem _ (List.mem_cons_of_mem _ (List.mem_cons_of_mem _ (List.mem_cons_of_mem _ (List.mem_cons_of_mem _ (List.mem_cons_of_mem _ (List.mem_cons_of_mem _ (List.mem_cons_of_mem _ (List.mem_cons_of_mem _ (List.mem_append_right _ he)))))))))))
        refine xt_callS rfl rfl (by decide) rfl ⟨rfl, yle rfl, yle rfl, yle rfl, yle rfl⟩ (mk_cand (x := (b, ib, rb, cb, 0, 0, List.replicate 12 (newv 0), List.replicate 6 (-1), List.replicate 36 0)) (sbr hNe) (sbr hSn) (hF.mono sbr) hok hP hPk hcm ⟨rfl, rfl, rfl⟩) (c2 := 4 * td.length) (s2 := 59 * td.length) ⟨yle2, yle2⟩ ?_
        rintro _ _ ⟨x', rfl, rfl, k1, k2, k3⟩
        have k1 : x'.1 = b := k1
        have k2 : yOM (tgE x') b (cndP P c) := k2
        refine yT.perm (D2 := ((209, .inl (14, 24, .int ev)) :: (238, .inr (0, (of).map Value.int)) :: (240, .inr (3, (fi).map Value.int)) :: (241, .inr (0, (rc).map Value.int)) :: (242, .inr (0, (sg).map Value.int)) :: (239, .inr (10, mr)) :: (209, .inl (14, 26, .int (Int32.ofNat (n + 1)))) :: (243, .inr (0, (gd).map Value.int)) :: (244, .inr (0, (gp).map Value.int)) :: (245, .inr (10, gw)) :: (246, .inr (3, (gu).map Value.int)) :: (209, .inl (14, 32, .int (Int32.ofNat (lg.length + dn.length)))) :: ((tgE x' ++ N) ++ D2))) ?_ ?_
        · exact kk_perm
        · have hmem : ((b, .inl (13, 0, .int x'.2.2.2.2.1)) : xE) ∈ tgE x' := by rw [← k1]; exact List.mem_of_getElem? (i := 0) rfl
          have hob : obM ((209, .inl (14, 24, .int ev)) :: (238, .inr (0, (of).map Value.int)) :: (240, .inr (3, (fi).map Value.int)) :: (241, .inr (0, (rc).map Value.int)) :: (242, .inr (0, (sg).map Value.int)) :: (239, .inr (10, mr)) :: (209, .inl (14, 26, .int (Int32.ofNat (n + 1)))) :: (243, .inr (0, (gd).map Value.int)) :: (244, .inr (0, (gp).map Value.int)) :: (245, .inr (10, gw)) :: (246, .inr (3, (gu).map Value.int)) :: (209, .inl (14, 32, .int (Int32.ofNat (lg.length + dn.length)))) :: ((tgE x' ++ N) ++ D2)) (.ref b) := Or.inr ⟨b, .int x'.2.2.2.2.1, rfl, List.mem_append_right [_, _, _, _, _, _, _, _, _, _, _, _] (List.mem_append_left _ (List.mem_append_left _ hmem))⟩
          have sN : N ++ M ⊆ (tgE x' ++ N) ++ M := by
            rw [List.append_assoc]
            exact fun _ he => List.mem_append_right _ he
          have sN2 : (tgE x' ++ N) ++ D2 ⊆ ((209, .inl (14, 24, .int ev)) :: (238, .inr (0, (of).map Value.int)) :: (240, .inr (3, (fi).map Value.int)) :: (241, .inr (0, (rc).map Value.int)) :: (242, .inr (0, (sg).map Value.int)) :: (239, .inr (10, mr)) :: (209, .inl (14, 26, .int (Int32.ofNat (n + 1)))) :: (243, .inr (0, (gd).map Value.int)) :: (244, .inr (0, (gp).map Value.int)) :: (245, .inr (10, gw)) :: (246, .inr (3, (gu).map Value.int)) :: (209, .inl (14, 32, .int (Int32.ofNat (lg.length + dn.length)))) :: ((tgE x' ++ N) ++ D2)) := fun _ he => List.mem_append_right [_, _, _, _, _, _, _, _, _, _, _, _] he
          have hob0 : obM ((209, .inl (14, 24, .int ev)) :: (238, .inr (0, (of).map Value.int)) :: (240, .inr (3, (fi).map Value.int)) :: (241, .inr (0, (rc).map Value.int)) :: (242, .inr (0, (sg).map Value.int)) :: (239, .inr (10, mr)) :: (209, .inl (14, 26, .int (Int32.ofNat (n + 1)))) :: (243, .inr (0, (gd).map Value.int)) :: (244, .inr (0, (gp).map Value.int)) :: (245, .inr (10, gw)) :: (246, .inr (3, (gu).map Value.int)) :: (209, .inl (14, 32, .int (Int32.ofNat (lg.length + dn.length)))) :: ((tgE x' ++ N) ++ D2)) v0 := yVM_ob ((hvm.mono sN).mono (fun e he => sN2 ((List.mem_append.mp he).elim (fun h => List.mem_append_left _ h) (fun h => List.mem_append_right _ (hM h)))))
          obtain ⟨⟨lA, lB, lC, lD⟩, _, _⟩ := id hL
          refine xt_callV rfl rfl rfl rfl (xmC 176 rfl) ⟨rfl, rfl, yle rfl, yle rfl, yle rfl, yle rfl⟩ (mk_given (d := n) (p := p) (n := lg.length + dn.length) (v0 := v0) (ov := .ref b) (by omega) (by omega) (by omega) (kd := 7) (kp := 8) (kw := 9) (ku := 10) (jn := 11) (km := 5) rfl rfl rfl rfl rfl rfl lA lB lD lC hm hv0 hob0 hob) (c2 := 4 * td.length) (s2 := 59 * td.length) ⟨yle2, yle2⟩ ?_
          rintro _ _ ⟨rfl, rfl⟩
          refine xt_pure rfl rfl rfl (L1 := [_, _, some (.int (_ + 1)), _]) rfl ?_
          refine xt_pure rfl rfl rfl rfl ?_
          rw [yi_add1]
          have hcons : lg ++ lgK n (chR F pl (s :: dn) (c :: dc)) = (lg ++ lgK n (chR F pl dn dc)) ++ [(n, p, z0, false)] := by
            rw [chR, hp]
            show lg ++ lgK n ((p, anR (layR F pl dn dc) (Int32.ofNat p)) :: chR F pl dn dc) = _
            unfold lgK
            rw [hanR, List.reverse_cons, List.map_append, List.append_assoc]
            rfl
          have hpush := ((hL.mono sN).push (d := n) (p := p) (by rw [hlk]; omega) (hvm.mono sN))
          rw [hlk, ← hcons] at hpush
          have hmr : ∀ (q : Nat) z, (layR F pl (s :: dn) (c :: dc))[q]? = some z → ∃ v, (mr.set (20 * n + p) (.ref b))[20 * n + q]? = some v ∧ yVM ((tgE x' ++ N) ++ M) v z := by
            intro q z hz
            rw [layR_s hp hP] at hz
            by_cases e : p = q
            · subst e
              rw [List.getElem?_set_self (by rw [layR_len]; omega)] at hz
              injection hz with hz
              subst hz
              exact ⟨.ref b, List.getElem?_set_self (by omega), b, rfl, k2.mono (fun _ he => List.mem_append_left _ (List.mem_append_left _ he))⟩
            · rw [List.getElem?_set_ne e] at hz
              obtain ⟨v, c1, c2⟩ := hA q z hz
              exact ⟨v, by rw [List.getElem?_set_ne (by omega)]; exact c1, c2.mono sN⟩
          refine (keepM_loop hM hT htf hal haf hNe hSn hF hok hst hn hlg td tc (s :: dn) (c :: dc) (mr.set (20 * n + p) (.ref b)) _ _ _ _ (tgE x' ++ N) _ hs hc (Nat.succ.inj htl) (by rw [List.length_cons, List.length_cons, hdl]) hpush (by rw [List.length_set]; exact hm) hmr).mono (Nat.le_refl _) (Nat.le_refl _) ?_
          rintro a D ⟨mr', gd', gp', gw', gu', N', w1, w2, w3, w4, w5, w6⟩
          refine ⟨mr', gd', gp', gw', gu', N', w1, w2, w3, w4, fun q hq => ?_, w6⟩
          rw [w5 q hq, List.getElem?_set_ne]
          intro e
          exact hq (by omega)
/-- what the reference answers to keep -/
def QkM (F : yF) (pl sr cr : List Nat) (fn : Int32) (fd : Bool) (n : Nat) (lg : List yLg) (of fi rc sg gd gp gu : List Int32) (gw mr : List Value) (ev : Int32) (M D2 : List xE) (a : Option Value) (D : List xE) : Prop := (fd = false ∧ a = some (.int (-2)) ∧ D = ((209, .inl (14, 24, .int ev)) :: (238, .inr (0, (of).map Value.int)) :: (240, .inr (3, (fi).map Value.int)) :: (241, .inr (0, (rc).map Value.int)) :: (242, .inr (0, (sg).map Value.int)) :: (239, .inr (10, mr)) :: (209, .inl (14, 26, .int (Int32.ofNat (n)))) :: (243, .inr (0, (gd).map Value.int)) :: (244, .inr (0, (gp).map Value.int)) :: (245, .inr (10, gw)) :: (246, .inr (3, (gu).map Value.int)) :: (209, .inl (14, 32, .int (Int32.ofNat (lg.length)))) :: D2)) ∨ (fd = true ∧ (n = 30 ∨ 400 < lg.length + sr.length) ∧ a = some (.int (-3)) ∧ D = ((209, .inl (14, 24, .int ev)) :: (238, .inr (0, (of).map Value.int)) :: (240, .inr (3, (fi).map Value.int)) :: (241, .inr (0, (rc).map Value.int)) :: (242, .inr (0, (sg).map Value.int)) :: (239, .inr (10, mr)) :: (209, .inl (14, 26, .int (Int32.ofNat (n)))) :: (243, .inr (0, (gd).map Value.int)) :: (244, .inr (0, (gp).map Value.int)) :: (245, .inr (10, gw)) :: (246, .inr (3, (gu).map Value.int)) :: (209, .inl (14, 32, .int (Int32.ofNat (lg.length)))) :: D2)) ∨ ∃ mr' gd' gp' gw' gu' N', fd = true ∧ n < 30 ∧ lg.length + sr.length ≤ 400 ∧ a = some (.int (Int32.ofNat n)) ∧ D = ((209, .inl (14, 24, .int ev)) :: (238, .inr (0, (of.set n fn).map Value.int)) :: (240, .inr (3, (fi.set n 0).map Value.int)) :: (241, .inr (0, (rc.set n (-9)).map Value.int)) :: (242, .inr (0, (sg.set n 0).map Value.int)) :: (239, .inr (10, mr')) :: (209, .inl (14, 26, .int (Int32.ofNat (n + 1)))) :: (243, .inr (0, (gd').map Value.int)) :: (244, .inr (0, (gp').map Value.int)) :: (245, .inr (10, gw')) :: (246, .inr (3, (gu').map Value.int)) :: (209, .inl (14, 32, .int (Int32.ofNat (lg.length + sr.length)))) :: (N' ++ D2)) ∧ lgA (lg ++ lgK n (chR F pl sr cr)) gd' gp' gu' gw' (N' ++ M) ∧ mr'.length = 620 ∧ (∀ q, ¬ (20 * n ≤ q ∧ q < 20 * n + 20) → mr'[q]? = mr[q]?) ∧ ∀ (p : Nat) z, (layR F pl sr cr)[p]? = some z → ∃ v, mr'[20 * n + p]? = some v ∧ yVM (N' ++ M) v z
theorem mK_keep {fn : Int32} {fd : Bool} {n : Nat} {lg : List yLg} {of fi rc sg gd gp gu : List Int32} {gw mr : List Value} {ev : Int32} (hn : n ≤ 30) (l1 : of.length = 31) (l2 : fi.length = 31) (l3 : rc.length = 31) (l4 : sg.length = 31) (l5 : mr.length = 620) {M : List xE} (hM : M ⊆ D2) (hL : lgA lg gd gp gu gw M) (hT : ∀ q ∈ zE zaT St 0 zTT, q ∈ D2) (h2 : zI St 2 = b32 fd) {al : List Value} {js : List Int32} (hal : ((211, .inr (8, al)) : xE) ∈ D2) (hNe : ((209, .inl (14, 19, .int (Int32.ofNat En.length))) : xE) ∈ D2) (hSn : ((236, .inr (0, (En.map Prod.snd ++ js).map Value.int)) : xE) ∈ D2) (hfd : fd = true → zI St 0 = fn ∧ gI al fn = some (.ref fa) ∧ yFM D2 fa F ∧ yFok F ∧ stM2 F St pl sr cr) : yK X 40 1000 343 [.ref 209] ((209, .inl (14, 24, .int ev)) :: (238, .inr (0, (of).map Value.int)) :: (240, .inr (3, (fi).map Value.int)) :: (241, .inr (0, (rc).map Value.int)) :: (242, .inr (0, (sg).map Value.int)) :: (239, .inr (10, mr)) :: (209, .inl (14, 26, .int (Int32.ofNat (n)))) :: (243, .inr (0, (gd).map Value.int)) :: (244, .inr (0, (gp).map Value.int)) :: (245, .inr (10, gw)) :: (246, .inr (3, (gu).map Value.int)) :: (209, .inl (14, 32, .int (Int32.ofNat (lg.length)))) :: D2) 32 472 (QkM F pl sr cr fn fd n lg of fi rc sg gd gp gu gw mr ev M D2) := by
  have tn := yi_nat (i := n) (by omega)
  have inZ : D2 ⊆ ((209, .inl (14, 24, .int ev)) :: (238, .inr (0, (of).map Value.int)) :: (240, .inr (3, (fi).map Value.int)) :: (241, .inr (0, (rc).map Value.int)) :: (242, .inr (0, (sg).map Value.int)) :: (239, .inr (10, mr)) :: (209, .inl (14, 26, .int (Int32.ofNat (n)))) :: (243, .inr (0, (gd).map Value.int)) :: (244, .inr (0, (gp).map Value.int)) :: (245, .inr (10, gw)) :: (246, .inr (3, (gu).map Value.int)) :: (209, .inl (14, 32, .int (Int32.ofNat (lg.length)))) :: D2) := fun _ he => List.mem_append_right [_, _, _, _, _, _, _, _, _, _, _, _] he
  have hl400 := hL.2.1
  refine yK.of rfl (yle rfl) (L := [_, _, _, _]) rfl ?_
  refine xt_pure rfl rfl rfl rfl ?_
  refine xt_getf rfl rfl (xmS 0 rfl (inZ (ymm hT 2 rfl))) ?_
  rw [show zI St 2 = _ from h2]
  by_cases hb : fd = true
  rotate_left
  · have hb0 : fd = false := by cases fd <;> first | rfl | exact absurd rfl hb
    rw [show b32 fd = 0 by rw [hb0]; rfl]
    refine xt_pure rfl rfl rfl rfl ?_
    refine xt_pure rfl rfl rfl (st1 := .int (-2) :: _) rfl ?_
    exact xt_iret rfl rfl rfl rfl (Or.inl ⟨hb0, rfl, rfl⟩)
  · obtain ⟨k0, haf, hF, hok, hst⟩ := hfd hb
    obtain ⟨h4, h3, h8, _, _, _, _, hpk, hv⟩ := id hst
    have hle := hv.1.le (Nat.zero_le _)
    have tg := yi_nat (i := lg.length + sr.length) (by omega)
    rw [show b32 fd = 1 by rw [hb]; rfl]
    refine xt_pure rfl rfl rfl rfl ?_
    refine xt_pure rfl rfl rfl rfl ?_
    refine xt_getf rfl rfl (xmD 6 rfl) ?_
    refine xt_pure rfl rfl rfl (st1 := .int 30 :: _) rfl ?_
    refine yt_ic rfl rfl (fun (h : Int32.ofNat n = 30) => ?_) (fun (h : Int32.ofNat n ≠ 30) => ?_)
    · have h9 := congrArg Int32.toInt h
      rw [tn, show (30 : Int32).toInt = 30 from rfl] at h9
      refine xt_pure rfl rfl rfl (st1 := .int (-3) :: _) rfl ?_
      exact xt_iret rfl rfl rfl rfl (Or.inr (Or.inl ⟨hb, Or.inl (by omega), rfl, rfl⟩))
    · have h9 : n < 30 := by
        rcases Nat.lt_or_ge n 30 with h' | h'
        · exact h'
        · exact absurd (by rw [show n = 30 by omega]; rfl) h
      refine xt_pure rfl rfl rfl rfl ?_
      refine xt_getf rfl rfl (xmD 11 rfl) ?_
      refine xt_pure rfl rfl rfl rfl ?_
      refine xt_getf rfl rfl (xmS 0 rfl (inZ (ymm hT 3 rfl))) ?_
      rw [show zI St 3 = _ from h3]
      refine xt_pure rfl rfl rfl rfl ?_
      rw [← Int32.ofNat_add]
      refine xt_pure rfl rfl rfl (st1 := .int 400 :: _) rfl ?_
      refine yt_ic rfl rfl (fun (hg : Int32.toInt _ ≤ (400 : Int)) => ?_) (fun (hg : (400 : Int) < Int32.toInt _) => ?_)
      rotate_left
      · rw [tg] at hg
        refine xt_pure rfl rfl rfl (st1 := .int (-3) :: _) rfl ?_
        exact xt_iret rfl rfl rfl rfl (Or.inr (Or.inl ⟨hb, Or.inr (by omega), rfl, rfl⟩))
      · rw [tg] at hg
        refine xt_pure rfl rfl rfl rfl ?_
        refine xt_getf rfl rfl (xmD 6 rfl) ?_
        refine xt_pure rfl rfl rfl (L1 := [_, _, _, _]) rfl ?_
        refine xt_pure rfl rfl rfl rfl ?_
        refine xt_pure rfl rfl rfl rfl ?_
        refine xt_pure rfl rfl rfl rfl ?_
        refine xt_getf rfl rfl (xmS 0 rfl (inZ (ymm hT 0 rfl))) ?_
        rw [show zI St 0 = _ from k0]
        refine xt_callV rfl rfl rfl rfl (xmC 176 rfl) ⟨rfl, rfl, yle rfl, yle rfl, yle rfl, yle rfl⟩ (mk_emptied (d := n) (x := fn) (by omega) (k0 := 1) rfl l1 (k1 := 2) rfl l2 (k2 := 3) rfl l3 (k3 := 4) rfl l4 (k4 := 5) rfl l5) (c2 := 32) (s2 := 472) ⟨yle rfl, yle rfl⟩ ?_
        rintro _ _ ⟨rfl, rfl⟩
        refine xt_pure rfl rfl rfl rfl ?_
        refine xt_pure rfl rfl rfl rfl ?_
        refine xt_getf rfl rfl (xmD 6 rfl) ?_
        refine xt_pure rfl rfl rfl (st1 := .int 1 :: _) rfl ?_
        refine xt_pure rfl rfl rfl rfl ?_
        rw [yi_add1]
        refine xt_putf rfl rfl rfl rfl 6 rfl (D1 := ((209, .inl (14, 24, .int ev)) :: (238, .inr (0, (of.set n fn).map Value.int)) :: (240, .inr (3, (fi.set n 0).map Value.int)) :: (241, .inr (0, (rc.set n (-9)).map Value.int)) :: (242, .inr (0, (sg.set n 0).map Value.int)) :: (239, .inr (10, nul mr (20 * n) 20)) :: (209, .inl (14, 26, .int (Int32.ofNat (n + 1)))) :: (243, .inr (0, (gd).map Value.int)) :: (244, .inr (0, (gp).map Value.int)) :: (245, .inr (10, gw)) :: (246, .inr (3, (gu).map Value.int)) :: (209, .inl (14, 32, .int (Int32.ofNat (lg.length + ([] : List Nat).length)))) :: ([] ++ D2))) rfl ?_
        refine xt_pure rfl rfl rfl (st1 := .int 0 :: _) rfl ?_
        refine xt_pure rfl rfl rfl (L1 := [_, _, _, _]) rfl ?_
        have KL := keepM_loop (X := X) hM hT k0 hal haf hNe hSn hF hok hst (n := n) (lg := lg) (of := of.set n fn) (fi := fi.set n 0) (rc := rc.set n (-9)) (sg := sg.set n 0) (ev := ev) h9 (by omega) sr.reverse cr.reverse [] [] (nul mr (20 * n) 20) gd gp gu gw [] none (by simp) (by simp) (by rw [List.length_reverse, List.length_reverse]; exact hv.2.len) rfl (by rw [show lgK n (chR F pl [] []) = [] from rfl, List.append_nil]; exact hL) (by rw [nul_len]; exact l5) (by
          intro p z hz
          have hp : p < 20 := by
            have := (List.getElem?_eq_some_iff.mp hz).1
            rwa [layR_len] at this
          have e2 := (List.mem_replicate.mp (List.mem_of_getElem? (show (List.replicate 20 none)[p]? = some z by simpa [layR] using hz))).2
          subst e2
          exact ⟨.null, nul_in _ hp (by omega), rfl⟩)
        rw [List.length_reverse] at KL
        refine (KL.up (by omega) (by omega)).mono (by omega) (by omega) ?_
        rintro a D ⟨mr', gd', gp', gw', gu', N', w1, w2, w3, w4, w5, w6⟩
        refine Or.inr (Or.inr ⟨mr', gd', gp', gw', gu', N', hb, h9, by omega, w1, w2, w3, w4, fun q hq => ?_, w6⟩)
        rw [w5 q hq, nul_out _ (by omega)]
end KEEPM
