/-! STATS: the reference -/
section STATSM
variable {X : List Int32} {D1 : List xE} {Fs : List yF} {Dr : List yD} {As : List (List (Option yO))} {En : List (Int64 × Int32)} {S : zS} {w : yW} {u : Value} {d0 x y z : Int32}
theorem mk_statBegin {fa d : Nat} {F : yF} {A : List (Option yO)} (hH : HM D1 fa d F As A En) (hW : R9 S w d0) : yK X 0 0 329 [.ref 209, .int (Int32.ofNat d)] (EM S u D1) 0 0 (fun a D => ∃ S', a = none ∧ D = EM S' (.ref fa) D1 ∧ R0 S' w (Int32.ofNat d) ∧ frM S S' ∧ zI S' 2 = 0) := by
  obtain ⟨⟨oF, ff, al, q1, q2, q3, q4⟩, q5, _⟩ := hH
  obtain ⟨pp, qq, nm, fn, vl, f1, _⟩ := q5
  obtain ⟨_, _, g3, g4, g5⟩ := gI_some q2
  obtain ⟨_, _, h3, h4, h5⟩ := gI_some q4
  refine yK.of rfl (yle rfl) (L := [_, _]) rfl ?_
  refine xt_pure rfl rfl rfl rfl ?_
  refine xt_pure rfl rfl rfl rfl ?_
  refine xt_putf rfl rfl rfl rfl 1 rfl (D1 := EM (zsI S 1 (Int32.ofNat d)) u D1) rfl ?_
  refine xt_pure rfl rfl rfl rfl ?_
  refine xt_pure rfl rfl rfl rfl ?_
  refine xt_getf rfl rfl (xmC 177 rfl) ?_
  refine xt_pure rfl rfl rfl rfl ?_
  refine xt_getf rfl rfl (xmC 187 rfl) ?_
  refine xt_pure rfl rfl rfl rfl ?_
  refine xt_iald rfl rfl (xmS 0 rfl (inEM q1)) g5 (v := .int ff) (by rw [g4, List.getElem?_map, g3]; rfl) ?_
  refine xt_aald rfl rfl ⟨by decide, rfl⟩ (xmS 0 rfl (inEM q3)) h5 (v := .ref fa) (by rw [h4, h3]) ?_
  refine xt_putf rfl rfl rfl rfl 20 rfl (D1 := EM (zsI S 1 (Int32.ofNat d)) (.ref fa) D1) rfl ?_
  refine xt_pure rfl rfl rfl rfl ?_
  refine xt_pure rfl rfl rfl (st1 := .int 0 :: _) rfl ?_
  refine xt_putf rfl rfl rfl rfl 2 rfl (D1 := EM (zsI (zsI S 1 (Int32.ofNat d)) 2 0) (.ref fa) D1) rfl ?_
  refine xt_pure rfl rfl rfl rfl ?_
  refine xt_pure rfl rfl rfl (st1 := .int (-9) :: _) rfl ?_
  refine xt_putf rfl rfl rfl rfl 4 rfl (D1 := EM (zsI (zsI (zsI S 1 (Int32.ofNat d)) 2 0) 4 (-9)) (.ref fa) D1) rfl ?_
  obtain ⟨R, ⟨a1, a2, a3, a4, a5, _⟩, b⟩ := hW
  exact xt_vret rfl rfl rfl ⟨_, rfl, rfl, ⟨_, ⟨a1, a2, a3, rfl, rfl, frM.rf⟩, b⟩, frM.rf, rfl⟩
def QnM (q : Int64 ⊕ Int32) (ev : Int32) (a : Option Value) (w' : yW) (S' : zS) : Prop := match q with
  | .inl m => a = some (.long m) ∧ w'.1 = ev ∧ zI S' 2 = 0
  | .inr _ => (∃ m, a = some (.long m)) ∧ w'.1 = ev + 1 ∧ zI S' 2 ≠ 0
theorem mk_named {fa d : Nat} {F : yF} {A : List (Option yO)} {P : yPt} (hd : d < 31) (hH : HM D1 fa d F As A En) (hW : R0 S w (Int32.ofNat d)) (h2 : zI S 2 = 0) (hP : askP F y = some P) : yK X 2 50 298 [.ref 209, .int y] (EM S (.ref fa) D1) 0 0 (fun a D => ∃ S' w', D = EM S' (.ref fa) D1 ∧ R0 S' w' (Int32.ofNat d) ∧ frM S S' ∧ QnM (nameR En P.1 (anR A y)) w.1 a w' S') := by
  obtain ⟨_, q5, hok, hE, ⟨ja, q6⟩, ⟨mr, m1, m2, m3, m4⟩, q9, q10⟩ := hH
  obtain ⟨fe, _, _, _, _, hl20, _, _, _, hok9⟩ := hok
  obtain ⟨p, gi, ga, vl, g1, g2, g3⟩ := q5.han
  obtain ⟨Bs, b1, b2⟩ := anM_han m2 m3 m4 q9
  have hA := b2 F d A hl20 q10
  have sub : D1 ⊆ w1E (.ref fa) D1 := fun e he => List.mem_cons_of_mem _ he
  have b1' : ∀ {j : Int32} {z : Option zH}, gI Bs j = some z → ∃ v, gI mr j = some v ∧ zVM (w1E (.ref fa) D1) v z := by
    intro j z hj
    obtain ⟨v, c1, c2⟩ := b1 hj
    exact ⟨v, c1, zVM_mono sub c2⟩
  obtain ⟨hy, hk⟩ := askP_ask hP
  obtain ⟨k1, k2, z0, k3, k4⟩ := ask_M g2.1 ⟨hl20, fun i P hi => (hok9 i P hi).1⟩ hA hy
  have hz1 : zI S 1 = Int32.ofNat d := by
    obtain ⟨R, ⟨_, _, _, _, a5, _⟩, _⟩ := hW
    exact a5
  have KK := r_named (N := 1001) (S := S) (vl := vl) (gi := gi) (eM_of (ja := ja) hE) (by omega) hz1 h2 k1 k2 k3 k4
  have tr : ∀ {x : Int64} {S' : zS}, rF_named gi ga vl Bs (En.map Prod.fst ++ ja) 1001 y S = some (x, S') → yK X 2 50 298 [.ref 209, .int y] (EM S (.ref fa) D1) 0 0 (zQl zTF zaF (w1E (.ref fa) D1) x S') := fun h => trF_named (D0 := w1E (.ref fa) D1) List.mem_cons_self (sub q6) (fun e he => sub (g1 e he)) (sub m1) b1' (N := 1001) (by omega) (by omega) h
  rw [hk] at KK
  rcases hq : nameR En P.1 (anR A y) with m | m
  · rw [hq] at KK
    have KK : _ = some (m, S) := KK
    refine yK.mono (tr KK) (Nat.le_refl _) (Nat.le_refl _) ?_
    rintro a D ⟨rfl, rfl⟩
    exact ⟨S, w, rfl, hW, frM.rf, rfl, rfl, h2⟩
  · rw [hq] at KK
    obtain ⟨hm, v0, KK⟩ := KK
    refine yK.mono (tr KK) (Nat.le_refl _) (Nat.le_refl _) ?_
    rintro a D ⟨rfl, rfl⟩
    obtain ⟨R, ⟨a1, a2, a3, a4, a5, _⟩, b⟩ := hW
    refine ⟨flM S m, (w.1 + 1, w.2), rfl, ⟨_, ⟨?_, a2, a3, a4, a5, frM.rf⟩, b⟩, frM.rf, ⟨_, rfl⟩, rfl, hm⟩
    show zI S 0 + 1 = w.1 + 1
    rw [a1]
theorem statM_loop {fr lo : Nat} {F : yF} {P : yPt} (hf : 20 ≤ fr) (hl : 400 ≤ lo) (hR : DrM Fs Dr As En D1) (hDs : yDsM Fs Dr D1) (hx : 0 ≤ x.toInt) (hF : gI Fs x = some F) (hFl : Fs.length ≤ 10) (hP : askP F y = some P) (h20 : F.1.length ≤ 20) (hz : z = 0 ∨ z = 1 ∨ z = 2) : ∀ (rs : List yD) (i : Nat) (n : Nat) (s : Int64) (b : Nat) (S : zS) (w : yW) (u : Value) (d0 : Int32) (l9 l10 : Option Value), Dr.drop i = rs → i ≤ Dr.length → n ≤ i → b ≤ i → R9 S w d0 → yT X fr lo 328 35 [some (.ref 209), some (.int x), some (.int y), some (.int z), some (.int (Int32.ofNat n)), some (.long s), none, some (.int (Int32.ofNat b)), some (.int (Int32.ofNat i)), l9, l10] [] (EM S u D1) 0 0 (fun a D => ∃ S' w' u' e0, a = some (.long (stV z (stR En P.1 y x.toInt.toNat z rs n s b w.1))) ∧ D = EM S' u' D1 ∧ R9 S' w' e0 ∧ frM S S' ∧ w'.1 = (stR En P.1 y x.toInt.toNat z rs n s b w.1).2.2.2)
  | [], i, n, s, b, S, w, u, d0, l9, l10, hd, hi0, hn, hb, hW => by
    have hi : Dr.length ≤ i := List.drop_eq_nil_iff.mp hd
    have h30 := hR.1
    refine xt_pure rfl rfl rfl rfl ?_
    refine xt_pure rfl rfl rfl rfl ?_
    refine xt_getf rfl rfl (xmS 0 rfl (inEM hR.2.1)) ?_
    refine yt_ic rfl rfl (fun _ => ?_) (fun (h : Int32.toInt _ < Int32.toInt _) => ?_)
    · skip
      refine xt_pure rfl rfl rfl rfl ?_
      rcases hz with rfl | rfl | rfl
      · skip
        refine xt_pure rfl rfl rfl rfl ?_
        refine xt_pure rfl rfl rfl rfl ?_
        refine xt_pure rfl rfl rfl rfl ?_
        refine xt_pure rfl rfl rfl rfl ?_
        rw [y3264 (by omega)]
        exact xt_lret rfl rfl rfl ⟨S, w, u, d0, rfl, rfl, hW, frM.rf, rfl⟩
      · skip
        refine xt_pure rfl rfl rfl rfl ?_
        refine xt_pure rfl rfl rfl rfl ?_
        refine xt_pure rfl rfl rfl (st1 := .int 1 :: _) rfl ?_
        refine xt_pure rfl rfl rfl rfl ?_
        refine xt_pure rfl rfl rfl rfl ?_
        refine xt_pure rfl rfl rfl rfl ?_
        exact xt_lret rfl rfl rfl ⟨S, w, u, d0, rfl, rfl, hW, frM.rf, rfl⟩
      · skip
        refine xt_pure rfl rfl rfl rfl ?_
        refine xt_pure rfl rfl rfl rfl ?_
        refine xt_pure rfl rfl rfl (st1 := .int 1 :: _) rfl ?_
        refine xt_pure rfl rfl rfl rfl ?_
        refine xt_pure rfl rfl rfl rfl ?_
        refine xt_pure rfl rfl rfl rfl ?_
        rw [y3264 (by omega)]
        exact xt_lret rfl rfl rfl ⟨S, w, u, d0, rfl, rfl, hW, frM.rf, rfl⟩
    · rw [yi_nat (by omega), yi_nat (by omega)] at h
      omega
  | d :: rs, i, n, s, b, S, w, u, d0, l9, l10, hd, hi0, hn, hb, hW => by
    have h30 := hR.1
    have hri : Dr[i]? = some d := by rw [← Nat.add_zero i, ← List.getElem?_drop, hd]; rfl
    have hi : i < Dr.length := (List.getElem?_eq_some_iff.mp hri).1
    have hd2 : Dr.drop (i + 1) = rs := by rw [← List.drop_drop, hd]; rfl
    obtain ⟨F', fa, d2, d3⟩ := hR.2.2 i d hri
    have hDs0 := hDs
    obtain ⟨of, fi, rc, sg, mr, _, ⟨lo1, lf1, lr1, ls1, lm1⟩, e3, e4, e5, e6, e7, e8, hD⟩ := hDs
    obtain ⟨o1, o2, o3, o4, o5, o6, o7⟩ := hD i d hri
    have ti := yi_nat (i := i) (by omega)
    have t3 : (Int32.ofNat i).toInt.toNat = i := yi_toNat (by omega)
    have t4 := yjn (j := Int32.ofNat i) (by rw [ti]; omega)
    obtain ⟨p1, p2, p3, p4⟩ := askP_some hP
    have hdl : d.1 < Fs.length := (List.getElem?_eq_some_iff.mp d2).1
    have tf := yi_nat (i := d.1) (by omega)
    have next : ∀ (n' : Nat) (s' : Int64) (b' : Nat) (S' : zS) (w' : yW) (u' : Value) (e0 : Int32) (l9' l10' : Option Value), n' ≤ i + 1 → b' ≤ i + 1 → R9 S' w' e0 → frM S S' → stR En P.1 y x.toInt.toNat z (d :: rs) n s b w.1 = stR En P.1 y x.toInt.toNat z rs n' s' b' w'.1 → yT X fr lo 328 87 [some (.ref 209), some (.int x), some (.int y), some (.int z), some (.int (Int32.ofNat n')), some (.long s'), none, some (.int (Int32.ofNat b')), some (.int (Int32.ofNat i)), l9', l10'] [] (EM S' u' D1) 0 0 (fun a D => ∃ S' w' u' e0, a = some (.long (stV z (stR En P.1 y x.toInt.toNat z (d :: rs) n s b w.1))) ∧ D = EM S' u' D1 ∧ R9 S' w' e0 ∧ frM S S' ∧ w'.1 = (stR En P.1 y x.toInt.toNat z (d :: rs) n s b w.1).2.2.2) := by
      intro n' s' b' S' w' u' e0 l9' l10' hn' hb' hW' hfr heq
      refine xt_pure rfl rfl rfl (L1 := [_, _, _, _, _, _, _, _, some (.int (_ + 1)), _, _]) rfl ?_
      refine xt_pure rfl rfl rfl rfl ?_
      rw [yi_add1, heq]
      refine (statM_loop hf hl hR hDs0 hx hF hFl hP h20 hz rs (i + 1) n' s' b' S' w' u' e0 l9' l10' hd2 (by omega) hn' hb' hW').mono (Nat.le_refl _) (Nat.le_refl _) ?_
      rintro a D ⟨S2, w2, u2, e2, k1, k2, k3, k4, k5⟩
      exact ⟨S2, w2, u2, e2, k1, k2, k3, hfr.tr k4, k5⟩
    refine xt_pure rfl rfl rfl rfl ?_
    refine xt_pure rfl rfl rfl rfl ?_
    refine xt_getf rfl rfl (xmS 0 rfl (inEM hR.2.1)) ?_
    refine yt_ic rfl rfl (fun (h : Int32.toInt _ ≤ Int32.toInt _) => ?_) (fun _ => ?_)
    · rw [ti, yi_nat (by omega)] at h
      omega
    · skip
      refine xt_pure rfl rfl rfl rfl ?_
      refine xt_getf rfl rfl (xmC 189 rfl) ?_
      refine xt_pure rfl rfl rfl rfl ?_
      refine xt_bald rfl rfl (by decide) (xmS 0 rfl (inEM e5)) t4.1 (v := .int (if d.2.2.2.1 = -9 then 0 else 1)) (by rw [t4.2, t3, List.getElem?_map, o3]; rfl) ?_
      by_cases h2 : d.2.2.2.1 = -9
      · rw [if_pos h2]
        refine xt_pure rfl rfl rfl rfl ?_
        refine next n s b S w u d0 _ _ (by omega) (by omega) hW frM.rf ?_
        rw [stR, if_neg]
        rintro ⟨_, h3, _⟩
        exact h3 h2
      · rw [if_neg h2]
        refine xt_pure rfl rfl rfl rfl ?_
        refine xt_pure rfl rfl rfl rfl ?_
        refine xt_getf rfl rfl (xmC 187 rfl) ?_
        refine xt_pure rfl rfl rfl rfl ?_
        refine xt_iald rfl rfl (xmS 0 rfl (inEM e4)) t4.1 (v := .int (Int32.ofNat d.1)) (by rw [t4.2, t3, List.getElem?_map, o1]; rfl) ?_
        refine xt_pure rfl rfl rfl rfl ?_
        refine yt_ic rfl rfl (fun (h1 : Int32.ofNat d.1 ≠ x) => ?_) (fun (h1 : Int32.ofNat d.1 = x) => ?_)
        · refine next n s b S w u d0 _ _ (by omega) (by omega) hW frM.rf ?_
          rw [stR, if_neg]
          rintro ⟨h2, _⟩
          exact h1 (by rw [h2, yi_id hx])
        · have h1 : d.1 = x.toInt.toNat := by rw [← h1, tf]; rfl
          have hFF : F' = F := by
            obtain ⟨_, _, hF3, _, _⟩ := gI_some hF
            rw [h1, hF3] at d2
            injection d2 with d2
            exact d2.symm
          subst hFF
          obtain ⟨an, han⟩ : ∃ an, d.2.1[y.toInt.toNat]? = some an := ⟨_, List.getElem?_eq_getElem (by omega)⟩
          obtain ⟨rv, hrv, hv⟩ := o7 _ an han
          have hanR : anR d.2.1 y = an := by rw [anR, gI_in p1 han]; rfl
          have tx : (20 : Int32) * Int32.ofNat i + y = Int32.ofNat (20 * i + y.toInt.toNat) := by
            rw [Int32.ofNat_add, Int32.ofNat_mul, yi_id p1]; rfl
          have t2 := yi_nat (i := 20 * i + y.toInt.toNat) (by omega)
          have t23 : (Int32.ofNat (20 * i + y.toInt.toNat)).toInt.toNat = 20 * i + y.toInt.toNat := yi_toNat (by omega)
          have t24 := yjn (j := Int32.ofNat (20 * i + y.toInt.toNat)) (by rw [t2]; omega)
          refine xt_pure rfl rfl rfl rfl ?_
          refine xt_getf rfl rfl (xmC 188 rfl) ?_
          refine xt_pure rfl rfl rfl (st1 := .int 20 :: _) rfl ?_
          refine xt_pure rfl rfl rfl rfl ?_
          refine xt_pure rfl rfl rfl rfl ?_
          refine xt_pure rfl rfl rfl rfl ?_
          refine xt_pure rfl rfl rfl rfl ?_
          rw [tx]
          refine xt_aald rfl rfl ⟨by decide, rfl⟩ (xmS 0 rfl (inEM e8)) t24.1 (v := rv) (by rw [t24.2, t23]; exact hrv) ?_
          cases an with
          | none =>
            have hv : rv = .null := hv
            subst hv
            refine xt_pure rfl rfl rfl rfl ?_
            refine next n s b S w u d0 _ _ (by omega) (by omega) hW frM.rf ?_
            rw [stR, if_neg]
            rintro ⟨_, _, h3⟩
            rw [hanR] at h3
            cases h3
          | some ob =>
            obtain ⟨oa, rfl, hv⟩ := hv
            have hst : stR En P.1 y x.toInt.toNat z (d :: rs) n s b w.1 = (if z = 0 then stR En P.1 y x.toInt.toNat z rs (n + 1) s b w.1 else match nameR En P.1 (anR d.2.1 y) with
              | .inl v => stR En P.1 y x.toInt.toNat z rs (n + 1) (s + v) b w.1
              | .inr _ => stR En P.1 y x.toInt.toNat z rs (n + 1) s (b + 1) (w.1 + 1)) := by
              rw [stR, if_pos ⟨h1, h2, by rw [hanR]; rfl⟩]
              rfl
            refine xt_pure rfl rfl rfl rfl ?_
            refine xt_pure rfl rfl rfl (L1 := [_, _, _, _, some (.int (_ + 1)), _, _, _, _, _, _]) rfl ?_
            rw [yi_add1]
            refine xt_pure rfl rfl rfl rfl ?_
            refine yt_if rfl rfl (fun (hz0 : z.toInt ≤ (0 : Int)) => ?_) (fun (hz0 : (0 : Int) < z.toInt) => ?_)
            · have hz0 : z = 0 := by
                rcases hz with h | h | h
                · exact h
                · subst h; exact absurd hz0 (by decide)
                · subst h; exact absurd hz0 (by decide)
              rw [if_pos hz0] at hst
              exact next (n + 1) s b S w u d0 _ _ (by omega) (by omega) hW frM.rf hst
            · have hz0 : z ≠ 0 := by
                intro h; subst h; exact absurd hz0 (by decide)
              rw [if_neg hz0] at hst
              refine xt_pure rfl rfl rfl rfl ?_
              refine xt_pure rfl rfl rfl rfl ?_
              refine xt_callV rfl rfl rfl rfl (xmC 176 rfl) ⟨rfl, rfl, yle rfl, yle rfl, Nat.le_trans (yle rfl) hf, Nat.le_trans (yle rfl) hl⟩ (mk_statBegin d3 hW) (c2 := 0) (s2 := 0) ⟨yle rfl, yle rfl⟩ ?_
              rintro _ _ ⟨S1, rfl, rfl, b1, b2, b3⟩
              refine xt_pure rfl rfl rfl rfl ?_
              refine xt_pure rfl rfl rfl rfl ?_
              refine xt_callV rfl rfl rfl rfl (xmC 176 rfl) ⟨rfl, rfl, yle rfl, yle rfl, Nat.le_trans (yle rfl) hf, Nat.le_trans (yle rfl) hl⟩ (mk_named (by omega) d3 b1 b3 hP) (c2 := 0) (s2 := 0) ⟨yle rfl, yle rfl⟩ ?_
              rintro a D ⟨S', w', rfl, g1, g2, g3⟩
              rcases hq : nameR En P.1 (anR d.2.1 y) with m | m
              · rw [hq] at g3 hst
                obtain ⟨rfl, g4, g5⟩ := g3
                refine xt_pure rfl rfl rfl (L1 := [_, _, _, _, _, _, _, _, _, _, _]) rfl ?_
                refine xt_pure rfl rfl rfl rfl ?_
                refine xt_pure rfl rfl rfl rfl ?_
                refine xt_getf rfl rfl (xmD 2 rfl) ?_
                rw [show zI S' 2 = 0 from g5]
                refine xt_pure rfl rfl rfl rfl ?_
                refine xt_pure rfl rfl rfl rfl ?_
                refine xt_pure rfl rfl rfl rfl ?_
                refine xt_pure rfl rfl rfl (L1 := [_, _, _, _, _, _, _, _, _, _, _]) rfl ?_
                refine xt_pure rfl rfl rfl rfl ?_
                refine xt_pure rfl rfl rfl rfl ?_
                refine xt_getf rfl rfl (xmD 2 rfl) ?_
                rw [show zI S' 2 = 0 from g5]
                refine xt_pure rfl rfl rfl rfl ?_
                refine xt_pure rfl rfl rfl (st1 := .int 0 :: _) rfl ?_
                refine xt_pure rfl rfl rfl rfl ?_
                refine xt_pure rfl rfl rfl (L1 := [_, _, _, _, _, _, _, _, _, _, _]) rfl ?_
                rw [show Int32.ofNat b + 0 = Int32.ofNat b from Int32.add_zero _]
                exact next (n + 1) (s + m) b S' w' _ _ _ _ (by omega) (by omega) g1.out (b2.tr g2) (by rw [hst, g4])
              · rw [hq] at g3 hst
                obtain ⟨⟨m0, rfl⟩, g4, g5⟩ := g3
                refine xt_pure rfl rfl rfl (L1 := [_, _, _, _, _, _, _, _, _, _, _]) rfl ?_
                refine xt_pure rfl rfl rfl rfl ?_
                refine xt_pure rfl rfl rfl rfl ?_
                refine xt_getf rfl rfl (xmD 2 rfl) ?_
                refine yt_if rfl rfl (fun (h : zI S' 2 = 0) => absurd h g5) (fun _ => ?_)
                refine xt_pure rfl rfl rfl (st1 := .long 0 :: _) rfl ?_
                refine xt_pure rfl rfl rfl rfl ?_
                refine xt_pure rfl rfl rfl rfl ?_
                refine xt_pure rfl rfl rfl (L1 := [_, _, _, _, _, _, _, _, _, _, _]) rfl ?_
                refine xt_pure rfl rfl rfl rfl ?_
                refine xt_pure rfl rfl rfl rfl ?_
                refine xt_getf rfl rfl (xmD 2 rfl) ?_
                refine yt_if rfl rfl (fun (h : zI S' 2 = 0) => absurd h g5) (fun _ => ?_)
                refine xt_pure rfl rfl rfl (st1 := .int 1 :: _) rfl ?_
                refine xt_pure rfl rfl rfl rfl ?_
                refine xt_pure rfl rfl rfl rfl ?_
                refine xt_pure rfl rfl rfl (L1 := [_, _, _, _, _, _, _, _, _, _, _]) rfl ?_
                rw [yi_add1, show s + 0 = s from Int64.add_zero _]
                exact next (n + 1) s (b + 1) S' w' _ _ _ _ (by omega) (by omega) g1.out (b2.tr g2) (by rw [hst, g4])
/-- what the reference answers to stats -/
def QtM (Fs : List yF) (Dr : List yD) (En : List (Int64 × Int32)) (S : zS) (w : yW) (u : Value) (d0 x y z : Int32) (D1 : List xE) (a : Option Value) (D : List xE) : Prop := ((∀ F P, gI Fs x = some F → askP F y = some P → ¬ (0 ≤ z.toInt ∧ z.toInt ≤ 2)) ∧ a = some (.long (-100)) ∧ D = EM S u D1) ∨ (∃ F P, gI Fs x = some F ∧ askP F y = some P ∧ (0 ≤ z.toInt ∧ z.toInt ≤ 2) ∧ 10000 ≤ w.1.toInt ∧ a = some (.long (-101)) ∧ D = EM S u D1) ∨ ∃ F P S' w' u' e0, gI Fs x = some F ∧ askP F y = some P ∧ (0 ≤ z.toInt ∧ z.toInt ≤ 2) ∧ ¬ 10000 ≤ w.1.toInt ∧ a = some (.long (stV z (stR En P.1 y x.toInt.toNat z Dr 0 0 0 w.1))) ∧ D = EM S' u' D1 ∧ R9 S' w' e0 ∧ frM S S' ∧ w'.1 = (stR En P.1 y x.toInt.toNat z Dr 0 0 0 w.1).2.2.2
theorem mK_stats (hR : DrM Fs Dr As En D1) (hDs : yDsM Fs Dr D1) (hFs : yFsM Fs D1) (h20 : ∀ (i : Nat) F, Fs[i]? = some F → F.1.length ≤ 20) (hW : R9 S w d0) : yK X 50 1000 328 [.ref 209, .int x, .int y, .int z] (EM S u D1) 0 0 (QtM Fs Dr En S w u d0 x y z D1) := by
  have hFs0 := hFs
  obtain ⟨fa, f1, f2, f3, f4, f5⟩ := hFs
  have h0 := hW.fl0.1
  refine yK.of rfl (yle rfl) (L := [_, _, _, _, _, _, _, _, _, _, _]) rfl ?_
  refine xt_pure rfl rfl rfl rfl ?_
  refine xt_pure rfl rfl rfl rfl ?_
  refine xt_pure rfl rfl rfl rfl ?_
  refine xt_callV rfl rfl rfl rfl (xmC 176 rfl) ⟨rfl, rfl, yle rfl, yle rfl, yle rfl, yle rfl⟩ (mk_isPart h20 (hFs0.mono inEM)) (c2 := 0) (s2 := 0) ⟨yle rfl, yle rfl⟩ ?_
  rintro _ _ (⟨rfl, ⟨F, P, hF, hP⟩, rfl⟩ | ⟨rfl, hd, rfl⟩)
  rotate_left
  · skip
    refine xt_pure rfl rfl rfl rfl ?_
    refine xt_pure rfl rfl rfl (st1 := .long (-100) :: _) rfl ?_
    exact xt_lret rfl rfl rfl (Or.inl ⟨(fun F P h h2 => by unfold askP at h2; rw [hd F h] at h2; cases h2), rfl, rfl⟩)
  · obtain ⟨g1, g2, g3, g4, g5⟩ := gI_some hF
    obtain ⟨p1, p2, p3, p4, p5⟩ := gI_some hP
    obtain ⟨a, ha⟩ := yfa g3 f1
    obtain ⟨nm1, nm2⟩ := yform g3 ha f1 f2
    rw [yi_id g1] at nm1 nm2
    obtain ⟨pp, qq, nm, fn, vl, fE, _, fP, _⟩ := f5 _ F a g3 ha
    have hk := (fP _ P p3).1
    refine xt_pure rfl rfl rfl rfl ?_
    refine xt_pure rfl rfl rfl rfl ?_
    refine xt_getf rfl rfl (xmC 177 rfl) ?_
    refine xt_pure rfl rfl rfl rfl ?_
    refine xt_aald rfl rfl ⟨by decide, rfl⟩ (xmS 0 rfl (inEM f4)) nm1 (v := .ref a) nm2 ?_
    refine xt_getf rfl rfl (xmS 0 rfl (inEM (ymm fE 2 rfl))) ?_
    refine xt_pure rfl rfl rfl rfl ?_
    refine xt_iald rfl rfl (xmS 0 rfl (inEM (ymm fE 24 rfl))) p5 (v := .int P.1) (by rw [p4, List.getElem?_map, hk]; rfl) ?_
    refine xt_pure rfl rfl rfl (st1 := .int 11 :: _) rfl ?_
    refine yt_ic rfl rfl (fun (h : P.1 = 11) => ?_) (fun (h : P.1 ≠ 11) => ?_)
    · skip
      refine xt_pure rfl rfl rfl (st1 := .long (-100) :: _) rfl ?_
      exact xt_lret rfl rfl rfl (Or.inl ⟨(fun F2 P2 h1 h2 => by rw [hF] at h1; injection h1 with h1; subst h1; unfold askP at h2; rw [hP, Option.bind_some, if_pos h] at h2; cases h2), rfl, rfl⟩)
    · have hPa : askP F y = some P := by unfold askP; rw [hP, Option.bind_some, if_neg h]
      refine xt_pure rfl rfl rfl rfl ?_
      refine xt_pure rfl rfl rfl rfl ?_
      refine xt_pure rfl rfl rfl (st1 := .long 0 :: _) rfl ?_
      refine xt_pure rfl rfl rfl (st1 := .long 2 :: _) rfl ?_
      refine xt_callS rfl rfl (by decide) rfl ⟨rfl, yle rfl, yle rfl, yle rfl, yle rfl⟩ mk_in (c2 := 0) (s2 := 0) ⟨yle rfl, yle rfl⟩ ?_
      rintro _ _ (⟨rfl, hy, rfl⟩ | ⟨rfl, hy, rfl⟩)
      rotate_left
      · rw [y6432, y64_0, show (2 : Int64).toInt = 2 from rfl] at hy
        refine xt_pure rfl rfl rfl rfl ?_
        refine xt_pure rfl rfl rfl (st1 := .long (-100) :: _) rfl ?_
        exact xt_lret rfl rfl rfl (Or.inl ⟨(fun _ _ _ _ h => hy h), rfl, rfl⟩)
      · rw [y6432, y64_0, show (2 : Int64).toInt = 2 from rfl] at hy
        refine xt_pure rfl rfl rfl rfl ?_
        refine xt_pure rfl rfl rfl rfl ?_
        refine xt_callV rfl rfl rfl rfl (xmC 176 rfl) ⟨rfl, rfl, yle rfl, yle rfl, yle rfl, yle rfl⟩ (mk_isSpent (fl := zI S 0) (List.mem_of_getElem? (i := 0) rfl)) (c2 := 0) (s2 := 0) ⟨yle rfl, yle rfl⟩ ?_
        rintro _ _ (⟨rfl, hf, rfl⟩ | ⟨rfl, hf, rfl⟩)
        · rw [h0] at hf
          refine xt_pure rfl rfl rfl rfl ?_
          refine xt_pure rfl rfl rfl (st1 := .long (-101) :: _) rfl ?_
          exact xt_lret rfl rfl rfl (Or.inr (Or.inl ⟨F, P, hF, hPa, hy, hf, rfl, rfl⟩))
        · rw [h0] at hf
          refine xt_pure rfl rfl rfl rfl ?_
          refine xt_pure rfl rfl rfl (st1 := .int 0 :: _) rfl ?_
          refine xt_pure rfl rfl rfl (L1 := [_, _, _, _, _, _, _, _, _, _, _]) rfl ?_
          refine xt_pure rfl rfl rfl (st1 := .long 0 :: _) rfl ?_
          refine xt_pure rfl rfl rfl (L1 := [_, _, _, _, _, _, _, _, _, _, _]) rfl ?_
          refine xt_pure rfl rfl rfl (st1 := .int 0 :: _) rfl ?_
          refine xt_pure rfl rfl rfl (L1 := [_, _, _, _, _, _, _, _, _, _, _]) rfl ?_
          refine xt_pure rfl rfl rfl (st1 := .int 0 :: _) rfl ?_
          refine xt_pure rfl rfl rfl (L1 := [_, _, _, _, _, _, _, _, _, _, _]) rfl ?_
          have hz : z = 0 ∨ z = 1 ∨ z = 2 := by
            rcases (show z.toInt = 0 ∨ z.toInt = 1 ∨ z.toInt = 2 by omega) with h | h | h
            · exact Or.inl (xi32_eq.mpr h)
            · exact Or.inr (Or.inl (xi32_eq.mpr h))
            · exact Or.inr (Or.inr (xi32_eq.mpr h))
          refine (statM_loop (by omega) (by omega) hR hDs g1 hF f2 hPa (h20 _ F g3) hz Dr 0 0 0 0 S w u d0 none none rfl (by omega) (by omega) (by omega) hW).mono (Nat.le_refl _) (Nat.le_refl _) ?_
          rintro a D ⟨S', w', u', e0, k1, k2, k3, k4, k5⟩
          exact Or.inr (Or.inr ⟨F, P, S', w', u', e0, hF, hPa, hy, hf, k1, k2, k3, k4, k5⟩)
end STATSM
