/-! STATS: the class -/
/-- over these drafts: how many, their sum, how many FAIL, flaws -/
def stR (En : List (Int64 × Int32)) (k p : Int32) (f : Nat) (wh : Int32) : List yD → Nat → Int64 → Nat → Int32 → Nat × Int64 × Nat × Int32
  | [], n, s, b, ev => (n, s, b, ev)
  | d :: r, n, s, b, ev => if d.1 = f ∧ d.2.2.2.1 ≠ -9 ∧ (anR d.2.1 p).isSome then (if wh = 0 then stR En k p f wh r (n + 1) s b ev else match nameR En k (anR d.2.1 p) with
    | .inl v => stR En k p f wh r (n + 1) (s + v) b ev
    | .inr _ => stR En k p f wh r (n + 1) s (b + 1) (ev + 1)) else stR En k p f wh r n s b ev
/-- what stats answers -/
def stV (wh : Int32) (q : Nat × Int64 × Nat × Int32) : Int64 := if wh = 0 then Int64.ofNat q.1 else if wh = 1 then q.2.1 else Int64.ofNat q.2.2.1
section STATS
variable {X : List Int32} {D0 : List xE} {Fs : List yF} {R : List yDR} {En : List (Int64 × Int32)} {S : zS} {w : yW} {u v : Value} {t : List Int32} {x y z : Int32}
def QnC (q : Int64 ⊕ Int32) (ev z : Int32) (a : Option Value) (w' : yW) : Prop := match q with
  | .inl m => a = some (.long (if z = 1 then m else 0)) ∧ w'.1 = ev
  | .inr _ => a = some (.long (if z = 2 then 1 else 0)) ∧ w'.1 = ev + 1
theorem askP_ask {F : yF} {P : yPt} (hP : askP F y = some P) : yAsk F y ∧ knd F y = P.1 := by
  obtain ⟨h1, h2, h3, h4⟩ := askP_some hP
  exact ⟨⟨h1, P, h3, h4⟩, by rw [knd, gI_in h1 h3]; rfl⟩
theorem ck_statOf {r : yDR} {F : yF} {P : yPt} (d1 : ∀ e ∈ dfR r, e ∈ D0) (hH : HC D0 r.2.2.1 r.2.1 F r.2.2.2.2.2.2.1 En) (hW : W0 S w) (hP : askP F y = some P) : yK X 10 300 173 [.ref 78, .ref r.1, .int y, .int z] (EC S u v t D0) 0 0 (fun a D => ∃ S' w', D = EC S' (.ref r.2.2.1) (.ref r.2.1) t D0 ∧ W0 S' w' ∧ frC S S' ∧ QnC (nameR En P.1 (anR r.2.2.2.2.2.2.1 y)) w.1 z a w') := by
  refine yK.of rfl (yle rfl) (L := [_, _, _, _, _, _]) rfl ?_
  refine xt_pure rfl rfl rfl rfl ?_
  refine xt_getf rfl rfl (xmC 120 rfl) ?_
  refine xt_pure rfl rfl rfl rfl ?_
  refine xt_getf rfl rfl (xmS 0 rfl (inEC (ymm d1 1 rfl))) ?_
  refine xt_pure rfl rfl rfl rfl ?_
  refine xt_getf rfl rfl (xmS 0 rfl (inEC (ymm d1 2 rfl))) ?_
  refine xt_callV rfl rfl rfl rfl (xmC 142 rfl) ⟨rfl, rfl, yle rfl, yle rfl, yle rfl, yle rfl⟩ (ck_begin hW) (c2 := 0) (s2 := 0) ⟨yle rfl, yle rfl⟩ ?_
  rintro _ _ ⟨S1, rfl, rfl, e1, e2, e3⟩
  obtain ⟨q1, hok, ⟨refs, q3, q4⟩, q5, q6, q7, ja, q8⟩ := hH
  have hok' := hok
  obtain ⟨fe, _, _, _, _, hl20, _, _, _, hok9⟩ := hok'
  obtain ⟨p, gi, ga, g1, g2, g3⟩ := q1.han hok
  obtain ⟨As, a1, a2⟩ := q4.han hl20 q5
  have hE := eC_of (ja := ja) q6
  have sub : D0 ⊆ w2E (.ref r.2.2.1) (.ref r.2.1) ((125, .inr (0, t.map Value.int)) :: D0) := fun e he => List.mem_cons_of_mem _ (List.mem_cons_of_mem _ (List.mem_cons_of_mem _ he))
  have a1' : ∀ {j : Int32} {z : Option zO}, gI As j = some z → ∃ v, gI refs j = some v ∧ zVC (w2E (.ref r.2.2.1) (.ref r.2.1) ((125, .inr (0, t.map Value.int)) :: D0)) v z := by
    intro j z hj
    obtain ⟨v, b1, b2⟩ := a1 hj
    exact ⟨v, b1, zVC_mono sub b2⟩
  have m2 : ((110, .inl (10, 2, .ref r.2.2.1)) : xE) ∈ w2E (.ref r.2.2.1) (.ref r.2.1) ((125, .inr (0, t.map Value.int)) :: D0) := List.mem_cons_self
  have m3 : ((110, .inl (10, 3, .ref r.2.1)) : xE) ∈ w2E (.ref r.2.2.1) (.ref r.2.1) ((125, .inr (0, t.map Value.int)) :: D0) := List.mem_cons_of_mem _ List.mem_cons_self
  obtain ⟨hy, hk⟩ := askP_ask hP
  obtain ⟨pn, pn2, pn3, k1, k2, z0, k3, k4⟩ := ask_ok g2.1 ⟨hl20, fun i P hi => (hok9 i P hi).1⟩ a2 hy
  have KK := c_ask17 (gi := gi) (N := 1001) (S := S1) hE (by omega) e3 (d := 7) (Or.inl rfl) k1 k2 k3 k4 (i := 0) (j := 0)
  have KK : Kf (nameR En (knd F y) (anR r.2.2.2.2.2.2.1 y)) S1 (cE_ask_17 gi ga As (Int32.ofNat En.length) (En.map Prod.fst ++ ja) 1001 7 y 0 0 S1) := KK
  have hask : cE_ask gi ga As (Int32.ofNat En.length) (En.map Prod.fst ++ ja) 1001 7 y S1 = cE_ask_17 gi ga As (Int32.ofNat En.length) (En.map Prod.fst ++ ja) 1001 7 y 0 0 S1 := by
    rw [cE_ask, if_pos (by decide), if_pos (by decide)]
  have tr : ∀ {x : Int64} {S' : zS}, cE_ask gi ga As (Int32.ofNat En.length) (En.map Prod.fst ++ ja) 1001 7 y S1 = some (x, S') → yK X 2 49 140 [.ref 110, .int 7, .int y] (EC S1 (.ref r.2.2.1) (.ref r.2.1) t D0) 0 0 (zQl zTE zaE (w2E (.ref r.2.2.1) (.ref r.2.1) ((125, .inr (0, t.map Value.int)) :: D0)) x S') := fun h => tcE_ask (D0 := w2E (.ref r.2.2.1) (.ref r.2.1) ((125, .inr (0, t.map Value.int)) :: D0)) m2 m3 (sub q7) (sub q8) (fun e he => sub (g1 e he)) (sub q3) a1' (N := 1001) (by omega) (by omega) h
  obtain ⟨R1, e1⟩ := e1
  rw [hk] at KK
  refine xt_pure rfl rfl rfl rfl ?_
  refine xt_getf rfl rfl (xmC 120 rfl) ?_
  refine xt_pure rfl rfl rfl (st1 := .int 7 :: _) rfl ?_
  refine xt_pure rfl rfl rfl rfl ?_
  rcases hq : nameR En P.1 (anR r.2.2.2.2.2.2.1 y) with m | m
  · rw [hq] at KK
    have KK : _ = some (m, S1) := KK
    refine xt_callV rfl rfl rfl rfl (xmC 142 rfl) ⟨rfl, rfl, yle rfl, yle rfl, yle rfl, yle rfl⟩ (tr (hask.trans KK)) (c2 := 0) (s2 := 0) ⟨yle rfl, yle rfl⟩ ?_
    rintro _ _ ⟨rfl, rfl⟩
    refine xt_pure rfl rfl rfl (L1 := [_, _, _, _, _, _]) rfl ?_
    refine xt_pure rfl rfl rfl rfl ?_
    refine xt_getf rfl rfl (xmC 120 rfl) ?_
    refine xt_getf rfl rfl (xmD 1 rfl) ?_
    rw [show zI S1 1 = 0 from e3]
    refine xt_pure rfl rfl rfl rfl ?_
    refine xt_pure rfl rfl rfl rfl ?_
    refine xt_pure rfl rfl rfl (st1 := .int 1 :: _) rfl ?_
    have fin : ∃ S' w', EC S1 (.ref r.2.2.1) (.ref r.2.1) t D0 = EC S' (.ref r.2.2.1) (.ref r.2.1) t D0 ∧ W0 S' w' ∧ frC S S' ∧ w'.1 = w.1 := ⟨S1, w0R w.1, rfl, ⟨R1, e1⟩, e2, rfl⟩
    refine yt_ic rfl rfl (fun (h : z ≠ 1) => ?_) (fun (h : z = 1) => ?_)
    · skip
      refine xt_pure rfl rfl rfl (st1 := .long 0 :: _) rfl ?_
      obtain ⟨S', w', f1, f2, f3, f4⟩ := fin
      exact xt_lret rfl rfl rfl ⟨S', w', f1, f2, f3, by rw [if_neg h], f4⟩
    · skip
      refine xt_pure rfl rfl rfl rfl ?_
      refine xt_pure rfl rfl rfl rfl ?_
      obtain ⟨S', w', f1, f2, f3, f4⟩ := fin
      exact xt_lret rfl rfl rfl ⟨S', w', f1, f2, f3, by rw [if_pos h], f4⟩
  · rw [hq] at KK
    obtain ⟨hm, v0, KK⟩ := KK
    refine xt_callV rfl rfl rfl rfl (xmC 142 rfl) ⟨rfl, rfl, yle rfl, yle rfl, yle rfl, yle rfl⟩ (tr (hask.trans KK)) (c2 := 0) (s2 := 0) ⟨yle rfl, yle rfl⟩ ?_
    rintro _ _ ⟨rfl, rfl⟩
    obtain ⟨f1, f2, f3⟩ := e1.fl (k := m)
    refine xt_pure rfl rfl rfl (L1 := [_, _, _, _, _, _]) rfl ?_
    refine xt_pure rfl rfl rfl rfl ?_
    refine xt_getf rfl rfl (xmC 120 rfl) ?_
    refine xt_getf rfl rfl (xmD 1 rfl) ?_
    rw [show zI (flC S1 m) 1 = m from rfl]
    refine yt_if rfl rfl (fun (h : m = 0) => absurd h hm) (fun _ => ?_)
    refine xt_pure rfl rfl rfl rfl ?_
    refine xt_pure rfl rfl rfl (st1 := .int 2 :: _) rfl ?_
    refine yt_ic rfl rfl (fun (h : z ≠ 2) => ?_) (fun (h : z = 2) => ?_)
    · skip
      refine xt_pure rfl rfl rfl (st1 := .long 0 :: _) rfl ?_
      exact xt_lret rfl rfl rfl ⟨flC S1 m, _, rfl, ⟨R1, f1⟩, e2, by rw [if_neg h], rfl⟩
    · skip
      refine xt_pure rfl rfl rfl (st1 := .long 1 :: _) rfl ?_
      refine xt_pure rfl rfl rfl rfl ?_
      exact xt_lret rfl rfl rfl ⟨flC S1 m, _, rfl, ⟨R1, f1⟩, e2, by rw [if_pos h], rfl⟩
theorem i64_add1 {n : Nat} : Int64.ofNat n + 1 = Int64.ofNat (n + 1) := (Int64.ofNat_add n 1).symm
theorem stat_loop {fr lo fa : Nat} {F : yF} {P : yPt} (hf : 20 ≤ fr) (hl : 400 ≤ lo) (hR : DrC Fs R En D0) (hx : 0 ≤ x.toInt) (hF : gI Fs x = some F) (hFl : Fs.length ≤ 10) (hP : askP F y = some P) (hz : z = 0 ∨ z = 1 ∨ z = 2) : ∀ (rs : List yDR) (i : Nat) (n : Nat) (s : Int64) (b : Nat) (S : zS) (w : yW) (u v : Value) (l8 : Option Value), R.drop i = rs → i ≤ R.length → W0 S w → yT X fr lo 172 27 [some (.ref 78), some (.int x), some (.int y), some (.int z), some (.ref fa), some (.long (stV z (n, s, b, w.1))), none, some (.int (Int32.ofNat i)), l8] [] (EC S u v t D0) 0 0 (fun a D => ∃ S' w' u' v', a = some (.long (stV z (stR En P.1 y x.toInt.toNat z (rs.map (fun r => r.2.2.2.2.2)) n s b w.1))) ∧ D = EC S' u' v' t D0 ∧ W0 S' w' ∧ frC S S' ∧ w'.1 = (stR En P.1 y x.toInt.toNat z (rs.map (fun r => r.2.2.2.2.2)) n s b w.1).2.2.2)
  | [], i, n, s, b, S, w, u, v, l8, hd, hi0, hW => by
    have hi : R.length ≤ i := List.drop_eq_nil_iff.mp hd
    have h30 := hR.1.1
    refine xt_pure rfl rfl rfl rfl ?_
    refine xt_pure rfl rfl rfl rfl ?_
    refine xt_getf rfl rfl (xmS 0 rfl (inEC hR.1.2.1)) ?_
    refine yt_ic rfl rfl (fun _ => ?_) (fun (h : Int32.toInt _ < Int32.toInt _) => ?_)
    · skip
      refine xt_pure rfl rfl rfl rfl ?_
      exact xt_lret rfl rfl rfl ⟨S, w, u, v, rfl, rfl, hW, frC.rf, rfl⟩
    · rw [yi_nat (by omega), yi_nat (by omega)] at h
      omega
  | r :: rs, i, n, s, b, S, w, u, v, l8, hd, hi0, hW => by
    have h30 := hR.1.1
    have hri : R[i]? = some r := by rw [← Nat.add_zero i, ← List.getElem?_drop, hd]; rfl
    have hi : i < R.length := (List.getElem?_eq_some_iff.mp hri).1
    have hd2 : R.drop (i + 1) = rs := by rw [← List.drop_drop, hd]; rfl
    obtain ⟨d1, F', d2, d3⟩ := hR.2 r (List.mem_of_getElem? hri)
    have ti := yi_nat (i := i) (by omega)
    have t3 : (Int32.ofNat i).toInt.toNat = i := yi_toNat (by omega)
    have t4 := yjn (j := Int32.ofNat i) (by rw [ti]; omega)
    obtain ⟨p1, p2, p3, p4⟩ := askP_some hP
    have hdl : r.2.2.2.2.2.1 < Fs.length := (List.getElem?_eq_some_iff.mp d2).1
    have tf := yi_nat (i := r.2.2.2.2.2.1) (by omega)
    have next : ∀ (n' : Nat) (s' : Int64) (b' : Nat) (S' : zS) (w' : yW) (u' v' : Value) (l8' : Option Value), W0 S' w' → frC S S' → stR En P.1 y x.toInt.toNat z ((r :: rs).map (fun r => r.2.2.2.2.2)) n s b w.1 = stR En P.1 y x.toInt.toNat z (rs.map (fun r => r.2.2.2.2.2)) n' s' b' w'.1 → yT X fr lo 172 63 [some (.ref 78), some (.int x), some (.int y), some (.int z), some (.ref fa), some (.long (stV z (n', s', b', w'.1))), none, some (.int (Int32.ofNat i)), l8'] [] (EC S' u' v' t D0) 0 0 (fun a D => ∃ S' w' u' v', a = some (.long (stV z (stR En P.1 y x.toInt.toNat z ((r :: rs).map (fun r => r.2.2.2.2.2)) n s b w.1))) ∧ D = EC S' u' v' t D0 ∧ W0 S' w' ∧ frC S S' ∧ w'.1 = (stR En P.1 y x.toInt.toNat z ((r :: rs).map (fun r => r.2.2.2.2.2)) n s b w.1).2.2.2) := by
      intro n' s' b' S' w' u' v' l8' hW' hfr heq
      refine xt_pure rfl rfl rfl (L1 := [_, _, _, _, _, _, _, some (.int (_ + 1)), _]) rfl ?_
      refine xt_pure rfl rfl rfl rfl ?_
      rw [yi_add1, heq]
      refine (stat_loop hf hl hR hx hF hFl hP hz rs (i + 1) n' s' b' S' w' u' v' l8' hd2 (by omega) hW').mono (Nat.le_refl _) (Nat.le_refl _) ?_
      rintro a D ⟨S2, w2, u2, v2, k1, k2, k3, k4, k5⟩
      exact ⟨S2, w2, u2, v2, k1, k2, k3, hfr.tr k4, k5⟩
    refine xt_pure rfl rfl rfl rfl ?_
    refine xt_pure rfl rfl rfl rfl ?_
    refine xt_getf rfl rfl (xmS 0 rfl (inEC hR.1.2.1)) ?_
    refine yt_ic rfl rfl (fun (h : Int32.toInt _ ≤ Int32.toInt _) => ?_) (fun _ => ?_)
    · rw [ti, yi_nat (by omega)] at h
      omega
    · skip
      refine xt_pure rfl rfl rfl rfl ?_
      refine xt_getf rfl rfl (xmC 119 rfl) ?_
      refine xt_pure rfl rfl rfl rfl ?_
      refine xt_aald rfl rfl ⟨by decide, rfl⟩ (xmS 0 rfl (inEC hR.1.2.2)) t4.1 (v := .ref r.1) (by rw [t4.2, t3, List.getElem?_append_left (by rw [List.length_map]; exact hi), List.getElem?_map, hri]; rfl) ?_
      refine xt_pure rfl rfl rfl (L1 := [_, _, _, _, _, _, _, _, _]) rfl ?_
      refine xt_pure rfl rfl rfl rfl ?_
      refine xt_pure rfl rfl rfl rfl ?_
      refine xt_pure rfl rfl rfl rfl ?_
      refine xt_getf rfl rfl (xmS 0 rfl (inEC (ymm d1 0 rfl))) ?_
      refine xt_pure rfl rfl rfl rfl ?_
      refine yt_ic rfl rfl (fun (h1 : Int32.ofNat r.2.2.2.2.2.1 ≠ x) => ?_) (fun (h1 : Int32.ofNat r.2.2.2.2.2.1 = x) => ?_)
      · refine next n s b S w u v _ hW frC.rf ?_
        rw [List.map_cons, stR, if_neg]
        rintro ⟨h2, _⟩
        exact h1 (by rw [h2, yi_id hx])
      · have h1 : r.2.2.2.2.2.1 = x.toInt.toNat := by rw [← h1, tf]; rfl
        have hFF : F' = F := by
          obtain ⟨_, _, hF3, _, _⟩ := gI_some hF
          rw [h1, hF3] at d2
          injection d2 with d2
          exact d2.symm
        subst hFF
        refine xt_pure rfl rfl rfl rfl ?_
        refine xt_getf rfl rfl (xmS 0 rfl (inEC (ymm d1 5 rfl))) ?_
        refine xt_pure rfl rfl rfl (st1 := .int (-9) :: _) rfl ?_
        refine yt_ic rfl rfl (fun (h2 : r.2.2.2.2.2.2.2.2.1 = -9) => ?_) (fun (h2 : r.2.2.2.2.2.2.2.2.1 ≠ -9) => ?_)
        · refine next n s b S w u v _ hW frC.rf ?_
          rw [List.map_cons, stR, if_neg]
          rintro ⟨_, h3, _⟩
          exact h3 h2
        · have hd3 := d3
          obtain ⟨q1, hok, ⟨refs, q3, q4⟩, q5, q6, q7, ja, q8⟩ := d3
          obtain ⟨_, _, _, _, _, hl20, _⟩ := hok
          obtain ⟨an, han⟩ : ∃ an, r.2.2.2.2.2.2.1[y.toInt.toNat]? = some an := ⟨_, List.getElem?_eq_getElem (by rw [q4.2.1]; omega)⟩
          obtain ⟨rv, hrv⟩ : ∃ rv, refs[y.toInt.toNat]? = some rv := ⟨_, List.getElem?_eq_getElem (by rw [q4.1]; omega)⟩
          have hv := q4.2.2 _ _ _ hrv han
          have hanR : anR r.2.2.2.2.2.2.1 y = an := by rw [anR, gI_in p1 han]; rfl
          refine xt_pure rfl rfl rfl rfl ?_
          refine xt_getf rfl rfl (xmS 0 rfl (inEC (ymm d1 2 rfl))) ?_
          refine xt_pure rfl rfl rfl rfl ?_
          refine xt_aald rfl rfl ⟨by decide, rfl⟩ (xmS 0 rfl (inEC q3)) (yjn p1).1 (v := rv) (by rw [(yjn p1).2]; exact hrv) ?_
          cases an with
          | none =>
            have hv : rv = .null := hv
            subst hv
            refine xt_pure rfl rfl rfl rfl ?_
            refine next n s b S w u v _ hW frC.rf ?_
            rw [List.map_cons, stR, if_neg]
            rintro ⟨_, _, h3⟩
            rw [hanR] at h3
            cases h3
          | some ob =>
            obtain ⟨oa, rfl, hv⟩ := hv
            have hst : stR En P.1 y x.toInt.toNat z ((r :: rs).map (fun r => r.2.2.2.2.2)) n s b w.1 = (if z = 0 then stR En P.1 y x.toInt.toNat z (rs.map (fun r => r.2.2.2.2.2)) (n + 1) s b w.1 else match nameR En P.1 (anR r.2.2.2.2.2.2.1 y) with
              | .inl v => stR En P.1 y x.toInt.toNat z (rs.map (fun r => r.2.2.2.2.2)) (n + 1) (s + v) b w.1
              | .inr _ => stR En P.1 y x.toInt.toNat z (rs.map (fun r => r.2.2.2.2.2)) (n + 1) s (b + 1) (w.1 + 1)) := by
              rw [List.map_cons, stR, if_pos ⟨h1, h2, by rw [hanR]; rfl⟩]
            refine xt_pure rfl rfl rfl rfl ?_
            refine xt_pure rfl rfl rfl rfl ?_
            refine xt_pure rfl rfl rfl rfl ?_
            refine yt_if rfl rfl (fun (hz0 : z ≠ 0) => ?_) (fun (hz0 : z = 0) => ?_)
            · skip
              refine xt_pure rfl rfl rfl rfl ?_
              refine xt_pure rfl rfl rfl rfl ?_
              refine xt_pure rfl rfl rfl rfl ?_
              refine xt_pure rfl rfl rfl rfl ?_
              refine xt_callV rfl rfl rfl rfl (xmC 115 rfl) ⟨rfl, rfl, yle rfl, yle rfl, Nat.le_trans (yle rfl) hf, Nat.le_trans (yle rfl) hl⟩ (ck_statOf d1 hd3 hW hP) (c2 := 0) (s2 := 0) ⟨yle rfl, yle rfl⟩ ?_
              rintro a D ⟨S', w', rfl, g1, g2, g3⟩
              rw [if_neg hz0] at hst
              rcases hq : nameR En P.1 (anR r.2.2.2.2.2.2.1 y) with m | m
              · rw [hq] at g3 hst
                obtain ⟨rfl, g4⟩ := g3
                refine xt_pure rfl rfl rfl rfl ?_
                refine xt_pure rfl rfl rfl (L1 := [_, _, _, _, _, _, _, _, _]) rfl ?_
                have hacc : stV z (n, s, b, w.1) + (if z = 1 then m else 0) = stV z (n + 1, s + m, b, w'.1) := by
                  unfold stV
                  rcases hz with rfl | rfl | rfl
                  · exact absurd rfl hz0
                  · rfl
                  · show Int64.ofNat b + 0 = Int64.ofNat b
                    exact Int64.add_zero _
                rw [hacc]
                exact next (n + 1) (s + m) b S' w' _ _ _ g1 g2 (by rw [hst, g4])
              · rw [hq] at g3 hst
                obtain ⟨rfl, g4⟩ := g3
                refine xt_pure rfl rfl rfl rfl ?_
                refine xt_pure rfl rfl rfl (L1 := [_, _, _, _, _, _, _, _, _]) rfl ?_
                have hacc : stV z (n, s, b, w.1) + (if z = 2 then 1 else 0) = stV z (n + 1, s, b + 1, w'.1) := by
                  unfold stV
                  rcases hz with rfl | rfl | rfl
                  · exact absurd rfl hz0
                  · show s + 0 = s
                    exact Int64.add_zero _
                  · exact i64_add1
                rw [hacc]
                exact next (n + 1) s (b + 1) S' w' _ _ _ g1 g2 (by rw [hst, g4])
            · rw [if_pos hz0] at hst
              refine xt_pure rfl rfl rfl (st1 := .long 1 :: _) rfl ?_
              refine xt_pure rfl rfl rfl rfl ?_
              refine xt_pure rfl rfl rfl rfl ?_
              refine xt_pure rfl rfl rfl (L1 := [_, _, _, _, _, _, _, _, _]) rfl ?_
              have hacc : stV z (n, s, b, w.1) + 1 = stV z (n + 1, s, b, w.1) := by
                subst hz0
                exact i64_add1
              rw [hacc]
              exact next (n + 1) s b S w u v _ hW frC.rf hst
/-- what the class answers to stats -/
def QtC (Fs : List yF) (Dr : List yD) (En : List (Int64 × Int32)) (S : zS) (w : yW) (u v : Value) (t : List Int32) (x y z : Int32) (D0 : List xE) (a : Option Value) (D : List xE) : Prop := ((∀ F P, gI Fs x = some F → askP F y = some P → ¬ (0 ≤ z.toInt ∧ z.toInt ≤ 2)) ∧ a = some (.long (-100)) ∧ D = EC S u v t D0) ∨ (∃ F P, gI Fs x = some F ∧ askP F y = some P ∧ (0 ≤ z.toInt ∧ z.toInt ≤ 2) ∧ 10000 ≤ w.1.toInt ∧ a = some (.long (-101)) ∧ D = EC S u v t D0) ∨ ∃ F P S' w' u' v', gI Fs x = some F ∧ askP F y = some P ∧ (0 ≤ z.toInt ∧ z.toInt ≤ 2) ∧ ¬ 10000 ≤ w.1.toInt ∧ a = some (.long (stV z (stR En P.1 y x.toInt.toNat z Dr 0 0 0 w.1))) ∧ D = EC S' u' v' t D0 ∧ W0 S' w' ∧ frC S S' ∧ w'.1 = (stR En P.1 y x.toInt.toNat z Dr 0 0 0 w.1).2.2.2
theorem cK_stats (hR : DrC Fs R En D0) (hFs : yFsC Fs D0) (h20 : ∀ (i : Nat) F, Fs[i]? = some F → F.1.length ≤ 20) (hW : W0 S w) : yK X 50 1000 172 [.ref 78, .int x, .int y, .int z] (EC S u v t D0) 0 0 (QtC Fs (R.map (fun r => r.2.2.2.2.2)) En S w u v t x y z D0) := by
  have hFl : Fs.length ≤ 10 := by
    obtain ⟨_, _, h, _⟩ := hFs
    exact h
  refine yK.of rfl (yle rfl) (L := [_, _, _, _, _, _, _, _, _]) rfl ?_
  refine xt_pure rfl rfl rfl rfl ?_
  refine xt_pure rfl rfl rfl rfl ?_
  refine xt_callV rfl rfl rfl rfl (xmC 115 rfl) ⟨rfl, rfl, yle rfl, yle rfl, yle rfl, yle rfl⟩ (ck_formAt (hFs.mono inEC)) (c2 := 0) (s2 := 0) ⟨yle rfl, yle rfl⟩ ?_
  rintro _ _ (⟨rfl, hg, rfl⟩ | ⟨rfl, F, fa, hg, hC, rfl⟩)
  · skip
    refine xt_pure rfl rfl rfl (L1 := [_, _, _, _, _, _, _, _, _]) rfl ?_
    refine xt_pure rfl rfl rfl rfl ?_
    refine xt_pure rfl rfl rfl rfl ?_
    refine xt_pure rfl rfl rfl (st1 := .long (-100) :: _) rfl ?_
    exact xt_lret rfl rfl rfl (Or.inl ⟨(fun F P h _ => by rw [hg] at h; cases h), rfl, rfl⟩)
  · obtain ⟨gx, _, hF3, _, _⟩ := gI_some hg
    have hl20 := h20 _ F hF3
    have hC' := hC
    obtain ⟨pp, qq, f1, _⟩ := hC'
    refine xt_pure rfl rfl rfl (L1 := [_, _, _, _, _, _, _, _, _]) rfl ?_
    refine xt_pure rfl rfl rfl rfl ?_
    refine xt_pure rfl rfl rfl rfl ?_
    refine xt_pure rfl rfl rfl rfl ?_
    refine xt_pure rfl rfl rfl rfl ?_
    refine xt_callV rfl rfl rfl rfl (xmS 0 rfl (ymm f1 0 rfl)) ⟨rfl, rfl, yle rfl, yle rfl, yle rfl, yle rfl⟩ (ck_answered hl20 hC) (c2 := 0) (s2 := 0) ⟨yle rfl, yle rfl⟩ ?_
    rintro _ _ (⟨rfl, ⟨P, hP⟩, rfl⟩ | ⟨rfl, hP, rfl⟩)
    rotate_left
    · skip
      refine xt_pure rfl rfl rfl rfl ?_
      refine xt_pure rfl rfl rfl (st1 := .long (-100) :: _) rfl ?_
      exact xt_lret rfl rfl rfl (Or.inl ⟨(fun F2 P h h2 => by rw [hg] at h; injection h with h; subst h; rw [hP] at h2; cases h2), rfl, rfl⟩)
    · skip
      refine xt_pure rfl rfl rfl rfl ?_
      refine xt_pure rfl rfl rfl rfl ?_
      refine yt_if rfl rfl (fun (h1 : z.toInt < (0 : Int)) => ?_) (fun (h1 : (0 : Int) ≤ z.toInt) => ?_)
      · skip
        refine xt_pure rfl rfl rfl (st1 := .long (-100) :: _) rfl ?_
        exact xt_lret rfl rfl rfl (Or.inl ⟨(fun _ _ _ _ h => by omega), rfl, rfl⟩)
      · skip
        refine xt_pure rfl rfl rfl rfl ?_
        refine xt_pure rfl rfl rfl (st1 := .int 2 :: _) rfl ?_
        refine yt_ic rfl rfl (fun (h2 : z.toInt ≤ (2 : Int)) => ?_) (fun (h2 : (2 : Int) < z.toInt) => ?_)
        rotate_left
        · skip
          refine xt_pure rfl rfl rfl (st1 := .long (-100) :: _) rfl ?_
          exact xt_lret rfl rfl rfl (Or.inl ⟨(fun _ _ _ _ h => by omega), rfl, rfl⟩)
        · skip
          refine xt_pure rfl rfl rfl rfl ?_
          refine xt_getf rfl rfl (xmC 120 rfl) ?_
          refine xt_callV rfl rfl rfl rfl (xmC 142 rfl) ⟨rfl, rfl, yle rfl, yle rfl, yle rfl, yle rfl⟩ (ck_isFull (fl := zI S 0) (List.mem_of_getElem? (i := 0) rfl)) (c2 := 0) (s2 := 0) ⟨yle rfl, yle rfl⟩ ?_
          have h0 := hW.tell.2.2.2
          rintro _ _ (⟨rfl, hf, rfl⟩ | ⟨rfl, hf, rfl⟩)
          · rw [h0] at hf
            refine xt_pure rfl rfl rfl rfl ?_
            refine xt_pure rfl rfl rfl (st1 := .long (-101) :: _) rfl ?_
            exact xt_lret rfl rfl rfl (Or.inr (Or.inl ⟨F, P, hg, hP, ⟨h1, h2⟩, hf, rfl, rfl⟩))
          · rw [h0] at hf
            refine xt_pure rfl rfl rfl rfl ?_
            refine xt_pure rfl rfl rfl (st1 := .long 0 :: _) rfl ?_
            refine xt_pure rfl rfl rfl (L1 := [_, _, _, _, _, _, _, _, _]) rfl ?_
            refine xt_pure rfl rfl rfl (st1 := .int 0 :: _) rfl ?_
            refine xt_pure rfl rfl rfl (L1 := [_, _, _, _, _, _, _, _, _]) rfl ?_
            have hz : z = 0 ∨ z = 1 ∨ z = 2 := by
              rcases (show z.toInt = 0 ∨ z.toInt = 1 ∨ z.toInt = 2 by omega) with h | h | h
              · exact Or.inl (xi32_eq.mpr h)
              · exact Or.inr (Or.inl (xi32_eq.mpr h))
              · exact Or.inr (Or.inr (xi32_eq.mpr h))
            have h00 : stV z (0, 0, 0, w.1) = 0 := by
              rcases hz with rfl | rfl | rfl <;> rfl
            have LL := stat_loop (X := X) (fr := 50) (lo := 1000) (fa := fa) (t := t) (by omega) (by omega) hR gx hg hFl hP hz R 0 0 0 0 S w u v none rfl (by omega) hW
            rw [h00] at LL
            refine LL.mono (Nat.le_refl _) (Nat.le_refl _) ?_
            rintro a D ⟨S', w', u', v', k1, k2, k3, k4, k5⟩
            exact Or.inr (Or.inr ⟨F, P, S', w', u', v', hg, hP, ⟨h1, h2⟩, hf, k1, k2, k3, k4, k5⟩)
end STATS
