/-! DIGEST and EXPORT: the reference -/
section TELLD
variable {X : List Int32} {D1 : List xE} {Fs : List yF} {Dr : List yD} {fa d : Nat} {F : yF} {As : List (List (Option yO))} {A : List (Option yO)} {En : List (Int64 × Int32)} {Q S : zS} {x : Int32}
theorem inL {S : zS} {D0 : List xE} : D0 ⊆ zD zTL zaL S D0 := fun _ he => List.mem_append_right _ he
theorem tellD_loop {fr lo : Nat} (hf : 3 ≤ fr) (hl : 100 ≤ lo) (hd : d < 31) (hH : HM D1 fa d F As A En) : ∀ (k p : Nat) (S : zS) (pre : List Int32) (c : Int32), p + k = F.1.length → pre.length ≤ 155 * p → KM Q S pre c (hsB 17 pre) → yT X fr lo 279 8 [some (.ref 209), some (.int (Int32.ofNat d)), some (.int (Int32.ofNat p))] [] (zD zTL zaL S D1) 0 0 (fun a D => ∃ S' c', a = none ∧ D = zD zTL zaL S' D1 ∧ KM Q S' (pre ++ drB A k p) c' (hsB 17 (pre ++ drB A k p)))
  | 0, p, S, pre, c, hp, _, hK => by
    obtain ⟨⟨oF, ff, al, q1, q2, q3, q4⟩, q5, hok, hE, _, ⟨mr, m1, m2, m3, m4⟩, q9, q10⟩ := hH
    obtain ⟨_, _, _, _, _, hl20, _⟩ := hok
    obtain ⟨pp, qq, nm, fn, vl, f1, _⟩ := q5
    obtain ⟨_, _, g3, g4, g5⟩ := gI_some q2
    obtain ⟨_, _, h3, h4, h5⟩ := gI_some q4
    have tp := yi_nat (i := p) (by omega)
    have tn := yi_nat (i := F.1.length) (by omega)
    refine xt_pure rfl rfl rfl rfl ?_
    refine xt_pure rfl rfl rfl rfl ?_
    refine xt_getf rfl rfl (xmC 177 rfl) ?_
    refine xt_pure rfl rfl rfl rfl ?_
    refine xt_getf rfl rfl (xmC 187 rfl) ?_
    refine xt_pure rfl rfl rfl rfl ?_
    refine xt_iald rfl rfl (xmS 0 rfl (inL q1)) g5 (v := .int ff) (by rw [g4, List.getElem?_map, g3]; rfl) ?_
    refine xt_aald rfl rfl ⟨by decide, rfl⟩ (xmS 0 rfl (inL q3)) h5 (v := .ref fa) (by rw [h4, h3]) ?_
    refine xt_getf rfl rfl (xmS 0 rfl (inL (ymm f1 0 rfl))) ?_
    refine yt_ic rfl rfl (fun _ => ?_) (fun (h : Int32.toInt _ < Int32.toInt _) => ?_)
    · refine xt_vret rfl rfl rfl ⟨S, c, rfl, rfl, ?_⟩
      rw [drB, List.append_nil]; exact hK
    · rw [tp, tn] at h
      omega
  | k + 1, p, S, pre, c, hp, hb, hK => by
    have hH0 := hH
    obtain ⟨⟨oF, ff, al, q1, q2, q3, q4⟩, q5, hok, hE, _, ⟨mr, m1, m2, m3, m4⟩, q9, q10⟩ := hH
    obtain ⟨_, _, _, _, _, hl20, _⟩ := hok
    obtain ⟨pp, qq, nm, fn, vl, f1, _⟩ := q5
    obtain ⟨_, _, g3, g4, g5⟩ := gI_some q2
    obtain ⟨_, _, h3, h4, h5⟩ := gI_some q4
    have tp := yi_nat (i := p) (by omega)
    have tn := yi_nat (i := F.1.length) (by omega)
    have tx : (20 : Int32) * Int32.ofNat d + Int32.ofNat p = Int32.ofNat (20 * d + p) := by rw [Int32.ofNat_add, Int32.ofNat_mul]; rfl
    have t2 := yi_nat (i := 20 * d + p) (by omega)
    have t3 : (Int32.ofNat (20 * d + p)).toInt.toNat = 20 * d + p := yi_toNat (by omega)
    have t4 := yjn (j := Int32.ofNat (20 * d + p)) (by rw [t2]; omega)
    have hA20 := m3 d A q10
    obtain ⟨z, hz⟩ : ∃ z, A[p]? = some z := ⟨_, List.getElem?_eq_getElem (by omega)⟩
    obtain ⟨v, hv1, hv2⟩ := m4 d A q10 p z hz
    have han : anR A (Int32.ofNat p) = z := by rw [anR, gI_nat (by omega), hz]; rfl
    refine xt_pure rfl rfl rfl rfl ?_
    refine xt_pure rfl rfl rfl rfl ?_
    refine xt_getf rfl rfl (xmC 177 rfl) ?_
    refine xt_pure rfl rfl rfl rfl ?_
    refine xt_getf rfl rfl (xmC 187 rfl) ?_
    refine xt_pure rfl rfl rfl rfl ?_
    refine xt_iald rfl rfl (xmS 0 rfl (inL q1)) g5 (v := .int ff) (by rw [g4, List.getElem?_map, g3]; rfl) ?_
    refine xt_aald rfl rfl ⟨by decide, rfl⟩ (xmS 0 rfl (inL q3)) h5 (v := .ref fa) (by rw [h4, h3]) ?_
    refine xt_getf rfl rfl (xmS 0 rfl (inL (ymm f1 0 rfl))) ?_
    refine yt_ic rfl rfl (fun (h : Int32.toInt _ ≤ Int32.toInt _) => ?_) (fun _ => ?_)
    · rw [tp, tn] at h
      omega
    · skip
      refine xt_pure rfl rfl rfl rfl ?_
      refine xt_getf rfl rfl (xmC 188 rfl) ?_
      refine xt_pure rfl rfl rfl (st1 := .int 20 :: _) rfl ?_
      refine xt_pure rfl rfl rfl rfl ?_
      refine xt_pure rfl rfl rfl rfl ?_
      refine xt_pure rfl rfl rfl rfl ?_
      refine xt_pure rfl rfl rfl rfl ?_
      rw [tx]
      refine xt_aald rfl rfl ⟨by decide, rfl⟩ (xmS 0 rfl (inL m1)) t4.1 (v := v) (by rw [t4.2, t3]; exact hv1) ?_
      cases z with
      | none =>
        have hv2 : v = .null := hv2
        subst hv2
        refine xt_pure rfl rfl rfl rfl ?_
        refine xt_pure rfl rfl rfl (L1 := [_, _, some (.int (_ + 1))]) rfl ?_
        refine xt_pure rfl rfl rfl rfl ?_
        rw [yi_add1]
        rw [drB, han]
        exact tellD_loop hf hl hd hH0 k (p + 1) S pre c (by omega) (by omega) hK
      | some y =>
        obtain ⟨b, rfl, hv2⟩ := hv2
        have hy := q9 d A q10 p y hz
        obtain ⟨zh, z1, z2⟩ := hv2.han
        obtain ⟨S', e1, c', e2⟩ := r_ans (N := 21) (p := p) (by omega) (by omega) z2 hy hE (by omega) hK
        have hln := obB_len (p := p) hy
        refine xt_pure rfl rfl rfl rfl ?_
        refine xt_pure rfl rfl rfl rfl ?_
        refine xt_pure rfl rfl rfl rfl ?_
        refine xt_pure rfl rfl rfl rfl ?_
        refine xt_getf rfl rfl (xmC 188 rfl) ?_
        refine xt_pure rfl rfl rfl (st1 := .int 20 :: _) rfl ?_
        refine xt_pure rfl rfl rfl rfl ?_
        refine xt_pure rfl rfl rfl rfl ?_
        refine xt_pure rfl rfl rfl rfl ?_
        refine xt_pure rfl rfl rfl rfl ?_
        rw [tx]
        refine xt_aald rfl rfl ⟨by decide, rfl⟩ (xmS 0 rfl (inL m1)) t4.1 (v := .ref b) (by rw [t4.2, t3]; exact hv1) ?_
        refine xt_callV rfl rfl rfl rfl (xmC 176 rfl) ⟨rfl, rfl, yle rfl, yle rfl, Nat.le_trans (yle rfl) hf, Nat.le_trans (yle rfl) hl⟩ (trK_tellAnswer (N := 21) (fr := 2) (lo := 45) (by omega) (by omega) z1 e1) (c2 := 0) (s2 := 0) ⟨yle rfl, yle rfl⟩ ?_
        rintro _ _ ⟨rfl, rfl⟩
        refine xt_pure rfl rfl rfl (L1 := [_, _, some (.int (_ + 1))]) rfl ?_
        refine xt_pure rfl rfl rfl rfl ?_
        rw [yi_add1]
        rw [drB, han]
        refine (tellD_loop hf hl hd hH0 k (p + 1) S' (pre ++ obB p y) c' (by omega) (by rw [List.length_append]; omega) e2).mono (Nat.le_refl _) (Nat.le_refl _) ?_
        rintro a D ⟨S2, c2, w1, w2, w3⟩
        exact ⟨S2, c2, w1, w2, by rw [← List.append_assoc]; exact w3⟩
theorem mk_tellDraft (hd : d < 31) (hH : HM D1 fa d F As A En) (l5 : (zA S 5).length = 1200) : yK X 3 100 279 [.ref 209, .int (Int32.ofNat d)] (zD zTL zaL S D1) 0 0 (fun a D => ∃ S' c', a = none ∧ D = zD zTL zaL S' D1 ∧ KM S S' (drB A F.1.length 0) c' (hsB 17 (drB A F.1.length 0))) := by
  refine yK.of rfl (yle rfl) (L := [_, _, _]) rfl ?_
  refine xt_pure rfl rfl rfl rfl ?_
  refine xt_pure rfl rfl rfl (st1 := .int 0 :: _) rfl ?_
  refine xt_putf rfl rfl rfl rfl 1 rfl (D1 := zD zTL zaL (zsI S 1 0) D1) rfl ?_
  refine xt_pure rfl rfl rfl rfl ?_
  refine xt_pure rfl rfl rfl (st1 := .int 17 :: _) rfl ?_
  refine xt_putf rfl rfl rfl rfl 3 rfl (D1 := zD zTL zaL (zsI (zsI S 1 0) 3 17) D1) rfl ?_
  refine xt_pure rfl rfl rfl (st1 := .int 0 :: _) rfl ?_
  refine xt_pure rfl rfl rfl (L1 := [_, _, _]) rfl ?_
  exact tellD_loop (by omega) (by omega) hd hH F.1.length 0 (zsI (zsI S 1 0) 3 17) [] (zI S 2) (by omega) (by simp) ⟨rfl, l5, (fun i b _ h => by cases h), rfl, rfl, rfl, rfl⟩
theorem mK_digest (hR : DrM Fs Dr As En D1) (l5 : (zA S 5).length = 1200) : yK X 10 300 278 [.ref 209, .int x] (zD zTL zaL S D1) 0 0 (fun a D => (gI Dr x = none ∧ a = some (.int 0) ∧ D = zD zTL zaL S D1) ∨ ∃ d F S' c', gI Dr x = some d ∧ Fs[d.1]? = some F ∧ a = some (.int (hsB 17 (drB d.2.1 F.1.length 0))) ∧ D = zD zTL zaL S' D1 ∧ KM S S' (drB d.2.1 F.1.length 0) c' (hsB 17 (drB d.2.1 F.1.length 0))) := by
  obtain ⟨r1, r2, r3⟩ := hR
  refine yK.of rfl (yle rfl) (L := [_, _]) rfl ?_
  refine xt_pure rfl rfl rfl rfl ?_
  refine xt_pure rfl rfl rfl rfl ?_
  refine xt_callV rfl rfl rfl rfl (xmC 176 rfl) ⟨rfl, rfl, yle rfl, yle rfl, yle rfl, yle rfl⟩ (mk_isDraft (n := Dr.length) (by omega) (inL r2)) (c2 := 0) (s2 := 0) ⟨yle rfl, yle rfl⟩ ?_
  rintro _ _ (⟨rfl, hx, rfl⟩ | ⟨rfl, hx, rfl⟩)
  rotate_left
  · skip
    refine xt_pure rfl rfl rfl rfl ?_
    refine xt_pure rfl rfl rfl (st1 := .int 0 :: _) rfl ?_
    exact xt_iret rfl rfl rfl rfl (Or.inl ⟨gI_out (by omega), rfl, rfl⟩)
  · obtain ⟨d, hg⟩ := (gI_iff (l := Dr)).mpr hx
    obtain ⟨_, _, hi, _, _⟩ := gI_some hg
    obtain ⟨F, fa, hF, hH⟩ := r3 _ d hi
    have hlt := (List.getElem?_eq_some_iff.mp hi).1
    refine xt_pure rfl rfl rfl rfl ?_
    refine xt_pure rfl rfl rfl rfl ?_
    refine xt_pure rfl rfl rfl rfl ?_
    rw [show (Value.int x) = Value.int (Int32.ofNat x.toInt.toNat) by rw [yi_id hx.1]]
    refine xt_callV rfl rfl rfl rfl (xmC 176 rfl) ⟨rfl, rfl, yle rfl, yle rfl, yle rfl, yle rfl⟩ (mk_tellDraft (by omega) hH l5) (c2 := 0) (s2 := 0) ⟨yle rfl, yle rfl⟩ ?_
    rintro _ _ ⟨S', c', rfl, rfl, e⟩
    refine xt_pure rfl rfl rfl rfl ?_
    refine xt_getf rfl rfl (xmD 3 rfl) ?_
    rw [show zI S' 3 = _ from e.2.2.2.2.1]
    exact xt_iret rfl rfl rfl rfl (Or.inr ⟨d, F, S', c', hg, hF, rfl, rfl, e⟩)
theorem drB_lenA {A : List (Option yO)} {En : List (Int64 × Int32)} (h : ∀ (p : Nat) y, A[p]? = some (some y) → yOk En y) : ∀ (k p : Nat), p + k ≤ 20 → (drB A k p).length ≤ 155 * k
  | 0, _, _ => by simp [drB]
  | k + 1, p, hp => by
    have ih := drB_lenA h k (p + 1) (by omega)
    rw [drB, List.length_append]
    rcases hy : anR A (Int32.ofNat p) with _ | y
    · show ([] : List Int32).length + _ ≤ _
      rw [List.length_nil]; omega
    · have : A[p]? = some (some y) := by
        rw [anR, gI_nat (by omega)] at hy
        rcases hA : A[p]? with _ | z
        · rw [hA] at hy; cases hy
        · rw [hA] at hy
          have hy : z = some y := hy
          rw [hy]
      have := obB_len (p := p) (h p y this)
      show (obB p y).length + _ ≤ _
      omega
theorem drB_lenM (hH : HM D1 fa d F As A En) : (drB A F.1.length 0).length ≤ 155 * F.1.length := by
  obtain ⟨_, _, hok, _, _, _, q9, q10⟩ := hH
  obtain ⟨_, _, _, _, _, hl20, _⟩ := hok
  exact drB_lenA (fun p y h => q9 d A q10 p y h) _ 0 (by omega)
theorem tk_set {bs dk : List Int32} {i : Nat} {b : Int32} (hi : i < bs.length) (hd : i < dk.length) (hb : bs[i]? = some b) : (bs.take i ++ dk.drop i).set i b = bs.take (i + 1) ++ dk.drop (i + 1) := by
  have e1 : (bs.take i).length = i := by rw [List.length_take]; omega
  rw [List.set_append_right _ _ (by omega), e1, Nat.sub_self, List.take_succ, hb, List.append_assoc]
  congr 1
  rw [List.drop_eq_getElem_cons hd]
  rfl
theorem KM.take {Q S : zS} {bs : List Int32} {c h : Int32} (hK : KM Q S bs c h) (hl : bs.length ≤ 1200) {i : Nat} {b : Int32} (hb : bs[i]? = some b) : (zA S 5)[i]? = some b := hK.2.2.1 i b (by have := (List.getElem?_eq_some_iff.mp hb).1; omega) hb
/-- so many bytes copied -/
theorem exp_loop {fr lo : Nat} {bs dk : List Int32} {c h : Int32} (hl : bs.length ≤ 1200) (l4 : dk.length = 1200) {Q0 : Option Value → List xE → Prop} (hQ : ∀ S', zI S' 0 = Int32.ofNat bs.length → zA S' 4 = exD bs dk → KM S' S' bs c h → Q0 (some (.int (Int32.ofNat bs.length))) (zD zTL zaL S' D1)) : ∀ (m i : Nat) (S : zS), i + m = bs.length → zA S 4 = bs.take i ++ dk.drop i → KM S S bs c h → yT X fr lo 283 17 [some (.ref 209), some (.int x), some (.int (Int32.ofNat i))] [] (zD zTL zaL S D1) 0 0 Q0
  | 0, i, S, hi, h4, hK => by
    have e : i = bs.length := by omega
    subst e
    refine xt_pure rfl rfl rfl rfl ?_
    refine xt_pure rfl rfl rfl rfl ?_
    refine xt_getf rfl rfl (xmD 1 rfl) ?_
    rw [show zI S 1 = Int32.ofNat bs.length from hK.1]
    refine yt_ic rfl rfl (fun _ => ?_) (fun (h : Int32.toInt _ < Int32.toInt _) => ?_)
    · skip
      refine xt_pure rfl rfl rfl rfl ?_
      refine xt_pure rfl rfl rfl rfl ?_
      refine xt_getf rfl rfl (xmD 1 rfl) ?_
      rw [show zI S 1 = Int32.ofNat bs.length from hK.1]
      refine xt_putf rfl rfl rfl rfl 0 rfl (D1 := zD zTL zaL (zsI S 0 (Int32.ofNat bs.length)) D1) rfl ?_
      refine xt_pure rfl rfl rfl rfl ?_
      refine xt_getf rfl rfl (xmD 1 rfl) ?_
      rw [show zI (zsI S 0 (Int32.ofNat bs.length)) 1 = Int32.ofNat bs.length from hK.1]
      refine xt_iret rfl rfl rfl rfl (hQ _ rfl ?_ ⟨hK.1, hK.2.1, hK.2.2.1, hK.2.2.2.1, hK.2.2.2.2.1, rfl, rfl⟩)
      show zA S 4 = _
      rw [h4, List.take_length]; rfl
    · omega
  | m + 1, i, S, hi, h4, hK => by
    have ti := yi_nat (i := i) (by omega)
    have tn := yi_nat (i := bs.length) (by omega)
    have tt : (Int32.ofNat i).toInt.toNat = i := yi_toNat (by omega)
    have t4 := yjn (j := Int32.ofNat i) (by rw [ti]; omega)
    obtain ⟨b, hb⟩ : ∃ b, bs[i]? = some b := ⟨_, List.getElem?_eq_getElem (by omega)⟩
    have hb2 := hK.take hl hb
    refine xt_pure rfl rfl rfl rfl ?_
    refine xt_pure rfl rfl rfl rfl ?_
    refine xt_getf rfl rfl (xmD 1 rfl) ?_
    rw [show zI S 1 = Int32.ofNat bs.length from hK.1]
    refine yt_ic rfl rfl (fun (h : Int32.toInt _ ≤ Int32.toInt _) => ?_) (fun _ => ?_)
    · rw [ti, tn] at h
      omega
    · skip
      refine xt_pure rfl rfl rfl rfl ?_
      refine xt_getf rfl rfl (xmC 196 rfl) ?_
      refine xt_pure rfl rfl rfl rfl ?_
      refine xt_pure rfl rfl rfl rfl ?_
      refine xt_getf rfl rfl (xmC 197 rfl) ?_
      refine xt_pure rfl rfl rfl rfl ?_
      refine xt_iald rfl rfl (xmD 5 rfl) t4.1 (v := .int b) (by rw [t4.2, tt]; show ((zA S 5).map Value.int)[i]? = _; rw [List.getElem?_map, hb2]; rfl) ?_
      refine yt_ist rfl rfl 4 rfl ⟨by rw [ti]; omega, by rw [ti, show zA S 4 = _ from h4, List.length_append, List.length_take, List.length_drop]; omega⟩ (D1 := zD zTL zaL (zsA S 4 ((zA S 4).set i b)) D1) (by rw [tt]; rfl) ?_
      refine xt_pure rfl rfl rfl (L1 := [_, _, some (.int (_ + 1))]) rfl ?_
      refine xt_pure rfl rfl rfl rfl ?_
      rw [yi_add1]
      refine exp_loop hl l4 hQ m (i + 1) (zsA S 4 ((zA S 4).set i b)) (by omega) ?_ ⟨hK.1, hK.2.1, hK.2.2.1, hK.2.2.2.1, hK.2.2.2.2.1, rfl, rfl⟩
      show (zA S 4).set i b = _
      rw [h4]
      exact tk_set (List.getElem?_eq_some_iff.mp hb).1 (by omega) hb
theorem mK_export (hR : DrM Fs Dr As En D1) (l4 : (zA S 4).length = 1200) (l5 : (zA S 5).length = 1200) : yK X 10 300 283 [.ref 209, .int x] (zD zTL zaL S D1) 0 0 (fun a D => (gI Dr x = none ∧ a = some (.int (-1)) ∧ D = zD zTL zaL S D1) ∨ (∃ d F S' c', gI Dr x = some d ∧ Fs[d.1]? = some F ∧ 1200 < (drB d.2.1 F.1.length 0).length ∧ a = some (.int (-3)) ∧ D = zD zTL zaL S' D1 ∧ KM S S' (drB d.2.1 F.1.length 0) c' (hsB 17 (drB d.2.1 F.1.length 0))) ∨ ∃ d F S' c', gI Dr x = some d ∧ Fs[d.1]? = some F ∧ (drB d.2.1 F.1.length 0).length ≤ 1200 ∧ a = some (.int (Int32.ofNat (drB d.2.1 F.1.length 0).length)) ∧ D = zD zTL zaL S' D1 ∧ KM S' S' (drB d.2.1 F.1.length 0) c' (hsB 17 (drB d.2.1 F.1.length 0)) ∧ zI S' 0 = Int32.ofNat (drB d.2.1 F.1.length 0).length ∧ zA S' 4 = exD (drB d.2.1 F.1.length 0) (zA S 4)) := by
  obtain ⟨r1, r2, r3⟩ := hR
  refine yK.of rfl (yle rfl) (L := [_, _, _]) rfl ?_
  refine xt_pure rfl rfl rfl rfl ?_
  refine xt_pure rfl rfl rfl rfl ?_
  refine xt_callV rfl rfl rfl rfl (xmC 176 rfl) ⟨rfl, rfl, yle rfl, yle rfl, yle rfl, yle rfl⟩ (mk_isDraft (n := Dr.length) (by omega) (inL r2)) (c2 := 0) (s2 := 0) ⟨yle rfl, yle rfl⟩ ?_
  rintro _ _ (⟨rfl, hx, rfl⟩ | ⟨rfl, hx, rfl⟩)
  rotate_left
  · skip
    refine xt_pure rfl rfl rfl rfl ?_
    refine xt_pure rfl rfl rfl (st1 := .int (-1) :: _) rfl ?_
    exact xt_iret rfl rfl rfl rfl (Or.inl ⟨gI_out (by omega), rfl, rfl⟩)
  · obtain ⟨d, hg⟩ := (gI_iff (l := Dr)).mpr hx
    obtain ⟨_, _, hi, _, _⟩ := gI_some hg
    obtain ⟨F, fa, hF, hH⟩ := r3 _ d hi
    have hlt := (List.getElem?_eq_some_iff.mp hi).1
    refine xt_pure rfl rfl rfl rfl ?_
    refine xt_pure rfl rfl rfl rfl ?_
    refine xt_pure rfl rfl rfl rfl ?_
    rw [show (Value.int x) = Value.int (Int32.ofNat x.toInt.toNat) by rw [yi_id hx.1]]
    refine xt_callV rfl rfl rfl rfl (xmC 176 rfl) ⟨rfl, rfl, yle rfl, yle rfl, yle rfl, yle rfl⟩ (mk_tellDraft (by omega) hH l5) (c2 := 0) (s2 := 0) ⟨yle rfl, yle rfl⟩ ?_
    rintro _ _ ⟨S', c', rfl, rfl, e⟩
    have hb : (drB d.2.1 F.1.length 0).length ≤ 155 * F.1.length := drB_lenM hH
    obtain ⟨_, _, hok, _⟩ := hH
    obtain ⟨_, _, _, _, _, hl20, _⟩ := hok
    refine xt_pure rfl rfl rfl rfl ?_
    refine xt_getf rfl rfl (xmD 1 rfl) ?_
    refine xt_pure rfl rfl rfl (st1 := .int 1200 :: _) rfl ?_
    rw [show zI S' 1 = _ from e.1]
    have tb := yi_nat (i := (drB d.2.1 F.1.length 0).length) (by omega)
    refine yt_ic rfl rfl (fun (h : Int32.toInt _ ≤ (1200 : Int)) => ?_) (fun (h : (1200 : Int) < Int32.toInt _) => ?_)
    · rw [tb] at h
      refine xt_pure rfl rfl rfl (st1 := .int 0 :: _) rfl ?_
      refine xt_pure rfl rfl rfl (L1 := [_, _, _]) rfl ?_
      refine exp_loop (dk := zA S 4) (by omega) l4 ?_ (drB d.2.1 F.1.length 0).length 0 S' (by omega) ?_ ⟨e.1, e.2.1, e.2.2.1, e.2.2.2.1, e.2.2.2.2.1, rfl, rfl⟩
      · intro S2 k1 k2 k3
        exact Or.inr (Or.inr ⟨d, F, S2, c', hg, hF, by omega, rfl, rfl, k3, k1, k2⟩)
      · show zA S' 4 = _
        rw [show zA S' 4 = _ from e.2.2.2.2.2.2]; rfl
    · rw [tb] at h
      refine xt_pure rfl rfl rfl (st1 := .int (-3) :: _) rfl ?_
      exact xt_iret rfl rfl rfl rfl (Or.inr (Or.inl ⟨d, F, S', c', hg, hF, by omega, rfl, rfl, e⟩))
end TELLD
