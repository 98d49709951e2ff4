/-! TAKE: a thing filled with items; the reference -/
def gS (x : yTg) (ev : Int32) (S : zS) : zS := (fun i => ([x.2.2.2.2.1, x.2.2.2.2.2.1, 0, 0, 0, ev, zI S 0, zI S 1, zI S 2] : List Int32).getD i 0, fun _ => 0, fun _ => .null, fun i => if i = 3 then x.2.2.2.2.2.2.2.1 else if i = 4 then x.2.2.2.2.2.2.2.2 else if i = 9 then zA S 3 else [], fun i => if i = 2 then x.2.2.2.2.2.2.1 else [], fun _ => [])
def nS (S : zS) : zS := (fun i => ([zI S 6, zI S 7, zI S 8] : List Int32).getD i 0, fun _ => 0, fun _ => .null, fun i => if i = 3 then zA S 9 else [], fun _ => [], fun _ => [])
def gX (x : yTg) (S : zS) : yTg := (x.1, x.2.1, x.2.2.1, x.2.2.2.1, zI S 0, zI S 1, zB S 2, zA S 3, zA S 4)
section ITEMM
variable {X : List Int32} {D1 : List xE} {En : List (Int64 × Int32)} {js : List Int32} {F : yF} {fa : Nat} {ev : Int32}
theorem g_in {x : yTg} {S : zS} : ((209, .inl (14, 24, .int ev)) :: (tgE x ++ zD zTN zaN S D1)).Perm (zD zTG (zaG x.1 x.2.1 x.2.2.1 x.2.2.2.1) (gS x ev S) ((x.1, .inl (13, 2, .ref x.2.1)) :: (x.1, .inl (13, 3, .ref x.2.2.1)) :: (x.1, .inl (13, 4, .ref x.2.2.2.1)) :: D1)) := by
  have pm : ∀ (a e1 e2 e3 e4 e5 e6 e7 e8 p r o d : xE) (L : List xE), (a :: e1 :: e2 :: e3 :: e4 :: e5 :: e6 :: e7 :: e8 :: p :: r :: o :: d :: L).Perm (e1 :: e2 :: e3 :: e4 :: e5 :: a :: p :: r :: o :: d :: e6 :: e7 :: e8 :: L) := by
    intro a e1 e2 e3 e4 e5 e6 e7 e8 p r o d L
    refine (List.perm_middle (a := a) (l₁ := [e1, e2, e3, e4, e5])).symm.trans ?_
    exact List.Perm.append_left [e1, e2, e3, e4, e5, a] (pq2 (A := [e6, e7, e8]) (B := [p, r, o, d]) (C := L))
  exact pm _ _ _ _ _ _ _ _ _ _ _ _ _ _
theorem g_out {x : yTg} {S : zS} (h : zI S 5 = ev) : (zD zTG (zaG x.1 x.2.1 x.2.2.1 x.2.2.2.1) S ((x.1, .inl (13, 2, .ref x.2.1)) :: (x.1, .inl (13, 3, .ref x.2.2.1)) :: (x.1, .inl (13, 4, .ref x.2.2.2.1)) :: D1)).Perm ((209, .inl (14, 24, .int ev)) :: (tgE (gX x S) ++ zD zTN zaN (nS S) D1)) := by
  subst h
  exact (g_in (x := gX x S) (S := nS S) (ev := zI S 5) (D1 := D1)).symm
theorem mk_item {s i : Nat} {x : yTg} {S : zS} {l : List Int32} (hs : s ≤ 7) (hs4 : s ≠ 4) (hE : En.length ≤ 100) (hNe : ((209, .inl (14, 19, .int (Int32.ofNat En.length))) : xE) ∈ D1) (hSn : ((236, .inr (0, (En.map Prod.snd ++ js).map Value.int)) : xE) ∈ D1) (hF : yFM D1 fa F) (h0 : x.2.2.2.2.1 = Int32.ofNat s) (hx : tgL x) (hi : i < 12) (hR : RD 2 0 3 S l) (hb : byR l) (h1 : zI S 1 = 1) : yK X 2 44 291 [.ref 209, .ref x.1, .int (Int32.ofNat i)] ((209, .inl (14, 24, .int ev)) :: (tgE x ++ zD zTN zaN S D1)) 0 0 (fun a D => ∃ S' x', a = none ∧ D = (209, .inl (14, 24, .int ev)) :: (tgE x' ++ zD zTN zaN S' D1) ∧ x'.1 = x.1 ∧ x'.2.2.2.2.1 = x.2.2.2.2.1 ∧ x'.2.2.2.2.2.1 = x.2.2.2.2.2.1 ∧ tgL x' ∧ frN S S' ∧ (match rdI En s l with
    | some q => x'.2.2.2.2.2.2.1 = x.2.2.2.2.2.2.1.set i q.1 ∧ RD 2 0 3 S' q.2 ∧ zI S' 1 = 1
    | none => (∃ l', RD 2 0 3 S' l') ∧ zI S' 1 = 0)) := by
  obtain ⟨pp, gi, ga, vl, g1, _⟩ := hF.han
  have hR1 : RD 8 6 9 (gS x ev S) l := by
    obtain ⟨n, a, q1, q2, q3⟩ := hR
    exact ⟨n, a, q1, q2, q3⟩
  have sub : D1 ⊆ (x.1, .inl (13, 2, .ref x.2.1)) :: (x.1, .inl (13, 3, .ref x.2.2.1)) :: (x.1, .inl (13, 4, .ref x.2.2.2.1)) :: D1 := fun _ he => List.mem_cons_of_mem _ (List.mem_cons_of_mem _ (List.mem_cons_of_mem _ he))
  have lB : (zB (gS x ev S) 2).length = 12 := hx.1
  have it := r_itemT (gi := gi) (ga := ga) (ne := Int32.ofNat En.length) (sn := En.map Prod.snd ++ js) (N := 10) (En := En) (js := js) (i := i) (by omega) hs hs4 rfl hE rfl (S := gS x ev S) h0 hR1 hb h1 (by rw [lB]; exact hi) (by rw [lB]; omega)
  have tr : ∀ {S' : zS}, rG_gotItem gi ga (Int32.ofNat En.length) (En.map Prod.snd ++ js) 10 (Int32.ofNat i) (gS x ev S) = some ((), S') → yK X 2 44 291 [.ref 209, .ref x.1, .int (Int32.ofNat i)] ((209, .inl (14, 24, .int ev)) :: (tgE x ++ zD zTN zaN S D1)) 0 0 (zQv zTG (zaG x.1 x.2.1 x.2.2.1 x.2.2.2.1) ((x.1, .inl (13, 2, .ref x.2.1)) :: (x.1, .inl (13, 3, .ref x.2.2.1)) :: (x.1, .inl (13, 4, .ref x.2.2.2.1)) :: D1) () S') := fun h => yK.perm g_in (trG_gotItem (tb := x.1) (ti := x.2.1) (tr := x.2.2.1) (tc := x.2.2.2.1) List.mem_cons_self (List.mem_cons_of_mem _ List.mem_cons_self) (List.mem_cons_of_mem _ (List.mem_cons_of_mem _ List.mem_cons_self)) (sub hNe) (sub hSn) (fun e he => sub (g1 e he)) (by omega) (by omega) h)
  have back : ∀ {S' : zS} {l' : List Int32}, RD 8 6 9 S' l' → RD 2 0 3 (nS S') l' := by
    rintro S' l' ⟨n, a, q1, q2, q3⟩
    exact ⟨n, a, q1, q2, q3⟩
  have tl : ∀ {S' : zS}, frI (gS x ev S) S' → (zB S' 2).length = 12 → tgL (gX x S') := fun f hB => ⟨hB, by show (zA _ 3).length = 6; rw [f.2 3]; exact hx.2.1, by show (zA _ 4).length = 36; rw [f.2 4]; exact hx.2.2⟩
  rcases hq : rdI En s l with _ | q
  · rw [hq] at it
    obtain ⟨S', l', e1, e2, e3, e4, e5⟩ := it
    refine yK.post (tr e1) ?_
    rintro r D ⟨rfl, rfl⟩
    exact ⟨_, g_out (e3.1 5 (by omega) (by omega)), nS S', gX x S', rfl, rfl, rfl, e3.1 0 (by omega) (by omega), e3.1 1 (by omega) (by omega), tl e3 (e2.trans lB), ⟨e3.1 8 (by omega) (by omega), e3.2 9⟩, ⟨l', back e4⟩, e5⟩
  · rw [hq] at it
    obtain ⟨S', e1, e2, e3, e4, e5⟩ := it
    refine yK.post (tr e1) ?_
    rintro r D ⟨rfl, rfl⟩
    exact ⟨_, g_out (e3.1 5 (by omega) (by omega)), nS S', gX x S', rfl, rfl, rfl, e3.1 0 (by omega) (by omega), e3.1 1 (by omega) (by omega), tl e3 (by rw [e2, List.length_set]; exact lB), ⟨e3.1 8 (by omega) (by omega), e3.2 9⟩, e2, back e4, e5⟩
theorem mk_row {i : Nat} {x : yTg} {S : zS} {l : List Int32} (hNe : ((209, .inl (14, 19, .int (Int32.ofNat En.length))) : xE) ∈ D1) (hSn : ((236, .inr (0, (En.map Prod.snd ++ js).map Value.int)) : xE) ∈ D1) (hF : yFM D1 fa F) (h0 : x.2.2.2.2.1 = 4) (hx : tgL x) (hi : i < 6) (hR : RD 2 0 3 S l) (hb : byR l) (h1 : zI S 1 = 1) : yK X 2 44 291 [.ref 209, .ref x.1, .int (Int32.ofNat i)] ((209, .inl (14, 24, .int ev)) :: (tgE x ++ zD zTN zaN S D1)) 0 0 (fun a D => ∃ S' x', a = none ∧ D = (209, .inl (14, 24, .int ev)) :: (tgE x' ++ zD zTN zaN S' D1) ∧ x'.1 = x.1 ∧ x'.2.2.2.2.1 = x.2.2.2.2.1 ∧ x'.2.2.2.2.2.1 = x.2.2.2.2.2.1 ∧ tgL x' ∧ frN S S' ∧ (∀ k, k < 6 * i → x'.2.2.2.2.2.2.2.2[k]? = x.2.2.2.2.2.2.2.2[k]?) ∧ (match rdR l with
    | some q => x'.2.2.2.2.2.2.2.1 = x.2.2.2.2.2.2.2.1.set i (rsz q.1) ∧ (∀ cs, q.1 = some cs → ∀ (j : Nat) y, cs[j]? = some y → x'.2.2.2.2.2.2.2.2[6 * i + j]? = some y) ∧ RD 2 0 3 S' q.2 ∧ zI S' 1 = 1
    | none => (∃ l', RD 2 0 3 S' l') ∧ zI S' 1 = 0)) := by
  obtain ⟨pp, gi, ga, vl, g1, _⟩ := hF.han
  have hR1 : RD 8 6 9 (gS x ev S) l := by
    obtain ⟨n, a, q1, q2, q3⟩ := hR
    exact ⟨n, a, q1, q2, q3⟩
  have sub : D1 ⊆ (x.1, .inl (13, 2, .ref x.2.1)) :: (x.1, .inl (13, 3, .ref x.2.2.1)) :: (x.1, .inl (13, 4, .ref x.2.2.2.1)) :: D1 := fun _ he => List.mem_cons_of_mem _ (List.mem_cons_of_mem _ (List.mem_cons_of_mem _ he))
  obtain ⟨S', e1, e2, e3, e4, e5, e6⟩ := r_rowT (gi := gi) (ga := ga) (ne := Int32.ofNat En.length) (sn := En.map Prod.snd ++ js) (N := 10) (i := i) (by omega) hi (S := gS x ev S) h0 hR1 hb h1 hx.2.1 hx.2.2
  have tr : yK X 2 44 291 [.ref 209, .ref x.1, .int (Int32.ofNat i)] ((209, .inl (14, 24, .int ev)) :: (tgE x ++ zD zTN zaN S D1)) 0 0 (zQv zTG (zaG x.1 x.2.1 x.2.2.1 x.2.2.2.1) ((x.1, .inl (13, 2, .ref x.2.1)) :: (x.1, .inl (13, 3, .ref x.2.2.1)) :: (x.1, .inl (13, 4, .ref x.2.2.2.1)) :: D1) () S') := yK.perm g_in (trG_gotItem (tb := x.1) (ti := x.2.1) (tr := x.2.2.1) (tc := x.2.2.2.1) List.mem_cons_self (List.mem_cons_of_mem _ List.mem_cons_self) (List.mem_cons_of_mem _ (List.mem_cons_of_mem _ List.mem_cons_self)) (sub hNe) (sub hSn) (fun e he => sub (g1 e he)) (by omega) (by omega) e1)
  have back : ∀ {l' : List Int32}, RD 8 6 9 S' l' → RD 2 0 3 (nS S') l' := by
    rintro l' ⟨n, a, q1, q2, q3⟩
    exact ⟨n, a, q1, q2, q3⟩
  refine yK.post tr ?_
  rintro r D ⟨rfl, rfl⟩
  refine ⟨_, g_out (e2.1 5 (by omega) (by omega)), nS S', gX x S', rfl, rfl, rfl, e2.1 0 (by omega) (by omega), e2.1 1 (by omega) (by omega), ⟨by show (zB S' 2).length = 12; rw [e2.2.1]; exact hx.1, e3, e4⟩, ⟨e2.1 8 (by omega) (by omega), e2.2.2⟩, e5, ?_⟩
  rcases hq : rdR l with _ | q
  · rw [hq] at e6
    exact ⟨⟨e6.1.choose, back e6.1.choose_spec⟩, e6.2⟩
  · rw [hq] at e6
    exact ⟨e6.1, e6.2.1, back e6.2.2.1, e6.2.2.2⟩
theorem itm_loop {s n : Nat} (hs : s ≤ 7) (hs4 : s ≠ 4) (hn : n ≤ 12) (hE : En.length ≤ 100) (hNe : ((209, .inl (14, 19, .int (Int32.ofNat En.length))) : xE) ∈ D1) (hSn : ((236, .inr (0, (En.map Prod.snd ++ js).map Value.int)) : xE) ∈ D1) (hF : yFM D1 fa F) {l1 l2 l3 l4 l5 l6 l7 l11 : Option Value} {c sl : Nat} {Q : Option Value → List xE → Prop} : ∀ (m i : Nat) (S : zS) (l : List Int32) (x : yTg), i + m = n → x.2.2.2.2.1 = Int32.ofNat s → tgL x → RD 2 0 3 S l → byR l → zI S 1 = 1 → (∀ (S' : zS) (x' : yTg) (i' : Nat), x'.1 = x.1 → x'.2.2.2.2.1 = x.2.2.2.2.1 → x'.2.2.2.2.2.1 = x.2.2.2.2.2.1 → tgL x' → frN S S' → (match rdIs En s m l with
      | some q => x'.2.2.2.2.2.2.1.take n = x.2.2.2.2.2.2.1.take i ++ q.1 ∧ RD 2 0 3 S' q.2 ∧ zI S' 1 = 1
      | none => (∃ l', RD 2 0 3 S' l') ∧ zI S' 1 = 0) → yT X 20 500 287 128 [some (.ref 209), l1, l2, l3, l4, l5, l6, l7, some (.int (Int32.ofNat n)), some (.ref x.1), some (.int (Int32.ofNat i')), l11] [] ((209, .inl (14, 24, .int ev)) :: (tgE x' ++ zD zTN zaN S' D1)) c sl Q) → yT X 20 500 287 116 [some (.ref 209), l1, l2, l3, l4, l5, l6, l7, some (.int (Int32.ofNat n)), some (.ref x.1), some (.int (Int32.ofNat i)), l11] [] ((209, .inl (14, 24, .int ev)) :: (tgE x ++ zD zTN zaN S D1)) c sl Q
  | 0, i, S, l, x, hi, h0, hx, hR, hb, h1, k => by
    refine xt_pure rfl rfl rfl rfl ?_
    refine xt_pure rfl rfl rfl rfl ?_
    refine yt_ic rfl rfl (fun _ => ?_) (fun (h : Int32.toInt _ < Int32.toInt _) => ?_)
    · refine k S x i rfl rfl rfl hx ⟨rfl, rfl⟩ ⟨?_, hR, h1⟩
      rw [show n = i by omega, List.append_nil]
    · rw [yi_nat (by omega), yi_nat (by omega)] at h
      omega
  | m + 1, i, S, l, x, hi, h0, hx, hR, hb, h1, k => by
    refine xt_pure rfl rfl rfl rfl ?_
    refine xt_pure rfl rfl rfl rfl ?_
    refine yt_ic rfl rfl (fun (h : Int32.toInt _ ≤ Int32.toInt _) => ?_) (fun _ => ?_)
    · rw [yi_nat (by omega), yi_nat (by omega)] at h
      omega
    · skip
      refine xt_pure rfl rfl rfl rfl ?_
      refine xt_getf rfl rfl (xmD 10 rfl) ?_
      rw [show zI S 1 = 1 from h1]
      refine xt_pure rfl rfl rfl rfl ?_
      refine xt_pure rfl rfl rfl rfl ?_
      refine xt_pure rfl rfl rfl rfl ?_
      refine xt_pure rfl rfl rfl rfl ?_
      refine xt_callV rfl rfl rfl rfl (xmC 176 rfl) ⟨rfl, rfl, yle rfl, yle rfl, yle rfl, yle rfl⟩ (mk_item hs hs4 hE hNe hSn hF h0 hx (by omega) hR hb h1) (c2 := c) (s2 := sl) ⟨by omega, by omega⟩ ?_
      rintro _ _ ⟨S', x', rfl, rfl, a1, a2, a3, a4, a5, a6⟩
      refine xt_pure rfl rfl rfl (L1 := [_, _, _, _, _, _, _, _, _, _, some (.int (_ + 1)), _]) rfl ?_
      refine xt_pure rfl rfl rfl rfl ?_
      rw [yi_add1]
      rcases hq : rdI En s l with _ | q
      · rw [hq] at a6
        -- wrong: the loop ends
        have hno : rdIs En s (m + 1) l = none := by rw [rdIs, hq]; rfl
        refine xt_pure rfl rfl rfl rfl ?_
        refine xt_pure rfl rfl rfl rfl ?_
        have out : yT X 20 500 287 128 [some (.ref 209), l1, l2, l3, l4, l5, l6, l7, some (.int (Int32.ofNat n)), some (.ref x.1), some (.int (Int32.ofNat (i + 1))), l11] [] ((209, .inl (14, 24, .int ev)) :: (tgE x' ++ zD zTN zaN S' D1)) c sl Q := by
          refine k S' x' (i + 1) a1 a2 a3 a4 a5 ?_
          rw [hno]
          exact a6
        refine yt_ic rfl rfl (fun _ => out) (fun _ => ?_)
        refine xt_pure rfl rfl rfl rfl ?_
        refine xt_getf rfl rfl (xmD 10 rfl) ?_
        rw [show zI S' 1 = 0 from a6.2]
        refine xt_pure rfl rfl rfl rfl ?_
        exact out
      · rw [hq] at a6
        have REC := itm_loop hs hs4 hn hE hNe hSn hF (l1 := l1) (l2 := l2) (l3 := l3) (l4 := l4) (l5 := l5) (l6 := l6) (l7 := l7) (l11 := l11) (c := c) (sl := sl) (Q := Q) m (i + 1) S' q.2 x' (by omega) (a2.trans h0) a4 a6.2.1 (rdI_byR hq hb) a6.2.2 (by
          intro S2 x2 i2 b1 b2 b3 b4 b5 b6
          rw [a1]
          refine k S2 x2 i2 (b1.trans a1) (b2.trans a2) (b3.trans a3) b4 (a5.trans b5) ?_
          rw [rdIs, hq, Option.bind_some]
          rcases hr : rdIs En s m q.2 with _ | r
          · rw [hr] at b6
            exact b6
          · rw [hr] at b6
            refine ⟨?_, b6.2⟩
            rw [b6.1, a6.1]
            have e1 : (x.2.2.2.2.2.2.1.set i q.1).take (i + 1) = x.2.2.2.2.2.2.1.take i ++ [q.1] := by
              rw [List.take_succ, List.take_set_of_le (Nat.le_refl _), List.getElem?_set_self (by rw [hx.1]; omega)]
              rfl
            rw [e1, List.append_assoc]
            rfl)
        rw [a1] at REC
        exact REC
end ITEMM
