/-! TAKE: a thing filled with rows, a thing filled; the reference -/
/-- rows in a thing -/
def rwM (x : yTg) (dn : List (Option (List Int32))) : Prop := (∀ (k : Nat) r, dn[k]? = some r → x.2.2.2.2.2.2.2.1[k]? = some (rsz r)) ∧ (∀ (k : Nat) cs (j : Nat) y, dn[k]? = some (some cs) → cs[j]? = some y → x.2.2.2.2.2.2.2.2[6 * k + j]? = some y) ∧ ∀ (k : Nat) cs, dn[k]? = some (some cs) → cs.length ≤ 6
theorem rdR_len {l : List Int32} {cs r : List Int32} (h : rdR l = some (some cs, r)) : cs.length ≤ 6 := by
  rw [rdR] at h
  rcases h1 : rdN 1 0 l with _ | a
  · rw [h1] at h; cases h
  · rw [h1, Option.bind_some] at h
    split at h
    · injection h with h
      injection h with h _
      cases h
    · split at h
      · cases h
      · rename_i h6
        rcases h2 : rdC a.1.toInt.toNat a.2 with _ | b
        · rw [h2] at h; cases h
        · rw [h2] at h
          injection h with h
          injection h with h _
          injection h with h
          rw [← h, rdC_len _ _ _ h2]
          omega
theorem rwM.put {x x' : yTg} {dn : List (Option (List Int32))} {r : Option (List Int32)} (h : rwM x dn) (hl : dn.length < x.2.2.2.2.2.2.2.1.length) (h1 : ∀ k, k < 6 * dn.length → x'.2.2.2.2.2.2.2.2[k]? = x.2.2.2.2.2.2.2.2[k]?) (h2 : x'.2.2.2.2.2.2.2.1 = x.2.2.2.2.2.2.2.1.set dn.length (rsz r)) (h3 : ∀ cs, r = some cs → ∀ (j : Nat) y, cs[j]? = some y → x'.2.2.2.2.2.2.2.2[6 * dn.length + j]? = some y) (h4 : ∀ cs, r = some cs → cs.length ≤ 6) : rwM x' (dn ++ [r]) := by
  have cse : ∀ {k : Nat} {z : Option (List Int32)}, (dn ++ [r])[k]? = some z → (k < dn.length ∧ dn[k]? = some z) ∨ (k = dn.length ∧ z = r) := by
    intro k z hk
    rcases Nat.lt_or_ge k dn.length with hl | hl
    · rw [List.getElem?_append_left hl] at hk
      exact Or.inl ⟨hl, hk⟩
    · rw [List.getElem?_append_right hl] at hk
      have hk1 : k - dn.length < 1 := (List.getElem?_eq_some_iff.mp hk).1
      have hk0 : k - dn.length = 0 := by omega
      rw [hk0] at hk
      have hk : some r = some z := hk
      injection hk with hk
      exact Or.inr ⟨by omega, hk.symm⟩
  refine ⟨fun k z hk => ?_, fun k cs j y hk hj => ?_, fun k cs hk => ?_⟩
  · rcases cse hk with ⟨a, b⟩ | ⟨rfl, rfl⟩
    · rw [h2, List.getElem?_set_ne (by omega)]
      exact h.1 k z b
    · rw [h2, List.getElem?_set_self hl]
  · rcases cse hk with ⟨a, b⟩ | ⟨rfl, e⟩
    · have hc := h.2.2 k cs b
      have hj6 := (List.getElem?_eq_some_iff.mp hj).1
      rw [h1 _ (by omega)]
      exact h.2.1 k cs j y b hj
    · exact h3 cs e.symm j y hj
  · rcases cse hk with ⟨a, b⟩ | ⟨rfl, e⟩
    · exact h.2.2 k cs b
    · exact h4 cs e.symm
section ITEMM2
variable {X : List Int32} {D1 : List xE} {En : List (Int64 × Int32)} {js : List Int32} {F : yF} {fa : Nat} {ev : Int32}
theorem row_loop {n : Nat} (hn : n ≤ 6) (hNe : ((209, .inl (14, 19, .int (Int32.ofNat En.length))) : xE) ∈ D1) (hSn : ((236, .inr (0, (En.map Prod.snd ++ js).map Value.int)) : xE) ∈ D1) (hF : yFM D1 fa F) {l1 l2 l3 l4 l5 l6 l7 l11 : Option Value} {c sl : Nat} {Q : Option Value → List xE → Prop} : ∀ (m i : Nat) (S : zS) (l : List Int32) (x : yTg) (dn : List (Option (List Int32))), i + m = n → dn.length = i → rwM x dn → x.2.2.2.2.1 = 4 → tgL x → RD 2 0 3 S l → byR l → zI S 1 = 1 → (∀ (S' : zS) (x' : yTg) (i' : Nat), x'.1 = x.1 → x'.2.2.2.2.1 = x.2.2.2.2.1 → x'.2.2.2.2.2.1 = x.2.2.2.2.2.1 → tgL x' → frN S S' → (match rdRs m l with
      | some q => rwM x' (dn ++ q.1) ∧ RD 2 0 3 S' q.2 ∧ zI S' 1 = 1
      | none => (∃ l', RD 2 0 3 S' l') ∧ zI S' 1 = 0) → yT X 20 500 287 128 [some (.ref 209), l1, l2, l3, l4, l5, l6, l7, some (.int (Int32.ofNat n)), some (.ref x.1), some (.int (Int32.ofNat i')), l11] [] ((209, .inl (14, 24, .int ev)) :: (tgE x' ++ zD zTN zaN S' D1)) c sl Q) → yT X 20 500 287 116 [some (.ref 209), l1, l2, l3, l4, l5, l6, l7, some (.int (Int32.ofNat n)), some (.ref x.1), some (.int (Int32.ofNat i)), l11] [] ((209, .inl (14, 24, .int ev)) :: (tgE x ++ zD zTN zaN S D1)) c sl Q
  | 0, i, S, l, x, dn, hi, hd, hw, h0, hx, hR, hb, h1, k => by
    refine xt_pure rfl rfl rfl rfl ?_
    refine xt_pure rfl rfl rfl rfl ?_
    refine yt_ic rfl rfl (fun _ => ?_) (fun (h : Int32.toInt _ < Int32.toInt _) => ?_)
    · refine k S x i rfl rfl rfl hx ⟨rfl, rfl⟩ ⟨?_, hR, h1⟩
      rw [List.append_nil]
      exact hw
    · rw [yi_nat (by omega), yi_nat (by omega)] at h
      omega
  | m + 1, i, S, l, x, dn, hi, hd, hw, h0, hx, hR, hb, h1, k => by
    refine xt_pure rfl rfl rfl rfl ?_
    refine xt_pure rfl rfl rfl rfl ?_
    refine yt_ic rfl rfl (fun (h : Int32.toInt _ ≤ Int32.toInt _) => ?_) (fun _ => ?_)
    · rw [yi_nat (by omega), yi_nat (by omega)] at h
      omega
    · skip
      refine xt_pure rfl rfl rfl rfl ?_
      refine xt_getf rfl rfl (xmD 10 rfl) ?_
      rw [show zI S 1 = 1 from h1]
      refine xt_pure rfl rfl rfl rfl ?_
      refine xt_pure rfl rfl rfl rfl ?_
      refine xt_pure rfl rfl rfl rfl ?_
      refine xt_pure rfl rfl rfl rfl ?_
      refine xt_callV rfl rfl rfl rfl (xmC 176 rfl) ⟨rfl, rfl, yle rfl, yle rfl, yle rfl, yle rfl⟩ (mk_row hNe hSn hF h0 hx (by omega) hR hb h1) (c2 := c) (s2 := sl) ⟨by omega, by omega⟩ ?_
      rintro _ _ ⟨S', x', rfl, rfl, a1, a2, a3, a4, a5, a7, a6⟩
      refine xt_pure rfl rfl rfl (L1 := [_, _, _, _, _, _, _, _, _, _, some (.int (_ + 1)), _]) rfl ?_
      refine xt_pure rfl rfl rfl rfl ?_
      rw [yi_add1]
      rcases hq : rdR l with _ | q
      · rw [hq] at a6
        have hno : rdRs (m + 1) l = none := by rw [rdRs, hq]; rfl
        refine xt_pure rfl rfl rfl rfl ?_
        refine xt_pure rfl rfl rfl rfl ?_
        have out : yT X 20 500 287 128 [some (.ref 209), l1, l2, l3, l4, l5, l6, l7, some (.int (Int32.ofNat n)), some (.ref x.1), some (.int (Int32.ofNat (i + 1))), l11] [] ((209, .inl (14, 24, .int ev)) :: (tgE x' ++ zD zTN zaN S' D1)) c sl Q := by
          refine k S' x' (i + 1) a1 a2 a3 a4 a5 ?_
          rw [hno]
          exact a6
        refine yt_ic rfl rfl (fun _ => out) (fun _ => ?_)
        refine xt_pure rfl rfl rfl rfl ?_
        refine xt_getf rfl rfl (xmD 10 rfl) ?_
        rw [show zI S' 1 = 0 from a6.2]
        refine xt_pure rfl rfl rfl rfl ?_
        exact out
      · rw [hq] at a6
        have hw2 : rwM x' (dn ++ [q.1]) := hw.put (by rw [hx.2.1]; omega) (by rw [hd]; exact a7) (by rw [hd]; exact a6.1) (by rw [hd]; exact a6.2.1) (fun cs e => rdR_len (r := q.2) (by rw [hq, ← e]))
        have REC := row_loop hn hNe hSn hF (l1 := l1) (l2 := l2) (l3 := l3) (l4 := l4) (l5 := l5) (l6 := l6) (l7 := l7) (l11 := l11) (c := c) (sl := sl) (Q := Q) m (i + 1) S' q.2 x' (dn ++ [q.1]) (by omega) (by rw [List.length_append, hd]; rfl) hw2 (a2.trans h0) a4 a6.2.2.1 (rdR_byR hq hb) a6.2.2.2 (by
          intro S2 x2 i2 b1 b2 b3 b4 b5 b6
          rw [a1]
          refine k S2 x2 i2 (b1.trans a1) (b2.trans a2) (b3.trans a3) b4 (a5.trans b5) ?_
          rw [rdRs, hq, Option.bind_some]
          rcases hr : rdRs m q.2 with _ | r
          · rw [hr] at b6
            exact b6
          · rw [hr] at b6
            refine ⟨?_, b6.2⟩
            have := b6.1
            rw [List.append_assoc] at this
            exact this)
        rw [a1] at REC
        exact REC
theorem fill_thing {s n : Nat} (hs : s ≤ 7) (hn : n ≤ if s = 4 then 6 else 12) (hE : En.length ≤ 100) (hNe : ((209, .inl (14, 19, .int (Int32.ofNat En.length))) : xE) ∈ D1) (hSn : ((236, .inr (0, (En.map Prod.snd ++ js).map Value.int)) : xE) ∈ D1) (hF : yFM D1 fa F) {l1 l2 l3 l4 l5 l6 l7 l11 : Option Value} {c sl : Nat} {Q : Option Value → List xE → Prop} {S : zS} {l : List Int32} {x : yTg} (h0 : x.2.2.2.2.1 = Int32.ofNat s) (hz : x.2.2.2.2.2.1 = Int32.ofNat n) (hx : tgL x) (hR : RD 2 0 3 S l) (hb : byR l) (h1 : zI S 1 = 1) (k : (∀ (S' : zS) (x' : yTg) (i' : Nat), x'.1 = x.1 → tgL x' → frN S S' → (match rdO En s n l with
      | some q => yOM (tgE x') x.1 q.1 ∧ RD 2 0 3 S' q.2 ∧ zI S' 1 = 1
      | none => (∃ l', RD 2 0 3 S' l') ∧ zI S' 1 = 0) → yT X 20 500 287 128 [some (.ref 209), l1, l2, l3, l4, l5, l6, l7, some (.int (Int32.ofNat n)), some (.ref x.1), some (.int (Int32.ofNat i')), l11] [] ((209, .inl (14, 24, .int ev)) :: (tgE x' ++ zD zTN zaN S' D1)) c sl Q)) : yT X 20 500 287 116 [some (.ref 209), l1, l2, l3, l4, l5, l6, l7, some (.int (Int32.ofNat n)), some (.ref x.1), some (.int (Int32.ofNat 0)), l11] [] ((209, .inl (14, 24, .int ev)) :: (tgE x ++ zD zTN zaN S D1)) c sl Q := by
  by_cases e4 : s = 4
  · rw [if_pos e4] at hn
    refine row_loop (En := En) (js := js) hn hNe hSn hF n 0 S l x [] (by omega) rfl ⟨(fun k r h => by cases h), (fun k cs j y h => by cases h), (fun k cs h => by cases h)⟩ (by rw [h0, e4]; rfl) hx hR hb h1 ?_
    intro S' x' i' a1 a2 a3 a4 a5 a6
    refine k S' x' i' a1 a4 a5 ?_
    rw [rdO, if_pos e4]
    rcases hr : rdRs n l with _ | r
    · rw [hr] at a6
      exact a6
    · rw [hr] at a6
      obtain ⟨b1, b2, b3⟩ := a6
      refine ⟨?_, b2, b3⟩
      have hlen := rdRs_len _ _ _ hr
      have hv : thV (gS x' ev S') (4, [], r.1) := ⟨by show x'.2.2.2.2.1 = _; rw [a2, h0, e4], by show x'.2.2.2.2.2.1 = Int32.ofNat r.1.length; rw [a3, hz, hlen], ⟨x'.2.2.2.2.2.2.1, rfl, by show 0 + _ = 12; rw [Nat.zero_add]; exact a4.1⟩, a4.2.1, a4.2.2, b1.1, b1.2.1⟩
      have := hv.om (b := x'.1) (ia := x'.2.1) (ra := x'.2.2.1) (ca := x'.2.2.2.1)
      rw [← a1]
      exact this
  · rw [if_neg e4] at hn
    refine itm_loop (En := En) (js := js) hs e4 hn hE hNe hSn hF n 0 S l x (by omega) h0 hx hR hb h1 ?_
    intro S' x' i' a1 a2 a3 a4 a5 a6
    refine k S' x' i' a1 a4 a5 ?_
    rw [rdO, if_neg e4]
    rcases hr : rdIs En s n l with _ | r
    · rw [hr] at a6
      exact a6
    · rw [hr] at a6
      obtain ⟨b1, b2, b3⟩ := a6
      refine ⟨?_, b2, b3⟩
      have hlen := rdIs_len _ _ _ hr
      have b1 : x'.2.2.2.2.2.2.1.take n = r.1 := b1
      have hv : thV (gS x' ev S') (s, r.1, []) := ⟨by show x'.2.2.2.2.1 = _; rw [a2, h0], by show x'.2.2.2.2.2.1 = Int32.ofNat (osz (s, r.1, [])); rw [a3, hz, osz]; simp only [e4, if_false]; rw [hlen], ⟨x'.2.2.2.2.2.2.1.drop n, by show x'.2.2.2.2.2.2.1 = r.1 ++ _; rw [← b1, List.take_append_drop], by show r.1.length + _ = 12; rw [List.length_drop, a4.1, hlen]; omega⟩, a4.2.1, a4.2.2, (fun i r h => by cases h), (fun i l j x h => by cases h)⟩
      have := hv.om (b := x'.1) (ia := x'.2.1) (ra := x'.2.2.1) (ca := x'.2.2.2.1)
      rw [← a1]
      exact this
end ITEMM2
