/-! THE REFERENCE READS FORMS: small calls -/
section RFORM
variable {N : Nat} {t : List Int32} {tk : List zK} {i : Nat} {s : zP} {S : zS} {G : zG}
/-- the reference's tables hold the form, but for its number of parts, which is c -/
def GMn (G : zG) (c : Nat) (S : zS) : Prop := (zI S 14 = Int32.ofNat c ∧ c ≤ 20 ∧ G.1.length ≤ 20 ∧ ∀ (i : Nat) p, G.1[i]? = some p → (zB S 15)[i]? = some p.1 ∧ (zA S 16)[i]? = some p.2.1 ∧ (zA S 17)[i]? = some p.2.2.1 ∧ (zA S 18)[i]? = some p.2.2.2.1 ∧ (p.2.1 ≠ 0 → p.2.1 ≠ 10 → p.2.1 ≠ 11 → (zA S 19)[i]? = some p.2.2.2.2.1 ∧ (zA S 20)[i]? = some p.2.2.2.2.2.1 ∧ (p.2.1 ≠ 4 → (zA S 21)[i]? = some p.2.2.2.2.2.2.1)) ∧ (zA S 22)[i]? = some p.2.2.2.2.2.2.2.1) ∧ (zI S 23 = Int32.ofNat G.2.1.length ∧ G.2.1.length ≤ 12 ∧ ∀ (i : Nat) p, G.2.1[i]? = some p → (zB S 24)[i]? = some p.1 ∧ (zA S 25)[i]? = some p.2.1) ∧ (zI S 26 = Int32.ofNat G.2.2.1.length ∧ G.2.2.1.length ≤ 12 ∧ ∀ (i : Nat) p, G.2.2.1[i]? = some p → (zA S 27)[i]? = some p.1 ∧ (zA S 28)[i]? = some p.2.1) ∧ zI S 29 = G.2.2.2.1 ∧ zI S 30 = G.2.2.2.2
def WH (S : zS) : Prop := ((zB S 15).length = 20 ∧ (zA S 16).length = 20 ∧ (zA S 17).length = 20 ∧ (zA S 18).length = 20 ∧ (zA S 19).length = 20 ∧ (zA S 20).length = 20 ∧ (zA S 21).length = 20 ∧ (zA S 22).length = 20) ∧ ((zB S 24).length = 12 ∧ (zA S 25).length = 12 ∧ (zA S 27).length = 12 ∧ (zA S 28).length = 12) ∧ ((∃ c, c ≤ 20 ∧ zI S 14 = Int32.ofNat c) ∧ zI S 8 = -9) ∧ (∃ c, c ≤ 12 ∧ zI S 23 = Int32.ofNat c) ∧ ∃ c, c ≤ 12 ∧ zI S 26 = Int32.ofNat c
def AT (nm : Int64) (a16 a17 a18 a19 a20 a21 a22 : Int32) (n : Nat) (S : zS) : Prop := (zB S 15)[n]? = some nm ∧ (zA S 16)[n]? = some a16 ∧ (zA S 17)[n]? = some a17 ∧ (zA S 18)[n]? = some a18 ∧ (zA S 19)[n]? = some a19 ∧ (zA S 20)[n]? = some a20 ∧ (zA S 21)[n]? = some a21 ∧ (zA S 22)[n]? = some a22
def GM (G : zG) (S : zS) : Prop := GMn G G.1.length S
theorem GMn.eqY {c : Nat} {S' : zS} (e : eqY S S') (h : GMn G c S) : GMn G c S' := by
  obtain ⟨⟨a1, a2, a3, a4⟩, ⟨b1, b2, b3⟩, ⟨c1, c2, c3⟩, d1, d2⟩ := h
  obtain ⟨eI, eA, eB⟩ := e
  refine ⟨⟨(eI 14 (by decide) (by decide) (by decide) (by decide) (by decide) (by decide) (by decide) (by decide) (by decide)).trans a1, a2, a3, ?_⟩, ⟨(eI 23 (by decide) (by decide) (by decide) (by decide) (by decide) (by decide) (by decide) (by decide) (by decide)).trans b1, b2, ?_⟩, ⟨(eI 26 (by decide) (by decide) (by decide) (by decide) (by decide) (by decide) (by decide) (by decide) (by decide)).trans c1, c2, ?_⟩, (eI 29 (by decide) (by decide) (by decide) (by decide) (by decide) (by decide) (by decide) (by decide) (by decide)).trans d1, (eI 30 (by decide) (by decide) (by decide) (by decide) (by decide) (by decide) (by decide) (by decide) (by decide)).trans d2⟩
  · intro i p hp
    rw [eB 15 (by decide) (by decide), eA 16 (by decide) (by decide) (by decide) (by decide) (by decide) (by decide), eA 17 (by decide) (by decide) (by decide) (by decide) (by decide) (by decide), eA 18 (by decide) (by decide) (by decide) (by decide) (by decide) (by decide), eA 19 (by decide) (by decide) (by decide) (by decide) (by decide) (by decide), eA 20 (by decide) (by decide) (by decide) (by decide) (by decide) (by decide), eA 21 (by decide) (by decide) (by decide) (by decide) (by decide) (by decide), eA 22 (by decide) (by decide) (by decide) (by decide) (by decide) (by decide)]
    exact a4 i p hp
  · intro i p hp
    rw [eB 24 (by decide) (by decide), eA 25 (by decide) (by decide) (by decide) (by decide) (by decide) (by decide)]
    exact b3 i p hp
  · intro i p hp
    rw [eA 27 (by decide) (by decide) (by decide) (by decide) (by decide) (by decide), eA 28 (by decide) (by decide) (by decide) (by decide) (by decide) (by decide)]
    exact c3 i p hp
theorem WH.eqY {S' : zS} (e : eqY S S') (h : WH S) : WH S' := by
  obtain ⟨eI, eA, eB⟩ := e
  unfold WH
  rw [eB 15 (by decide) (by decide), eB 24 (by decide) (by decide), eA 16 (by decide) (by decide) (by decide) (by decide) (by decide) (by decide), eA 17 (by decide) (by decide) (by decide) (by decide) (by decide) (by decide), eA 18 (by decide) (by decide) (by decide) (by decide) (by decide) (by decide), eA 19 (by decide) (by decide) (by decide) (by decide) (by decide) (by decide), eA 20 (by decide) (by decide) (by decide) (by decide) (by decide) (by decide), eA 21 (by decide) (by decide) (by decide) (by decide) (by decide) (by decide), eA 22 (by decide) (by decide) (by decide) (by decide) (by decide) (by decide), eA 25 (by decide) (by decide) (by decide) (by decide) (by decide) (by decide), eA 27 (by decide) (by decide) (by decide) (by decide) (by decide) (by decide), eA 28 (by decide) (by decide) (by decide) (by decide) (by decide) (by decide), eI 14 (by decide) (by decide) (by decide) (by decide) (by decide) (by decide) (by decide) (by decide) (by decide), eI 23 (by decide) (by decide) (by decide) (by decide) (by decide) (by decide) (by decide) (by decide) (by decide), eI 8 (by decide) (by decide) (by decide) (by decide) (by decide) (by decide) (by decide) (by decide) (by decide), eI 26 (by decide) (by decide) (by decide) (by decide) (by decide) (by decide) (by decide) (by decide) (by decide)]
  exact h
theorem AT.eqY {nm : Int64} {a16 a17 a18 a19 a20 a21 a22 : Int32} {n : Nat} {S' : zS} (e : eqY S S') (h : AT nm a16 a17 a18 a19 a20 a21 a22 n S) : AT nm a16 a17 a18 a19 a20 a21 a22 n S' := by
  obtain ⟨eI, eA, eB⟩ := e
  unfold AT
  rw [eB 15 (by decide) (by decide), eA 16 (by decide) (by decide) (by decide) (by decide) (by decide) (by decide), eA 17 (by decide) (by decide) (by decide) (by decide) (by decide) (by decide), eA 18 (by decide) (by decide) (by decide) (by decide) (by decide) (by decide), eA 19 (by decide) (by decide) (by decide) (by decide) (by decide) (by decide), eA 20 (by decide) (by decide) (by decide) (by decide) (by decide) (by decide), eA 21 (by decide) (by decide) (by decide) (by decide) (by decide) (by decide), eA 22 (by decide) (by decide) (by decide) (by decide) (by decide) (by decide)]
  exact h
theorem GMn.upd {c c' : Nat} {S' : zS} (h : GMn G c S) (hc : c' ≤ 20) (e14 : zI S' 14 = Int32.ofNat c') (eI : ∀ j, j ≠ 14 → zI S' j = zI S j) (t8 : ∀ i, i < G.1.length → (zB S' 15)[i]? = (zB S 15)[i]?) (tA : ∀ j i, i < G.1.length → (zA S' j)[i]? = (zA S j)[i]?) (t9 : zB S' 24 = zB S 24) (u23 : zA S' 25 = zA S 25) (u25 : zA S' 27 = zA S 27) (u26 : zA S' 28 = zA S 28) : GMn G c' S' := by
  obtain ⟨⟨a1, a2, a3, a4⟩, ⟨b1, b2, b3⟩, ⟨c1, c2, c3⟩, d1, d2⟩ := h
  refine ⟨⟨e14, hc, a3, ?_⟩, ⟨(eI 23 (by decide)).trans b1, b2, ?_⟩, ⟨(eI 26 (by decide)).trans c1, c2, ?_⟩, (eI 29 (by decide)).trans d1, (eI 30 (by decide)).trans d2⟩
  · intro i p hp
    have hi := (List.getElem?_eq_some_iff.mp hp).1
    rw [t8 i hi, tA 16 i hi, tA 17 i hi, tA 18 i hi, tA 19 i hi, tA 20 i hi, tA 21 i hi, tA 22 i hi]
    exact a4 i p hp
  · rw [t9, u23]; exact b3
  · rw [u25, u26]; exact c3
theorem GMn.add {nm : Int64} {k g m v19 v20 v21 w wc a b c : Int32} (h : GMn G (G.1.length + 1) S) (hp : AT nm k g m v19 v20 v21 w G.1.length S) (hb : k ≠ 0 → k ≠ 10 → k ≠ 11 → v19 = a ∧ v20 = b ∧ (k ≠ 4 → v21 = c)) : GM (gAdd G (nm, k, g, m, a, b, c, w, wc)) S := by
  obtain ⟨⟨a1, a2, a3, a4⟩, hr⟩ := h
  obtain ⟨p0, p1, p2, p3, p4, p5, p6, p7⟩ := hp
  refine ⟨⟨?_, ?_, ?_, ?_⟩, hr⟩
  · show _ = Int32.ofNat (G.1 ++ [_]).length; rw [List.length_append]; exact a1
  · show (G.1 ++ [_]).length ≤ 20; rw [List.length_append]; exact a2
  · show (G.1 ++ [_]).length ≤ 20; rw [List.length_append]; exact a2
  · intro i p hp
    have hp : (G.1 ++ [(nm, k, g, m, a, b, c, w, wc)])[i]? = some p := hp
    by_cases hi : i < G.1.length
    · rw [List.getElem?_append_left hi] at hp
      exact a4 i p hp
    · have hil := (List.getElem?_eq_some_iff.mp hp).1
      rw [List.length_append, List.length_singleton] at hil
      obtain rfl : i = G.1.length := by omega
      rw [List.getElem?_append_right (Nat.le_refl _), Nat.sub_self] at hp
      cases hp
      refine ⟨p0, p1, p2, p3, fun h0 h10 h11 => ?_, p7⟩
      obtain ⟨e1, e2, e3⟩ := hb h0 h10 h11
      refine ⟨by rw [← e1]; exact p4, by rw [← e2]; exact p5, fun h4 => by rw [← e3 h4]; exact p6⟩
theorem setH16 {n : Nat} {x : Int32} (hn : n < 20) (hW : WH S) : zok (zA S 16) (Int32.ofNat n) ∧ WH (zsA S 16 (zs (zA S 16) (Int32.ofNat n) x)) ∧ (∀ q, QF q S → QF q (zsA S 16 (zs (zA S 16) (Int32.ofNat n) x))) ∧ (∀ s i, RQ t tk i s S → RQ t tk i s (zsA S 16 (zs (zA S 16) (Int32.ofNat n) x))) ∧ (∀ c, n = G.1.length → GMn G c S → GMn G c (zsA S 16 (zs (zA S 16) (Int32.ofNat n) x))) ∧ (∀ nm a16 a17 a18 a19 a20 a21 a22, AT nm a16 a17 a18 a19 a20 a21 a22 n S → AT nm x a17 a18 a19 a20 a21 a22 n (zsA S 16 (zs (zA S 16) (Int32.ofNat n) x))) ∧ gI (zs (zA S 16) (Int32.ofNat n) x) (Int32.ofNat n) = some x := by
  obtain ⟨⟨l15, l16, l17, l18, l19, l20, l21, l22⟩, wr⟩ := hW
  rw [zs_nat (by omega)]
  refine ⟨zok_nat (by omega) (by omega), ⟨⟨l15, ?_, l17, l18, l19, l20, l21, l22⟩, wr⟩, fun q h => h, fun s i h => h, ?_, ?_, ?_⟩
  · show ((zA S 16).set _ _).length = 20; rw [List.length_set, l16]
  · rintro c rfl hg
    refine GMn.upd hg hg.1.2.1 hg.1.1 (fun _ _ => rfl) (fun _ _ => rfl) ?_ rfl rfl rfl rfl
    intro j i hi
    rw [za_A]
    split
    · rename_i hj; rw [List.getElem?_set_ne (by omega), hj]
    rfl
  · rintro nm a16 a17 a18 a19 a20 a21 a22 ⟨p15, p16, p17, p18, p19, p20, p21, p22⟩
    refine ⟨p15, ?_, p17, p18, p19, p20, p21, p22⟩
    show ((zA S 16).set _ _)[_]? = _; rw [List.getElem?_set_self (by omega)]
  · rw [gI_nat (by omega), List.getElem?_set_self (by omega)]
theorem setH17 {n : Nat} {x : Int32} (hn : n < 20) (hW : WH S) : zok (zA S 17) (Int32.ofNat n) ∧ WH (zsA S 17 (zs (zA S 17) (Int32.ofNat n) x)) ∧ (∀ q, QF q S → QF q (zsA S 17 (zs (zA S 17) (Int32.ofNat n) x))) ∧ (∀ s i, RQ t tk i s S → RQ t tk i s (zsA S 17 (zs (zA S 17) (Int32.ofNat n) x))) ∧ (∀ c, n = G.1.length → GMn G c S → GMn G c (zsA S 17 (zs (zA S 17) (Int32.ofNat n) x))) ∧ (∀ nm a16 a17 a18 a19 a20 a21 a22, AT nm a16 a17 a18 a19 a20 a21 a22 n S → AT nm a16 x a18 a19 a20 a21 a22 n (zsA S 17 (zs (zA S 17) (Int32.ofNat n) x))) ∧ gI (zs (zA S 17) (Int32.ofNat n) x) (Int32.ofNat n) = some x := by
  obtain ⟨⟨l15, l16, l17, l18, l19, l20, l21, l22⟩, wr⟩ := hW
  rw [zs_nat (by omega)]
  refine ⟨zok_nat (by omega) (by omega), ⟨⟨l15, l16, ?_, l18, l19, l20, l21, l22⟩, wr⟩, fun q h => h, fun s i h => h, ?_, ?_, ?_⟩
  · show ((zA S 17).set _ _).length = 20; rw [List.length_set, l17]
  · rintro c rfl hg
    refine GMn.upd hg hg.1.2.1 hg.1.1 (fun _ _ => rfl) (fun _ _ => rfl) ?_ rfl rfl rfl rfl
    intro j i hi
    rw [za_A]
    split
    · rename_i hj; rw [List.getElem?_set_ne (by omega), hj]
    rfl
  · rintro nm a16 a17 a18 a19 a20 a21 a22 ⟨p15, p16, p17, p18, p19, p20, p21, p22⟩
    refine ⟨p15, p16, ?_, p18, p19, p20, p21, p22⟩
    show ((zA S 17).set _ _)[_]? = _; rw [List.getElem?_set_self (by omega)]
  · rw [gI_nat (by omega), List.getElem?_set_self (by omega)]
theorem setH18 {n : Nat} {x : Int32} (hn : n < 20) (hW : WH S) : zok (zA S 18) (Int32.ofNat n) ∧ WH (zsA S 18 (zs (zA S 18) (Int32.ofNat n) x)) ∧ (∀ q, QF q S → QF q (zsA S 18 (zs (zA S 18) (Int32.ofNat n) x))) ∧ (∀ s i, RQ t tk i s S → RQ t tk i s (zsA S 18 (zs (zA S 18) (Int32.ofNat n) x))) ∧ (∀ c, n = G.1.length → GMn G c S → GMn G c (zsA S 18 (zs (zA S 18) (Int32.ofNat n) x))) ∧ (∀ nm a16 a17 a18 a19 a20 a21 a22, AT nm a16 a17 a18 a19 a20 a21 a22 n S → AT nm a16 a17 x a19 a20 a21 a22 n (zsA S 18 (zs (zA S 18) (Int32.ofNat n) x))) ∧ gI (zs (zA S 18) (Int32.ofNat n) x) (Int32.ofNat n) = some x := by
  obtain ⟨⟨l15, l16, l17, l18, l19, l20, l21, l22⟩, wr⟩ := hW
  rw [zs_nat (by omega)]
  refine ⟨zok_nat (by omega) (by omega), ⟨⟨l15, l16, l17, ?_, l19, l20, l21, l22⟩, wr⟩, fun q h => h, fun s i h => h, ?_, ?_, ?_⟩
  · show ((zA S 18).set _ _).length = 20; rw [List.length_set, l18]
  · rintro c rfl hg
    refine GMn.upd hg hg.1.2.1 hg.1.1 (fun _ _ => rfl) (fun _ _ => rfl) ?_ rfl rfl rfl rfl
    intro j i hi
    rw [za_A]
    split
    · rename_i hj; rw [List.getElem?_set_ne (by omega), hj]
    rfl
  · rintro nm a16 a17 a18 a19 a20 a21 a22 ⟨p15, p16, p17, p18, p19, p20, p21, p22⟩
    refine ⟨p15, p16, p17, ?_, p19, p20, p21, p22⟩
    show ((zA S 18).set _ _)[_]? = _; rw [List.getElem?_set_self (by omega)]
  · rw [gI_nat (by omega), List.getElem?_set_self (by omega)]
theorem setH19 {n : Nat} {x : Int32} (hn : n < 20) (hW : WH S) : zok (zA S 19) (Int32.ofNat n) ∧ WH (zsA S 19 (zs (zA S 19) (Int32.ofNat n) x)) ∧ (∀ q, QF q S → QF q (zsA S 19 (zs (zA S 19) (Int32.ofNat n) x))) ∧ (∀ s i, RQ t tk i s S → RQ t tk i s (zsA S 19 (zs (zA S 19) (Int32.ofNat n) x))) ∧ (∀ c, n = G.1.length → GMn G c S → GMn G c (zsA S 19 (zs (zA S 19) (Int32.ofNat n) x))) ∧ (∀ nm a16 a17 a18 a19 a20 a21 a22, AT nm a16 a17 a18 a19 a20 a21 a22 n S → AT nm a16 a17 a18 x a20 a21 a22 n (zsA S 19 (zs (zA S 19) (Int32.ofNat n) x))) ∧ gI (zs (zA S 19) (Int32.ofNat n) x) (Int32.ofNat n) = some x := by
  obtain ⟨⟨l15, l16, l17, l18, l19, l20, l21, l22⟩, wr⟩ := hW
  rw [zs_nat (by omega)]
  refine ⟨zok_nat (by omega) (by omega), ⟨⟨l15, l16, l17, l18, ?_, l20, l21, l22⟩, wr⟩, fun q h => h, fun s i h => h, ?_, ?_, ?_⟩
  · show ((zA S 19).set _ _).length = 20; rw [List.length_set, l19]
  · rintro c rfl hg
    refine GMn.upd hg hg.1.2.1 hg.1.1 (fun _ _ => rfl) (fun _ _ => rfl) ?_ rfl rfl rfl rfl
    intro j i hi
    rw [za_A]
    split
    · rename_i hj; rw [List.getElem?_set_ne (by omega), hj]
    rfl
  · rintro nm a16 a17 a18 a19 a20 a21 a22 ⟨p15, p16, p17, p18, p19, p20, p21, p22⟩
    refine ⟨p15, p16, p17, p18, ?_, p20, p21, p22⟩
    show ((zA S 19).set _ _)[_]? = _; rw [List.getElem?_set_self (by omega)]
  · rw [gI_nat (by omega), List.getElem?_set_self (by omega)]
theorem setH20 {n : Nat} {x : Int32} (hn : n < 20) (hW : WH S) : zok (zA S 20) (Int32.ofNat n) ∧ WH (zsA S 20 (zs (zA S 20) (Int32.ofNat n) x)) ∧ (∀ q, QF q S → QF q (zsA S 20 (zs (zA S 20) (Int32.ofNat n) x))) ∧ (∀ s i, RQ t tk i s S → RQ t tk i s (zsA S 20 (zs (zA S 20) (Int32.ofNat n) x))) ∧ (∀ c, n = G.1.length → GMn G c S → GMn G c (zsA S 20 (zs (zA S 20) (Int32.ofNat n) x))) ∧ (∀ nm a16 a17 a18 a19 a20 a21 a22, AT nm a16 a17 a18 a19 a20 a21 a22 n S → AT nm a16 a17 a18 a19 x a21 a22 n (zsA S 20 (zs (zA S 20) (Int32.ofNat n) x))) ∧ gI (zs (zA S 20) (Int32.ofNat n) x) (Int32.ofNat n) = some x := by
  obtain ⟨⟨l15, l16, l17, l18, l19, l20, l21, l22⟩, wr⟩ := hW
  rw [zs_nat (by omega)]
  refine ⟨zok_nat (by omega) (by omega), ⟨⟨l15, l16, l17, l18, l19, ?_, l21, l22⟩, wr⟩, fun q h => h, fun s i h => h, ?_, ?_, ?_⟩
  · show ((zA S 20).set _ _).length = 20; rw [List.length_set, l20]
  · rintro c rfl hg
    refine GMn.upd hg hg.1.2.1 hg.1.1 (fun _ _ => rfl) (fun _ _ => rfl) ?_ rfl rfl rfl rfl
    intro j i hi
    rw [za_A]
    split
    · rename_i hj; rw [List.getElem?_set_ne (by omega), hj]
    rfl
  · rintro nm a16 a17 a18 a19 a20 a21 a22 ⟨p15, p16, p17, p18, p19, p20, p21, p22⟩
    refine ⟨p15, p16, p17, p18, p19, ?_, p21, p22⟩
    show ((zA S 20).set _ _)[_]? = _; rw [List.getElem?_set_self (by omega)]
  · rw [gI_nat (by omega), List.getElem?_set_self (by omega)]
theorem setH21 {n : Nat} {x : Int32} (hn : n < 20) (hW : WH S) : zok (zA S 21) (Int32.ofNat n) ∧ WH (zsA S 21 (zs (zA S 21) (Int32.ofNat n) x)) ∧ (∀ q, QF q S → QF q (zsA S 21 (zs (zA S 21) (Int32.ofNat n) x))) ∧ (∀ s i, RQ t tk i s S → RQ t tk i s (zsA S 21 (zs (zA S 21) (Int32.ofNat n) x))) ∧ (∀ c, n = G.1.length → GMn G c S → GMn G c (zsA S 21 (zs (zA S 21) (Int32.ofNat n) x))) ∧ (∀ nm a16 a17 a18 a19 a20 a21 a22, AT nm a16 a17 a18 a19 a20 a21 a22 n S → AT nm a16 a17 a18 a19 a20 x a22 n (zsA S 21 (zs (zA S 21) (Int32.ofNat n) x))) ∧ gI (zs (zA S 21) (Int32.ofNat n) x) (Int32.ofNat n) = some x := by
  obtain ⟨⟨l15, l16, l17, l18, l19, l20, l21, l22⟩, wr⟩ := hW
  rw [zs_nat (by omega)]
  refine ⟨zok_nat (by omega) (by omega), ⟨⟨l15, l16, l17, l18, l19, l20, ?_, l22⟩, wr⟩, fun q h => h, fun s i h => h, ?_, ?_, ?_⟩
  · show ((zA S 21).set _ _).length = 20; rw [List.length_set, l21]
  · rintro c rfl hg
    refine GMn.upd hg hg.1.2.1 hg.1.1 (fun _ _ => rfl) (fun _ _ => rfl) ?_ rfl rfl rfl rfl
    intro j i hi
    rw [za_A]
    split
    · rename_i hj; rw [List.getElem?_set_ne (by omega), hj]
    rfl
  · rintro nm a16 a17 a18 a19 a20 a21 a22 ⟨p15, p16, p17, p18, p19, p20, p21, p22⟩
    refine ⟨p15, p16, p17, p18, p19, p20, ?_, p22⟩
    show ((zA S 21).set _ _)[_]? = _; rw [List.getElem?_set_self (by omega)]
  · rw [gI_nat (by omega), List.getElem?_set_self (by omega)]
theorem setH22 {n : Nat} {x : Int32} (hn : n < 20) (hW : WH S) : zok (zA S 22) (Int32.ofNat n) ∧ WH (zsA S 22 (zs (zA S 22) (Int32.ofNat n) x)) ∧ (∀ q, QF q S → QF q (zsA S 22 (zs (zA S 22) (Int32.ofNat n) x))) ∧ (∀ s i, RQ t tk i s S → RQ t tk i s (zsA S 22 (zs (zA S 22) (Int32.ofNat n) x))) ∧ (∀ c, n = G.1.length → GMn G c S → GMn G c (zsA S 22 (zs (zA S 22) (Int32.ofNat n) x))) ∧ (∀ nm a16 a17 a18 a19 a20 a21 a22, AT nm a16 a17 a18 a19 a20 a21 a22 n S → AT nm a16 a17 a18 a19 a20 a21 x n (zsA S 22 (zs (zA S 22) (Int32.ofNat n) x))) ∧ gI (zs (zA S 22) (Int32.ofNat n) x) (Int32.ofNat n) = some x := by
  obtain ⟨⟨l15, l16, l17, l18, l19, l20, l21, l22⟩, wr⟩ := hW
  rw [zs_nat (by omega)]
  refine ⟨zok_nat (by omega) (by omega), ⟨⟨l15, l16, l17, l18, l19, l20, l21, ?_⟩, wr⟩, fun q h => h, fun s i h => h, ?_, ?_, ?_⟩
  · show ((zA S 22).set _ _).length = 20; rw [List.length_set, l22]
  · rintro c rfl hg
    refine GMn.upd hg hg.1.2.1 hg.1.1 (fun _ _ => rfl) (fun _ _ => rfl) ?_ rfl rfl rfl rfl
    intro j i hi
    rw [za_A]
    split
    · rename_i hj; rw [List.getElem?_set_ne (by omega), hj]
    rfl
  · rintro nm a16 a17 a18 a19 a20 a21 a22 ⟨p15, p16, p17, p18, p19, p20, p21, p22⟩
    refine ⟨p15, p16, p17, p18, p19, p20, p21, ?_⟩
    show ((zA S 22).set _ _)[_]? = _; rw [List.getElem?_set_self (by omega)]
  · rw [gI_nat (by omega), List.getElem?_set_self (by omega)]
theorem val5 (hT : tkT t tk) (hk : kd tk s.1 = 2) (h : RQ t tk i s S) : (zI S 5).toInt64 = va tk s.1 := by
  obtain ⟨τ, g1, g2, g3, g4, g5⟩ := h.kdp hT
  have k2 : kdAt t τ.2.1 = 2 := by rw [← g2]; exact hk
  obtain ⟨⟨_, _, _, c4, _⟩, _⟩ := hT _ _ g1
  have hva : va tk s.1 = ((lexK (t.drop τ.2.1)).2.2).getD 0 := by
    rw [va, g1]; show (τ.2.2.2).getD 0 = _; rw [c4]
  rw [hva]
  have h2 : zI S 2 = 2 := (kd_word g4).2.1.mpr k2
  obtain ⟨_, _, _, m⟩ := g4
  cases hd : t.drop τ.2.1 with
  | nil => rw [hd] at m; rw [show zI S 2 = 0 from m] at h2; exact absurd h2 (by decide)
  | cons b r =>
    rw [hd] at m
    dsimp only at m
    by_cases hL : isL b = true
    · rw [if_pos hL, h2] at m
      split at m <;> exact absurd m (by decide)
    · rw [if_neg hL] at m
      by_cases hG : isG b = true
      · rw [if_pos hG, h2] at m
        by_cases h6 : nG (b :: r) ≤ 6
        · obtain ⟨v, hv0, hv1, hv2⟩ := num_spec h6
          rw [m.2 h6, hv2, lexK_g hL hG]
          show _ = gV 0 ((b :: r).take (nG (b :: r)))
          rw [hv1]
          exact y3264 (by omega)
        · rw [if_neg h6] at m
          exact absurd m.1 (by decide)
      · rw [if_neg hG, h2] at m
        split at m <;> exact absurd m (by decide)
theorem Q_number (hN : 1400 < N) (hT : tkT t tk) {lo hi : Int32} (h : RQ t tk i s S) : Rq t tk i S (fun a b => a = b) T1 (fNum tk lo hi s) (rQ_number N lo hi S) := by
  obtain ⟨S', n1, n2, n3⟩ := wrong_Q (N := N) hT h
  obtain ⟨τ, g1, g2, g3, g4, g5⟩ := h.kdp hT
  have hnum : zI S 2 = 2 ↔ kd tk s.1 = 2 := by rw [g2]; exact (kd_word g4).2.1
  rw [rQ_number, good_G h, zbs, if_neg i10, fNum]
  by_cases hk : kd tk s.1 = 2
  · have hv := val5 hT hk h
    have hvi : (va tk s.1).toInt = (zI S 5).toInt := by rw [← hv]; exact Int32.toInt_toInt64 _
    rw [if_neg (nn (hnum.mpr hk)), hvi]
    by_cases h1 : (zI S 5).toInt < lo.toInt
    · rw [if_pos h1, if_neg (by omega), n1, zbs]
      exact ⟨_, S', rfl, n2, n3, trivial⟩
    · rw [if_neg h1]
      by_cases h2 : hi.toInt < (zI S 5).toInt
      · rw [if_pos h2, if_neg (by omega), n1, zbs]
        exact ⟨_, S', rfl, n2, n3, trivial⟩
      · obtain ⟨S2, m1, m2, m3⟩ := next_Q hN hT h (by rw [hk]; decide) (by rw [hk]; decide)
        rw [if_neg h2, if_pos ⟨hk, by omega, by omega⟩, m1, zbs]
        refine ⟨_, S2, rfl, m2, m3, ?_⟩
        rw [← hv, Int32.toInt32_toInt64]
  · rw [if_pos (fun hh => hk (hnum.mp hh)), if_neg (fun hh => hk hh.1), n1, zbs]
    exact ⟨_, S', rfl, n2, n3, trivial⟩
theorem Q_exp (hN : 1400 < N) (h6 : N / 16 = 100) (hT : tkT t tk) {fg : Nat} (hi : i ≤ 10) (h : RQ t tk i s S) (hg : zI S 23 = Int32.ofNat fg) : Rq t tk i S (fun a b => a = b.1) T1 (fExp tk fg i s) ((rQ_fix N (N / 16)).1 S) := by
  have hR := (Q_fix (fg := fg) hN hT 92).1 0 i 99 s S (by omega) hi (by omega) h hg
  rw [h6]
  show Rq t tk i S (fun a b => a = b.1) T1 (fExp tk fg i s) (Lv (rQ_fix N 99).1 (rQ_fix N 99).2 N 0 S)
  unfold fExp
  rcases hp : (pFix tk fg 92).1 0 i s with ⟨s1, n⟩ | _ | q
  · rw [hp] at hR
    obtain ⟨a, S1, q1, q2, q3, rfl, _⟩ := hR
    rw [q1]
    show Rq t tk i S _ T1 (pb (sEm s1 0 0) _) _
    refine Rq.em ?_
    rintro c s2 _ rfl
    exact ⟨_, S1, rfl, q2, q3, rfl⟩
  · trivial
  · rw [hp] at hR
    obtain ⟨a, S1, q1, q2, q3, _⟩ := hR
    rw [q1]
    exact ⟨a, S1, rfl, q2, q3, trivial⟩
theorem exp_FQ {q : Nat} (hN : 1400 < N) (h6 : N / 16 = 100) (h : QF q S) : ∃ a S', (rQ_fix N (N / 16)).1 S = some (a, S') ∧ QF q S' ∧ eqY S S' := by
  rw [h6]
  exact (FQ_fix (by omega) 100).1 (by omega) q S h
theorem partOf_2 {x : Int64} {jk : List Int64} : ∀ (r pre : List Int64) (f : Nat), zI S 14 = Int32.ofNat (pre.length + r.length) → zB S 15 = pre ++ r ++ jk → pre.length + r.length ≤ 1000 → (zB S 15).length ≤ 1000 → r.length < f → rQ_partOf_2 N f x (Int32.ofNat pre.length) S = some (nIx x r pre.length, S)
  | _, _, 0, _, _, _, _, h => by omega
  | [], pre, f + 1, h0, _, h2, _, _ => by
    rw [rQ_partOf_2, h0, if_pos (by simp)]
    rfl
  | y :: r, pre, f + 1, h0, h1, h2, h3, h4 => by
    rw [List.length_cons] at h2 h4
    have hlen : pre.length < (zB S 15).length := by rw [h1]; simp
    have e1 := yi_nat (i := pre.length) (by omega)
    rw [rQ_partOf_2, h0, if_neg (by rw [List.length_cons, yi_nat (by omega), e1]; omega), gI_nat (by omega), h1]
    rw [show (pre ++ y :: r ++ jk)[pre.length]? = some y by rw [List.append_assoc, List.getElem?_append_right (Nat.le_refl _), Nat.sub_self]; rfl, zgs, nIx]
    by_cases hy : y = x
    · rw [if_neg (nn hy), if_pos hy]
    · rw [if_pos hy, if_neg hy, yi_add1]
      have := partOf_2 (x := x) (jk := jk) r (pre ++ [y]) f (by rw [h0, List.length_append, List.length_cons, List.length_singleton, show pre.length + (r.length + 1) = pre.length + 1 + r.length by omega]) (by rw [h1]; simp) (by simp; omega) h3 (by omega)
      rw [List.length_append, List.length_singleton] at this
      exact this
theorem figureOf_2 {x : Int64} {jk : List Int64} : ∀ (r pre : List Int64) (f : Nat), zI S 23 = Int32.ofNat (pre.length + r.length) → zB S 24 = pre ++ r ++ jk → pre.length + r.length ≤ 1000 → (zB S 24).length ≤ 1000 → r.length < f → rQ_figureOf_2 N f x (Int32.ofNat pre.length) S = some (nIx x r pre.length, S)
  | _, _, 0, _, _, _, _, h => by omega
  | [], pre, f + 1, h0, _, h2, _, _ => by
    rw [rQ_figureOf_2, h0, if_pos (by simp)]
    rfl
  | y :: r, pre, f + 1, h0, h1, h2, h3, h4 => by
    rw [List.length_cons] at h2 h4
    have hlen : pre.length < (zB S 24).length := by rw [h1]; simp
    have e1 := yi_nat (i := pre.length) (by omega)
    rw [rQ_figureOf_2, h0, if_neg (by rw [List.length_cons, yi_nat (by omega), e1]; omega), gI_nat (by omega), h1]
    rw [show (pre ++ y :: r ++ jk)[pre.length]? = some y by rw [List.append_assoc, List.getElem?_append_right (Nat.le_refl _), Nat.sub_self]; rfl, zgs, nIx]
    by_cases hy : y = x
    · rw [if_neg (nn hy), if_pos hy]
    · rw [if_pos hy, if_neg hy, yi_add1]
      have := figureOf_2 (x := x) (jk := jk) r (pre ++ [y]) f (by rw [h0, List.length_append, List.length_cons, List.length_singleton, show pre.length + (r.length + 1) = pre.length + 1 + r.length by omega]) (by rw [h1]; simp) (by simp; omega) h3 (by omega)
      rw [List.length_append, List.length_singleton] at this
      exact this
theorem partOf_G (hN : 1400 < N) {x : Int64} {c : Nat} (hg : GMn G c S) (hc : c = G.1.length) (hW : WH S) : rQ_partOf N x S = some (nIx x (G.1.map Prod.fst) 0, S) := by
  obtain ⟨jk, e8⟩ := pre_of (q := zB S 15) (f := Prod.fst) (fun i p hp => (hg.1.2.2.2 i p hp).1)
  have l8 := hW.1.1
  have p20 := hg.1.2.2.1
  have f8 := partOf_2 (N := N) (S := S) (x := x) (jk := jk) (G.1.map Prod.fst) [] N (by simp; rw [← hc]; exact hg.1.1) (by simpa using e8) (by simp; omega) (by omega) (by simp; omega)
  exact f8
theorem figureOf_G (hN : 1400 < N) {x : Int64} {c : Nat} (hg : GMn G c S) (hW : WH S) : rQ_figureOf N x S = some (nIx x (G.2.1.map Prod.fst) 0, S) := by
  obtain ⟨jk, e8⟩ := pre_of (q := zB S 24) (f := Prod.fst) (fun i p hp => (hg.2.1.2.2 i p hp).1)
  have l8 := hW.2.1.1
  have p20 := hg.2.1.2.1
  have f8 := figureOf_2 (N := N) (S := S) (x := x) (jk := jk) (G.2.1.map Prod.fst) [] N (by simp; exact hg.2.1.1) (by simpa using e8) (by simp; omega) (by omega) (by simp; omega)
  exact f8
theorem name_G (hN : 1400 < N) (hT : tkT t tk) (hk : kd tk s.1 = 3) (h : RQ t tk i s S) : rQ_name N S = some (va tk s.1, S) := by
  obtain ⟨τ, g1, g2, g3, g4, g5⟩ := h.kdp hT
  obtain ⟨v, hv1, hv2⟩ := rQ_name_ok (N := N) hN h.2.2.1 g4 (by rw [← g2]; exact hk)
  have hva : va tk s.1 = v := by
    obtain ⟨⟨_, _, _, c4, _⟩, _⟩ := hT _ _ g1
    rw [va, g1]; show (τ.2.2.2).getD 0 = v; rw [c4, hv1]; rfl
  rw [hv2, hva]
theorem fresh_F {q : Nat} (h : QF q S) : rQ_freshPart N S = some (0, S) := by
  rw [rQ_freshPart, good_F h, zbs, if_pos rfl, wrong_F h, zbs]
end RFORM
