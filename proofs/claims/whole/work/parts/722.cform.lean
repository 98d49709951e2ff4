/-! THE CLASS READS FORMS: small calls -/
def nIx (x : Int64) : List Int64 → Nat → Int32
  | [], _ => -9
  | y :: r, k => if y = x then Int32.ofNat k else nIx x r (k + 1)
theorem nIx_none {x : Int64} : ∀ (r : List Int64) (k : Nat), k + r.length < 2000000000 → (nIx x r k = -9 ↔ x ∉ r)
  | [], _, _ => by simp [nIx]
  | y :: r, k, h => by
    rw [List.length_cons] at h
    rw [nIx]
    by_cases hy : y = x
    · rw [if_pos hy]
      refine ⟨fun hh => ?_, fun hh => absurd (by rw [hy]; exact List.mem_cons_self) hh⟩
      rw [xi32_eq, yi_nat (by omega), y_m9] at hh
      omega
    · rw [if_neg hy, nIx_none r (k + 1) (by omega), List.mem_cons, not_or]
      exact ⟨fun hh => ⟨fun he => hy he.symm, hh⟩, fun hh => hh.2⟩
section CFORM
variable {N : Nat} {tk : List zK} {s : zP} {S : zS}
theorem find86 {x : Int64} {jk : List Int64} : ∀ (r pre : List Int64) (f : Nat), zB S 8 = pre ++ r ++ jk → pre.length + r.length ≤ 1000 → (zB S 8).length ≤ 1000 → r.length < f → cP_find_63_86_2 N f (Int32.ofNat (pre.length + r.length)) x (Int32.ofNat pre.length) S = some (nIx x r pre.length, S)
  | _, _, 0, _, _, _, h => by omega
  | [], pre, f + 1, _, h2, _, _ => by
    rw [cP_find_63_86_2, if_pos (by simp)]
    rfl
  | y :: r, pre, f + 1, h1, h2, h3, h4 => by
    rw [List.length_cons] at h2 h4
    have hlen : pre.length < (zB S 8).length := by rw [h1]; simp
    have e1 := yi_nat (i := pre.length) (by omega)
    rw [cP_find_63_86_2, if_neg (by rw [List.length_cons, yi_nat (by omega), e1]; omega), if_neg (by rw [yi_nat (by omega), e1]; omega), gI_nat (by omega), h1]
    rw [show (pre ++ y :: r ++ jk)[pre.length]? = some y by rw [List.append_assoc, List.getElem?_append_right (Nat.le_refl _), Nat.sub_self]; rfl, zgs, nIx]
    by_cases hy : y = x
    · rw [if_neg (nn hy), if_pos hy]
    · rw [if_pos hy, if_neg hy, yi_add1]
      have := find86 (x := x) (jk := jk) r (pre ++ [y]) f (by rw [h1]; simp) (by simp; omega) h3 (by omega)
      rw [List.length_append, List.length_singleton] at this
      rw [List.length_cons, show pre.length + (r.length + 1) = pre.length + 1 + r.length by omega]
      exact this
theorem find87 {x : Int64} {jk : List Int64} : ∀ (r pre : List Int64) (f : Nat), zB S 9 = pre ++ r ++ jk → pre.length + r.length ≤ 1000 → (zB S 9).length ≤ 1000 → r.length < f → cP_find_63_87_2 N f (Int32.ofNat (pre.length + r.length)) x (Int32.ofNat pre.length) S = some (nIx x r pre.length, S)
  | _, _, 0, _, _, _, h => by omega
  | [], pre, f + 1, _, h2, _, _ => by
    rw [cP_find_63_87_2, if_pos (by simp)]
    rfl
  | y :: r, pre, f + 1, h1, h2, h3, h4 => by
    rw [List.length_cons] at h2 h4
    have hlen : pre.length < (zB S 9).length := by rw [h1]; simp
    have e1 := yi_nat (i := pre.length) (by omega)
    rw [cP_find_63_87_2, if_neg (by rw [List.length_cons, yi_nat (by omega), e1]; omega), if_neg (by rw [yi_nat (by omega), e1]; omega), gI_nat (by omega), h1]
    rw [show (pre ++ y :: r ++ jk)[pre.length]? = some y by rw [List.append_assoc, List.getElem?_append_right (Nat.le_refl _), Nat.sub_self]; rfl, zgs, nIx]
    by_cases hy : y = x
    · rw [if_neg (nn hy), if_pos hy]
    · rw [if_pos hy, if_neg hy, yi_add1]
      have := find87 (x := x) (jk := jk) r (pre ++ [y]) f (by rw [h1]; simp) (by simp; omega) h3 (by omega)
      rw [List.length_append, List.length_singleton] at this
      rw [List.length_cons, show pre.length + (r.length + 1) = pre.length + 1 + r.length by omega]
      exact this
/-- a list whose items lie in a longer one -/
theorem pre_of {α β : Type} {l : List α} {q : List β} {f : α → β} (h : ∀ (i : Nat) a, l[i]? = some a → q[i]? = some (f a)) : ∃ jk, q = l.map f ++ jk := by
  refine ⟨q.drop l.length, ?_⟩
  have : l.map f = q.take l.length := by
    apply List.ext_getElem?
    intro i
    rw [List.getElem?_map, List.getElem?_take]
    by_cases hi : i < l.length
    · rw [if_pos hi, List.getElem?_eq_getElem hi]
      exact (h i _ (List.getElem?_eq_getElem hi)).symm
    · rw [if_neg hi, List.getElem?_eq_none (by omega)]; rfl
  rw [this, List.take_append_drop]
/-- the class's tables hold the form, but for its number of parts, which is c -/
def GCn (G : zG) (c : Nat) (S : zS) : Prop := (zI S 14 = Int32.ofNat c ∧ c ≤ 20 ∧ G.1.length ≤ 20 ∧ ∀ (i : Nat) p, G.1[i]? = some p → (zB S 8)[i]? = some p.1 ∧ (zA S 15)[i]? = some p.2.1 ∧ (zA S 16)[i]? = some p.2.2.1 ∧ (zA S 17)[i]? = some p.2.2.2.1 ∧ (p.2.1 ≠ 11 → (zA S 18)[i]? = some p.2.2.2.2.1 ∧ (zA S 19)[i]? = some p.2.2.2.2.2.1 ∧ (zA S 20)[i]? = some p.2.2.2.2.2.2.1) ∧ (zA S 21)[i]? = some p.2.2.2.2.2.2.2.2) ∧ (zI S 22 = Int32.ofNat G.2.1.length ∧ G.2.1.length ≤ 12 ∧ ∀ (i : Nat) p, G.2.1[i]? = some p → (zB S 9)[i]? = some p.1 ∧ (zA S 23)[i]? = some p.2.2) ∧ (zI S 24 = Int32.ofNat G.2.2.1.length ∧ G.2.2.1.length ≤ 12 ∧ ∀ (i : Nat) p, G.2.2.1[i]? = some p → (zA S 25)[i]? = some p.1 ∧ (zA S 26)[i]? = some p.2.2) ∧ zI S 28 = G.2.2.2.1 ∧ zI S 29 = G.2.2.2.2
def WG (S : zS) : Prop := ((zB S 8).length = 20 ∧ (zA S 15).length = 20 ∧ (zA S 16).length = 20 ∧ (zA S 17).length = 20 ∧ (zA S 18).length = 20 ∧ (zA S 19).length = 20 ∧ (zA S 20).length = 20 ∧ (zA S 21).length = 20) ∧ ((zB S 9).length = 12 ∧ (zA S 23).length = 12 ∧ (zA S 25).length = 12 ∧ (zA S 26).length = 12) ∧ (∃ c, c ≤ 20 ∧ zI S 14 = Int32.ofNat c) ∧ (∃ c, c ≤ 12 ∧ zI S 22 = Int32.ofNat c) ∧ ∃ c, c ≤ 12 ∧ zI S 24 = Int32.ofNat c
theorem GCn.eqX {G : zG} {c : Nat} {S' : zS} (e : eqX S S') (h : GCn G c S) : GCn G c S' := by
  obtain ⟨⟨a1, a2, a3, a4⟩, ⟨b1, b2, b3⟩, ⟨c1, c2, c3⟩, d1, d2⟩ := h
  obtain ⟨eI, eA, eB⟩ := e
  refine ⟨⟨(eI 14 (by decide) (by decide) (by decide) (by decide) (by decide)).trans a1, a2, a3, ?_⟩, ⟨(eI 22 (by decide) (by decide) (by decide) (by decide) (by decide)).trans b1, b2, ?_⟩, ⟨(eI 24 (by decide) (by decide) (by decide) (by decide) (by decide)).trans c1, c2, ?_⟩, (eI 28 (by decide) (by decide) (by decide) (by decide) (by decide)).trans d1, (eI 29 (by decide) (by decide) (by decide) (by decide) (by decide)).trans d2⟩
  · intro i p hp
    rw [eB 8 (by decide), eA 15 (by decide) (by decide) (by decide) (by decide) (by decide), eA 16 (by decide) (by decide) (by decide) (by decide) (by decide), eA 17 (by decide) (by decide) (by decide) (by decide) (by decide), eA 18 (by decide) (by decide) (by decide) (by decide) (by decide), eA 19 (by decide) (by decide) (by decide) (by decide) (by decide), eA 20 (by decide) (by decide) (by decide) (by decide) (by decide), eA 21 (by decide) (by decide) (by decide) (by decide) (by decide)]
    exact a4 i p hp
  · intro i p hp
    rw [eB 9 (by decide), eA 23 (by decide) (by decide) (by decide) (by decide) (by decide)]
    exact b3 i p hp
  · intro i p hp
    rw [eA 25 (by decide) (by decide) (by decide) (by decide) (by decide), eA 26 (by decide) (by decide) (by decide) (by decide) (by decide)]
    exact c3 i p hp
theorem WG.eqX {S' : zS} (e : eqX S S') (h : WG S) : WG S' := by
  obtain ⟨eI, eA, eB⟩ := e
  unfold WG
  rw [eB 8 (by decide), eB 9 (by decide), eA 15 (by decide) (by decide) (by decide) (by decide) (by decide), eA 16 (by decide) (by decide) (by decide) (by decide) (by decide), eA 17 (by decide) (by decide) (by decide) (by decide) (by decide), eA 18 (by decide) (by decide) (by decide) (by decide) (by decide), eA 19 (by decide) (by decide) (by decide) (by decide) (by decide), eA 20 (by decide) (by decide) (by decide) (by decide) (by decide), eA 21 (by decide) (by decide) (by decide) (by decide) (by decide), eA 23 (by decide) (by decide) (by decide) (by decide) (by decide), eA 25 (by decide) (by decide) (by decide) (by decide) (by decide), eA 26 (by decide) (by decide) (by decide) (by decide) (by decide), eI 14 (by decide) (by decide) (by decide) (by decide) (by decide), eI 22 (by decide) (by decide) (by decide) (by decide) (by decide), eI 24 (by decide) (by decide) (by decide) (by decide) (by decide)]
  exact h
theorem val_at (h : WP S) : ∃ v, gI (zB S 4) (zI S 5) = some v := by
  obtain ⟨k, hk, hk5⟩ := h.2.2.2.1
  rw [hk5, gI_nat (by omega)]
  exact ⟨_, List.getElem?_eq_getElem (by rw [h.1.2.2]; exact hk)⟩
theorem val_G (ok : tkOK tk) (h : CP tk s S) (hk : kd tk s.1 = 2 ∨ kd tk s.1 = 3) : gI (zB S 4) (zI S 5) = some (va tk s.1) := by
  obtain ⟨τ, g1, g2, g2', g3⟩ := h.kdp
  obtain ⟨v, hv⟩ := (ok.2 _ _ g1).2.2.2 (by rw [← g2]; exact hk)
  have hva : va tk s.1 = v := by rw [va, g1]; show (τ.2.2.2).getD 0 = v; rw [hv]; rfl
  rw [h.2.2.1.1, gI_nat (by have := h.2.2.1.2; have := ok.1; omega), g3.2.2 v hv, hva]
theorem num_F {a b : Int32} {q : Nat} (h : CF q S) : cP_readNumber N a b S = some (a, S) := by
  obtain ⟨v, hv⟩ := val_at h.1
  rw [cP_readNumber, hv, zgs, sees_F h, zbs, if_pos (by decide), refuse_F h, zbs]
theorem R_num (ok : tkOK tk) {lo hi : Int32} (h : CP tk s S) : Rs tk S (fun a b => a = b) T1 (fNum tk lo hi s) (cP_readNumber N lo hi S) := by
  obtain ⟨v, hv⟩ := val_at h.1
  obtain ⟨S', n1, n2, n3⟩ := refuse_G (N := N) ok h
  rw [cP_readNumber, hv, zgs, sees_G ok h, zbs, fNum]
  have e1 : ∀ x : Int32, x.toInt64.toInt = x.toInt := fun x => Int32.toInt_toInt64 x
  rw [e1, e1]
  by_cases hk : kd tk s.1 = 2
  · have hva : v = va tk s.1 := by
      have := val_G ok h (Or.inl hk)
      rw [hv] at this
      exact Option.some.inj this
    rw [if_neg (nn hk), hva]
    by_cases h1 : (va tk s.1).toInt < lo.toInt
    · rw [if_pos h1, if_neg (by omega), n1, zbs]
      exact ⟨_, S', rfl, n2, n3, trivial⟩
    · rw [if_neg h1]
      by_cases h2 : (va tk s.1).toInt ≤ hi.toInt
      · obtain ⟨m1, m2, m3⟩ := next_G (N := N) ok h (by rw [hk]; decide) (by rw [hk]; decide)
        rw [if_pos h2, if_pos ⟨hk, by omega, h2⟩, m1, zbs]
        exact ⟨_, _, rfl, m2, m3, rfl⟩
      · rw [if_neg h2, if_neg (by omega), n1, zbs]
        exact ⟨_, S', rfl, n2, n3, trivial⟩
  · rw [if_pos hk, if_neg (fun hh => hk hh.1), n1, zbs]
    exact ⟨_, S', rfl, n2, n3, trivial⟩
theorem newName_F {a : Int32} {q : Nat} (h : CF q S) : cP_readNewName N a S = some (0, S) := by
  obtain ⟨v, hv⟩ := val_at h.1
  rw [cP_readNewName, hv, zgs, sees_F h, zbs, if_pos (by decide), refuse_F h, zbs]
theorem R_newName (hN : 1400 < N) (ok : tkOK tk) {G : zG} {n : Nat} {c : Prop} [Decidable c] {b : Int32} (hb : b = if c then 1 else 0) (hg : GCn G n S) (hn : n = G.1.length) (hW : WG S) (h : CP tk s S) : Rs tk S (fun a b => a = b) T1 (fNew tk G c s) (cP_readNewName N b S) := by
  obtain ⟨v, hv⟩ := val_at h.1
  obtain ⟨S', n1, n2, n3⟩ := refuse_G (N := N) ok h
  have hF : Rs tk S (fun (a b : Int64) => a = b) T1 (.inr (some s.1)) (some (0, S')) := ⟨_, S', rfl, n2, n3, trivial⟩
  rw [cP_readNewName, hv, zgs, sees_G ok h, zbs, fNew]
  by_cases hk : kd tk s.1 = 3
  · have hva : v = va tk s.1 := by
      have := val_G ok h (Or.inr hk)
      rw [hv] at this
      exact Option.some.inj this
    rw [if_neg (nn hk), hva]
    by_cases hc : c
    · rw [if_pos hc] at hb
      obtain ⟨jk, e8⟩ := pre_of (q := zB S 8) (f := Prod.fst) (fun i p hp => (hg.1.2.2.2 i p hp).1)
      obtain ⟨jk9, e9⟩ := pre_of (q := zB S 9) (f := Prod.fst) (fun i p hp => (hg.2.1.2.2 i p hp).1)
      have l8 := hW.1.1
      have l9 := hW.2.1.1
      have p20 := hg.1.2.2.1
      have f12 := hg.2.1.2.1
      have f8 := find86 (N := N) (S := S) (x := va tk s.1) (jk := jk) (G.1.map Prod.fst) [] N (by simpa using e8) (by simp; omega) (by omega) (by simp; omega)
      have f9 := find87 (N := N) (S := S) (x := va tk s.1) (jk := jk9) (G.2.1.map Prod.fst) [] N (by simpa using e9) (by simp; omega) (by omega) (by simp; omega)
      simp only [List.length_nil, Nat.zero_add, List.length_map] at f8 f9
      have i8 := nIx_none (x := va tk s.1) (G.1.map Prod.fst) 0 (by simp; omega)
      have i9 := nIx_none (x := va tk s.1) (G.2.1.map Prod.fst) 0 (by simp; omega)
      rw [hb, if_neg i10, cP_find_63_86, hg.1.1, hn, show (0 : Int32) = Int32.ofNat 0 from rfl, f8, zbs]
      by_cases h8 : va tk s.1 ∈ G.1.map Prod.fst
      · rw [if_pos (fun hh => (i8.mp hh) h8), if_neg (fun hh => hh.2.2.1 h8), n1, zbs]
        exact hF
      · rw [if_neg (nn (i8.mpr h8)), cP_find_63_87, hg.2.1.1, show (0 : Int32) = Int32.ofNat 0 from rfl, f9, zbs]
        by_cases h9 : va tk s.1 ∈ G.2.1.map Prod.fst
        · rw [if_neg (fun hh => (i9.mp hh) h9), if_neg (fun hh => hh.2.2.2 h9), n1, zbs]
          exact hF
        · obtain ⟨m1, m2, m3⟩ := next_G (N := N) ok h (by rw [hk]; decide) (by rw [hk]; decide)
          rw [if_pos (i9.mpr h9), if_pos ⟨hk, hc, h8, h9⟩, m1, zbs]
          exact ⟨_, _, rfl, m2, m3, rfl⟩
    · rw [if_neg hc] at hb
      rw [hb, if_pos rfl, if_neg (fun hh => hc hh.2.1), n1, zbs]
      exact hF
  · rw [if_pos hk, if_neg (fun hh => hk hh.1), n1, zbs]
    exact hF
theorem exp_F {i : Int32} {q : Nat} (hN : 1400 < N) (h6 : N / 16 = 100) (h : CF q S) : ∃ a S', cP_readExp N i S = some (a, S') ∧ CF q S' ∧ eqX S S' := by
  obtain ⟨_, S2, w1, w2, w3⟩ := (F_fix hN 100).1 0 i (by omega) (by omega) q S h
  obtain ⟨c, S3, _, y1, y2, y3⟩ := emit_F (N := N) (d := 0) (w := 0) w2
  rw [cP_readExp, h6, show (0 : Int32) = Int32.ofNat 0 from rfl, w1, zbs, show cP_emit N (Int32.ofNat 0) (Int32.ofNat 0) S2 = _ from y1, zbs]
  exact ⟨_, S3, rfl, y2, w3.trans y3⟩
theorem R_exp (hN : 1400 < N) (h6 : N / 16 = 100) (ok : tkOK tk) {fg i : Nat} (hi : i ≤ 10) (h : CP tk s S) (hg : zI S 22 = Int32.ofNat fg) : Rs tk S (fun a b => a = b.2) T1 (fExp tk fg i s) (cP_readExp N (Int32.ofNat i) S) := by
  rw [cP_readExp, h6, fExp]
  refine Rs.bind ((R_fix (fg := fg) hN ok 92).1 0 i s S (by omega) hi h hg) ?_ ?_
  · intro s1 n _ S1 hp1 h1 x1 _
    refine Rs.bind (R_emit h1) ?_ ?_
    · rintro s2 c x S2 _ h2 x2 ⟨rfl, _⟩
      exact ⟨_, S2, rfl, h2, eqX.refl, h.2.2.2.2.2.1.1⟩
    · intro _ hF; exact absurd hF id
  · intro _ _ q S1 hq
    obtain ⟨c, S3, _, y1, y2, y3⟩ := emit_F (N := N) (d := 0) (w := 0) hq
    rw [y1, zbs]
    exact ⟨_, S3, rfl, y2, y3, trivial⟩
end CFORM
