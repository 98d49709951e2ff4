/-! TAKE: a row of cells read; the class -/
def rdC : Nat → List Int32 → Option (List Int32 × List Int32)
  | 0, l => some ([], l)
  | k + 1, l => (rdN 4 0 l).bind fun q => (rdC k q.2).map fun r => (q.1 :: r.1, r.2)
/-- a row of cells, or NOTHING -/
def rdR (l : List Int32) : Option (Option (List Int32) × List Int32) := (rdN 1 0 l).bind fun q => if q.1 = 255 then some (none, q.2) else if 6 < q.1.toInt then none else (rdC q.1.toInt.toNat q.2).map fun r => (some r.1, r.2)
theorem rdC_len : ∀ (k : Nat) (l : List Int32) (q : List Int32 × List Int32), rdC k l = some q → q.1.length = k
  | 0, l, q, h => by
    injection h with h
    rw [← h]; rfl
  | k + 1, l, q, h => by
    rw [rdC] at h
    rcases h1 : rdN 4 0 l with _ | a
    · rw [h1] at h; cases h
    · rw [h1, Option.bind_some] at h
      rcases h2 : rdC k a.2 with _ | b
      · rw [h2] at h; cases h
      · rw [h2] at h
        injection h with h
        rw [← h, List.length_cons, rdC_len k a.2 b h2]
section CELLC
variable {X : List Int32} {D0 : List xE}
def frZ (S S' : zS) : Prop := zI S' 0 = zI S 0 ∧ zA S' 3 = zA S 3
/-- a number is read: what it leaves -/
theorem ck_num {fr lo k : Nat} {S : zS} {l : List Int32} (hk : k ≤ 8) (hR : RD 0 1 3 S l) : ∃ (v : Int32) (S' : zS), yK X fr lo 202 [.ref 206, .int (Int32.ofNat k)] (zD zTZ zaZ S D0) 0 0 (zQi zTZ zaZ D0 v S') ∧ frZ S S' ∧ (match rdN k 0 l with
    | some q => v = q.1 ∧ RD 0 1 3 S' q.2 ∧ zI S' 2 = zI S 2
    | none => v = 0 ∧ RD 0 1 3 S' [] ∧ zI S' 2 = 1) := by
  have h := c_numZ (N := 9) k k 0 9 0 S l (by omega) (by omega) (by omega) hR
  rcases hq : rdN k 0 l with _ | q
  · rw [hq] at h
    obtain ⟨S', a1, a2, a3, a4, a5⟩ := h
    exact ⟨0, S', tcZ_loadNumber (N := 9) (by omega) (by omega) a1, ⟨a4, a5⟩, rfl, a2, a3⟩
  · rw [hq] at h
    obtain ⟨S', a1, a2, a3, a4, a5⟩ := h
    exact ⟨q.1, S', tcZ_loadNumber (N := 9) (by omega) (by omega) a1, ⟨a4, a5⟩, rfl, a2, a3⟩
theorem cells_loop {a n : Nat} (hn : n ≤ 6) : ∀ (m j : Nat) (S : zS) (l : List Int32) (cells : List Int32), j + m = n → cells.length = n → RD 0 1 3 S l → (zI S 2 = 0 ∨ zI S 2 = 1) → yT X 3 100 204 22 [some (.ref 206), some (.int (Int32.ofNat n)), some (.ref a), some (.int (Int32.ofNat j))] [] (zD zTZ zaZ S ((a, .inr (0, cells.map Value.int)) :: D0)) 0 0 (fun r D => ∃ S' l' cells', r = some (.ref a) ∧ D = zD zTZ zaZ S' ((a, .inr (0, cells'.map Value.int)) :: D0) ∧ RD 0 1 3 S' l' ∧ cells'.length = n ∧ frZ S S' ∧ (zI S' 2 = 0 ∨ zI S' 2 = 1) ∧ (zI S 2 = 1 → zI S' 2 = 1) ∧ (zI S 2 = 0 → match rdC m l with
    | some q => zI S' 2 = 0 ∧ l' = q.2 ∧ cells' = cells.take j ++ q.1
    | none => zI S' 2 = 1))
  | 0, j, S, l, cells, hj, hc, hR, hf => by
    have e : j = n := by omega
    subst e
    refine xt_pure rfl rfl rfl rfl ?_
    refine xt_pure rfl rfl rfl rfl ?_
    refine yt_ic rfl rfl (fun _ => ?_) (fun (h : Int32.toInt _ < Int32.toInt _) => by omega)
    refine xt_pure rfl rfl rfl rfl ?_
    exact xt_aret rfl rfl rfl rfl rfl ⟨S, l, cells, rfl, rfl, hR, hc, ⟨rfl, rfl⟩, hf, fun h => h, fun h => ⟨h, rfl, by rw [List.append_nil, List.take_of_length_le (by omega)]⟩⟩
  | m + 1, j, S, l, cells, hj, hc, hR, hf => by
    have tj := yi_nat (i := j) (by omega)
    have tj3 : (Int32.ofNat j).toInt.toNat = j := yi_toNat (by omega)
    refine xt_pure rfl rfl rfl rfl ?_
    refine xt_pure rfl rfl rfl rfl ?_
    refine yt_ic rfl rfl (fun (h : Int32.toInt _ ≤ Int32.toInt _) => ?_) (fun _ => ?_)
    · rw [tj, yi_nat (by omega)] at h
      omega
    · obtain ⟨v, S1, c1, c2, c3⟩ := ck_num (X := X) (D0 := (a, .inr (0, cells.map Value.int)) :: D0) (fr := 0) (lo := 0) (k := 4) (by omega) hR
      refine xt_pure rfl rfl rfl rfl ?_
      refine xt_pure rfl rfl rfl rfl ?_
      refine xt_pure rfl rfl rfl rfl ?_
      refine xt_pure rfl rfl rfl (st1 := .int 4 :: _) rfl ?_
      refine xt_callV rfl rfl rfl rfl (xmC 173 rfl) ⟨rfl, rfl, yle rfl, yle rfl, yle rfl, yle rfl⟩ c1 (c2 := 0) (s2 := 0) ⟨yle rfl, yle rfl⟩ ?_
      rintro _ _ ⟨rfl, rfl⟩
      refine yt_ist rfl rfl 4 rfl ⟨by rw [tj]; omega, by rw [tj, hc]; omega⟩ (D1 := zD zTZ zaZ S1 ((a, .inr (0, (cells.set j v).map Value.int)) :: D0)) (by rw [tj3]; rfl) ?_
      refine xt_pure rfl rfl rfl (L1 := [_, _, _, some (.int (_ + 1))]) rfl ?_
      refine xt_pure rfl rfl rfl rfl ?_
      rw [yi_add1]
      have hS1 : (zI S1 2 = 0 ∨ zI S1 2 = 1) ∧ (zI S 2 = 1 → zI S1 2 = 1) ∧ ∃ l1, RD 0 1 3 S1 l1 := by
        rcases hq : rdN 4 0 l with _ | q
        · rw [hq] at c3
          exact ⟨Or.inr c3.2.2, fun _ => c3.2.2, [], c3.2.1⟩
        · rw [hq] at c3
          exact ⟨by rw [c3.2.2]; exact hf, fun h => c3.2.2.trans h, q.2, c3.2.1⟩
      obtain ⟨hf1, hf2, l1, hR1⟩ := hS1
      rcases hq : rdN 4 0 l with _ | q
      · rw [hq] at c3
        refine (cells_loop (a := a) hn m (j + 1) S1 [] (cells.set j v) (by omega) (by rw [List.length_set]; exact hc) c3.2.1 hf1).mono (Nat.le_refl _) (Nat.le_refl _) ?_
        rintro r D ⟨S', l', cells', w1, w2, w3, w4, w5, w6, w7, w8⟩
        refine ⟨S', l', cells', w1, w2, w3, w4, ⟨w5.1.trans c2.1, w5.2.trans c2.2⟩, w6, fun _ => w7 c3.2.2, fun _ => ?_⟩
        rw [rdC, hq]
        exact w7 c3.2.2
      · rw [hq] at c3
        refine (cells_loop (a := a) hn m (j + 1) S1 q.2 (cells.set j v) (by omega) (by rw [List.length_set]; exact hc) c3.2.1 hf1).mono (Nat.le_refl _) (Nat.le_refl _) ?_
        rintro r D ⟨S', l', cells', w1, w2, w3, w4, w5, w6, w7, w8⟩
        refine ⟨S', l', cells', w1, w2, w3, w4, ⟨w5.1.trans c2.1, w5.2.trans c2.2⟩, w6, fun h => w7 (hf2 h), fun h => ?_⟩
        have w8 := w8 (c3.2.2.trans h)
        rw [rdC, hq, Option.bind_some]
        rcases hq2 : rdC m q.2 with _ | q2
        · rw [hq2] at w8
          exact w8
        · rw [hq2] at w8
          refine ⟨w8.1, w8.2.1, ?_⟩
          rw [w8.2.2, ← c3.1, List.take_succ, List.getElem?_set_self (by omega), List.take_set_of_le (Nat.le_refl _), List.append_assoc]
          rfl
/-- a row's place may be stored -/
def rwV (N : List xE) (v : Value) : Prop := v = .null ∨ ∃ a ws, v = .ref a ∧ ((a, .inr (0, ws)) : xE) ∈ N
theorem ck_cells {S : zS} {l : List Int32} (hR : RD 0 1 3 S l) (hb : byR l) (hf : zI S 2 = 0) : yK X 4 150 204 [.ref 206] (zD zTZ zaZ S D0) 1 6 (fun r D => ∃ S' v N l', r = some v ∧ D = zD zTZ zaZ S' (N ++ D0) ∧ RD 0 1 3 S' l' ∧ frZ S S' ∧ rwV N v ∧ (zI S' 2 = 0 ∨ zI S' 2 = 1) ∧ (match rdR l with
    | some q => zI S' 2 = 0 ∧ l' = q.2 ∧ yRw N v q.1
    | none => zI S' 2 = 1)) := by
  obtain ⟨v, S1, c1, c2, c3⟩ := ck_num (X := X) (D0 := D0) (fr := 0) (lo := 0) (k := 1) (by omega) hR
  refine yK.of rfl (yle rfl) (L := [_, _, _, _]) rfl ?_
  refine xt_pure rfl rfl rfl rfl ?_
  refine xt_pure rfl rfl rfl (st1 := .int 1 :: _) rfl ?_
  refine xt_callV rfl rfl rfl rfl (xmC 173 rfl) ⟨rfl, rfl, yle rfl, yle rfl, yle rfl, yle rfl⟩ c1 (c2 := 1) (s2 := 6) ⟨yle rfl, yle rfl⟩ ?_
  rintro _ _ ⟨rfl, rfl⟩
  refine xt_pure rfl rfl rfl (L1 := [_, _, _, _]) rfl ?_
  refine xt_pure rfl rfl rfl rfl ?_
  refine xt_pure rfl rfl rfl (st1 := .int 255 :: _) rfl ?_
  have hv0 : 0 ≤ v.toInt := by
    rcases hq : rdN 1 0 l with _ | q
    · rw [hq] at c3
      rw [c3.1]; decide
    · rw [hq] at c3
      rw [c3.1]
      exact (hb q.1 (by rw [rd1 hq]; exact List.mem_cons_self)).1
  refine yt_ic rfl rfl (fun (h255 : v ≠ 255) => ?_) (fun (h255 : v = 255) => ?_)
  rotate_left
  · skip
    refine xt_pure rfl rfl rfl rfl ?_
    rcases hq : rdN 1 0 l with _ | q
    · rw [hq] at c3
      rw [c3.1] at h255
      exact absurd h255 (by decide)
    · rw [hq] at c3
      refine xt_aret rfl rfl rfl rfl rfl ⟨S1, .null, [], q.2, rfl, rfl, c3.2.1, c2, Or.inl rfl, Or.inl (c3.2.2.trans hf), ?_⟩
      rw [rdR, hq, Option.bind_some, if_pos (by rw [← c3.1]; exact h255)]
      exact ⟨c3.2.2.trans hf, rfl, rfl⟩
  · skip
    refine xt_pure rfl rfl rfl rfl ?_
    refine xt_pure rfl rfl rfl (st1 := .int 6 :: _) rfl ?_
    refine yt_ic rfl rfl (fun (h6 : v.toInt ≤ (6 : Int)) => ?_) (fun (h6 : (6 : Int) < v.toInt) => ?_)
    rotate_left
    · skip
      refine xt_pure rfl rfl rfl rfl ?_
      refine xt_pure rfl rfl rfl (st1 := .int 1 :: _) rfl ?_
      refine xt_putf rfl rfl rfl rfl 2 rfl (D1 := zD zTZ zaZ (zsI S1 2 1) D0) rfl ?_
      refine xt_pure rfl rfl rfl rfl ?_
      rcases hq : rdN 1 0 l with _ | q
      · rw [hq] at c3
        rw [c3.1] at h6
        exact absurd h6 (by decide)
      · rw [hq] at c3
        refine xt_aret rfl rfl rfl rfl rfl ⟨zsI S1 2 1, .null, [], q.2, rfl, rfl, ?_, ⟨c2.1, c2.2⟩, Or.inl rfl, Or.inr rfl, ?_⟩
        · obtain ⟨n, a, q1, q2, q3⟩ := c3.2.1
          exact ⟨n, a, q1, q2, q3⟩
        · rw [rdR, hq, Option.bind_some, if_neg (by rw [← c3.1]; exact h255), if_pos (by rw [← c3.1]; exact h6)]
          rfl
    · obtain ⟨n, rfl, hn⟩ : ∃ n : Nat, v = Int32.ofNat n ∧ n ≤ 6 := ⟨v.toInt.toNat, (yi_id hv0).symm, by omega⟩
      have tn := yi_nat (i := n) (by omega)
      refine xt_pure rfl rfl rfl rfl ?_
      refine yt_newI rfl rfl ⟨by rw [tn]; omega, by rw [tn]; omega⟩ (c1 := 0) (s1 := 0) (by omega) (by rw [tn]; omega) ?_
      intro a
      rw [yi_toNat (by omega)]
      refine yT.perm (D2 := zD zTZ zaZ S1 ((a, .inr (0, (List.replicate n (0 : Int32)).map Value.int)) :: D0)) (List.perm_middle (l₁ := zE zaZ S1 0 zTZ)).symm ?_
      refine xt_pure rfl rfl rfl (L1 := [_, _, _, _]) rfl ?_
      refine xt_pure rfl rfl rfl (st1 := .int 0 :: _) rfl ?_
      refine xt_pure rfl rfl rfl (L1 := [_, _, _, _]) rfl ?_
      have hfl : zI S1 2 = 0 ∨ zI S1 2 = 1 := by
        rcases hq : rdN 1 0 l with _ | q
        · rw [hq] at c3; exact Or.inr c3.2.2
        · rw [hq] at c3; exact Or.inl (c3.2.2.trans hf)
      have hRx : ∃ l1, RD 0 1 3 S1 l1 ∧ ∀ q, rdN 1 0 l = some q → l1 = q.2 := by
        rcases hq : rdN 1 0 l with _ | q
        · rw [hq] at c3; exact ⟨[], c3.2.1, fun q h => by cases h⟩
        · rw [hq] at c3; exact ⟨q.2, c3.2.1, fun q' h => by injection h with h; rw [h]⟩
      obtain ⟨l1, hR1, hl1⟩ := hRx
      refine ((cells_loop hn n 0 S1 l1 (List.replicate n 0) (by omega) (by simp) hR1 hfl).up (by omega) (by omega)).mono (Nat.le_refl _) (Nat.le_refl _) ?_
      rintro r D ⟨S', l', cells', w1, w2, w3, w4, w5, w6, w7, w8⟩
      refine ⟨S', .ref a, [(a, .inr (0, cells'.map Value.int))], l', w1, w2, w3, ⟨w5.1.trans c2.1, w5.2.trans c2.2⟩, Or.inr ⟨a, _, rfl, List.mem_cons_self⟩, w6, ?_⟩
      rcases hq : rdN 1 0 l with _ | q
      · rw [hq] at c3
        rw [rdR, hq]
        exact w7 c3.2.2
      · rw [hq] at c3
        have hl := hl1 q hq
        subst hl
        have w8 := w8 (c3.2.2.trans hf)
        rw [rdR, hq, Option.bind_some, if_neg (by rw [← c3.1]; exact h255), if_neg (by rw [← c3.1]; omega), ← c3.1, tn]
        show match (rdC n q.2).map (fun r => (some r.1, r.2)) with
          | some (q : Option (List Int32) × List Int32) => zI S' 2 = 0 ∧ l' = q.2 ∧ yRw [(a, .inr (0, cells'.map Value.int))] (.ref a) q.1
          | none => zI S' 2 = 1
        rcases hq2 : rdC n q.2 with _ | q2
        · rw [hq2] at w8
          exact w8
        · rw [hq2] at w8
          refine ⟨w8.1, w8.2.1, a, rfl, ?_⟩
          rw [w8.2.2, List.take_zero, List.nil_append]
          exact List.mem_cons_self
end CELLC
