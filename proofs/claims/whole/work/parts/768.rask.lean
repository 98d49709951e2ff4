/-! WORKING, THE REFERENCE: what names are asked for -/
/-- the reference's form -/
def fMr (F : yF) (ga : Nat → List Int32) (vl : List Int64) : Prop := (∀ (i : Nat) P, F.1[i]? = some P → (ga 2)[i]? = some P.1) ∧ (∀ (i : Nat) n x, F.2.1[i]? = some (n, x) → (ga 11)[i]? = some n) ∧ ∀ (i : Nat) op one two val, F.2.2.2.2.1[i]? = some (op, one, two, val) → (ga 19)[i]? = some op ∧ (ga 21)[i]? = some one ∧ (ga 22)[i]? = some two ∧ vl[i]? = some val
/-- the answers of the draft -/
def aB (En : List (Int64 × Int32)) (F : yF) (A : List (Option yO)) (Bs : List (Option zH)) (dr : Int32) : Prop := ∀ (p : Nat) P, F.1[p]? = some P → ∃ z, gI Bs (20 * dr + Int32.ofNat p) = some z ∧ aM En z (anR A (Int32.ofNat p))
section RASK
variable {gi : Nat → Int32} {ga : Nat → List Int32} {vl : List Int64} {Bs : List (Option zH)} {am : List Int64} {N : Nat} {S : zS} {En : List (Int64 × Int32)} {F : yF} {A : List (Option yO)} {dr : Int32}
theorem r_sortOf {k : Int32} (h : 0 ≤ k.toInt ∧ k.toInt ≤ 10) : rF_sortOf gi ga vl Bs am N k S = some (Int32.ofNat (sOf k), S) := by
  rcases kind_cases h with rfl | rfl | rfl | rfl | rfl | rfl | rfl | rfl | rfl | rfl | rfl <;> rfl
theorem r_answer {z : Option zH} {P : Int32} (hd : zI S 1 = dr) (hz : gI Bs (20 * dr + P) = some z) : rF_answer gi ga vl Bs am N P S = some (z, S) := by
  unfold rF_answer
  rw [hd, hz, zgs]
  rcases z with _ | o <;> rfl
theorem r_as {z : Option zH} {yy : Option yO} {P : Int32} {s : Nat} (hs7 : s ≤ 7) (hd : zI S 1 = dr) (h2 : zI S 2 = 0) (hz : gI Bs (20 * dr + P) = some z) (hzy : aM En z yy) : match asR yy s with
    | .inl y => ∃ o, rF_as gi ga vl Bs am N P (Int32.ofNat s) S = some (some o, S) ∧ hM o y ∧ yOk En y ∧ okS s y
    | .inr k => k ≠ 0 ∧ rF_as gi ga vl Bs am N P (Int32.ofNat s) S = some (none, flM S k) := by
  unfold rF_as
  rw [r_answer hd hz, zbs]
  rcases z with _ | o
  · rcases yy with _ | y
    · show (1 : Int32) ≠ 0 ∧ (zb (rF_fails gi ga vl Bs am N 1 S) fun x5 S6 => (if (zI S6 2) = (0 : Int32) then some (none, S6) else some (none, S6))) = some (none, flM S 1)
      rw [fails_M, zbs]
      exact ⟨by decide, by split <;> rfl⟩
    · exact absurd hzy id
  · rcases yy with _ | y
    · exact absurd hzy id
    · obtain ⟨hm, hk⟩ := hzy
      have e := hm.s hk
      have e1 : (o.1 = Int32.ofNat s) ↔ y.1 = s := by rw [xi32_eq, e, yi_nat (by omega)]; omega
      have e2 : (o.1 = 6) ↔ y.1 = 6 := by rw [xi32_eq, e, show (6 : Int32).toInt = 6 from rfl]; omega
      have e3 : (Int32.ofNat s = 5) ↔ s = 5 := by rw [xi32_eq, yi_nat (by omega), show (5 : Int32).toInt = 5 from rfl]; omega
      rw [asR_some]
      show match (if okS s y then (.inl y : yO ⊕ Int32) else .inr 2) with
        | .inl y => ∃ o', (if o.1 = Int32.ofNat s then (if (zI S 2) = (0 : Int32) then some ((some o), S) else some (none, S)) else (if Int32.ofNat s ≠ (5 : Int32) then (zb (rF_fails gi ga vl Bs am N 2 S) fun x8 S9 => (if (zI S9 2) = (0 : Int32) then some ((some o), S9) else some (none, S9))) else (if o.1 = (6 : Int32) then (if (zI S 2) = (0 : Int32) then some ((some o), S) else some (none, S)) else (zb (rF_fails gi ga vl Bs am N 2 S) fun x11 S12 => (if (zI S12 2) = (0 : Int32) then some ((some o), S12) else some (none, S12)))))) = some (some o', S) ∧ hM o' y ∧ yOk En y ∧ okS s y
        | .inr k => k ≠ 0 ∧ (if o.1 = Int32.ofNat s then (if (zI S 2) = (0 : Int32) then some ((some o), S) else some (none, S)) else (if Int32.ofNat s ≠ (5 : Int32) then (zb (rF_fails gi ga vl Bs am N 2 S) fun x8 S9 => (if (zI S9 2) = (0 : Int32) then some ((some o), S9) else some (none, S9))) else (if o.1 = (6 : Int32) then (if (zI S 2) = (0 : Int32) then some ((some o), S) else some (none, S)) else (zb (rF_fails gi ga vl Bs am N 2 S) fun x11 S12 => (if (zI S12 2) = (0 : Int32) then some ((some o), S12) else some (none, S12)))))) = some (none, flM S k)
      have fl2 : (if zI (flM S 2) 2 = (0 : Int32) then some ((some o), flM S 2) else some (none, flM S 2)) = some (none, flM S 2) := if_neg (show ¬ (2 : Int32) = 0 by decide)
      by_cases h : okS s y
      · rw [if_pos h]
        refine ⟨o, ?_, hm, hk, h⟩
        by_cases h1 : y.1 = s
        · rw [if_pos (e1.mpr h1), if_pos h2]
        · obtain ⟨h6, h5⟩ : y.1 = 6 ∧ s = 5 := by rcases h with h | h; exact absurd h h1; exact h
          rw [if_neg (fun hh => h1 (e1.mp hh)), if_neg (nn (e3.mpr h5)), if_pos (e2.mpr h6), if_pos h2]
      · rw [if_neg h]
        refine ⟨by decide, ?_⟩
        rw [if_neg (fun hh => h (Or.inl (e1.mp hh)))]
        by_cases h5 : s = 5
        · rw [if_neg (nn (e3.mpr h5)), if_neg (fun hh => h (Or.inr ⟨e2.mp hh, h5⟩)), fails_M, zbs]
          exact fl2
        · rw [if_pos (fun hh => h5 (e3.mp hh)), fails_M, zbs]
          exact fl2
theorem flM_2 {k : Int32} (hk : k ≠ 0) : ¬ zI (flM S k) 2 = 0 := hk
/-- parts that are asked -/
theorem ask_M (hF : fMr F ga vl) (hK : F.1.length ≤ 20 ∧ ∀ (i : Nat) P, F.1[i]? = some P → 0 ≤ P.1.toInt ∧ P.1.toInt ≤ 11) (hA : aB En F A Bs dr) {one : Int32} (h : yAsk F one) : gI (ga 2) one = some (knd F one) ∧ (0 ≤ (knd F one).toInt ∧ (knd F one).toInt ≤ 10) ∧ ∃ z, gI Bs (20 * dr + one) = some z ∧ aM En z (anR A one) := by
  obtain ⟨h0, Pt, h1, h2⟩ := h
  obtain ⟨P, hP, rfl, hP2⟩ := yi_of h0
  rw [hP2, Int.toNat_natCast] at h1
  have hl := (List.getElem?_eq_some_iff.mp h1).1
  have hk := hK.2 P Pt h1
  have e : knd F (Int32.ofNat P) = Pt.1 := by unfold knd; rw [gI_nat hP, h1]; rfl
  obtain ⟨z, z1, z2⟩ := hA P Pt h1
  refine ⟨by rw [gI_nat hP, e]; exact hF.1 P Pt h1, ?_, z, z1, z2⟩
  rw [e]
  have : Pt.1.toInt ≠ 11 := fun hh => h2 (by rw [xi32_eq, hh]; rfl)
  omega
section ONE
variable {one k : Int32} {z : Option zH} {yy : Option yO}
theorem r_len (hd : zI S 1 = dr) (h2 : zI S 2 = 0) (hkd : gI (ga 2) one = some k) (hk0 : 0 ≤ k.toInt ∧ k.toInt ≤ 10) (hz : gI Bs (20 * dr + one) = some z) (hzy : aM En z yy) : Km (lenR k yy) S (zg (gI (ga 2) one) fun x23 => (zb (rF_sortOf gi ga vl Bs am N x23 S) fun x24 S25 => (zb (rF_as gi ga vl Bs am N one x24 S25) fun z30 S28 => (zo z30 ((if (zI S28 2) = (0 : Int32) then none else some (0, S28))) fun o30 => (if (zI S28 2) = (0 : Int32) then some (o30.2.1.toInt64, S28) else some (0, S28)))))) := by
  rw [hkd, zgs, r_sortOf hk0, zbs]
  have H := r_as (gi := gi) (ga := ga) (vl := vl) (am := am) (N := N) (s := sOf k) (by have := sOf_le (k := k); omega) hd h2 hz hzy
  unfold lenR
  rcases hr : asR yy (sOf k) with y | f
  · rw [hr] at H
    obtain ⟨o, q1, q2, q3, q4⟩ := H
    rw [q1, zbs]
    show Km (.inl (Int32.ofNat (osz y)).toInt64) S (if zI S 2 = 0 then some (o.2.1.toInt64, S) else _)
    rw [if_pos h2, q2.2.1]
    rfl
  · rw [hr] at H
    obtain ⟨q0, q1⟩ := H
    rw [q1, zbs]
    show Km (.inr f) S (if zI (flM S f) 2 = 0 then none else some (0, flM S f))
    rw [if_neg (flM_2 q0)]
    exact ⟨q0, 0, rfl⟩
theorem r_item (hE : eM En am) (hd : zI S 1 = dr) (h2 : zI S 2 = 0) (hkd : gI (ga 2) one = some k) (hk0 : 0 ≤ k.toInt ∧ k.toInt ≤ 10) (hz : gI Bs (20 * dr + one) = some z) (hzy : aM En z yy) {i : Int32} : Km (itemR En k yy i) S (zg (gI (ga 2) one) fun x4 => (zb (rF_sortOf gi ga vl Bs am N x4 S) fun x5 S6 => (zb (rF_as gi ga vl Bs am N one x5 S6) fun z11 S9 => (zo z11 ((if (zI S9 2) = (0 : Int32) then none else some (0, S9))) fun o11 => (if (zI S9 2) = (0 : Int32) then (zb (rF_itemOf gi ga vl Bs am N o11 i.toInt64 S9) fun x12 S13 => some (x12, S13)) else some (0, S9)))))) := by
  rw [hkd, zgs, r_sortOf hk0, zbs]
  have H := r_as (gi := gi) (ga := ga) (vl := vl) (am := am) (N := N) (s := sOf k) (by have := sOf_le (k := k); omega) hd h2 hz hzy
  unfold itemR
  rcases hr : asR yy (sOf k) with y | f
  · rw [hr] at H
    obtain ⟨o, q1, q2, q3, q4⟩ := H
    rw [q1, zbs]
    show Km (wthR En y i) S (if zI S 2 = 0 then (zb (rF_itemOf gi ga vl Bs am N o i.toInt64 S) fun x12 S13 => some (x12, S13)) else _)
    rw [if_pos h2, zb_id]
    exact r_itemOf hE q2 q3
  · rw [hr] at H
    obtain ⟨q0, q1⟩ := H
    rw [q1, zbs]
    show Km (.inr f) S (if zI (flM S f) 2 = 0 then none else some (0, flM S f))
    rw [if_neg (flM_2 q0)]
    exact ⟨q0, 0, rfl⟩
theorem r_cell (hd : zI S 1 = dr) (h2 : zI S 2 = 0) (hz : gI Bs (20 * dr + one) = some z) (hzy : aM En z yy) {rc : Int32 → zS → Option (Int64 × zS)} {a b : Int64} : Km (cellR yy a.toInt32 b.toInt32) S (rF_workCell_12 gi ga vl Bs am rc N one a b S) := by
  unfold rF_workCell_12
  rw [if_pos h2]
  have H := r_as (gi := gi) (ga := ga) (vl := vl) (am := am) (N := N) (s := 4) (by omega) hd h2 hz hzy
  have H' : rF_as gi ga vl Bs am N one 4 S = rF_as gi ga vl Bs am N one (Int32.ofNat 4) S := rfl
  rw [H']
  unfold cellR
  rcases hr : asR yy 4 with y | f
  · rw [hr] at H
    obtain ⟨o, q1, q2, q3, q4⟩ := H
    rw [q1, zbs]
    show Km (celR y a.toInt32 b.toInt32) S (if zI S 2 = 0 then (zb (rF_cellAt gi ga vl Bs am N o a.toInt32 b.toInt32 S) fun x11 S12 => some (x11, S12)) else _)
    rw [if_pos h2, zb_id]
    exact r_cellAt q2 q3 (by rcases q4 with h | h <;> omega)
  · rw [hr] at H
    obtain ⟨q0, q1⟩ := H
    rw [q1, zbs]
    show Km (.inr f) S (if zI (flM S f) 2 = 0 then none else some (0, flM S f))
    rw [if_neg (flM_2 q0)]
    exact ⟨q0, 0, rfl⟩
theorem r_tot (hE : eM En am) (hN : 1000 < N) (hd : zI S 1 = dr) (h2 : zI S 2 = 0) (hkd : gI (ga 2) one = some k) (hk0 : 0 ≤ k.toInt ∧ k.toInt ≤ 10) (hz : gI Bs (20 * dr + one) = some z) (hzy : aM En z yy) : Km (totR En k yy) S (rF_total gi ga vl Bs am N one S) := by
  unfold rF_total
  rw [hkd, zgs, r_sortOf hk0, zbs]
  have H := r_as (gi := gi) (ga := ga) (vl := vl) (am := am) (N := N) (s := sOf k) (by have := sOf_le (k := k); omega) hd h2 hz hzy
  unfold totR
  rcases hr : asR yy (sOf k) with y | f
  · rw [hr] at H
    obtain ⟨o, q1, q2, q3, q4⟩ := H
    rw [q1, zbs]
    have h12 := osz_12 q3
    exact r_total hE hN q2 q3 (osz y) 0 N 0 S h2 (by omega) (by omega)
  · rw [hr] at H
    obtain ⟨q0, q1⟩ := H
    rw [q1, zbs]
    show Km (.inr f) S (rF_total_14 gi ga vl Bs am N N none 0 0 (flM S f))
    obtain ⟨n, hn⟩ : ∃ n, N = n + 1 := ⟨N - 1, by omega⟩
    have : ∀ n, rF_total_14 gi ga vl Bs am N (n + 1) none 0 0 (flM S f) = some (0, flM S f) := by
      intro n
      rw [rF_total_14]
      show (if zI (flM S f) 2 ≠ 0 then some (0, flM S f) else none) = _
      rw [if_pos (flM_2 q0)]
    rw [show rF_total_14 gi ga vl Bs am N N none 0 0 (flM S f) = rF_total_14 gi ga vl Bs am N (n + 1) none 0 0 (flM S f) by rw [← hn], this]
    exact ⟨q0, 0, rfl⟩
theorem r_col (hN : 1000 < N) (hd : zI S 1 = dr) (h2 : zI S 2 = 0) (hz : gI Bs (20 * dr + one) = some z) (hzy : aM En z yy) {j : Int32} : Km (colR yy j) S (rF_column gi ga vl Bs am N one j S) := by
  unfold rF_column
  have H := r_as (gi := gi) (ga := ga) (vl := vl) (am := am) (N := N) (s := 4) (by omega) hd h2 hz hzy
  have H' : rF_as gi ga vl Bs am N one 4 S = rF_as gi ga vl Bs am N one (Int32.ofNat 4) S := rfl
  rw [H']
  unfold colR
  rcases hr : asR yy 4 with y | f
  · rw [hr] at H
    obtain ⟨o, q1, q2, q3, q4⟩ := H
    rw [q1, zbs]
    have h12 := osz_12 q3
    exact r_column q2 q3 (by rcases q4 with h | h <;> omega) (osz y) 0 N 0 S h2 (by omega) (by omega)
  · rw [hr] at H
    obtain ⟨q0, q1⟩ := H
    rw [q1, zbs]
    show Km (.inr f) S (rF_column_9 gi ga vl Bs am N N j none 0 0 (flM S f))
    obtain ⟨n, hn⟩ : ∃ n, N = n + 1 := ⟨N - 1, by omega⟩
    have : ∀ n, rF_column_9 gi ga vl Bs am N (n + 1) j none 0 0 (flM S f) = some (0, flM S f) := by
      intro n
      rw [rF_column_9]
      show (if zI (flM S f) 2 ≠ 0 then some (0, flM S f) else none) = _
      rw [if_pos (flM_2 q0)]
    rw [show rF_column_9 gi ga vl Bs am N N j none 0 0 (flM S f) = rF_column_9 gi ga vl Bs am N (n + 1) j none 0 0 (flM S f) by rw [← hn], this]
    exact ⟨q0, 0, rfl⟩
theorem r_named (hE : eM En am) (hN : 1000 < N) (hd : zI S 1 = dr) (h2 : zI S 2 = 0) (hkd : gI (ga 2) one = some k) (hk0 : 0 ≤ k.toInt ∧ k.toInt ≤ 10) (hz : gI Bs (20 * dr + one) = some z) (hzy : aM En z yy) : Km (nameR En k yy) S (rF_named gi ga vl Bs am N one S) := by
  unfold rF_named nameR
  rw [hkd, zgs]
  by_cases h10 : k = 10
  · rw [if_neg (nn h10), if_pos h10]
    have H := r_as (gi := gi) (ga := ga) (vl := vl) (am := am) (N := N) (s := 7) (by omega) hd h2 hz hzy
    have H' : rF_as gi ga vl Bs am N one 7 S = rF_as gi ga vl Bs am N one (Int32.ofNat 7) S := rfl
    rw [H']
    rcases hr : asR yy 7 with y | f
    · rw [hr] at H
      obtain ⟨o, q1, q2, q3, q4⟩ := H
      rw [q1, zbs]
      have h7 : y.1 = 7 := by rcases q4 with h | h <;> omega
      obtain ⟨n, hn1, hn2⟩ := q3.2.2.2.1 h7
      have hi := r_itemOf (gi := gi) (ga := ga) (vl := vl) (Bs := Bs) (N := N) (S := S) hE q2 q3 (i := 0)
      have hw : wthR En y 0 = .inl (amt En (Int64.ofNat n)) := by
        unfold wthR
        have e4 : ¬ y.1 = 4 := by omega
        have el : osz y = 1 := by unfold osz; rw [if_neg e4, hn2]; rfl
        have e1 := yl_nat (n := n) (by have := hE.1; omega)
        rw [el, if_neg (nn (by decide)), if_neg e4, if_neg (by omega), hn2]
        show (if Int64.ofNat n = -1 then (.inr 1 : Int64 ⊕ Int32) else .inl (amt En (Int64.ofNat n))) = _
        rw [if_neg (by rw [xi64_eq, e1, l_m1]; omega)]
      show Km (if k = 5 then _ else if k = 6 ∨ k = 7 ∨ k = 8 ∨ k = 9 then _ else wthR En y 0) S (if zI S 2 = 0 then (zg (gI o.2.2.1 0) fun x19 => (zg (gI am x19.toInt32) fun x20 => some (x20, S))) else _)
      subst h10
      rw [if_neg (by decide), if_neg (by decide), if_pos h2, hw]
      obtain ⟨jk, ej⟩ := q2.2.2.1
      have g0 : gI o.2.2.1 0 = some (Int64.ofNat n) := by
        show gI o.2.2.1 (Int32.ofNat 0) = _
        rw [gI_nat (by omega), ej, hn2]; rfl
      have h100 := hE.1
      have hen := List.getElem?_eq_getElem hn1
      rw [g0, zgs, i64_32, gI_nat (by omega), hE.2 n _ hen, zgs]
      have : amt En (Int64.ofNat n) = (En[n]).1 := by
        unfold amt
        rw [yl_nat (by omega), Int.toNat_natCast, List.getElem?_map, hen]; rfl
      rw [this]
      rfl
    · rw [hr] at H
      obtain ⟨q0, q1⟩ := H
      rw [q1, zbs]
      show Km (.inr f) S (if zI (flM S f) 2 = 0 then none else some (0, flM S f))
      rw [if_neg (flM_2 q0)]
      exact ⟨q0, 0, rfl⟩
  · rw [if_pos h10, if_neg h10, r_sortOf hk0, zbs]
    have H := r_as (gi := gi) (ga := ga) (vl := vl) (am := am) (N := N) (s := sOf k) (by have := sOf_le (k := k); omega) hd h2 hz hzy
    rcases hr : asR yy (sOf k) with y | f
    · rw [hr] at H
      obtain ⟨o, q1, q2, q3, q4⟩ := H
      rw [q1, zbs]
      have h12 := osz_12 q3
      show Km (if k = 5 then .inl (Int32.ofNat (truN y.2.1)).toInt64 else if k = 6 ∨ k = 7 ∨ k = 8 ∨ k = 9 then .inl (Int32.ofNat (osz y)).toInt64 else wthR En y 0) S (if zI S 2 = 0 then (if 4 < k.toInt then (if k ≠ (5 : Int32) then some (o.2.1.toInt64, S) else (zb (rF_trueOf gi ga vl Bs am N o S) fun x9 S10 => some (x9.toInt64, S10))) else (zb (rF_itemOf gi ga vl Bs am N o 0 S) fun x12 S13 => some (x12, S13))) else _)
      rw [if_pos h2]
      have itm : Km (wthR En y 0) S (zb (rF_itemOf gi ga vl Bs am N o 0 S) fun x12 S13 => some (x12, S13)) := by
        rw [zb_id]
        exact r_itemOf hE q2 q3 (i := 0)
      have siz : Km (.inl (Int32.ofNat (osz y)).toInt64) S (some (o.2.1.toInt64, S)) := by rw [q2.2.1]; rfl
      rcases kind_cases hk0 with rfl | rfl | rfl | rfl | rfl | rfl | rfl | rfl | rfl | rfl | rfl
      · exact itm
      · exact itm
      · exact itm
      · exact itm
      · exact itm
      · have hy : y.1 = 0 := by
          have hw : sOf 5 = 0 := by decide
          rw [hw] at q4
          rcases q4 with h | h <;> omega
        obtain ⟨jk, ej⟩ := q2.2.2.1
        have ez : osz y = y.2.1.length := by unfold osz; rw [if_neg (by omega)]
        have ht : rF_trueOf gi ga vl Bs am N o S = some (Int32.ofNat (truN y.2.1), S) := by
          have := r_trues (gi := gi) (ga := ga) (vl := vl) (Bs := Bs) (am := am) (N := N) (S := S) (o := o) y.2.1 [] jk N 0 (by rw [q2.2.1, ez]; simp) (by rw [ej]; simp) (by simp; omega) (by omega)
          rw [Nat.zero_add] at this
          exact this
        show Km (.inl (Int32.ofNat (truN y.2.1)).toInt64) S (zb (rF_trueOf gi ga vl Bs am N o S) fun x9 S10 => some (x9.toInt64, S10))
        rw [ht, zbs]
        rfl
      · exact siz
      · exact siz
      · exact siz
      · exact siz
      · exact absurd rfl h10
    · rw [hr] at H
      obtain ⟨q0, q1⟩ := H
      rw [q1, zbs]
      show Km (.inr f) S (if zI (flM S f) 2 = 0 then (if 4 < k.toInt then (if k ≠ (5 : Int32) then none else none) else none) else some (0, flM S f))
      rw [if_neg (flM_2 q0)]
      exact ⟨q0, 0, rfl⟩
end ONE
end RASK
