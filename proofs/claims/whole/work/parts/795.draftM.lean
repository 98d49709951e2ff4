/-! DRAFT: the reference -/
/-- so many answers made NOTHING -/
def nul (mr : List Value) (a : Nat) : Nat → List Value
  | 0 => mr
  | i + 1 => (nul mr a i).set (a + i) .null
theorem nul_len {mr : List Value} {a : Nat} : ∀ i, (nul mr a i).length = mr.length
  | 0 => rfl
  | i + 1 => by rw [nul, List.length_set, nul_len i]
theorem nul_in {mr : List Value} {a p : Nat} : ∀ i, p < i → a + p < mr.length → (nul mr a i)[a + p]? = some .null
  | 0, h, _ => by omega
  | i + 1, h, hl => by
    rw [nul]
    by_cases e : p = i
    · subst e
      rw [List.getElem?_set_self (by rw [nul_len]; exact hl)]
    · rw [List.getElem?_set_ne (by omega)]
      exact nul_in i (by omega) hl
theorem nul_out {mr : List Value} {a p : Nat} : ∀ i, p < a ∨ a + i ≤ p → (nul mr a i)[p]? = mr[p]?
  | 0, _ => rfl
  | i + 1, h => by
    rw [nul, List.getElem?_set_ne (by omega)]
    exact nul_out i (by omega)
section DRAFTM
variable {X : List Int32} {D0 : List xE} {Fs : List yF} {x : Int32} {n : Nat}
theorem set_id {α : Type} {l : List α} {k : Nat} {a : α} (h : l[k]? = some a) : l.set k a = l := by
  apply List.ext_getElem?
  intro i
  by_cases e : k = i
  · subst e
    rw [List.getElem?_set_self (List.getElem?_eq_some_iff.mp h).1, h]
  · rw [List.getElem?_set_ne e]
theorem emp_loop {fr lo k d : Nat} {mr : List Value} {Q : Option Value → List xE → Prop} (hd : d < 31) (hl : mr.length = 620) (hQ : ∀ D : List xE, D = D0.set k (239, .inr (10, nul mr (20 * d) 20)) → Q none D) : ∀ (m i : Nat) (D : List xE), i + m = 20 → D[k]? = some (239, .inr (10, nul mr (20 * d) i)) → (D.set k (239, .inr (10, nul mr (20 * d) 20))) = D0.set k (239, .inr (10, nul mr (20 * d) 20)) → yT X fr lo 268 22 [some (.ref 209), some (.int (Int32.ofNat d)), some (.int x), some (.int (Int32.ofNat i))] [] D 0 0 Q
  | 0, i, D, hi, hk, hD => by
    have e : i = 20 := by omega
    subst e
    refine xt_pure rfl rfl rfl rfl ?_
    refine xt_pure rfl rfl rfl (st1 := .int 20 :: _) rfl ?_
    refine yt_ic rfl rfl ?_ ?_
    · intro _
      refine xt_vret rfl rfl rfl (hQ D ?_)
      rw [← hD]
      exact (set_id hk).symm
    · intro (h : Int32.toInt _ < (20 : Int))
      exact absurd h (by decide)
  | m + 1, i, D, hi, hk, hD => by
    have ti := yi_nat (i := i) (by omega)
    have tx : (20 : Int32) * Int32.ofNat d + Int32.ofNat i = Int32.ofNat (20 * d + i) := by rw [Int32.ofNat_add, Int32.ofNat_mul]; rfl
    have t2 := yi_nat (i := 20 * d + i) (by omega)
    have t3 : (Int32.ofNat (20 * d + i)).toInt.toNat = 20 * d + i := yi_toNat (by omega)
    refine xt_pure rfl rfl rfl rfl ?_
    refine xt_pure rfl rfl rfl (st1 := .int 20 :: _) rfl ?_
    refine yt_ic rfl rfl ?_ ?_
    · intro (h : (20 : Int) ≤ Int32.toInt _)
      rw [ti] at h
      omega
    · intro _
      refine xt_pure rfl rfl rfl rfl ?_
      refine xt_getf rfl rfl (xmC 188 rfl) ?_
      refine xt_pure rfl rfl rfl (st1 := .int 20 :: _) rfl ?_
      refine xt_pure rfl rfl rfl rfl ?_
      refine xt_pure rfl rfl rfl rfl ?_
      refine xt_pure rfl rfl rfl rfl ?_
      refine xt_pure rfl rfl rfl rfl ?_
      refine xt_pure rfl rfl rfl rfl ?_
      rw [tx]
      refine yt_ast rfl rfl k hk rfl (by decide) rfl ⟨by rw [t2]; omega, by rw [t2, nul_len]; omega⟩ (D1 := D.set k (239, .inr (10, nul mr (20 * d) (i + 1)))) (by rw [t3]; rfl) ?_
      refine xt_pure rfl rfl rfl (L1 := [_, _, _, some (.int (_ + 1))]) rfl ?_
      rw [yi_add1]
      refine xt_pure rfl rfl rfl rfl ?_
      exact emp_loop hd hl hQ m (i + 1) _ (by omega) (sat_set hk) (by rw [List.set_set]; exact hD)
theorem mk_emptied {d : Nat} (hd : d < 31) {k0 : Nat} {of : List Int32} (hk0 : D0[k0]? = some (238, .inr (0, of.map Value.int))) (hl0 : of.length = 31) {k1 : Nat} {fi : List Int32} (hk1 : D0[k1]? = some (240, .inr (3, fi.map Value.int))) (hl1 : fi.length = 31) {k2 : Nat} {rc : List Int32} (hk2 : D0[k2]? = some (241, .inr (0, rc.map Value.int))) (hl2 : rc.length = 31) {k3 : Nat} {sg : List Int32} (hk3 : D0[k3]? = some (242, .inr (0, sg.map Value.int))) (hl3 : sg.length = 31) {k4 : Nat} {mr : List Value} (hk4 : D0[k4]? = some (239, .inr (10, mr))) (hl4 : mr.length = 620) : yK X 0 0 268 [.ref 209, .int (Int32.ofNat d), .int x] D0 0 0 (fun a D => a = none ∧ D = (((((D0.set k0 (238, .inr (0, (of.set d x).map Value.int))).set k1 (240, .inr (3, (fi.set d 0).map Value.int))).set k2 (241, .inr (0, (rc.set d (-9)).map Value.int))).set k3 (242, .inr (0, (sg.set d 0).map Value.int))).set k4 (239, .inr (10, nul mr (20 * d) 20)))) := by
  have ti := yi_nat (i := d) (by omega)
  have tn : (Int32.ofNat d).toInt.toNat = d := yi_toNat (by omega)
  refine yK.of rfl (yle rfl) (L := [_, _, _, _]) rfl ?_
  refine xt_pure rfl rfl rfl rfl ?_
  refine xt_getf rfl rfl (xmC 187 rfl) ?_
  refine xt_pure rfl rfl rfl rfl ?_
  refine xt_pure rfl rfl rfl rfl ?_
  refine yt_ist rfl rfl k0 hk0 ⟨by rw [ti]; omega, by rw [ti]; omega⟩ (D1 := (D0.set k0 (238, .inr (0, (of.set d x).map Value.int)))) (by rw [tn]) ?_
  have g1_1 := ot_set (n := (238, .inr (0, (of.set d x).map Value.int))) hk0 hk1 (by simp)
  have g1_2 := ot_set (n := (238, .inr (0, (of.set d x).map Value.int))) hk0 hk2 (by simp)
  have g1_3 := ot_set (n := (238, .inr (0, (of.set d x).map Value.int))) hk0 hk3 (by simp)
  have g1_4 := ot_set (n := (238, .inr (0, (of.set d x).map Value.int))) hk0 hk4 (by simp)
  refine xt_pure rfl rfl rfl rfl ?_
  refine xt_getf rfl rfl (xmC 189 rfl) ?_
  refine xt_pure rfl rfl rfl rfl ?_
  refine xt_pure rfl rfl rfl (st1 := .int 0 :: _) rfl ?_
  refine yt_bst rfl rfl k1 g1_1 (by decide) ⟨by rw [ti]; omega, by rw [ti]; omega⟩ (D1 := ((D0.set k0 (238, .inr (0, (of.set d x).map Value.int))).set k1 (240, .inr (3, (fi.set d 0).map Value.int)))) (by rw [tn]) ?_
  have g2_2 := ot_set (n := (240, .inr (3, (fi.set d 0).map Value.int))) g1_1 g1_2 (by simp)
  have g2_3 := ot_set (n := (240, .inr (3, (fi.set d 0).map Value.int))) g1_1 g1_3 (by simp)
  have g2_4 := ot_set (n := (240, .inr (3, (fi.set d 0).map Value.int))) g1_1 g1_4 (by simp)
  refine xt_pure rfl rfl rfl rfl ?_
  refine xt_getf rfl rfl (xmC 190 rfl) ?_
  refine xt_pure rfl rfl rfl rfl ?_
  refine xt_pure rfl rfl rfl (st1 := .int (-9) :: _) rfl ?_
  refine yt_ist rfl rfl k2 g2_2 ⟨by rw [ti]; omega, by rw [ti]; omega⟩ (D1 := (((D0.set k0 (238, .inr (0, (of.set d x).map Value.int))).set k1 (240, .inr (3, (fi.set d 0).map Value.int))).set k2 (241, .inr (0, (rc.set d (-9)).map Value.int)))) (by rw [tn]) ?_
  have g3_3 := ot_set (n := (241, .inr (0, (rc.set d (-9)).map Value.int))) g2_2 g2_3 (by simp)
  have g3_4 := ot_set (n := (241, .inr (0, (rc.set d (-9)).map Value.int))) g2_2 g2_4 (by simp)
  refine xt_pure rfl rfl rfl rfl ?_
  refine xt_getf rfl rfl (xmC 191 rfl) ?_
  refine xt_pure rfl rfl rfl rfl ?_
  refine xt_pure rfl rfl rfl (st1 := .int 0 :: _) rfl ?_
  refine yt_ist rfl rfl k3 g3_3 ⟨by rw [ti]; omega, by rw [ti]; omega⟩ (D1 := ((((D0.set k0 (238, .inr (0, (of.set d x).map Value.int))).set k1 (240, .inr (3, (fi.set d 0).map Value.int))).set k2 (241, .inr (0, (rc.set d (-9)).map Value.int))).set k3 (242, .inr (0, (sg.set d 0).map Value.int)))) (by rw [tn]) ?_
  have g4_4 := ot_set (n := (242, .inr (0, (sg.set d 0).map Value.int))) g3_3 g3_4 (by simp)
  refine xt_pure rfl rfl rfl (st1 := .int 0 :: _) rfl ?_
  refine xt_pure rfl rfl rfl (L1 := [_, _, _, _]) rfl ?_
  exact emp_loop (D0 := ((((D0.set k0 (238, .inr (0, (of.set d x).map Value.int))).set k1 (240, .inr (3, (fi.set d 0).map Value.int))).set k2 (241, .inr (0, (rc.set d (-9)).map Value.int))).set k3 (242, .inr (0, (sg.set d 0).map Value.int)))) hd hl4 (fun D h => ⟨rfl, h⟩) 20 0 _ rfl g4_4 rfl
theorem mK_draft (hFl : Fs.length ≤ 10) (hF : ((209, .inl (14, 7, .int (Int32.ofNat Fs.length))) : xE) ∈ D0) (hn : n ≤ 30) {j : Nat} (hj : D0[j]? = some (209, .inl (14, 26, .int (Int32.ofNat n)))) {k0 : Nat} {of : List Int32} (hk0 : D0[k0]? = some (238, .inr (0, of.map Value.int))) (hl0 : of.length = 31) {k1 : Nat} {fi : List Int32} (hk1 : D0[k1]? = some (240, .inr (3, fi.map Value.int))) (hl1 : fi.length = 31) {k2 : Nat} {rc : List Int32} (hk2 : D0[k2]? = some (241, .inr (0, rc.map Value.int))) (hl2 : rc.length = 31) {k3 : Nat} {sg : List Int32} (hk3 : D0[k3]? = some (242, .inr (0, sg.map Value.int))) (hl3 : sg.length = 31) {k4 : Nat} {mr : List Value} (hk4 : D0[k4]? = some (239, .inr (10, mr))) (hl4 : mr.length = 620) : yK X 3 150 267 [.ref 209, .int x] D0 0 0 (fun a D => (gI Fs x = none ∧ a = some (.int (-1)) ∧ D = D0) ∨ (∃ F, gI Fs x = some F ∧ n = 30 ∧ a = some (.int (-3)) ∧ D = D0) ∨ ∃ F, gI Fs x = some F ∧ n < 30 ∧ a = some (.int (Int32.ofNat n)) ∧ D = (((((D0.set k0 (238, .inr (0, (of.set n x).map Value.int))).set k1 (240, .inr (3, (fi.set n 0).map Value.int))).set k2 (241, .inr (0, (rc.set n (-9)).map Value.int))).set k3 (242, .inr (0, (sg.set n 0).map Value.int))).set k4 (239, .inr (10, nul mr (20 * n) 20))).set j (209, .inl (14, 26, .int (Int32.ofNat (n + 1))))) := by
  refine yK.of rfl (yle rfl) (L := [_, _]) rfl ?_
  refine xt_pure rfl rfl rfl rfl ?_
  refine xt_pure rfl rfl rfl rfl ?_
  refine xt_callV rfl rfl rfl rfl (xmC 176 rfl) ⟨rfl, rfl, yle rfl, yle rfl, yle rfl, yle rfl⟩ (mk_isForm (n := Fs.length) (by omega) hF) (c2 := 0) (s2 := 0) ⟨yle rfl, yle rfl⟩ ?_
  rintro _ _ (⟨rfl, hd, rfl⟩ | ⟨rfl, hd, rfl⟩)
  rotate_left
  · skip
    refine xt_pure rfl rfl rfl rfl ?_
    refine xt_pure rfl rfl rfl (st1 := .int (-1) :: _) rfl ?_
    exact xt_iret rfl rfl rfl rfl (Or.inl ⟨gI_out (by omega), rfl, rfl⟩)
  · obtain ⟨F, hx⟩ := gI_iff.mpr (show 0 ≤ x.toInt ∧ x.toInt < Fs.length from hd)
    have ti := yi_nat (i := n) (by omega)
    refine xt_pure rfl rfl rfl rfl ?_
    refine xt_pure rfl rfl rfl rfl ?_
    refine xt_getf rfl rfl (xmS 0 rfl (List.mem_of_getElem? hj)) ?_
    refine xt_pure rfl rfl rfl (st1 := .int 30 :: _) rfl ?_
    refine yt_ic rfl rfl ?_ ?_
    rotate_left
    · intro (h7 : Int32.ofNat n = 30)
      have h8 := congrArg Int32.toInt h7
      rw [ti, show (30 : Int32).toInt = 30 from rfl] at h8
      refine xt_pure rfl rfl rfl (st1 := .int (-3) :: _) rfl ?_
      exact xt_iret rfl rfl rfl rfl (Or.inr (Or.inl ⟨F, hx, by omega, rfl, rfl⟩))
    · intro (h7 : Int32.ofNat n ≠ 30)
      have h8 : n < 30 := by
        rcases Nat.lt_or_ge n 30 with h | h
        · exact h
        · exact absurd (by rw [show n = 30 by omega]; rfl) h7
      refine xt_pure rfl rfl rfl rfl ?_
      refine xt_pure rfl rfl rfl rfl ?_
      refine xt_getf rfl rfl (xmS 0 rfl (List.mem_of_getElem? hj)) ?_
      refine xt_pure rfl rfl rfl rfl ?_
      refine xt_callV rfl rfl rfl rfl (xmC 176 rfl) ⟨rfl, rfl, yle rfl, yle rfl, yle rfl, yle rfl⟩ (mk_emptied (d := n) (by omega) hk0 hl0 hk1 hl1 hk2 hl2 hk3 hl3 hk4 hl4) (c2 := 0) (s2 := 0) ⟨yle rfl, yle rfl⟩ ?_
      rintro _ _ ⟨rfl, rfl⟩
      have g1_1 := ot_set (n := (238, .inr (0, (of.set n x).map Value.int))) hk0 hk1 (by simp)
      have g1_2 := ot_set (n := (238, .inr (0, (of.set n x).map Value.int))) hk0 hk2 (by simp)
      have g1_3 := ot_set (n := (238, .inr (0, (of.set n x).map Value.int))) hk0 hk3 (by simp)
      have g1_4 := ot_set (n := (238, .inr (0, (of.set n x).map Value.int))) hk0 hk4 (by simp)
      have j1 := ot_set (n := (238, .inr (0, (of.set n x).map Value.int))) hk0 hj (by simp)
      have g2_2 := ot_set (n := (240, .inr (3, (fi.set n 0).map Value.int))) g1_1 g1_2 (by simp)
      have g2_3 := ot_set (n := (240, .inr (3, (fi.set n 0).map Value.int))) g1_1 g1_3 (by simp)
      have g2_4 := ot_set (n := (240, .inr (3, (fi.set n 0).map Value.int))) g1_1 g1_4 (by simp)
      have j2 := ot_set (n := (240, .inr (3, (fi.set n 0).map Value.int))) g1_1 j1 (by simp)
      have g3_3 := ot_set (n := (241, .inr (0, (rc.set n (-9)).map Value.int))) g2_2 g2_3 (by simp)
      have g3_4 := ot_set (n := (241, .inr (0, (rc.set n (-9)).map Value.int))) g2_2 g2_4 (by simp)
      have j3 := ot_set (n := (241, .inr (0, (rc.set n (-9)).map Value.int))) g2_2 j2 (by simp)
      have g4_4 := ot_set (n := (242, .inr (0, (sg.set n 0).map Value.int))) g3_3 g3_4 (by simp)
      have j4 := ot_set (n := (242, .inr (0, (sg.set n 0).map Value.int))) g3_3 j3 (by simp)
      have j5 := ot_set (n := (239, .inr (10, nul mr (20 * n) 20))) g4_4 j4 (by simp)
      refine xt_pure rfl rfl rfl rfl ?_
      refine xt_pure rfl rfl rfl rfl ?_
      refine xt_getf rfl rfl (xmS 0 rfl (List.mem_of_getElem? j5)) ?_
      refine xt_pure rfl rfl rfl (st1 := .int 1 :: _) rfl ?_
      refine xt_pure rfl rfl rfl rfl ?_
      refine xt_putf rfl rfl rfl rfl j j5 rfl ?_
      refine xt_pure rfl rfl rfl rfl ?_
      refine xt_getf rfl rfl (xmS 0 rfl (List.mem_of_getElem? (sat_set j5))) ?_
      refine xt_pure rfl rfl rfl (st1 := .int 1 :: _) rfl ?_
      refine xt_pure rfl rfl rfl rfl ?_
      rw [yi_add1, yi_s1]
      exact xt_iret rfl rfl rfl rfl (Or.inr (Or.inr ⟨F, hx, h8, rfl, rfl⟩))
end DRAFTM
