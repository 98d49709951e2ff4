/-! TAKE: pieces of the call; the reference -/
section TKP
variable {X : List Int32} {D : List xE} {F : yF} {fa c sl : Nat} {Q : Option Value → List xE → Prop} {l1 l2 l3 l4 l5 l6 l7 l8 l9 l10 l11 : Option Value}
theorem la_int {lst : Nat} (h : lst ≤ 20) : (Int32.ofNat lst - 1).toInt = (lst : Int) - 1 := by
  cases lst with
  | zero => decide
  | succ q =>
    rw [yi_s1, yi_nat (by omega)]
    omega
theorem tk_f1 {lst : Nat} {x vp : Int32} {al : List Value} (hal : ((211, .inr (8, al)) : xE) ∈ D) (haf : gI al x = some (.ref fa)) (hF : yFM D fa F) (h20 : F.1.length ≤ 20) (hv : 0 ≤ vp.toInt ∧ vp.toInt ≤ 255) (hl : lst ≤ 20) (k : yT X 20 500 287 71 [some (.ref 209), some (.int x), l2, l3, some (.int (Int32.ofNat lst - 1)), l5, some (.int vp), l7, l8, l9, l10, l11] [.int (if (lst : Int) ≤ vp.toInt ∧ (askP F vp).isSome then 1 else 0), .ref 209] D c sl Q) : yT X 20 500 287 43 [some (.ref 209), some (.int x), l2, l3, some (.int (Int32.ofNat lst - 1)), l5, some (.int vp), l7, l8, l9, l10, l11] [] D c sl Q := by
  obtain ⟨pp, q, nm, fn, vl, fE, ⟨_, q2, _⟩, fP, _⟩ := id hF
  obtain ⟨g1, g2, g3, g4, g5⟩ := gI_some haf
  have no : ¬ ((lst : Int) ≤ vp.toInt ∧ (askP F vp).isSome) → yT X 20 500 287 70 [some (.ref 209), some (.int x), l2, l3, some (.int (Int32.ofNat lst - 1)), l5, some (.int vp), l7, l8, l9, l10, l11] [.ref 209] D c sl Q := by
    intro h
    rw [if_neg h] at k
    refine xt_pure rfl rfl rfl (st1 := .int 0 :: _) rfl ?_
    exact k
  refine xt_pure rfl rfl rfl rfl ?_
  refine xt_pure rfl rfl rfl rfl ?_
  refine xt_pure rfl rfl rfl rfl ?_
  refine yt_ic rfl rfl (fun (h : vp.toInt ≤ Int32.toInt _) => ?_) (fun (h : Int32.toInt _ < vp.toInt) => ?_)
  · rw [la_int hl] at h
    exact no (fun g => by omega)
  · rw [la_int hl] at h
    refine xt_pure rfl rfl rfl rfl ?_
    refine xt_pure rfl rfl rfl rfl ?_
    refine xt_getf rfl rfl (xmC 177 rfl) ?_
    refine xt_pure rfl rfl rfl rfl ?_
    refine xt_aald rfl rfl ⟨by decide, rfl⟩ (xmS 0 rfl hal) g5 (v := .ref fa) (by rw [g4]; exact g3) ?_
    refine xt_getf rfl rfl (xmS 0 rfl (ymm fE 0 rfl)) ?_
    refine yt_ic rfl rfl (fun (h2 : Int32.toInt _ ≤ vp.toInt) => ?_) (fun (h2 : vp.toInt < Int32.toInt _) => ?_)
    · rw [yi_nat (by omega)] at h2
      refine no (fun g => ?_)
      rcases ha : askP F vp with _ | P
      · rw [ha] at g; cases g.2
      · have := (askP_some ha).2.1
        omega
    · rw [yi_nat (by omega)] at h2
      obtain ⟨P, hP⟩ : ∃ P, F.1[vp.toInt.toNat]? = some P := ⟨_, List.getElem?_eq_getElem (by omega)⟩
      have tj := yjn (j := vp) hv.1
      refine xt_pure rfl rfl rfl rfl ?_
      refine xt_getf rfl rfl (xmC 177 rfl) ?_
      refine xt_pure rfl rfl rfl rfl ?_
      refine xt_aald rfl rfl ⟨by decide, rfl⟩ (xmS 0 rfl hal) g5 (v := .ref fa) (by rw [g4]; exact g3) ?_
      refine xt_getf rfl rfl (xmS 0 rfl (ymm fE 2 rfl)) ?_
      refine xt_pure rfl rfl rfl rfl ?_
      refine xt_pure rfl rfl rfl (st1 := .int 20 :: _) rfl ?_
      refine yt_ic rfl rfl (fun (h3 : (20 : Int) ≤ vp.toInt) => ?_) (fun _ => ?_)
      · omega
      · skip
        refine xt_pure rfl rfl rfl rfl ?_
        refine xt_pure rfl rfl rfl rfl ?_
        refine xt_iald rfl rfl (xmS 0 rfl (ymm fE 24 rfl)) tj.1 (v := .int P.1) (by rw [tj.2, List.getElem?_map, (fP _ _ hP).1]; rfl) ?_
        refine xt_pure rfl rfl rfl (st1 := .int 11 :: _) rfl ?_
        have hask : askP F vp = if P.1 = 11 then none else some P := by
          rw [askP, ← yi_id hv.1, gI_nat (by omega), hP]
          rfl
        refine yt_ic rfl rfl (fun (h4 : P.1 = 11) => ?_) (fun (h4 : P.1 ≠ 11) => ?_)
        · exact no (fun g => by rw [hask, if_pos h4] at g; cases g.2)
        · rw [if_pos ⟨by omega, by rw [hask, if_neg h4]; rfl⟩] at k
          refine xt_pure rfl rfl rfl (st1 := .int 1 :: _) rfl ?_
          refine xt_pure rfl rfl rfl rfl ?_
          exact k
theorem tk_f2 {sv : Int32} (k : yT X 20 500 287 82 [some (.ref 209), l1, l2, l3, l4, l5, l6, some (.int sv), l8, l9, l10, l11] [.int (if sv.toInt < 8 then 1 else 0), .ref 209] D c sl Q) : yT X 20 500 287 75 [some (.ref 209), l1, l2, l3, l4, l5, l6, some (.int sv), l8, l9, l10, l11] [] D c sl Q := by
  refine xt_pure rfl rfl rfl rfl ?_
  refine xt_pure rfl rfl rfl rfl ?_
  refine xt_pure rfl rfl rfl (st1 := .int 8 :: _) rfl ?_
  refine yt_ic rfl rfl (fun (h : (8 : Int) ≤ sv.toInt) => ?_) (fun (h : sv.toInt < (8 : Int)) => ?_)
  · rw [if_neg (by omega)] at k
    refine xt_pure rfl rfl rfl (st1 := .int 0 :: _) rfl ?_
    exact k
  · rw [if_pos h] at k
    refine xt_pure rfl rfl rfl (st1 := .int 1 :: _) rfl ?_
    refine xt_pure rfl rfl rfl rfl ?_
    exact k
theorem tk_f3 {sv nv : Int32} (k : yT X 20 500 287 104 [some (.ref 209), l1, l2, l3, l4, l5, l6, some (.int sv), some (.int nv), l9, l10, l11] [.int (if nv.toInt ≤ (if sv = 4 then 6 else 12) ∧ (sv = 7 → nv = 1) then 1 else 0), .ref 209] D c sl Q) : yT X 20 500 287 86 [some (.ref 209), l1, l2, l3, l4, l5, l6, some (.int sv), some (.int nv), l9, l10, l11] [] D c sl Q := by
  have no : ¬ (nv.toInt ≤ (if sv = 4 then 6 else 12) ∧ (sv = 7 → nv = 1)) → yT X 20 500 287 103 [some (.ref 209), l1, l2, l3, l4, l5, l6, some (.int sv), some (.int nv), l9, l10, l11] [.ref 209] D c sl Q := by
    intro h
    rw [if_neg h] at k
    refine xt_pure rfl rfl rfl (st1 := .int 0 :: _) rfl ?_
    exact k
  have yes : nv.toInt ≤ (if sv = 4 then 6 else 12) → yT X 20 500 287 95 [some (.ref 209), l1, l2, l3, l4, l5, l6, some (.int sv), some (.int nv), l9, l10, l11] [.ref 209] D c sl Q := by
    intro h
    refine xt_pure rfl rfl rfl rfl ?_
    refine xt_pure rfl rfl rfl (st1 := .int 7 :: _) rfl ?_
    refine yt_ic rfl rfl (fun (h7 : sv ≠ 7) => ?_) (fun (h7 : sv = 7) => ?_)
    · rw [if_pos ⟨h, fun e => absurd e h7⟩] at k
      refine xt_pure rfl rfl rfl (st1 := .int 1 :: _) rfl ?_
      refine xt_pure rfl rfl rfl rfl ?_
      exact k
    · skip
      refine xt_pure rfl rfl rfl rfl ?_
      refine xt_pure rfl rfl rfl (st1 := .int 1 :: _) rfl ?_
      refine yt_ic rfl rfl (fun (h1 : nv ≠ 1) => ?_) (fun (h1 : nv = 1) => ?_)
      · exact no (fun g => h1 (g.2 h7))
      · rw [if_pos ⟨h, fun _ => h1⟩] at k
        refine xt_pure rfl rfl rfl (st1 := .int 1 :: _) rfl ?_
        refine xt_pure rfl rfl rfl rfl ?_
        exact k
  refine xt_pure rfl rfl rfl rfl ?_
  refine xt_pure rfl rfl rfl rfl ?_
  refine xt_pure rfl rfl rfl rfl ?_
  refine xt_pure rfl rfl rfl (st1 := .int 4 :: _) rfl ?_
  refine yt_ic rfl rfl (fun (h4 : sv ≠ 4) => ?_) (fun (h4 : sv = 4) => ?_)
  · skip
    refine xt_pure rfl rfl rfl (st1 := .int 12 :: _) rfl ?_
    refine yt_ic rfl rfl (fun (h : (12 : Int) < nv.toInt) => ?_) (fun (h : nv.toInt ≤ (12 : Int)) => ?_)
    · exact no (fun g => by rw [if_neg h4] at g; omega)
    · exact yes (by rw [if_neg h4]; exact h)
  · skip
    refine xt_pure rfl rfl rfl (st1 := .int 6 :: _) rfl ?_
    refine xt_pure rfl rfl rfl rfl ?_
    refine yt_ic rfl rfl (fun (h : (6 : Int) < nv.toInt) => ?_) (fun (h : nv.toInt ≤ (6 : Int)) => ?_)
    · exact no (fun g => by rw [if_pos h4] at g; omega)
    · exact yes (by rw [if_pos h4]; exact h)
theorem tk_sum {b e : Nat} {dk : List Int32} (he : e ≤ 1200) (hd : dk.length = 1200) (h43 : ((209, .inl (14, 43, .int (Int32.ofNat e))) : xE) ∈ D) (h247 : ((247, .inr (0, dk.map Value.int)) : xE) ∈ D) : ∀ (m j : Nat) (sm : Int32), e - j = m → j ≤ 1200 → (∀ j', yT X 20 500 287 160 [some (.ref 209), l1, l2, l3, l4, l5, l6, l7, l8, some (.ref b), some (.int (smB sm ((dk.drop j).take m))), some (.int j')] [] D c sl Q) → yT X 20 500 287 143 [some (.ref 209), l1, l2, l3, l4, l5, l6, l7, l8, some (.ref b), some (.int sm), some (.int (Int32.ofNat j))] [] D c sl Q
  | 0, j, sm, hj, hj2, k => by
    refine xt_pure rfl rfl rfl rfl ?_
    refine xt_pure rfl rfl rfl rfl ?_
    refine xt_getf rfl rfl (xmS 0 rfl h43) ?_
    refine yt_ic rfl rfl (fun _ => ?_) (fun (h : Int32.toInt _ < Int32.toInt _) => ?_)
    · have := k (Int32.ofNat j)
      rw [List.take_zero] at this
      exact this
    · rw [yi_nat (by omega), yi_nat (by omega)] at h
      omega
  | m + 1, j, sm, hj, hj2, k => by
    obtain ⟨w, hw⟩ : ∃ w, dk[j]? = some w := ⟨_, List.getElem?_eq_getElem (by omega)⟩
    have hdr : dk.drop j = w :: dk.drop (j + 1) := by
      rw [List.drop_eq_getElem_cons (by omega)]
      congr 1
      rw [List.getElem?_eq_getElem (by omega)] at hw
      injection hw
    have tj := yjn (j := Int32.ofNat j) (by rw [yi_nat (by omega)]; omega)
    refine xt_pure rfl rfl rfl rfl ?_
    refine xt_pure rfl rfl rfl rfl ?_
    refine xt_getf rfl rfl (xmS 0 rfl h43) ?_
    refine yt_ic rfl rfl (fun (h : Int32.toInt _ ≤ Int32.toInt _) => ?_) (fun _ => ?_)
    · rw [yi_nat (by omega), yi_nat (by omega)] at h
      omega
    · skip
      refine xt_pure rfl rfl rfl (st1 := .int 31 :: _) rfl ?_
      refine xt_pure rfl rfl rfl rfl ?_
      refine xt_pure rfl rfl rfl rfl ?_
      refine xt_pure rfl rfl rfl rfl ?_
      refine xt_getf rfl rfl (xmC 196 rfl) ?_
      refine xt_pure rfl rfl rfl rfl ?_
      refine xt_iald rfl rfl (xmS 0 rfl h247) tj.1 (v := .int w) (by rw [tj.2, yi_toNat (by omega), List.getElem?_map, hw]; rfl) ?_
      refine xt_pure rfl rfl rfl rfl ?_
      refine xt_pure rfl rfl rfl rfl ?_
      refine xt_pure rfl rfl rfl rfl ?_
      refine xt_pure rfl rfl rfl (L1 := [_, _, _, _, _, _, _, _, _, _, _, _]) rfl ?_
      refine xt_pure rfl rfl rfl (L1 := [_, _, _, _, _, _, _, _, _, _, _, some (.int (_ + 1))]) rfl ?_
      refine xt_pure rfl rfl rfl rfl ?_
      rw [yi_add1]
      refine tk_sum he hd h43 h247 m (j + 1) _ (by omega) (by omega) ?_
      intro j'
      have := k j'
      rw [hdr, List.take_succ_cons, smB, Int32.mul_comm sm 31] at this
      exact this
end TKP
