/-! FORM: the reference -/
theorem range_fm {α : Type} : ∀ (l : List α), (List.range l.length).filterMap (fun i => l[i]?) = l
  | [] => rfl
  | x :: l => by
    rw [List.length_cons, List.range_succ_eq_map, List.filterMap_cons, List.filterMap_map]
    show x :: (List.range l.length).filterMap (fun i => l[i]?) = x :: l
    rw [range_fm l]
/-- lists that are one but for their order -/
theorem permI {α : Type} {l l2 : List α} {n : Nat} (is : List Nat) (hn : l.length = n) (h : is.isPerm (List.range n) = true) (e : is.filterMap (fun i => l[i]?) = l2) : l.Perm l2 := by
  subst hn
  have h1 := (List.isPerm_iff.mp h).filterMap (fun i => l[i]?)
  rw [range_fm, e] at h1
  exact h1.symm
/-- a form that is new in the view -/
def zNew (S : zS) : zS := (fun i => if i < 14 then zI S i else 0, S.2.1, S.2.2.1, fun i => if i < 14 then zA S i else if i ≤ 22 then List.replicate 20 0 else if i ≤ 28 then List.replicate 12 0 else List.replicate 300 0, fun i => if i < 14 then zB S i else if i ≤ 15 then List.replicate 20 0 else if i ≤ 24 then List.replicate 12 0 else List.replicate 300 0, S.2.2.2.2.2)
theorem zNew_I {S : zS} {i : Nat} (h : i < 14) : zI (zNew S) i = zI S i := if_pos h
theorem zNew_A {S : zS} {i : Nat} (h : i < 14) : zA (zNew S) i = zA S i := if_pos h
theorem zNew_B {S : zS} {i : Nat} (h : i < 14) : zB (zNew S) i = zB S i := if_pos h
theorem zNew_0 {S : zS} {i : Nat} (h : ¬ i < 14) : zI (zNew S) i = 0 := if_neg h
theorem zNew_A20 {S : zS} {i : Nat} (h : ¬ i < 14) (h2 : i ≤ 22) : zA (zNew S) i = List.replicate 20 0 := (if_neg h).trans (if_pos h2)
theorem zNew_A12 {S : zS} {i : Nat} (h : ¬ i < 14) (h2 : ¬ i ≤ 22) (h3 : i ≤ 28) : zA (zNew S) i = List.replicate 12 0 := (if_neg h).trans ((if_neg h2).trans (if_pos h3))
theorem zNew_A300 {S : zS} {i : Nat} (h : ¬ i < 14) (h2 : ¬ i ≤ 22) (h3 : ¬ i ≤ 28) : zA (zNew S) i = List.replicate 300 0 := (if_neg h).trans ((if_neg h2).trans (if_neg h3))
theorem zNew_B20 {S : zS} {i : Nat} (h : ¬ i < 14) (h2 : i ≤ 15) : zB (zNew S) i = List.replicate 20 0 := (if_neg h).trans (if_pos h2)
theorem zNew_B12 {S : zS} {i : Nat} (h : ¬ i < 14) (h2 : ¬ i ≤ 15) (h3 : i ≤ 24) : zB (zNew S) i = List.replicate 12 0 := (if_neg h).trans ((if_neg h2).trans (if_pos h3))
theorem zNew_B300 {S : zS} {i : Nat} (h : ¬ i < 14) (h2 : ¬ i ≤ 15) (h3 : ¬ i ≤ 24) : zB (zNew S) i = List.replicate 300 0 := (if_neg h).trans ((if_neg h2).trans (if_neg h3))
def zaQ0 : Nat → Nat := zaQ 0 (fun _ => 0)
def fmS (n : Nat) (m : Nat → Nat) (S : zS) : List xE := [((m 22), .inr (0, (zA S 36).map Value.int)), ((m 21), .inr (0, (zA S 35).map Value.int)), ((m 20), .inr (1, (zB S 34).map Value.long)), ((m 19), .inr (0, (zA S 33).map Value.int)), ((m 14), .inr (0, (zA S 28).map Value.int)), ((m 13), .inr (0, (zA S 27).map Value.int)), ((m 11), .inr (0, (zA S 25).map Value.int)), ((m 10), .inr (1, (zB S 24).map Value.long)), ((m 8), .inr (0, (zA S 22).map Value.int)), ((m 7), .inr (0, (zA S 21).map Value.int)), ((m 6), .inr (0, (zA S 20).map Value.int)), ((m 5), .inr (0, (zA S 19).map Value.int)), ((m 4), .inr (3, (zA S 18).map Value.int)), ((m 3), .inr (0, (zA S 17).map Value.int)), ((m 2), .inr (0, (zA S 16).map Value.int)), ((m 1), .inr (1, (zB S 15).map Value.long)), (n, .inl (12, 0, .int (zI S 14))), (n, .inl (12, 1, .ref (m 1))), (n, .inl (12, 2, .ref (m 2))), (n, .inl (12, 3, .ref (m 3))), (n, .inl (12, 4, .ref (m 4))), (n, .inl (12, 5, .ref (m 5))), (n, .inl (12, 6, .ref (m 6))), (n, .inl (12, 7, .ref (m 7))), (n, .inl (12, 8, .ref (m 8))), (n, .inl (12, 9, .int (zI S 23))), (n, .inl (12, 10, .ref (m 10))), (n, .inl (12, 11, .ref (m 11))), (n, .inl (12, 12, .int (zI S 26))), (n, .inl (12, 13, .ref (m 13))), (n, .inl (12, 14, .ref (m 14))), (n, .inl (12, 15, .int (zI S 29))), (n, .inl (12, 16, .int (zI S 30))), (n, .inl (12, 17, .int (zI S 31))), (n, .inl (12, 18, .int (zI S 32))), (n, .inl (12, 19, .ref (m 19))), (n, .inl (12, 20, .ref (m 20))), (n, .inl (12, 21, .ref (m 21))), (n, .inl (12, 22, .ref (m 22)))]
def stS (S : zS) : List xE := [(209, .inl (14, 1, .int (zI S 0))), (210, .inr (2, (zA S 1).map Value.int)), (209, .inl (14, 2, .int (zI S 2))), (209, .inl (14, 3, .int (zI S 3))), (209, .inl (14, 4, .int (zI S 4))), (209, .inl (14, 5, .int (zI S 5))), (209, .inl (14, 6, .int (zI S 6))), (209, .inl (14, 12, .int (zI S 7))), (209, .inl (14, 13, .int (zI S 8))), (209, .inl (14, 14, .int (zI S 9))), (230, .inr (1, (zB S 10).map Value.long)), (231, .inr (0, (zA S 11).map Value.int)), (232, .inr (0, (zA S 12).map Value.int)), (233, .inr (0, (zA S 13).map Value.int))]
theorem stS_eq {S : zS} : zE zaQ0 S 0 (zTQ.take 14) = stS S := rfl
def vwS (n : Nat) (m : Nat → Nat) (S : zS) : List xE := [(209, .inl (14, 1, .int (zI S 0))), (210, .inr (2, (zA S 1).map Value.int)), (209, .inl (14, 2, .int (zI S 2))), (209, .inl (14, 3, .int (zI S 3))), (209, .inl (14, 4, .int (zI S 4))), (209, .inl (14, 5, .int (zI S 5))), (209, .inl (14, 6, .int (zI S 6))), (209, .inl (14, 12, .int (zI S 7))), (209, .inl (14, 13, .int (zI S 8))), (209, .inl (14, 14, .int (zI S 9))), (230, .inr (1, (zB S 10).map Value.long)), (231, .inr (0, (zA S 11).map Value.int)), (232, .inr (0, (zA S 12).map Value.int)), (233, .inr (0, (zA S 13).map Value.int)), (n, .inl (12, 0, .int (zI S 14))), ((m 1), .inr (1, (zB S 15).map Value.long)), ((m 2), .inr (0, (zA S 16).map Value.int)), ((m 3), .inr (0, (zA S 17).map Value.int)), ((m 4), .inr (3, (zA S 18).map Value.int)), ((m 5), .inr (0, (zA S 19).map Value.int)), ((m 6), .inr (0, (zA S 20).map Value.int)), ((m 7), .inr (0, (zA S 21).map Value.int)), ((m 8), .inr (0, (zA S 22).map Value.int)), (n, .inl (12, 9, .int (zI S 23))), ((m 10), .inr (1, (zB S 24).map Value.long)), ((m 11), .inr (0, (zA S 25).map Value.int)), (n, .inl (12, 12, .int (zI S 26))), ((m 13), .inr (0, (zA S 27).map Value.int)), ((m 14), .inr (0, (zA S 28).map Value.int)), (n, .inl (12, 15, .int (zI S 29))), (n, .inl (12, 16, .int (zI S 30))), (n, .inl (12, 17, .int (zI S 31))), (n, .inl (12, 18, .int (zI S 32))), ((m 19), .inr (0, (zA S 33).map Value.int)), ((m 20), .inr (1, (zB S 34).map Value.long)), ((m 21), .inr (0, (zA S 35).map Value.int)), ((m 22), .inr (0, (zA S 36).map Value.int))]
theorem vwS_eq {S : zS} {n : Nat} {m : Nat → Nat} : zE (zaQ n m) S 0 zTQ = vwS n m S := rfl
theorem fmS_eq {S : zS} {n : Nat} {m : Nat → Nat} : fmS n m (zNew S) = fmN n m := by
  unfold fmS fmN
  rw [zNew_0 (i := 14) (by decide), zNew_B20 (i := 15) (by decide) (by decide), zNew_A20 (i := 16) (by decide) (by decide), zNew_A20 (i := 17) (by decide) (by decide), zNew_A20 (i := 18) (by decide) (by decide), zNew_A20 (i := 19) (by decide) (by decide), zNew_A20 (i := 20) (by decide) (by decide), zNew_A20 (i := 21) (by decide) (by decide), zNew_A20 (i := 22) (by decide) (by decide), zNew_0 (i := 23) (by decide), zNew_B12 (i := 24) (by decide) (by decide) (by decide), zNew_A12 (i := 25) (by decide) (by decide) (by decide), zNew_0 (i := 26) (by decide), zNew_A12 (i := 27) (by decide) (by decide) (by decide), zNew_A12 (i := 28) (by decide) (by decide) (by decide), zNew_0 (i := 29) (by decide), zNew_0 (i := 30) (by decide), zNew_0 (i := 31) (by decide), zNew_0 (i := 32) (by decide), zNew_A300 (i := 33) (by decide) (by decide) (by decide), zNew_B300 (i := 34) (by decide) (by decide) (by decide), zNew_A300 (i := 35) (by decide) (by decide) (by decide), zNew_A300 (i := 36) (by decide) (by decide) (by decide)]
theorem stS_new {S : zS} : stS (zNew S) = stS S := by
  unfold stS
  rw [zNew_I (i := 0) (by decide), zNew_A (i := 1) (by decide), zNew_I (i := 2) (by decide), zNew_I (i := 3) (by decide), zNew_I (i := 4) (by decide), zNew_I (i := 5) (by decide), zNew_I (i := 6) (by decide), zNew_I (i := 7) (by decide), zNew_I (i := 8) (by decide), zNew_I (i := 9) (by decide), zNew_B (i := 10) (by decide), zNew_A (i := 11) (by decide), zNew_A (i := 12) (by decide), zNew_A (i := 13) (by decide)]
theorem new_perm0 {S : zS} {n : Nat} {m : Nat → Nat} {e1 e2 e3 e4 : xE} : (fmS n m S ++ (stS S ++ [e1, e2, e3, e4])).Perm (vwS n m S ++ ([e1, e2, e3, e4] ++ zgQ n m)) := permI (n := 57) [39, 40, 41, 42, 43, 44, 45, 46, 47, 48, 49, 50, 51, 52, 16, 15, 14, 13, 12, 11, 10, 9, 8, 25, 7, 6, 28, 5, 4, 31, 32, 33, 34, 3, 2, 1, 0, 53, 54, 55, 56, 17, 18, 19, 20, 21, 22, 23, 24, 26, 27, 29, 30, 35, 36, 37, 38] rfl (by decide +kernel) rfl
theorem new_perm {S : zS} {n : Nat} {m : Nat → Nat} {D2 : List xE} {e1 e2 e3 e4 : xE} : (fmN n m ++ zD (zTQ.take 14) zaQ0 S (e1 :: e2 :: e3 :: e4 :: D2)).Perm (zD zTQ (zaQ n m) (zNew S) (e1 :: e2 :: e3 :: e4 :: (zgQ n m ++ D2))) := by
  have h := (new_perm0 (S := zNew S) (n := n) (m := m) (e1 := e1) (e2 := e2) (e3 := e3) (e4 := e4)).append_right D2
  rw [fmS_eq, stS_new, ← stS_eq, ← vwS_eq, List.append_assoc, List.append_assoc, List.append_assoc, List.append_assoc] at h
  exact h
section FORMM
variable {X : List Int32} {a N fr lo : Nat} {p : Nat → Nat} {S S2 : zS} {x kk rr : Int32} {fl : List Value} {D2 : List xE}
theorem yForm_M1 {T : List (Nat × Nat × Nat)} {ad : Nat → Nat} (hT : T[0]? = some (0, 14, 1)) (had : ad 0 = 209) (hk : kk = 10) : yK X fr lo 210 [.ref 209] (zD T ad S ((209, .inl (14, 9, .ref a)) :: (209, .inl (14, 10, .int x)) :: (209, .inl (14, 7, .int kk)) :: (211, .inr (8, fl)) :: D2)) 0 0 (zQi T ad ((209, .inl (14, 9, .ref a)) :: (209, .inl (14, 10, .int x)) :: (209, .inl (14, 7, .int kk)) :: (211, .inr (8, fl)) :: D2) (-3) (zsI S 0 0)) := by
  refine yK.of rfl (yle rfl) (L := [_]) rfl ?_
  refine xt_pure rfl rfl rfl rfl ?_
  refine xt_getf rfl rfl (zmr (List.mem_of_getElem? (i := 2) rfl)) ?_
  refine xt_pure rfl rfl rfl (st1 := .int 10 :: _) rfl ?_
  refine xt_ic rfl rfl (fun hb => absurd hk hb) (fun hb => ?_)
  refine xt_pure rfl rfl rfl rfl ?_
  refine xt_pure rfl rfl rfl (st1 := .int 0 :: _) rfl ?_
  refine zt_pI 0 rfl rfl rfl rfl hT had ?_
  refine xt_pure rfl rfl rfl (st1 := .int (-3) :: _) rfl ?_
  exact xt_iret rfl rfl rfl rfl ⟨rfl, rfl⟩
/-- from where its form is at hand: THE FAULT -/
theorem yForm_MF (hf : 13 + 7 * (N / 16) ≤ fr) (hl : 342 + 158 * (N / 16) ≤ lo) (hG : ∀ e ∈ zgQ a p, e ∈ D2) (hR : rQ_form N S = some ((), S2)) (hr : 0 ≤ (zI S2 6).toInt) : yT X fr lo 210 20 [some (.ref 209)] [] (zD zTQ (zaQ a p) S ((209, .inl (14, 9, .ref a)) :: (209, .inl (14, 10, .int x)) :: (209, .inl (14, 7, .int kk)) :: (211, .inr (8, fl)) :: D2)) 0 0 (zQi zTQ (zaQ a p) ((209, .inl (14, 9, .ref a)) :: (209, .inl (14, 10, .int 0)) :: (209, .inl (14, 7, .int kk)) :: (211, .inr (8, fl)) :: D2) (-10 - zI S2 6) S2) := by
  refine xt_pure rfl rfl rfl rfl ?_
  refine xt_pure rfl rfl rfl (st1 := .int 0 :: _) rfl ?_
  refine zt_fp0 rfl rfl rfl rfl 1 rfl (D1 := _ :: _ :: _ :: _ :: _) rfl ?_
  refine trQ_form (D0 := (209, .inl (14, 9, .ref a)) :: (209, .inl (14, 10, .int 0)) :: (209, .inl (14, 7, .int kk)) :: (211, .inr (8, fl)) :: D2) List.mem_cons_self (fun e he => List.mem_cons_of_mem _ (List.mem_cons_of_mem _ (List.mem_cons_of_mem _ (List.mem_cons_of_mem _ (hG e he))))) hf hl hR _ _ _ ?_
  refine xt_pure rfl rfl rfl rfl ?_
  refine zt_Vi rfl rfl rfl rfl (xmC 176 rfl) ⟨rfl, rfl, yle rfl, yle rfl⟩ (m := 1) rfl ⟨by omega, by omega⟩ (trQ_good (N := N) (r := 0) (S2 := S2) List.mem_cons_self (fun e he => List.mem_cons_of_mem _ (List.mem_cons_of_mem _ (List.mem_cons_of_mem _ (List.mem_cons_of_mem _ (hG e he))))) (by omega) (by omega) (by rw [rQ_good, if_pos hr])) (fr1 := fr - 1) (lo1 := lo - 20) ?_
  refine xt_if rfl rfl (fun hb => absurd rfl hb) (fun hb => ?_)
  refine xt_pure rfl rfl rfl (st1 := .int (-10) :: _) rfl ?_
  refine xt_pure rfl rfl rfl rfl ?_
  refine zt_gI 6 rfl rfl rfl rfl rfl ?_
  refine xt_pure rfl rfl rfl rfl ?_
  exact xt_iret rfl rfl rfl rfl ⟨rfl, rfl⟩
/-- .. a form -/
theorem yForm_MG (hf : 13 + 7 * (N / 16) ≤ fr) (hl : 342 + 158 * (N / 16) ≤ lo) (hG : ∀ e ∈ zgQ a p, e ∈ D2) (hR : rQ_form N S = some ((), S2)) (hr : (zI S2 6).toInt < 0) (hz : zok fl kk) (hA : ∃ v, ((a, .inl (12, 1, v)) : xE) ∈ D2) : yT X fr lo 210 20 [some (.ref 209)] [] (zD zTQ (zaQ a p) S ((209, .inl (14, 9, .ref a)) :: (209, .inl (14, 10, .int x)) :: (209, .inl (14, 7, .int kk)) :: (211, .inr (8, fl)) :: D2)) 0 0 (zQi zTQ (zaQ a p) ((209, .inl (14, 9, .ref a)) :: (209, .inl (14, 10, .int 1)) :: (209, .inl (14, 7, .int (kk + 1))) :: (211, .inr (8, fl.set kk.toInt.toNat (.ref a))) :: D2) (kk + 1 - 1) S2) := by
  obtain ⟨va, hA⟩ := hA
  refine xt_pure rfl rfl rfl rfl ?_
  refine xt_pure rfl rfl rfl (st1 := .int 0 :: _) rfl ?_
  refine zt_fp0 rfl rfl rfl rfl 1 rfl (D1 := _ :: _ :: _ :: _ :: _) rfl ?_
  refine trQ_form (D0 := (209, .inl (14, 9, .ref a)) :: (209, .inl (14, 10, .int 0)) :: (209, .inl (14, 7, .int kk)) :: (211, .inr (8, fl)) :: D2) List.mem_cons_self (fun e he => List.mem_cons_of_mem _ (List.mem_cons_of_mem _ (List.mem_cons_of_mem _ (List.mem_cons_of_mem _ (hG e he))))) hf hl hR _ _ _ ?_
  refine xt_pure rfl rfl rfl rfl ?_
  refine zt_Vi rfl rfl rfl rfl (xmC 176 rfl) ⟨rfl, rfl, yle rfl, yle rfl⟩ (m := 1) rfl ⟨by omega, by omega⟩ (trQ_good (N := N) (r := 1) (S2 := S2) List.mem_cons_self (fun e he => List.mem_cons_of_mem _ (List.mem_cons_of_mem _ (List.mem_cons_of_mem _ (List.mem_cons_of_mem _ (hG e he))))) (by omega) (by omega) (by rw [rQ_good, if_neg (by omega)])) (fr1 := fr - 1) (lo1 := lo - 20) ?_
  refine xt_if rfl rfl (fun hb => ?_) (fun hb => absurd (show (1 : Int32) ≠ 0 by decide) hb)
  refine xt_pure rfl rfl rfl rfl ?_
  refine xt_getf rfl rfl (xmC 177 rfl) ?_
  refine xt_pure rfl rfl rfl rfl ?_
  refine xt_getf rfl rfl (zmr (List.mem_of_getElem? (i := 2) rfl)) ?_
  refine xt_pure rfl rfl rfl rfl ?_
  refine xt_getf rfl rfl (zmr (List.mem_of_getElem? (i := 0) rfl)) ?_
  refine zt_fa0 rfl rfl 3 rfl rfl (by decide) (by exact Or.inl ⟨_, 12, 1, va, rfl, rfl, zmr (List.mem_cons_of_mem _ (List.mem_cons_of_mem _ (List.mem_cons_of_mem _ (List.mem_cons_of_mem _ hA))))⟩) hz (D1 := _ :: _ :: _ :: _ :: _) rfl ?_
  refine xt_pure rfl rfl rfl rfl ?_
  refine xt_pure rfl rfl rfl (st1 := .int 1 :: _) rfl ?_
  refine zt_fp0 rfl rfl rfl rfl 1 rfl (D1 := _ :: _ :: _ :: _ :: _) rfl ?_
  refine xt_pure rfl rfl rfl rfl ?_
  refine xt_pure rfl rfl rfl rfl ?_
  refine xt_getf rfl rfl (zmr (List.mem_of_getElem? (i := 2) rfl)) ?_
  refine xt_pure rfl rfl rfl (st1 := .int 1 :: _) rfl ?_
  refine xt_pure rfl rfl rfl rfl ?_
  refine zt_fp0 rfl rfl rfl rfl 2 rfl (D1 := _ :: _ :: _ :: _ :: _) rfl ?_
  refine xt_pure rfl rfl rfl rfl ?_
  refine xt_getf rfl rfl (zmr (List.mem_of_getElem? (i := 2) rfl)) ?_
  refine xt_pure rfl rfl rfl (st1 := .int 1 :: _) rfl ?_
  refine xt_pure rfl rfl rfl rfl ?_
  exact xt_iret rfl rfl rfl rfl ⟨rfl, rfl⟩
variable {Q : Option Value → List xE → Prop}
/-- the form at hand is not taken -/
theorem yForm_M0 (hk : kk ≠ 10) (w : yT X fr lo 210 20 [some (.ref 209)] [] (zD zTQ (zaQ a p) S ((209, .inl (14, 9, .ref a)) :: (209, .inl (14, 10, .int 0)) :: (209, .inl (14, 7, .int kk)) :: (211, .inr (8, fl)) :: D2)) 0 0 Q) : yK X fr lo 210 [.ref 209] (zD zTQ (zaQ a p) S ((209, .inl (14, 9, .ref a)) :: (209, .inl (14, 10, .int 0)) :: (209, .inl (14, 7, .int kk)) :: (211, .inr (8, fl)) :: D2)) 0 0 Q := by
  refine yK.of rfl (yle rfl) (L := [_]) rfl ?_
  refine xt_pure rfl rfl rfl rfl ?_
  refine xt_getf rfl rfl (zmr (List.mem_of_getElem? (i := 2) rfl)) ?_
  refine xt_pure rfl rfl rfl (st1 := .int 10 :: _) rfl ?_
  refine xt_ic rfl rfl (fun hb => ?_) (fun hb => absurd hk hb)
  refine xt_pure rfl rfl rfl rfl ?_
  refine xt_pure rfl rfl rfl rfl ?_
  refine xt_getf rfl rfl (zmr (List.mem_of_getElem? (i := 1) rfl)) ?_
  refine xt_if rfl rfl (fun hb => ?_) (fun hb => absurd rfl hb)
  refine xt_pure rfl rfl rfl rfl ?_
  refine xt_getf rfl rfl (zmr (List.mem_of_getElem? (i := 0) rfl)) ?_
  refine zt_fp0 rfl rfl rfl rfl 0 rfl (D1 := _ :: _ :: _ :: _ :: _) rfl ?_
  exact w
/-- it is taken: a new one -/
theorem yForm_MN (hk : kk ≠ 10) (hf : 2 ≤ fr) (hl : 120 ≤ lo) (w : ∀ n m, yT X fr lo 210 20 [some (.ref 209)] [] (zD zTQ (zaQ n m) (zNew S) ((209, .inl (14, 9, .ref n)) :: (209, .inl (14, 10, .int 1)) :: (209, .inl (14, 7, .int kk)) :: (211, .inr (8, fl)) :: (zgQ n m ++ D2))) 0 0 Q) : yK X fr lo 210 [.ref 209] (zD (zTQ.take 14) zaQ0 S ((209, .inl (14, 9, .ref a)) :: (209, .inl (14, 10, .int 1)) :: (209, .inl (14, 7, .int kk)) :: (211, .inr (8, fl)) :: D2)) 17 1431 Q := by
  refine yK.of rfl (yle rfl) (L := [_]) rfl ?_
  refine xt_pure rfl rfl rfl rfl ?_
  refine xt_getf rfl rfl (zmr (List.mem_of_getElem? (i := 2) rfl)) ?_
  refine xt_pure rfl rfl rfl (st1 := .int 10 :: _) rfl ?_
  refine xt_ic rfl rfl (fun hb => ?_) (fun hb => absurd hk hb)
  refine xt_pure rfl rfl rfl rfl ?_
  refine xt_pure rfl rfl rfl rfl ?_
  refine xt_getf rfl rfl (zmr (List.mem_of_getElem? (i := 1) rfl)) ?_
  refine xt_if rfl rfl (fun hb => absurd hb (show ¬ (1 : Int32) = 0 by decide)) (fun hb => ?_)
  refine xt_new rfl rfl rfl (c1 := 16) (s1 := 1408) (yle rfl) (yle rfl) ?_
  intro n
  refine xt_pure rfl rfl rfl rfl ?_
  refine xt_callI rfl rfl (by decide) rfl rfl ⟨rfl, yle rfl, yle rfl, by omega, show 100 + (19 + 1) ≤ lo by omega⟩ yFormM (c2 := 0) (s2 := 0) ⟨yle rfl, yle rfl⟩ ?_
  rintro w1 D1 ⟨m, rfl, rfl⟩
  refine xt_pure rfl rfl rfl rfl ?_
  refine zt_fp (P := fmN n m) rfl rfl rfl rfl 0 rfl (D1 := _ :: _ :: _ :: _ :: _) rfl ?_
  refine yT.perm new_perm ?_
  exact w n m
end FORMM
