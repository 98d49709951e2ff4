/-! FORM: the reference -/
theorem range_fm {α : Type} : ∀ (l : List α), (List.range l.length).filterMap (fun i => l[i]?) = l
  | [] => rfl
  | x :: l => by
    rw [List.length_cons, List.range_succ_eq_map, List.filterMap_cons, List.filterMap_map]
    show x :: (List.range l.length).filterMap (fun i => l[i]?) = x :: l
    rw [range_fm l]
/-- lists that are one but for their order -/
theorem permI {α : Type} {l l2 : List α} (is : List Nat) (h : is.isPerm (List.range l.length) = true) (e : is.filterMap (fun i => l[i]?) = l2) : l.Perm l2 := by
  have h1 := (List.isPerm_iff.mp h).filterMap (fun i => l[i]?)
  rw [range_fm, e] at h1
  exact h1.symm
/-- a form that is new in the view -/
def zNew (S : zS) : zS := (fun i => if i < 14 then zI S i else 0, S.2.1, S.2.2.1, fun i => if i < 14 then zA S i else if i ≤ 22 then List.replicate 20 0 else if i ≤ 28 then List.replicate 12 0 else List.replicate 300 0, fun i => if i < 14 then zB S i else if i ≤ 15 then List.replicate 20 0 else if i ≤ 24 then List.replicate 12 0 else List.replicate 300 0, S.2.2.2.2.2)
def zaQ0 : Nat → Nat := zaQ 0 (fun _ => 0)
set_option maxRecDepth 4000 in
theorem new_perm {S : zS} {n : Nat} {m : Nat → Nat} {D2 : List xE} {e1 e2 e3 e4 : xE} : (fmN n m ++ zD (zTQ.take 14) zaQ0 S (e1 :: e2 :: e3 :: e4 :: D2)).Perm (zD zTQ (zaQ n m) (zNew S) (e1 :: e2 :: e3 :: e4 :: (zgQ n m ++ D2))) := by
  have h : (fmN n m ++ (zE zaQ0 S 0 (zTQ.take 14) ++ [e1, e2, e3, e4])).Perm (zE (zaQ n m) (zNew S) 0 zTQ ++ ([e1, e2, e3, e4] ++ zgQ n m)) := permI [39, 40, 41, 42, 43, 44, 45, 46, 47, 48, 49, 50, 51, 52, 16, 15, 14, 13, 12, 11, 10, 9, 8, 25, 7, 6, 28, 5, 4, 31, 32, 33, 34, 3, 2, 1, 0, 53, 54, 55, 56, 17, 18, 19, 20, 21, 22, 23, 24, 26, 27, 29, 30, 35, 36, 37, 38] (by decide +kernel) rfl
  have h2 := h.append_right D2
  rw [List.append_assoc, List.append_assoc, List.append_assoc, List.append_assoc] at h2
  exact h2
section FORMM
variable {X : List Int32} {a N fr lo : Nat} {p : Nat → Nat} {S S2 : zS} {x kk rr : Int32} {fl : List Value} {D2 : List xE}
theorem yForm_M1 {T : List (Nat × Nat × Nat)} {ad : Nat → Nat} (hT : T[0]? = some (0, 14, 1)) (had : ad 0 = 209) (hk : kk = 10) : yK X fr lo 210 [.ref 209] (zD T ad S ((209, .inl (14, 9, .ref a)) :: (209, .inl (14, 10, .int x)) :: (209, .inl (14, 7, .int kk)) :: (211, .inr (8, fl)) :: D2)) 0 0 (zQi T ad ((209, .inl (14, 9, .ref a)) :: (209, .inl (14, 10, .int x)) :: (209, .inl (14, 7, .int kk)) :: (211, .inr (8, fl)) :: D2) (-3) (zsI S 0 0)) := by
  refine yK.of rfl (yle rfl) (L := [_]) rfl ?_
  refine xt_pure rfl rfl rfl rfl ?_
  refine xt_getf rfl rfl (zmr (List.mem_of_getElem? (i := 2) rfl)) ?_
  refine xt_pure rfl rfl rfl (st1 := .int 10 :: _) rfl ?_
  refine xt_ic rfl rfl (fun hb => absurd hk hb) (fun hb => ?_)
  refine xt_pure rfl rfl rfl rfl ?_
  refine xt_pure rfl rfl rfl (st1 := .int 0 :: _) rfl ?_
  refine zt_pI 0 rfl rfl rfl rfl hT had ?_
  refine xt_pure rfl rfl rfl (st1 := .int (-3) :: _) rfl ?_
  exact xt_iret rfl rfl rfl rfl ⟨rfl, rfl⟩
/-- from where its form is at hand: THE FAULT -/
theorem yForm_MF (hf : 13 + 7 * (N / 16) ≤ fr) (hl : 342 + 158 * (N / 16) ≤ lo) (hG : ∀ e ∈ zgQ a p, e ∈ D2) (hR : rQ_form N S = some ((), S2)) (hr : 0 ≤ (zI S2 6).toInt) : yT X fr lo 210 20 [some (.ref 209)] [] (zD zTQ (zaQ a p) S ((209, .inl (14, 9, .ref a)) :: (209, .inl (14, 10, .int x)) :: (209, .inl (14, 7, .int kk)) :: (211, .inr (8, fl)) :: D2)) 0 0 (zQi zTQ (zaQ a p) ((209, .inl (14, 9, .ref a)) :: (209, .inl (14, 10, .int 0)) :: (209, .inl (14, 7, .int kk)) :: (211, .inr (8, fl)) :: D2) (-10 - zI S2 6) S2) := by
  refine xt_pure rfl rfl rfl rfl ?_
  refine xt_pure rfl rfl rfl (st1 := .int 0 :: _) rfl ?_
  refine zt_fp (P := []) rfl rfl rfl rfl 1 rfl (D1 := _ :: _ :: _ :: _ :: _) rfl ?_
  refine trQ_form (D0 := (209, .inl (14, 9, .ref a)) :: (209, .inl (14, 10, .int 0)) :: (209, .inl (14, 7, .int kk)) :: (211, .inr (8, fl)) :: D2) List.mem_cons_self (fun e he => List.mem_cons_of_mem _ (List.mem_cons_of_mem _ (List.mem_cons_of_mem _ (List.mem_cons_of_mem _ (hG e he))))) hf hl hR _ _ _ ?_
  refine xt_pure rfl rfl rfl rfl ?_
  refine zt_Vi rfl rfl rfl rfl (xmC 176 rfl) ⟨rfl, rfl, yle rfl, yle rfl⟩ (m := 1) rfl ⟨by omega, by omega⟩ (trQ_good (N := N) (r := 0) (S2 := S2) List.mem_cons_self (fun e he => List.mem_cons_of_mem _ (List.mem_cons_of_mem _ (List.mem_cons_of_mem _ (List.mem_cons_of_mem _ (hG e he))))) (by omega) (by omega) (by rw [rQ_good, if_pos hr])) (fr1 := fr - 1) (lo1 := lo - 20) ?_
  refine xt_if rfl rfl (fun hb => absurd rfl hb) (fun hb => ?_)
  refine xt_pure rfl rfl rfl (st1 := .int (-10) :: _) rfl ?_
  refine xt_pure rfl rfl rfl rfl ?_
  refine zt_gI 6 rfl rfl rfl rfl rfl ?_
  refine xt_pure rfl rfl rfl rfl ?_
  exact xt_iret rfl rfl rfl rfl ⟨rfl, rfl⟩
/-- .. a form -/
theorem yForm_MG (hf : 13 + 7 * (N / 16) ≤ fr) (hl : 342 + 158 * (N / 16) ≤ lo) (hG : ∀ e ∈ zgQ a p, e ∈ D2) (hR : rQ_form N S = some ((), S2)) (hr : (zI S2 6).toInt < 0) (hz : zok fl kk) (hA : ∃ v, ((a, .inl (12, 1, v)) : xE) ∈ D2) : yT X fr lo 210 20 [some (.ref 209)] [] (zD zTQ (zaQ a p) S ((209, .inl (14, 9, .ref a)) :: (209, .inl (14, 10, .int x)) :: (209, .inl (14, 7, .int kk)) :: (211, .inr (8, fl)) :: D2)) 0 0 (zQi zTQ (zaQ a p) ((209, .inl (14, 9, .ref a)) :: (209, .inl (14, 10, .int 1)) :: (209, .inl (14, 7, .int (kk + 1))) :: (211, .inr (8, fl.set kk.toInt.toNat (.ref a))) :: D2) (kk + 1 - 1) S2) := by
  obtain ⟨va, hA⟩ := hA
  refine xt_pure rfl rfl rfl rfl ?_
  refine xt_pure rfl rfl rfl (st1 := .int 0 :: _) rfl ?_
  refine zt_fp (P := []) rfl rfl rfl rfl 1 rfl (D1 := _ :: _ :: _ :: _ :: _) rfl ?_
  refine trQ_form (D0 := (209, .inl (14, 9, .ref a)) :: (209, .inl (14, 10, .int 0)) :: (209, .inl (14, 7, .int kk)) :: (211, .inr (8, fl)) :: D2) List.mem_cons_self (fun e he => List.mem_cons_of_mem _ (List.mem_cons_of_mem _ (List.mem_cons_of_mem _ (List.mem_cons_of_mem _ (hG e he))))) hf hl hR _ _ _ ?_
  refine xt_pure rfl rfl rfl rfl ?_
  refine zt_Vi rfl rfl rfl rfl (xmC 176 rfl) ⟨rfl, rfl, yle rfl, yle rfl⟩ (m := 1) rfl ⟨by omega, by omega⟩ (trQ_good (N := N) (r := 1) (S2 := S2) List.mem_cons_self (fun e he => List.mem_cons_of_mem _ (List.mem_cons_of_mem _ (List.mem_cons_of_mem _ (List.mem_cons_of_mem _ (hG e he))))) (by omega) (by omega) (by rw [rQ_good, if_neg (by omega)])) (fr1 := fr - 1) (lo1 := lo - 20) ?_
  refine xt_if rfl rfl (fun hb => ?_) (fun hb => absurd (show (1 : Int32) ≠ 0 by decide) hb)
  refine xt_pure rfl rfl rfl rfl ?_
  refine xt_getf rfl rfl (xmC 177 rfl) ?_
  refine xt_pure rfl rfl rfl rfl ?_
  refine xt_getf rfl rfl (zmr (List.mem_of_getElem? (i := 2) rfl)) ?_
  refine xt_pure rfl rfl rfl rfl ?_
  refine xt_getf rfl rfl (zmr (List.mem_of_getElem? (i := 0) rfl)) ?_
  refine zt_fa (P := []) rfl rfl 3 rfl rfl (by decide) (Or.inl ⟨_, 12, 1, va, rfl, rfl, zmP (P := []) (List.mem_cons_of_mem _ (List.mem_cons_of_mem _ (List.mem_cons_of_mem _ (List.mem_cons_of_mem _ hA))))⟩) hz (D1 := _ :: _ :: _ :: _ :: _) rfl ?_
  refine xt_pure rfl rfl rfl rfl ?_
  refine xt_pure rfl rfl rfl (st1 := .int 1 :: _) rfl ?_
  refine zt_fp (P := []) rfl rfl rfl rfl 1 rfl (D1 := _ :: _ :: _ :: _ :: _) rfl ?_
  refine xt_pure rfl rfl rfl rfl ?_
  refine xt_pure rfl rfl rfl rfl ?_
  refine xt_getf rfl rfl (zmP (P := []) (List.mem_of_getElem? (i := 2) rfl)) ?_
  refine xt_pure rfl rfl rfl (st1 := .int 1 :: _) rfl ?_
  refine xt_pure rfl rfl rfl rfl ?_
  refine zt_fp (P := []) rfl rfl rfl rfl 2 rfl (D1 := _ :: _ :: _ :: _ :: _) rfl ?_
  refine xt_pure rfl rfl rfl rfl ?_
  refine xt_getf rfl rfl (zmP (P := []) (List.mem_of_getElem? (i := 2) rfl)) ?_
  refine xt_pure rfl rfl rfl (st1 := .int 1 :: _) rfl ?_
  refine xt_pure rfl rfl rfl rfl ?_
  exact xt_iret rfl rfl rfl rfl ⟨rfl, rfl⟩
variable {Q : Option Value → List xE → Prop}
/-- the form at hand is not taken -/
theorem yForm_M0 (hk : kk ≠ 10) (w : yT X fr lo 210 20 [some (.ref 209)] [] (zD zTQ (zaQ a p) S ((209, .inl (14, 9, .ref a)) :: (209, .inl (14, 10, .int 0)) :: (209, .inl (14, 7, .int kk)) :: (211, .inr (8, fl)) :: D2)) 0 0 Q) : yK X fr lo 210 [.ref 209] (zD zTQ (zaQ a p) S ((209, .inl (14, 9, .ref a)) :: (209, .inl (14, 10, .int 0)) :: (209, .inl (14, 7, .int kk)) :: (211, .inr (8, fl)) :: D2)) 0 0 Q := by
  refine yK.of rfl (yle rfl) (L := [_]) rfl ?_
  refine xt_pure rfl rfl rfl rfl ?_
  refine xt_getf rfl rfl (zmr (List.mem_of_getElem? (i := 2) rfl)) ?_
  refine xt_pure rfl rfl rfl (st1 := .int 10 :: _) rfl ?_
  refine xt_ic rfl rfl (fun hb => ?_) (fun hb => absurd hk hb)
  refine xt_pure rfl rfl rfl rfl ?_
  refine xt_pure rfl rfl rfl rfl ?_
  refine xt_getf rfl rfl (zmr (List.mem_of_getElem? (i := 1) rfl)) ?_
  refine xt_if rfl rfl (fun hb => ?_) (fun hb => absurd rfl hb)
  refine xt_pure rfl rfl rfl rfl ?_
  refine xt_getf rfl rfl (zmr (List.mem_of_getElem? (i := 0) rfl)) ?_
  refine zt_fp (P := []) rfl rfl rfl rfl 0 rfl (D1 := _ :: _ :: _ :: _ :: _) rfl ?_
  exact w
/-- it is taken: a new one -/
theorem yForm_MN (hk : kk ≠ 10) (hf : 2 ≤ fr) (hl : 120 ≤ lo) (w : ∀ n m, yT X fr lo 210 20 [some (.ref 209)] [] (zD zTQ (zaQ n m) (zNew S) ((209, .inl (14, 9, .ref n)) :: (209, .inl (14, 10, .int 1)) :: (209, .inl (14, 7, .int kk)) :: (211, .inr (8, fl)) :: (zgQ n m ++ D2))) 0 0 Q) : yK X fr lo 210 [.ref 209] (zD (zTQ.take 14) zaQ0 S ((209, .inl (14, 9, .ref a)) :: (209, .inl (14, 10, .int 1)) :: (209, .inl (14, 7, .int kk)) :: (211, .inr (8, fl)) :: D2)) 17 1431 Q := by
  refine yK.of rfl (yle rfl) (L := [_]) rfl ?_
  refine xt_pure rfl rfl rfl rfl ?_
  refine xt_getf rfl rfl (zmr (List.mem_of_getElem? (i := 2) rfl)) ?_
  refine xt_pure rfl rfl rfl (st1 := .int 10 :: _) rfl ?_
  refine xt_ic rfl rfl (fun hb => ?_) (fun hb => absurd hk hb)
  refine xt_pure rfl rfl rfl rfl ?_
  refine xt_pure rfl rfl rfl rfl ?_
  refine xt_getf rfl rfl (zmr (List.mem_of_getElem? (i := 1) rfl)) ?_
  refine xt_if rfl rfl (fun hb => absurd hb (show ¬ (1 : Int32) = 0 by decide)) (fun hb => ?_)
  refine xt_new rfl rfl rfl (c1 := 16) (s1 := 1408) (yle rfl) (yle rfl) ?_
  intro n
  refine xt_pure rfl rfl rfl rfl ?_
  refine xt_callI rfl rfl (by decide) rfl rfl ⟨rfl, yle rfl, yle rfl, by omega, by omega⟩ yFormM (c2 := 0) (s2 := 0) ⟨yle rfl, yle rfl⟩ ?_
  rintro w1 D1 ⟨m, rfl, rfl⟩
  refine xt_pure rfl rfl rfl rfl ?_
  refine zt_fp (P := fmN n m) rfl rfl rfl rfl 0 rfl (D1 := _ :: _ :: _ :: _ :: _) rfl ?_
  refine yT.perm new_perm ?_
  exact w n m
end FORMM
