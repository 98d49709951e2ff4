/-! FORM: the class -/
section FRAMES
variable {X : List Int32} {fr lo mi ip : Nat} {L : xL} {r : List Value} {c s : Nat} {Q : Option Value → List xE → Prop} {M : xM} {pc a b q k t idx : Nat} {T : List (Nat × Nat × Nat)} {ad : Nat → Nat} {S : zS} {P D0 : List xE} {v : Value} {j : Int32}
theorem zfr_at {i : Nat} {e : xE} (h : D0[i]? = some e) : (P ++ zD T ad S D0)[P.length + ((zE ad S 0 T).length + i)]? = some e := by
  rw [List.getElem?_append_right (by omega), zD, List.getElem?_append_right (by omega)]
  rw [show P.length + ((zE ad S 0 T).length + i) - P.length - (zE ad S 0 T).length = i by omega]
  exact h
theorem zfr_set {i : Nat} {e : xE} : (P ++ zD T ad S D0).set (P.length + ((zE ad S 0 T).length + i)) e = P ++ zD T ad S (D0.set i e) := by
  rw [List.set_append_right _ _ (by omega), zD, List.set_append_right _ _ (by omega)]
  rw [show P.length + ((zE ad S 0 T).length + i) - P.length - (zE ad S 0 T).length = i by omega]
  rfl
/-- a field in the frame -/
theorem zt_fp {v0 : Value} {ty : FieldType} {D1 : List xE} (hM : xpr.1[mi]? = some M) (hc : M.2.2.2.2.2.2[ip]? = some (.putfield idx, pc, a, b, q)) (e1 : (xfts[a]?).bind (fun tys => tys[b]?) = some ty) (e2 : xfit ty v = true) (i : Nat) (e3 : D0[i]? = some (k, .inl (a, b, v0))) (e4 : D0.set i (k, .inl (a, b, v)) = D1) (kk : yT X fr lo mi (ip + 1) L r (P ++ zD T ad S D1) c s Q) : yT X fr lo mi ip L (v :: .ref k :: r) (P ++ zD T ad S D0) c s Q :=
  xt_putf hM hc e1 e2 _ (zfr_at e3) (by rw [zfr_set, e4]) kk
theorem zt_fa {l : List Value} {ty : FieldType} {D1 : List xE} (hM : xpr.1[mi]? = some M) (hc : M.2.2.2.2.2.2[ip]? = some (.aastore, pc, a, b, q)) (i : Nat) (e1 : D0[i]? = some (k, .inr (t, l))) (e5 : xats[t]? = some ty) (e6 : 4 ≤ t) (e7 : xasE X (P ++ zD T ad S D0) ty v) (e2 : zok l j) (e4 : D0.set i (k, .inr (t, l.set j.toInt.toNat v)) = D1) (kk : yT X fr lo mi (ip + 1) L r (P ++ zD T ad S D1) c s Q) : yT X fr lo mi ip L (v :: .int j :: .ref k :: r) (P ++ zD T ad S D0) c s Q :=
  yt_ast hM hc _ (zfr_at e1) e5 e6 e7 e2 (by rw [zfr_set, e4]) kk
theorem zt_fp0 {v0 : Value} {ty : FieldType} {D1 : List xE} (hM : xpr.1[mi]? = some M) (hc : M.2.2.2.2.2.2[ip]? = some (.putfield idx, pc, a, b, q)) (e1 : (xfts[a]?).bind (fun tys => tys[b]?) = some ty) (e2 : xfit ty v = true) (i : Nat) (e3 : D0[i]? = some (k, .inl (a, b, v0))) (e4 : D0.set i (k, .inl (a, b, v)) = D1) (kk : yT X fr lo mi (ip + 1) L r (zD T ad S D1) c s Q) : yT X fr lo mi ip L (v :: .ref k :: r) (zD T ad S D0) c s Q :=
  zt_fp (P := []) hM hc e1 e2 i e3 e4 kk
theorem zt_fa0 {l : List Value} {ty : FieldType} {D1 : List xE} (hM : xpr.1[mi]? = some M) (hc : M.2.2.2.2.2.2[ip]? = some (.aastore, pc, a, b, q)) (i : Nat) (e1 : D0[i]? = some (k, .inr (t, l))) (e5 : xats[t]? = some ty) (e6 : 4 ≤ t) (e7 : xasE X (zD T ad S D0) ty v) (e2 : zok l j) (e4 : D0.set i (k, .inr (t, l.set j.toInt.toNat v)) = D1) (kk : yT X fr lo mi (ip + 1) L r (zD T ad S D1) c s Q) : yT X fr lo mi ip L (v :: .int j :: .ref k :: r) (zD T ad S D0) c s Q :=
  zt_fa (P := []) hM hc i e1 e5 e6 e7 e2 e4 kk
theorem zmP {e : xE} (h : e ∈ D0) : e ∈ (P ++ zD T ad S D0) ++ xcon X := List.mem_append_left _ (List.mem_append_right _ (List.mem_append_right _ h))
end FRAMES
section FORMC
variable {X : List Int32} {a N fr lo : Nat} {p : Nat → Nat} {S S2 : zS} {uu : Value} {kk rr : Int32} {fl : List Value} {D2 : List xE}
theorem yForm_C1 (hk : 10 ≤ kk.toInt) : yK X fr lo 25 [.ref 78] (zD zTP (zaP a p) S ((85, .inl (7, 1, uu)) :: (78, .inl (11, 3, .int kk)) :: (78, .inl (11, 4, .ref a)) :: (92, .inr (5, fl)) :: D2)) 0 0 (zQi zTP (zaP a p) ((85, .inl (7, 1, uu)) :: (78, .inl (11, 3, .int kk)) :: (78, .inl (11, 4, .ref a)) :: (92, .inr (5, fl)) :: D2) (-3) (zsI S 0 0)) := by
  refine yK.of rfl (yle rfl) (L := [_, _]) rfl ?_
  refine xt_pure rfl rfl rfl rfl ?_
  refine xt_getf rfl rfl (zmr (List.mem_of_getElem? (i := 1) rfl)) ?_
  refine xt_pure rfl rfl rfl (st1 := .int 10 :: _) rfl ?_
  refine xt_ic rfl rfl (fun (hb : kk.toInt < (10 : Int32).toInt) => absurd hb (by rw [show (10 : Int32).toInt = 10 from rfl]; omega)) (fun hb => ?_)
  refine xt_pure rfl rfl rfl rfl ?_
  refine xt_getf rfl rfl (xmC 115 rfl) ?_
  refine xt_pure rfl rfl rfl (st1 := .int 0 :: _) rfl ?_
  refine zt_pI 0 rfl rfl rfl rfl rfl rfl ?_
  refine xt_pure rfl rfl rfl (st1 := .int (-3) :: _) rfl ?_
  exact xt_iret rfl rfl rfl rfl ⟨rfl, rfl⟩
theorem yForm_C2 (hk : kk.toInt < 10) (hf : 10 + 4 * (N / 16) ≤ fr) (hl : 284 + 93 * (N / 16) ≤ lo) (hG : ∀ e ∈ zgP a p, e ∈ D2) (hR : cP_read N S = some (rr, S2)) (hr : rr ≠ -9) : yK X fr lo 25 [.ref 78] (zD zTP (zaP a p) S ((85, .inl (7, 1, uu)) :: (78, .inl (11, 3, .int kk)) :: (78, .inl (11, 4, .ref a)) :: (92, .inr (5, fl)) :: D2)) 0 0 (zQi zTP (zaP a p) ((85, .inl (7, 1, .ref a)) :: (78, .inl (11, 3, .int kk)) :: (78, .inl (11, 4, .ref a)) :: (92, .inr (5, fl)) :: D2) (-10 - rr) (zsI S2 0 0)) := by
  refine yK.of rfl (yle rfl) (L := [_, _]) rfl ?_
  refine xt_pure rfl rfl rfl rfl ?_
  refine xt_getf rfl rfl (zmr (List.mem_of_getElem? (i := 1) rfl)) ?_
  refine xt_pure rfl rfl rfl (st1 := .int 10 :: _) rfl ?_
  refine xt_ic rfl rfl (fun hb => ?_) (fun (hb : ¬ kk.toInt < (10 : Int32).toInt) => absurd (show kk.toInt < (10 : Int32).toInt by rw [show (10 : Int32).toInt = 10 from rfl]; exact hk) hb)
  refine xt_pure rfl rfl rfl rfl ?_
  refine xt_getf rfl rfl (xmC 116 rfl) ?_
  refine xt_pure rfl rfl rfl rfl ?_
  refine xt_getf rfl rfl (zmr (List.mem_of_getElem? (i := 2) rfl)) ?_
  refine zt_Vi rfl rfl rfl rfl (xmC 133 rfl) ⟨rfl, rfl, yle rfl, yle rfl⟩ (m := 2) rfl ⟨by omega, by omega⟩ (tcP_read (D0 := (85, .inl (7, 1, .ref a)) :: (78, .inl (11, 3, .int kk)) :: (78, .inl (11, 4, .ref a)) :: (92, .inr (5, fl)) :: D2) List.mem_cons_self (fun e he => List.mem_cons_of_mem _ (List.mem_cons_of_mem _ (List.mem_cons_of_mem _ (List.mem_cons_of_mem _ (hG e he))))) (by omega) (by omega) rfl rfl hR) (fr1 := fr - 1) (lo1 := lo - 21) ?_
  refine xt_pure rfl rfl rfl (L1 := [_, _]) rfl ?_
  refine xt_pure rfl rfl rfl rfl ?_
  refine xt_getf rfl rfl (xmC 115 rfl) ?_
  refine xt_pure rfl rfl rfl (st1 := .int 0 :: _) rfl ?_
  refine zt_pI 0 rfl rfl rfl rfl rfl rfl ?_
  refine xt_pure rfl rfl rfl rfl ?_
  refine xt_pure rfl rfl rfl (st1 := .int (-9) :: _) rfl ?_
  refine xt_ic rfl rfl (fun hb => absurd hb hr) (fun hb => ?_)
  refine xt_pure rfl rfl rfl (st1 := .int (-10) :: _) rfl ?_
  refine xt_pure rfl rfl rfl rfl ?_
  refine xt_pure rfl rfl rfl rfl ?_
  exact xt_iret rfl rfl rfl rfl ⟨rfl, rfl⟩
theorem yForm_C3 (hk : kk.toInt < 10) (hf : 10 + 4 * (N / 16) ≤ fr) (hl : 284 + 93 * (N / 16) ≤ lo) (hG : ∀ e ∈ zgP a p, e ∈ D2) (hz : zok fl kk) (hA : ∃ v, ((a, .inl (2, 1, v)) : xE) ∈ D2) (hR : cP_read N S = some (-9, S2)) : yK X fr lo 25 [.ref 78] (zD zTP (zaP a p) S ((85, .inl (7, 1, uu)) :: (78, .inl (11, 3, .int kk)) :: (78, .inl (11, 4, .ref a)) :: (92, .inr (5, fl)) :: D2)) 13 1315 (fun w D => ∃ n m, w = some (.int (kk + 1 - 1)) ∧ D = fcN n m ++ zD zTP (zaP a p) (zsI S2 0 0) ((85, .inl (7, 1, .ref a)) :: (78, .inl (11, 3, .int (kk + 1))) :: (78, .inl (11, 4, .ref n)) :: (92, .inr (5, fl.set kk.toInt.toNat (.ref a))) :: D2)) := by
  obtain ⟨va, hA⟩ := hA
  refine yK.of rfl (yle rfl) (L := [_, _]) rfl ?_
  refine xt_pure rfl rfl rfl rfl ?_
  refine xt_getf rfl rfl (zmr (List.mem_of_getElem? (i := 1) rfl)) ?_
  refine xt_pure rfl rfl rfl (st1 := .int 10 :: _) rfl ?_
  refine xt_ic rfl rfl (fun hb => ?_) (fun (hb : ¬ kk.toInt < (10 : Int32).toInt) => absurd (show kk.toInt < (10 : Int32).toInt by rw [show (10 : Int32).toInt = 10 from rfl]; exact hk) hb)
  refine xt_pure rfl rfl rfl rfl ?_
  refine xt_getf rfl rfl (xmC 116 rfl) ?_
  refine xt_pure rfl rfl rfl rfl ?_
  refine xt_getf rfl rfl (zmr (List.mem_of_getElem? (i := 2) rfl)) ?_
  refine zt_Vi rfl rfl rfl rfl (xmC 133 rfl) ⟨rfl, rfl, yle rfl, yle rfl⟩ (m := 2) rfl ⟨by omega, by omega⟩ (tcP_read (D0 := (85, .inl (7, 1, .ref a)) :: (78, .inl (11, 3, .int kk)) :: (78, .inl (11, 4, .ref a)) :: (92, .inr (5, fl)) :: D2) List.mem_cons_self (fun e he => List.mem_cons_of_mem _ (List.mem_cons_of_mem _ (List.mem_cons_of_mem _ (List.mem_cons_of_mem _ (hG e he))))) (by omega) (by omega) rfl rfl hR) (fr1 := fr - 1) (lo1 := lo - 21) ?_
  refine xt_pure rfl rfl rfl (L1 := [_, _]) rfl ?_
  refine xt_pure rfl rfl rfl rfl ?_
  refine xt_getf rfl rfl (xmC 115 rfl) ?_
  refine xt_pure rfl rfl rfl (st1 := .int 0 :: _) rfl ?_
  refine zt_pI 0 rfl rfl rfl rfl rfl rfl ?_
  refine xt_pure rfl rfl rfl rfl ?_
  refine xt_pure rfl rfl rfl (st1 := .int (-9) :: _) rfl ?_
  refine xt_ic rfl rfl (fun hb => ?_) (fun hb => absurd rfl hb)
  refine xt_pure rfl rfl rfl rfl ?_
  refine xt_getf rfl rfl (xmC 117 rfl) ?_
  refine xt_pure rfl rfl rfl rfl ?_
  refine xt_getf rfl rfl (zmr (List.mem_of_getElem? (i := 1) rfl)) ?_
  refine xt_pure rfl rfl rfl rfl ?_
  refine xt_getf rfl rfl (zmr (List.mem_of_getElem? (i := 2) rfl)) ?_
  refine zt_fa0 rfl rfl 3 rfl rfl (by decide) (by exact Or.inl ⟨_, 2, 1, va, rfl, rfl, zmr (List.mem_cons_of_mem _ (List.mem_cons_of_mem _ (List.mem_cons_of_mem _ (List.mem_cons_of_mem _ hA))))⟩) hz (D1 := _ :: _ :: _ :: _ :: _) rfl ?_
  refine xt_pure rfl rfl rfl rfl ?_
  refine xt_pure rfl rfl rfl rfl ?_
  refine xt_getf rfl rfl (zmr (List.mem_of_getElem? (i := 1) rfl)) ?_
  refine xt_pure rfl rfl rfl (st1 := .int 1 :: _) rfl ?_
  refine xt_pure rfl rfl rfl rfl ?_
  refine zt_fp0 rfl rfl rfl rfl 1 rfl (D1 := _ :: _ :: _ :: _ :: _) rfl ?_
  refine xt_pure rfl rfl rfl rfl ?_
  refine xt_new rfl rfl rfl (c1 := 12) (s1 := 1296) (yle rfl) (yle rfl) ?_
  intro n
  refine xt_pure rfl rfl rfl rfl ?_
  refine xt_callI rfl rfl (by decide) rfl rfl ⟨rfl, yle rfl, yle rfl, by omega, show 100 + (19 + 1) ≤ lo by omega⟩ (yFormC) (c2 := 0) (s2 := 0) ⟨yle rfl, yle rfl⟩ ?_
  rintro w D1 ⟨m, rfl, rfl⟩
  refine zt_fp (P := fcN n m) rfl rfl rfl rfl 2 rfl (D1 := _ :: _ :: _ :: _ :: _) rfl ?_
  refine xt_pure rfl rfl rfl rfl ?_
  refine xt_getf rfl rfl (zmP (P := fcN n m) (List.mem_of_getElem? (i := 1) rfl)) ?_
  refine xt_pure rfl rfl rfl (st1 := .int 1 :: _) rfl ?_
  refine xt_pure rfl rfl rfl rfl ?_
  exact xt_iret rfl rfl rfl rfl ⟨n, m, rfl, rfl⟩
end FORMC
