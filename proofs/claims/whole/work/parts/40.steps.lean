/-! STEP BY STEP: what one instruction does, as an equation -/
/-- an instruction at a place -/
def xAt (P : xP) (mi ip : Nat) (x : xI) : Prop := ∃ M : xM, P.1[mi]? = some M ∧ M.2.2.2.2.2.2[ip]? = some x
/-- an instruction that is not one of locals and stack alone -/
def xhp (i : Instr) : Bool := match i with
  | .getfield _ => true | .putfield _ => true | .getstatic _ => true | .iaload => true | .laload => true | .baload => true | .aaload => true
  | .iastore => true | .lastore => true | .bastore => true | .aastore => true | .arraylength => true | .new _ => true | .newarray _ => true | .anewarray _ => true | .multianewarray _ _ => true
  | .invokevirtual _ => true | .invokespecial _ => true | .invokestatic _ => true | .ireturn => true | .lreturn => true | .areturn => true | .return_ => true
  | _ => false
section STEPS
variable {cn : List String} {P : xP} {f fr lo mi ip pc a b q : Nat} {L L1 : xL} {st st1 r : List Value} {h h1 : xH} {v : Value} {k t : Nat} {idx : Nat}
theorem xe_getf (hx : xAt P mi ip (.getfield idx, pc, a, b, q)) (h1 : xgetf h k a b = some v) : xex cn P (f + 1) fr lo mi ip L (.ref k :: r) h = xex cn P f fr lo mi (ip + 1) L (v :: r) h := by
  obtain ⟨M, hM, hc⟩ := hx
  conv => lhs; unfold xex
  rw [hM]
  obtain ⟨y, by', mL, ret, np, kd, code⟩ := M
  dsimp only at hc ⊢
  rw [hc]
  try dsimp only
  rw [h1]
theorem xe_putf {ty : FieldType} {h1' : xH} (hx : xAt P mi ip (.putfield idx, pc, a, b, q)) (h1 : (P.2.1[a]?).bind (fun tys => tys[b]?) = some ty) (h2 : xfit ty v = true) (h3 : xputf P.2.2.2.2.2 h k a b v = some h1') : xex cn P (f + 1) fr lo mi ip L (v :: .ref k :: r) h = xex cn P f fr lo mi (ip + 1) L r h1' := by
  obtain ⟨M, hM, hc⟩ := hx
  conv => lhs; unfold xex
  rw [hM]
  obtain ⟨y, by', mL, ret, np, kd, code⟩ := M
  dsimp only at hc ⊢
  rw [hc]
  try dsimp only
  cases ht : P.2.1[a]? with
  | none => rw [ht] at h1; cases h1
  | some tys =>
    rw [ht] at h1
    dsimp only at h1 ⊢
    rw [show tys[b]? = some ty from h1]
    dsimp only
    rw [if_pos h2, h3]
theorem xe_gets (hx : xAt P mi ip (.getstatic idx, pc, a, b, q)) (h1 : P.2.2.2.2.1[a]? = some v) : xex cn P (f + 1) fr lo mi ip L (st) h = xex cn P f fr lo mi (ip + 1) L (v :: st) h := by
  obtain ⟨M, hM, hc⟩ := hx
  conv => lhs; unfold xex
  rw [hM]
  obtain ⟨y, by', mL, ret, np, kd, code⟩ := M
  dsimp only at hc ⊢
  rw [hc]
  try dsimp only
  rw [h1]
theorem xe_iald {j : Int32} (hx : xAt P mi ip (.iaload, pc, a, b, q)) (h1 : xitem h k j = some (t, v)) (h2 : t = 0) : xex cn P (f + 1) fr lo mi ip L (.int j :: .ref k :: r) h = xex cn P f fr lo mi (ip + 1) L (v :: r) h := by
  obtain ⟨M, hM, hc⟩ := hx
  conv => lhs; unfold xex
  rw [hM]
  obtain ⟨y, by', mL, ret, np, kd, code⟩ := M
  dsimp only at hc ⊢
  rw [hc]
  try dsimp only
  rw [h1]
  try dsimp only
  rw [if_pos h2]
theorem xe_lald {j : Int32} (hx : xAt P mi ip (.laload, pc, a, b, q)) (h1 : xitem h k j = some (t, v)) (h2 : t = 1) : xex cn P (f + 1) fr lo mi ip L (.int j :: .ref k :: r) h = xex cn P f fr lo mi (ip + 1) L (v :: r) h := by
  obtain ⟨M, hM, hc⟩ := hx
  conv => lhs; unfold xex
  rw [hM]
  obtain ⟨y, by', mL, ret, np, kd, code⟩ := M
  dsimp only at hc ⊢
  rw [hc]
  try dsimp only
  rw [h1]
  try dsimp only
  rw [if_pos h2]
theorem xe_bald {j : Int32} (hx : xAt P mi ip (.baload, pc, a, b, q)) (h1 : xitem h k j = some (t, v)) (h2 : t = 2 ∨ t = 3) : xex cn P (f + 1) fr lo mi ip L (.int j :: .ref k :: r) h = xex cn P f fr lo mi (ip + 1) L (v :: r) h := by
  obtain ⟨M, hM, hc⟩ := hx
  conv => lhs; unfold xex
  rw [hM]
  obtain ⟨y, by', mL, ret, np, kd, code⟩ := M
  dsimp only at hc ⊢
  rw [hc]
  try dsimp only
  rw [h1]
  try dsimp only
  rw [if_pos h2]
theorem xe_aald {j : Int32} (hx : xAt P mi ip (.aaload, pc, a, b, q)) (h1 : xitem h k j = some (t, v)) (h2 : 4 ≤ t ∧ (P.2.2.1[t]?).isSome = true) : xex cn P (f + 1) fr lo mi ip L (.int j :: .ref k :: r) h = xex cn P f fr lo mi (ip + 1) L (v :: r) h := by
  obtain ⟨M, hM, hc⟩ := hx
  conv => lhs; unfold xex
  rw [hM]
  obtain ⟨y, by', mL, ret, np, kd, code⟩ := M
  dsimp only at hc ⊢
  rw [hc]
  try dsimp only
  rw [h1]
  try dsimp only
  rw [if_pos h2]
theorem xe_iast {j : Int32} {x : Int32} {h1' : xH} (hx : xAt P mi ip (.iastore, pc, a, b, q)) (h1 : xputi P.2.2.2.2.2 h k j (.int x) = some (t, h1')) (h2 : t = 0) : xex cn P (f + 1) fr lo mi ip L (.int x :: .int j :: .ref k :: r) h = xex cn P f fr lo mi (ip + 1) L r h1' := by
  obtain ⟨M, hM, hc⟩ := hx
  conv => lhs; unfold xex
  rw [hM]
  obtain ⟨y, by', mL, ret, np, kd, code⟩ := M
  dsimp only at hc ⊢
  rw [hc]
  try dsimp only
  rw [h1]
  try dsimp only
  rw [if_pos h2]
theorem xe_bast {j : Int32} {x : Int32} {h1' : xH} (hx : xAt P mi ip (.bastore, pc, a, b, q)) (h1 : xputi P.2.2.2.2.2 h k j (.int x) = some (t, h1')) (h2 : (t = 2 ∧ xfit .byte (.int x)) ∨ (t = 3 ∧ xfit .boolean (.int x))) : xex cn P (f + 1) fr lo mi ip L (.int x :: .int j :: .ref k :: r) h = xex cn P f fr lo mi (ip + 1) L r h1' := by
  obtain ⟨M, hM, hc⟩ := hx
  conv => lhs; unfold xex
  rw [hM]
  obtain ⟨y, by', mL, ret, np, kd, code⟩ := M
  dsimp only at hc ⊢
  rw [hc]
  try dsimp only
  rw [h1]
  try dsimp only
  rw [if_pos h2]
theorem xe_last {j : Int32} {x : Int64} {h1' : xH} (hx : xAt P mi ip (.lastore, pc, a, b, q)) (h1 : xputi P.2.2.2.2.2 h k j (.long x) = some (t, h1')) (h2 : t = 1) : xex cn P (f + 1) fr lo mi ip L (.long x :: .int j :: .ref k :: r) h = xex cn P f fr lo mi (ip + 1) L r h1' := by
  obtain ⟨M, hM, hc⟩ := hx
  conv => lhs; unfold xex
  rw [hM]
  obtain ⟨y, by', mL, ret, np, kd, code⟩ := M
  dsimp only at hc ⊢
  rw [hc]
  try dsimp only
  rw [h1]
  try dsimp only
  rw [if_pos h2]
theorem xe_aast {j : Int32} {ty : FieldType} {h1' : xH} (hx : xAt P mi ip (.aastore, pc, a, b, q)) (h1 : xputi P.2.2.2.2.2 h k j v = some (t, h1')) (h2 : P.2.2.1[t]? = some ty) (h3 : 4 ≤ t ∧ xast P.2.2.2.2.2 cn ty P.2.2.1 h v) : xex cn P (f + 1) fr lo mi ip L (v :: .int j :: .ref k :: r) h = xex cn P f fr lo mi (ip + 1) L r h1' := by
  obtain ⟨M, hM, hc⟩ := hx
  conv => lhs; unfold xex
  rw [hM]
  obtain ⟨y, by', mL, ret, np, kd, code⟩ := M
  dsimp only at hc ⊢
  rw [hc]
  try dsimp only
  rw [h1]
  try dsimp only
  rw [h2]
  try dsimp only
  rw [if_pos h3]
theorem xe_alen {vs : List Value} (hx : xAt P mi ip (.arraylength, pc, a, b, q)) (h1 : h[k]? = some (.inr (t, vs))) (h2 : (P.2.2.1[t]?).isSome = true) : xex cn P (f + 1) fr lo mi ip L (.ref k :: r) h = xex cn P f fr lo mi (ip + 1) L (.int (Int32.ofNat vs.length) :: r) h := by
  obtain ⟨M, hM, hc⟩ := hx
  conv => lhs; unfold xex
  rw [hM]
  obtain ⟨y, by', mL, ret, np, kd, code⟩ := M
  dsimp only at hc ⊢
  rw [hc]
  try dsimp only
  rw [h1]
  try dsimp only
  rw [if_pos h2]
theorem xe_new {tys : List FieldType} (hx : xAt P mi ip (.new idx, pc, a, b, q)) (h1 : P.2.1[a]? = some tys) : xex cn P (f + 1) fr lo mi ip L (st) h = xex cn P f fr lo mi (ip + 1) L (.ref h.length :: st) (h ++ [.inl (a, tys.map defaultValue)]) := by
  obtain ⟨M, hM, hc⟩ := hx
  conv => lhs; unfold xex
  rw [hM]
  obtain ⟨y, by', mL, ret, np, kd, code⟩ := M
  dsimp only at hc ⊢
  rw [hc]
  try dsimp only
  rw [h1]
theorem xe_newa {n : Int32} {ty : FieldType} {at' : ArrayType} (hx : xAt P mi ip (.newarray at', pc, a, b, q)) (h1 : P.2.2.1[a]? = some ty) (h2 : ¬ (n < 0 ∨ 65536 < n.toNatClampNeg)) : xex cn P (f + 1) fr lo mi ip L (.int n :: r) h = xex cn P f fr lo mi (ip + 1) L (.ref h.length :: r) (h ++ [.inr (a, List.replicate n.toNatClampNeg (defaultValue ty))]) := by
  obtain ⟨M, hM, hc⟩ := hx
  conv => lhs; unfold xex
  rw [hM]
  obtain ⟨y, by', mL, ret, np, kd, code⟩ := M
  dsimp only at hc ⊢
  rw [hc]
  try dsimp only
  rw [h1]
  try dsimp only
  rw [if_neg h2]
theorem xe_anew {n : Int32} (hx : xAt P mi ip (.anewarray idx, pc, a, b, q)) (h2 : ¬ (n < 0 ∨ 65536 < n.toNatClampNeg)) : xex cn P (f + 1) fr lo mi ip L (.int n :: r) h = xex cn P f fr lo mi (ip + 1) L (.ref h.length :: r) (h ++ [.inr (a, List.replicate n.toNatClampNeg .null)]) := by
  obtain ⟨M, hM, hc⟩ := hx
  conv => lhs; unfold xex
  rw [hM]
  obtain ⟨y, by', mL, ret, np, kd, code⟩ := M
  dsimp only at hc ⊢
  rw [hc]
  try dsimp only
  rw [if_neg h2]
theorem xe_mna {n k2 : Int32} {ty : FieldType} {dd : Nat} (hx : xAt P mi ip (.multianewarray idx dd, pc, a, b, q)) (h1 : P.2.2.1[b]? = some ty) (h2 : ¬ (n < 0 ∨ k2 < 0 ∨ 65536 < n.toNatClampNeg ∨ 65536 < k2.toNatClampNeg)) : xex cn P (f + 1) fr lo mi ip L (.int k2 :: .int n :: r) h = xex cn P f fr lo mi (ip + 1) L (.ref h.length :: r) (h ++ .inr (a, (List.range n.toNatClampNeg).map (fun i => .ref (h.length + 1 + i))) :: List.replicate n.toNatClampNeg (.inr (b, List.replicate k2.toNatClampNeg (defaultValue ty)))) := by
  obtain ⟨M, hM, hc⟩ := hx
  conv => lhs; unfold xex
  rw [hM]
  obtain ⟨y, by', mL, ret, np, kd, code⟩ := M
  dsimp only at hc ⊢
  rw [hc]
  try dsimp only
  rw [h1]
  try dsimp only
  rw [if_neg h2]
theorem xe_callV {M1 : xM} {c0 : Nat} {fs : List Value} {w : Option Value} {h1' : xH} (hx : xAt P mi ip (.invokevirtual idx, pc, a, b, q)) (hM1 : P.1[a]? = some M1) (h1 : st.drop M1.2.2.2.2.1 = .ref k :: r) (h2 : h[k]? = some (.inl (c0, fs))) (h3 : M1.2.2.2.2.2.1 = 1 ∧ cn[c0]? = some M1.1.cls ∧ M1.2.2.2.2.1 ≤ st.length ∧ (xargs (.ref k :: (st.take M1.2.2.2.2.1).reverse)).length ≤ M1.2.2.1 ∧ xcats r ≤ 8 ∧ 1 ≤ fr ∧ 19 + M1.2.2.1 ≤ lo) (h4 : xex cn P f (fr - 1) (lo - (19 + M1.2.2.1)) a 0 (xargs (.ref k :: (st.take M1.2.2.2.2.1).reverse) ++ List.replicate (M1.2.2.1 - (xargs (.ref k :: (st.take M1.2.2.2.2.1).reverse)).length) none) [] h = some (w, h1')) : xex cn P (f + 1) fr lo mi ip L (st) h = xex cn P f fr lo mi (ip + 1) L (w.toList ++ r) h1' := by
  obtain ⟨M, hM, hc⟩ := hx
  conv => lhs; unfold xex
  rw [hM]
  obtain ⟨y, by', mL, ret, np, kd, code⟩ := M
  dsimp only at hc ⊢
  rw [hc]
  try dsimp only
  obtain ⟨y1, b1, mL1, ret1, n1, kd1, code1⟩ := M1
  dsimp only at h1 h3 h4 ⊢
  rw [hM1]
  try dsimp only
  rw [h1]
  try dsimp only
  rw [h2]
  try dsimp only
  rw [if_pos h3, h4]
theorem xe_callI {M1 : xM} {w : Option Value} {h1' : xH} (hx : xAt P mi ip (.invokespecial idx, pc, a, b, q)) (hb : ¬ b = 1) (hM1 : P.1[a]? = some M1) (h1 : st.drop M1.2.2.2.2.1 = .ref k :: r) (h3 : M1.2.2.2.2.2.1 = 2 ∧ M1.2.2.2.2.1 ≤ st.length ∧ (xargs (.ref k :: (st.take M1.2.2.2.2.1).reverse)).length ≤ M1.2.2.1 ∧ xcats r ≤ 8 ∧ 1 ≤ fr ∧ 19 + M1.2.2.1 ≤ lo) (h4 : xex cn P f (fr - 1) (lo - (19 + M1.2.2.1)) a 0 (xargs (.ref k :: (st.take M1.2.2.2.2.1).reverse) ++ List.replicate (M1.2.2.1 - (xargs (.ref k :: (st.take M1.2.2.2.2.1).reverse)).length) none) [] h = some (w, h1')) : xex cn P (f + 1) fr lo mi ip L (st) h = xex cn P f fr lo mi (ip + 1) L (w.toList ++ r) h1' := by
  obtain ⟨M, hM, hc⟩ := hx
  conv => lhs; unfold xex
  rw [hM]
  obtain ⟨y, by', mL, ret, np, kd, code⟩ := M
  dsimp only at hc ⊢
  rw [hc]
  try dsimp only
  rw [if_neg hb]
  obtain ⟨y1, b1, mL1, ret1, n1, kd1, code1⟩ := M1
  dsimp only at h1 h3 h4 ⊢
  rw [hM1]
  try dsimp only
  rw [h1]
  try dsimp only
  rw [if_pos h3, h4]
theorem xe_callS {M1 : xM} {w : Option Value} {h1' : xH} (hx : xAt P mi ip (.invokestatic idx, pc, a, b, q)) (hb : ¬ b = 1 ∧ ¬ b = 2 ∧ ¬ b = 3 ∧ ¬ b = 4) (hM1 : P.1[a]? = some M1) (h3 : M1.2.2.2.2.2.1 = 0 ∧ M1.2.2.2.2.1 ≤ st.length ∧ (xargs (st.take M1.2.2.2.2.1).reverse).length ≤ M1.2.2.1 ∧ xcats (st.drop M1.2.2.2.2.1) ≤ 8 ∧ 1 ≤ fr ∧ 19 + M1.2.2.1 ≤ lo) (h4 : xex cn P f (fr - 1) (lo - (19 + M1.2.2.1)) a 0 (xargs (st.take M1.2.2.2.2.1).reverse ++ List.replicate (M1.2.2.1 - (xargs (st.take M1.2.2.2.2.1).reverse).length) none) [] h = some (w, h1')) : xex cn P (f + 1) fr lo mi ip L (st) h = xex cn P f fr lo mi (ip + 1) L (w.toList ++ st.drop M1.2.2.2.2.1) h1' := by
  obtain ⟨M, hM, hc⟩ := hx
  conv => lhs; unfold xex
  rw [hM]
  obtain ⟨y, by', mL, ret, np, kd, code⟩ := M
  dsimp only at hc ⊢
  rw [hc]
  try dsimp only
  rw [if_neg hb.1, if_neg hb.2.1, if_neg hb.2.2.1, if_neg hb.2.2.2]
  obtain ⟨y1, b1, mL1, ret1, n1, kd1, code1⟩ := M1
  dsimp only at h3 h4 ⊢
  rw [hM1]
  try dsimp only
  rw [if_pos h3, h4]
theorem xe_obji (hx : xAt P mi ip (.invokespecial idx, pc, a, b, q)) (hb : b = 1) (h3 : xcats r ≤ 8 ∧ 1 ≤ fr ∧ 100 ≤ lo) : xex cn P (f + 1) fr lo mi ip L (.ref k :: r) h = xex cn P f fr lo mi (ip + 1) L r h := by
  obtain ⟨M, hM, hc⟩ := hx
  conv => lhs; unfold xex
  rw [hM]
  obtain ⟨y, by', mL, ret, np, kd, code⟩ := M
  dsimp only at hc ⊢
  rw [hc]
  try dsimp only
  rw [if_pos hb]
  try dsimp only
  rw [if_pos h3]
theorem xe_acpy {n dp sp : Int32} {s d : Nat} {h1' : xH} (hx : xAt P mi ip (.invokestatic idx, pc, a, b, q)) (hb : b = 1) (h1 : xacopy P.2.2.2.2.2 h s sp d dp n = some h1') (h3 : xcats r ≤ 8 ∧ 1 ≤ fr ∧ 100 ≤ lo) : xex cn P (f + 1) fr lo mi ip L (.int n :: .int dp :: .ref d :: .int sp :: .ref s :: r) h = xex cn P f fr lo mi (ip + 1) L r h1' := by
  obtain ⟨M, hM, hc⟩ := hx
  conv => lhs; unfold xex
  rw [hM]
  obtain ⟨y, by', mL, ret, np, kd, code⟩ := M
  dsimp only at hc ⊢
  rw [hc]
  try dsimp only
  rw [if_pos hb]
  try dsimp only
  rw [h1]
  try dsimp only
  rw [if_pos h3]
theorem xe_ci {n j : Int32} (hx : xAt P mi ip (.invokestatic idx, pc, a, b, q)) (hb : b = 2) (h3 : ¬ j < 0 ∧ j < n ∧ xcats r ≤ 8 ∧ 2 ≤ fr ∧ 100 ≤ lo) : xex cn P (f + 1) fr lo mi ip L (.int n :: .int j :: r) h = xex cn P f fr lo mi (ip + 1) L r h := by
  obtain ⟨M, hM, hc⟩ := hx
  conv => lhs; unfold xex
  rw [hM]
  obtain ⟨y, by', mL, ret, np, kd, code⟩ := M
  dsimp only at hc ⊢
  rw [hc]
  try dsimp only
  rw [if_neg (by omega), if_pos hb]
  try dsimp only
  rw [if_pos h3]
theorem xe_max {x y : Int32} (hx : xAt P mi ip (.invokestatic idx, pc, a, b, q)) (hb : b = 3) (h3 : xcats r ≤ 8 ∧ 1 ≤ fr ∧ 100 ≤ lo) : xex cn P (f + 1) fr lo mi ip L (.int y :: .int x :: r) h = xex cn P f fr lo mi (ip + 1) L (.int (if x < y then y else x) :: r) h := by
  obtain ⟨M, hM, hc⟩ := hx
  conv => lhs; unfold xex
  rw [hM]
  obtain ⟨y, by', mL, ret, np, kd, code⟩ := M
  dsimp only at hc ⊢
  rw [hc]
  try dsimp only
  rw [if_neg (by omega), if_neg (by omega), if_pos hb]
  try dsimp only
  rw [if_pos h3]
theorem xe_min {x y : Int32} (hx : xAt P mi ip (.invokestatic idx, pc, a, b, q)) (hb : b = 4) (h3 : xcats r ≤ 8 ∧ 1 ≤ fr ∧ 100 ≤ lo) : xex cn P (f + 1) fr lo mi ip L (.int y :: .int x :: r) h = xex cn P f fr lo mi (ip + 1) L (.int (if y < x then y else x) :: r) h := by
  obtain ⟨M, hM, hc⟩ := hx
  conv => lhs; unfold xex
  rw [hM]
  obtain ⟨y, by', mL, ret, np, kd, code⟩ := M
  dsimp only at hc ⊢
  rw [hc]
  try dsimp only
  rw [if_neg (by omega), if_neg (by omega), if_neg (by omega), if_pos hb]
  try dsimp only
  rw [if_pos h3]
theorem xe_pure {i : Instr} {ip1 : Nat} {M : xM} (hM : P.1[mi]? = some M) (hc : M.2.2.2.2.2.2[ip]? = some (i, pc, a, b, q)) (hi : xhp i = false) (hp : xpure M.2.2.2.2.2.2 P.2.2.2.1 i pc a ip L st = some (ip1, L1, st1)) : xex cn P (f + 1) fr lo mi ip L st h = xex cn P f fr lo mi ip1 L1 st1 h := by
  conv => lhs; unfold xex
  rw [hM]
  obtain ⟨y, by', mL, ret, np, kd, code⟩ := M
  dsimp only at hc hp ⊢
  rw [hc]
  try dsimp only
  cases i <;> first | (cases hi; done) | (dsimp only; rw [hp])
theorem xe_iret {x : Int32} {M : xM} {ty : FieldType} (hM : P.1[mi]? = some M) (hc : M.2.2.2.2.2.2[ip]? = some (.ireturn, pc, a, b, q)) (hr : M.2.2.2.1 = some ty) (hf : xfit ty (.int x) = true) : xex cn P (f + 1) fr lo mi ip L [.int x] h = some (some (.int x), h) := by
  conv => lhs; unfold xex
  rw [hM]
  obtain ⟨y, by', mL, ret, np, kd, code⟩ := M
  dsimp only at hc hr ⊢
  subst hr
  rw [hc]
  try dsimp only
  rw [if_pos hf]
theorem xe_lret {x : Int64} {M : xM} (hM : P.1[mi]? = some M) (hc : M.2.2.2.2.2.2[ip]? = some (.lreturn, pc, a, b, q)) (hr : M.2.2.2.1 = some .long) : xex cn P (f + 1) fr lo mi ip L [.long x] h = some (some (.long x), h) := by
  conv => lhs; unfold xex
  rw [hM]
  obtain ⟨y, by', mL, ret, np, kd, code⟩ := M
  dsimp only at hc hr ⊢
  subst hr
  rw [hc]
theorem xe_aret {M : xM} {ty : FieldType} (hM : P.1[mi]? = some M) (hc : M.2.2.2.2.2.2[ip]? = some (.areturn, pc, a, b, q)) (hr : M.2.2.2.1 = some ty) (ht : refKind ty = true) (hv : xisA v = true) : xex cn P (f + 1) fr lo mi ip L [v] h = some (some v, h) := by
  conv => lhs; unfold xex
  rw [hM]
  obtain ⟨y, by', mL, ret, np, kd, code⟩ := M
  dsimp only at hc hr ⊢
  subst hr
  rw [hc]
  try dsimp only
  cases ty <;> first | (cases ht; done) | (dsimp only; rw [if_pos hv])
theorem xe_vret {M : xM} (hM : P.1[mi]? = some M) (hc : M.2.2.2.2.2.2[ip]? = some (.return_, pc, a, b, q)) (hr : M.2.2.2.1 = none) : xex cn P (f + 1) fr lo mi ip L [] h = some (none, h) := by
  conv => lhs; unfold xex
  rw [hM]
  obtain ⟨y, by', mL, ret, np, kd, code⟩ := M
  dsimp only at hc hr ⊢
  subst hr
  rw [hc]
end STEPS
