/-! RUNS WITHOUT FUEL: from a place on the method comes to an answer; rows goal first -/
def xW (fr lo mi ip : Nat) (L : xL) (st : List Value) (h : xH) (v : Option Value) (h' : xH) : Prop := ∃ f, xex xcns xpr f fr lo mi ip L st h = some (v, h')
/-- a method's run on arguments -/
def xR (fr lo mi : Nat) (vs : List Value) (h : xH) (v : Option Value) (h' : xH) : Prop := ∃ M, xpr.1[mi]? = some M ∧ (xargs vs).length ≤ M.2.2.1 ∧ xW fr lo mi 0 (xargs vs ++ List.replicate (M.2.2.1 - (xargs vs).length) none) [] h v h'
theorem xW.up {fr lo fr2 lo2 mi ip : Nat} {L : xL} {st : List Value} {h h' : xH} {v : Option Value} (w : xW fr lo mi ip L st h v h') (h1 : fr ≤ fr2) (h2 : lo ≤ lo2) : xW fr2 lo2 mi ip L st h v h' := by
  obtain ⟨f, e⟩ := w
  exact ⟨f, xfuel _ _ _ _ _ _ _ _ _ _ e _ _ _ (Nat.le_refl _) h1 h2⟩
theorem xR.up {fr lo fr2 lo2 mi : Nat} {vs : List Value} {h h' : xH} {v : Option Value} (w : xR fr lo mi vs h v h') (h1 : fr ≤ fr2) (h2 : lo ≤ lo2) : xR fr2 lo2 mi vs h v h' := by
  obtain ⟨M, q1, q2, q3⟩ := w
  exact ⟨M, q1, q2, q3.up h1 h2⟩
section ROWS
variable {fr lo mi ip pc a b q : Nat} {L L1 : xL} {st st1 r : List Value} {h h' h1 : xH} {v : Value} {z : Option Value} {k t : Nat} {idx : Nat} {x : Int32} {j : Int32} {M : xM}
theorem xr_pure {i : Instr} {ip1 : Nat} (hM : xpr.1[mi]? = some M) (hc : M.2.2.2.2.2.2[ip]? = some (i, pc, a, b, q)) (hi : xhp i = false) (hp : xpure M.2.2.2.2.2.2 xcts i pc a ip L st = some (ip1, L1, st1)) (kk : xW fr lo mi ip1 L1 st1 h z h') : xW fr lo mi ip L st h z h' := by
  obtain ⟨f, e⟩ := kk
  exact ⟨f + 1, (xe_pure hM hc hi hp).trans e⟩
theorem xr_getf (hM : xpr.1[mi]? = some M) (hc : M.2.2.2.2.2.2[ip]? = some (.getfield idx, pc, a, b, q)) (e1 : xgetf h k a b = some v) (kk : xW fr lo mi (ip + 1) L (v :: r) h z h') : xW fr lo mi ip L (.ref k :: r) h z h' := by
  obtain ⟨f, e⟩ := kk
  exact ⟨f + 1, (xe_getf ⟨M, hM, hc⟩ e1).trans e⟩
theorem xr_putf {ty : FieldType} (hM : xpr.1[mi]? = some M) (hc : M.2.2.2.2.2.2[ip]? = some (.putfield idx, pc, a, b, q)) (e1 : (xfts[a]?).bind (fun tys => tys[b]?) = some ty) (e2 : xfit ty v = true) (e3 : xputf 78 h k a b v = some h1) (kk : xW fr lo mi (ip + 1) L r h1 z h') : xW fr lo mi ip L (v :: .ref k :: r) h z h' := by
  obtain ⟨f, e⟩ := kk
  exact ⟨f + 1, (xe_putf ⟨M, hM, hc⟩ e1 e2 e3).trans e⟩
theorem xr_gets (hM : xpr.1[mi]? = some M) (hc : M.2.2.2.2.2.2[ip]? = some (.getstatic idx, pc, a, b, q)) (e1 : ([.ref 1, .int 1] : List Value)[a]? = some v) (kk : xW fr lo mi (ip + 1) L (v :: st) h z h') : xW fr lo mi ip L st h z h' := by
  obtain ⟨f, e⟩ := kk
  exact ⟨f + 1, (xe_gets ⟨M, hM, hc⟩ e1).trans e⟩
theorem xr_iald (hM : xpr.1[mi]? = some M) (hc : M.2.2.2.2.2.2[ip]? = some (.iaload, pc, a, b, q)) (e1 : xitem h k j = some (t, v)) (e2 : t = 0) (kk : xW fr lo mi (ip + 1) L (v :: r) h z h') : xW fr lo mi ip L (.int j :: .ref k :: r) h z h' := by
  obtain ⟨f, e⟩ := kk
  exact ⟨f + 1, (xe_iald ⟨M, hM, hc⟩ e1 e2).trans e⟩
theorem xr_lald (hM : xpr.1[mi]? = some M) (hc : M.2.2.2.2.2.2[ip]? = some (.laload, pc, a, b, q)) (e1 : xitem h k j = some (t, v)) (e2 : t = 1) (kk : xW fr lo mi (ip + 1) L (v :: r) h z h') : xW fr lo mi ip L (.int j :: .ref k :: r) h z h' := by
  obtain ⟨f, e⟩ := kk
  exact ⟨f + 1, (xe_lald ⟨M, hM, hc⟩ e1 e2).trans e⟩
theorem xr_bald (hM : xpr.1[mi]? = some M) (hc : M.2.2.2.2.2.2[ip]? = some (.baload, pc, a, b, q)) (e1 : xitem h k j = some (t, v)) (e2 : t = 2 ∨ t = 3) (kk : xW fr lo mi (ip + 1) L (v :: r) h z h') : xW fr lo mi ip L (.int j :: .ref k :: r) h z h' := by
  obtain ⟨f, e⟩ := kk
  exact ⟨f + 1, (xe_bald ⟨M, hM, hc⟩ e1 e2).trans e⟩
theorem xr_aald (hM : xpr.1[mi]? = some M) (hc : M.2.2.2.2.2.2[ip]? = some (.aaload, pc, a, b, q)) (e1 : xitem h k j = some (t, v)) (e2 : 4 ≤ t ∧ (xats[t]?).isSome = true) (kk : xW fr lo mi (ip + 1) L (v :: r) h z h') : xW fr lo mi ip L (.int j :: .ref k :: r) h z h' := by
  obtain ⟨f, e⟩ := kk
  exact ⟨f + 1, (xe_aald ⟨M, hM, hc⟩ e1 e2).trans e⟩
theorem xr_iast {y : Int32} (hM : xpr.1[mi]? = some M) (hc : M.2.2.2.2.2.2[ip]? = some (.iastore, pc, a, b, q)) (e1 : xputi 78 h k j (.int y) = some (t, h1)) (e2 : t = 0) (kk : xW fr lo mi (ip + 1) L r h1 z h') : xW fr lo mi ip L (.int y :: .int j :: .ref k :: r) h z h' := by
  obtain ⟨f, e⟩ := kk
  exact ⟨f + 1, (xe_iast ⟨M, hM, hc⟩ e1 e2).trans e⟩
theorem xr_bast {y : Int32} (hM : xpr.1[mi]? = some M) (hc : M.2.2.2.2.2.2[ip]? = some (.bastore, pc, a, b, q)) (e1 : xputi 78 h k j (.int y) = some (t, h1)) (e2 : (t = 2 ∧ xfit .byte (.int y)) ∨ (t = 3 ∧ xfit .boolean (.int y))) (kk : xW fr lo mi (ip + 1) L r h1 z h') : xW fr lo mi ip L (.int y :: .int j :: .ref k :: r) h z h' := by
  obtain ⟨f, e⟩ := kk
  exact ⟨f + 1, (xe_bast ⟨M, hM, hc⟩ e1 e2).trans e⟩
theorem xr_last {y : Int64} (hM : xpr.1[mi]? = some M) (hc : M.2.2.2.2.2.2[ip]? = some (.lastore, pc, a, b, q)) (e1 : xputi 78 h k j (.long y) = some (t, h1)) (e2 : t = 1) (kk : xW fr lo mi (ip + 1) L r h1 z h') : xW fr lo mi ip L (.long y :: .int j :: .ref k :: r) h z h' := by
  obtain ⟨f, e⟩ := kk
  exact ⟨f + 1, (xe_last ⟨M, hM, hc⟩ e1 e2).trans e⟩
theorem xr_aast {ty : FieldType} (hM : xpr.1[mi]? = some M) (hc : M.2.2.2.2.2.2[ip]? = some (.aastore, pc, a, b, q)) (e1 : xputi 78 h k j v = some (t, h1)) (e2 : xats[t]? = some ty) (e3 : 4 ≤ t ∧ xast 78 xcns ty xats h v) (kk : xW fr lo mi (ip + 1) L r h1 z h') : xW fr lo mi ip L (v :: .int j :: .ref k :: r) h z h' := by
  obtain ⟨f, e⟩ := kk
  exact ⟨f + 1, (xe_aast ⟨M, hM, hc⟩ e1 e2 e3).trans e⟩
theorem xr_alen {vs : List Value} (hM : xpr.1[mi]? = some M) (hc : M.2.2.2.2.2.2[ip]? = some (.arraylength, pc, a, b, q)) (e1 : h[k]? = some (.inr (t, vs))) (e2 : (xats[t]?).isSome = true) (kk : xW fr lo mi (ip + 1) L (.int (Int32.ofNat vs.length) :: r) h z h') : xW fr lo mi ip L (.ref k :: r) h z h' := by
  obtain ⟨f, e⟩ := kk
  exact ⟨f + 1, (xe_alen ⟨M, hM, hc⟩ e1 e2).trans e⟩
theorem xr_new {tys : List FieldType} (hM : xpr.1[mi]? = some M) (hc : M.2.2.2.2.2.2[ip]? = some (.new idx, pc, a, b, q)) (e1 : xfts[a]? = some tys) (kk : xW fr lo mi (ip + 1) L (.ref h.length :: st) (h ++ [.inl (a, tys.map defaultValue)]) z h') : xW fr lo mi ip L st h z h' := by
  obtain ⟨f, e⟩ := kk
  exact ⟨f + 1, (xe_new ⟨M, hM, hc⟩ e1).trans e⟩
theorem xr_newa {n : Int32} {ty : FieldType} {at' : ArrayType} (hM : xpr.1[mi]? = some M) (hc : M.2.2.2.2.2.2[ip]? = some (.newarray at', pc, a, b, q)) (e1 : xats[a]? = some ty) (e2 : ¬ (n < 0 ∨ 65536 < n.toNatClampNeg)) (kk : xW fr lo mi (ip + 1) L (.ref h.length :: r) (h ++ [.inr (a, List.replicate n.toNatClampNeg (defaultValue ty))]) z h') : xW fr lo mi ip L (.int n :: r) h z h' := by
  obtain ⟨f, e⟩ := kk
  exact ⟨f + 1, (xe_newa ⟨M, hM, hc⟩ e1 e2).trans e⟩
theorem xr_anew {n : Int32} (hM : xpr.1[mi]? = some M) (hc : M.2.2.2.2.2.2[ip]? = some (.anewarray idx, pc, a, b, q)) (e2 : ¬ (n < 0 ∨ 65536 < n.toNatClampNeg)) (kk : xW fr lo mi (ip + 1) L (.ref h.length :: r) (h ++ [.inr (a, List.replicate n.toNatClampNeg .null)]) z h') : xW fr lo mi ip L (.int n :: r) h z h' := by
  obtain ⟨f, e⟩ := kk
  exact ⟨f + 1, (xe_anew ⟨M, hM, hc⟩ e2).trans e⟩
theorem xr_obji (hM : xpr.1[mi]? = some M) (hc : M.2.2.2.2.2.2[ip]? = some (.invokespecial idx, pc, a, b, q)) (hb : b = 1) (e3 : xcats r ≤ 8 ∧ 1 ≤ fr ∧ 100 ≤ lo) (kk : xW fr lo mi (ip + 1) L r h z h') : xW fr lo mi ip L (.ref k :: r) h z h' := by
  obtain ⟨f, e⟩ := kk
  exact ⟨f + 1, (xe_obji ⟨M, hM, hc⟩ hb e3).trans e⟩
theorem xr_acpy {n dp sp : Int32} {s d : Nat} (hM : xpr.1[mi]? = some M) (hc : M.2.2.2.2.2.2[ip]? = some (.invokestatic idx, pc, a, b, q)) (hb : b = 1) (e1 : xacopy 78 h s sp d dp n = some h1) (e3 : xcats r ≤ 8 ∧ 1 ≤ fr ∧ 100 ≤ lo) (kk : xW fr lo mi (ip + 1) L r h1 z h') : xW fr lo mi ip L (.int n :: .int dp :: .ref d :: .int sp :: .ref s :: r) h z h' := by
  obtain ⟨f, e⟩ := kk
  exact ⟨f + 1, (xe_acpy ⟨M, hM, hc⟩ hb e1 e3).trans e⟩
theorem xr_ci {n : Int32} (hM : xpr.1[mi]? = some M) (hc : M.2.2.2.2.2.2[ip]? = some (.invokestatic idx, pc, a, b, q)) (hb : b = 2) (e3 : ¬ j < 0 ∧ j < n ∧ xcats r ≤ 8 ∧ 2 ≤ fr ∧ 100 ≤ lo) (kk : xW fr lo mi (ip + 1) L r h z h') : xW fr lo mi ip L (.int n :: .int j :: r) h z h' := by
  obtain ⟨f, e⟩ := kk
  exact ⟨f + 1, (xe_ci ⟨M, hM, hc⟩ hb e3).trans e⟩
theorem xr_max {y : Int32} (hM : xpr.1[mi]? = some M) (hc : M.2.2.2.2.2.2[ip]? = some (.invokestatic idx, pc, a, b, q)) (hb : b = 3) (e3 : xcats r ≤ 8 ∧ 1 ≤ fr ∧ 100 ≤ lo) (kk : xW fr lo mi (ip + 1) L (.int (if x < y then y else x) :: r) h z h') : xW fr lo mi ip L (.int y :: .int x :: r) h z h' := by
  obtain ⟨f, e⟩ := kk
  exact ⟨f + 1, (xe_max ⟨M, hM, hc⟩ hb e3).trans e⟩
theorem xr_min {y : Int32} (hM : xpr.1[mi]? = some M) (hc : M.2.2.2.2.2.2[ip]? = some (.invokestatic idx, pc, a, b, q)) (hb : b = 4) (e3 : xcats r ≤ 8 ∧ 1 ≤ fr ∧ 100 ≤ lo) (kk : xW fr lo mi (ip + 1) L (.int (if y < x then y else x) :: r) h z h') : xW fr lo mi ip L (.int y :: .int x :: r) h z h' := by
  obtain ⟨f, e⟩ := kk
  exact ⟨f + 1, (xe_min ⟨M, hM, hc⟩ hb e3).trans e⟩
theorem xr_callV {M1 : xM} {c0 : Nat} {fs : List Value} {w : Option Value} (hM : xpr.1[mi]? = some M) (hc : M.2.2.2.2.2.2[ip]? = some (.invokevirtual idx, pc, a, b, q)) (hM1 : xpr.1[a]? = some M1) (e1 : st.drop M1.2.2.2.2.1 = .ref k :: r) (e2 : h[k]? = some (.inl (c0, fs))) (e3 : M1.2.2.2.2.2.1 = 1 ∧ xcns[c0]? = some M1.1.cls ∧ M1.2.2.2.2.1 ≤ st.length ∧ xcats r ≤ 8 ∧ 1 ≤ fr ∧ 19 + M1.2.2.1 ≤ lo) (hR : xR (fr - 1) (lo - (19 + M1.2.2.1)) a (.ref k :: (st.take M1.2.2.2.2.1).reverse) h w h1) (kk : xW fr lo mi (ip + 1) L (w.toList ++ r) h1 z h') : xW fr lo mi ip L st h z h' := by
  obtain ⟨f, e⟩ := kk
  obtain ⟨M2, g1, g2, f2, g3⟩ := hR
  cases hM1.symm.trans g1
  refine ⟨max f f2 + 1, (xe_callV ⟨M, hM, hc⟩ hM1 e1 e2 ⟨e3.1, e3.2.1, e3.2.2.1, g2, e3.2.2.2.1, e3.2.2.2.2.1, e3.2.2.2.2.2⟩ (xfuel _ _ _ _ _ _ _ _ _ _ g3 (max f f2) _ _ (Nat.le_max_right _ _) (Nat.le_refl _) (Nat.le_refl _))).trans (xfuel _ _ _ _ _ _ _ _ _ _ e (max f f2) fr lo (Nat.le_max_left _ _) (Nat.le_refl _) (Nat.le_refl _))⟩
theorem xr_callI {M1 : xM} {w : Option Value} (hM : xpr.1[mi]? = some M) (hc : M.2.2.2.2.2.2[ip]? = some (.invokespecial idx, pc, a, b, q)) (hb : ¬ b = 1) (hM1 : xpr.1[a]? = some M1) (e1 : st.drop M1.2.2.2.2.1 = .ref k :: r) (e3 : M1.2.2.2.2.2.1 = 2 ∧ M1.2.2.2.2.1 ≤ st.length ∧ xcats r ≤ 8 ∧ 1 ≤ fr ∧ 19 + M1.2.2.1 ≤ lo) (hR : xR (fr - 1) (lo - (19 + M1.2.2.1)) a (.ref k :: (st.take M1.2.2.2.2.1).reverse) h w h1) (kk : xW fr lo mi (ip + 1) L (w.toList ++ r) h1 z h') : xW fr lo mi ip L st h z h' := by
  obtain ⟨f, e⟩ := kk
  obtain ⟨M2, g1, g2, f2, g3⟩ := hR
  cases hM1.symm.trans g1
  refine ⟨max f f2 + 1, (xe_callI ⟨M, hM, hc⟩ hb hM1 e1 ⟨e3.1, e3.2.1, g2, e3.2.2.1, e3.2.2.2.1, e3.2.2.2.2⟩ (xfuel _ _ _ _ _ _ _ _ _ _ g3 (max f f2) _ _ (Nat.le_max_right _ _) (Nat.le_refl _) (Nat.le_refl _))).trans (xfuel _ _ _ _ _ _ _ _ _ _ e (max f f2) fr lo (Nat.le_max_left _ _) (Nat.le_refl _) (Nat.le_refl _))⟩
theorem xr_callS {M1 : xM} {w : Option Value} (hM : xpr.1[mi]? = some M) (hc : M.2.2.2.2.2.2[ip]? = some (.invokestatic idx, pc, a, b, q)) (hb : ¬ b = 1 ∧ ¬ b = 2 ∧ ¬ b = 3 ∧ ¬ b = 4) (hM1 : xpr.1[a]? = some M1) (e3 : M1.2.2.2.2.2.1 = 0 ∧ M1.2.2.2.2.1 ≤ st.length ∧ xcats (st.drop M1.2.2.2.2.1) ≤ 8 ∧ 1 ≤ fr ∧ 19 + M1.2.2.1 ≤ lo) (hR : xR (fr - 1) (lo - (19 + M1.2.2.1)) a (st.take M1.2.2.2.2.1).reverse h w h1) (kk : xW fr lo mi (ip + 1) L (w.toList ++ st.drop M1.2.2.2.2.1) h1 z h') : xW fr lo mi ip L st h z h' := by
  obtain ⟨f, e⟩ := kk
  obtain ⟨M2, g1, g2, f2, g3⟩ := hR
  cases hM1.symm.trans g1
  refine ⟨max f f2 + 1, (xe_callS ⟨M, hM, hc⟩ hb hM1 ⟨e3.1, e3.2.1, g2, e3.2.2.1, e3.2.2.2.1, e3.2.2.2.2⟩ (xfuel _ _ _ _ _ _ _ _ _ _ g3 (max f f2) _ _ (Nat.le_max_right _ _) (Nat.le_refl _) (Nat.le_refl _))).trans (xfuel _ _ _ _ _ _ _ _ _ _ e (max f f2) fr lo (Nat.le_max_left _ _) (Nat.le_refl _) (Nat.le_refl _))⟩
theorem xr_iret {ty : FieldType} (hM : xpr.1[mi]? = some M) (hc : M.2.2.2.2.2.2[ip]? = some (.ireturn, pc, a, b, q)) (hr : M.2.2.2.1 = some ty) (hf : xfit ty (.int x) = true) : xW fr lo mi ip L [.int x] h (some (.int x)) h := ⟨1, xe_iret (f := 0) hM hc hr hf⟩
theorem xr_lret {y : Int64} (hM : xpr.1[mi]? = some M) (hc : M.2.2.2.2.2.2[ip]? = some (.lreturn, pc, a, b, q)) (hr : M.2.2.2.1 = some .long) : xW fr lo mi ip L [.long y] h (some (.long y)) h := ⟨1, xe_lret (f := 0) hM hc hr⟩
theorem xr_aret {ty : FieldType} (hM : xpr.1[mi]? = some M) (hc : M.2.2.2.2.2.2[ip]? = some (.areturn, pc, a, b, q)) (hr : M.2.2.2.1 = some ty) (ht : refKind ty = true) (hv : xisA v = true) : xW fr lo mi ip L [v] h (some v) h := ⟨1, xe_aret (f := 0) hM hc hr ht hv⟩
theorem xr_vret (hM : xpr.1[mi]? = some M) (hc : M.2.2.2.2.2.2[ip]? = some (.return_, pc, a, b, q)) (hr : M.2.2.2.1 = none) : xW fr lo mi ip L [] h none h := ⟨1, xe_vret (f := 0) hM hc hr⟩
end ROWS
