/-! ROWS for arrays of ints and longs, where the item read is told by its place in the list -/
theorem yjn {j : Int32} (h : 0 ≤ j.toInt) : ¬ j < 0 ∧ j.toNatClampNeg = j.toInt.toNat := by
  refine ⟨?_, rfl⟩
  rw [Int32.lt_iff_toInt_lt]
  have : (0 : Int32).toInt = 0 := by decide
  omega
theorem yget {α : Type} {l : List α} {j : Int32} (h : 0 ≤ j.toInt ∧ j.toInt < l.length) : ∃ x, l[j.toInt.toNat]? = some x := ⟨_, List.getElem?_eq_getElem (by omega)⟩
section TROWS3
variable {X : List Int32} {fr lo mi ip pc a b q c s : Nat} {L L1 : xL} {st st1 r : List Value} {D D1 : List xE} {v : Value} {k t : Nat} {idx : Nat} {x y : Int32} {j : Int32} {M : xM} {Q : Option Value → List xE → Prop}
theorem yt_ild {l : List Int32} (hM : xpr.1[mi]? = some M) (hc : M.2.2.2.2.2.2[ip]? = some (.iaload, pc, a, b, q)) (e1 : (k, .inr (0, l.map Value.int)) ∈ D ++ xcon X) (e2 : 0 ≤ j.toInt ∧ j.toInt < l.length) (kk : ∀ x, l[j.toInt.toNat]? = some x → yT X fr lo mi (ip + 1) L (.int x :: r) D c s Q) : yT X fr lo mi ip L (.int j :: .ref k :: r) D c s Q := by
  obtain ⟨x, hx⟩ := yget e2
  exact xt_iald hM hc e1 (yjn e2.1).1 (by rw [(yjn e2.1).2, List.getElem?_map, hx]; rfl) (kk x hx)
theorem yt_lld {l : List Int64} (hM : xpr.1[mi]? = some M) (hc : M.2.2.2.2.2.2[ip]? = some (.laload, pc, a, b, q)) (e1 : (k, .inr (1, l.map Value.long)) ∈ D ++ xcon X) (e2 : 0 ≤ j.toInt ∧ j.toInt < l.length) (kk : ∀ x, l[j.toInt.toNat]? = some x → yT X fr lo mi (ip + 1) L (.long x :: r) D c s Q) : yT X fr lo mi ip L (.int j :: .ref k :: r) D c s Q := by
  obtain ⟨x, hx⟩ := yget e2
  exact xt_lald hM hc e1 (yjn e2.1).1 (by rw [(yjn e2.1).2, List.getElem?_map, hx]; rfl) (kk x hx)
theorem yt_bld {l : List Int32} (hM : xpr.1[mi]? = some M) (hc : M.2.2.2.2.2.2[ip]? = some (.baload, pc, a, b, q)) (e0 : t = 2 ∨ t = 3) (e1 : (k, .inr (t, l.map Value.int)) ∈ D ++ xcon X) (e2 : 0 ≤ j.toInt ∧ j.toInt < l.length) (kk : ∀ x, l[j.toInt.toNat]? = some x → yT X fr lo mi (ip + 1) L (.int x :: r) D c s Q) : yT X fr lo mi ip L (.int j :: .ref k :: r) D c s Q := by
  obtain ⟨x, hx⟩ := yget e2
  exact xt_bald hM hc e0 e1 (yjn e2.1).1 (by rw [(yjn e2.1).2, List.getElem?_map, hx]; rfl) (kk x hx)
theorem yt_ald {l : List Value} (hM : xpr.1[mi]? = some M) (hc : M.2.2.2.2.2.2[ip]? = some (.aaload, pc, a, b, q)) (e0 : 4 ≤ t ∧ (xats[t]?).isSome = true) (e1 : (k, .inr (t, l)) ∈ D ++ xcon X) (e2 : 0 ≤ j.toInt ∧ j.toInt < l.length) (kk : ∀ x, l[j.toInt.toNat]? = some x → yT X fr lo mi (ip + 1) L (x :: r) D c s Q) : yT X fr lo mi ip L (.int j :: .ref k :: r) D c s Q := by
  obtain ⟨x, hx⟩ := yget e2
  exact xt_aald hM hc e0 e1 (yjn e2.1).1 (by rw [(yjn e2.1).2, hx]) (kk x hx)
theorem yt_ist {l : List Int32} (hM : xpr.1[mi]? = some M) (hc : M.2.2.2.2.2.2[ip]? = some (.iastore, pc, a, b, q)) (i : Nat) (e1 : D[i]? = some (k, .inr (0, l.map Value.int))) (e2 : 0 ≤ j.toInt ∧ j.toInt < l.length) (e4 : D.set i (k, .inr (0, (l.set j.toInt.toNat y).map Value.int)) = D1) (kk : yT X fr lo mi (ip + 1) L r D1 c s Q) : yT X fr lo mi ip L (.int y :: .int j :: .ref k :: r) D c s Q :=
  xt_iast hM hc i e1 ⟨(yjn e2.1).1, by rw [(yjn e2.1).2, List.length_map]; omega⟩ (by rw [(yjn e2.1).2, ← List.map_set]; exact e4) kk
theorem yt_lst {l : List Int64} {y : Int64} (hM : xpr.1[mi]? = some M) (hc : M.2.2.2.2.2.2[ip]? = some (.lastore, pc, a, b, q)) (i : Nat) (e1 : D[i]? = some (k, .inr (1, l.map Value.long))) (e2 : 0 ≤ j.toInt ∧ j.toInt < l.length) (e4 : D.set i (k, .inr (1, (l.set j.toInt.toNat y).map Value.long)) = D1) (kk : yT X fr lo mi (ip + 1) L r D1 c s Q) : yT X fr lo mi ip L (.long y :: .int j :: .ref k :: r) D c s Q :=
  xt_last hM hc i e1 ⟨(yjn e2.1).1, by rw [(yjn e2.1).2, List.length_map]; omega⟩ (by rw [(yjn e2.1).2, ← List.map_set]; exact e4) kk
theorem yt_bst {l : List Int32} (hM : xpr.1[mi]? = some M) (hc : M.2.2.2.2.2.2[ip]? = some (.bastore, pc, a, b, q)) (i : Nat) (e1 : D[i]? = some (k, .inr (t, l.map Value.int))) (e0 : (t = 2 ∧ xfit .byte (.int y)) ∨ (t = 3 ∧ xfit .boolean (.int y))) (e2 : 0 ≤ j.toInt ∧ j.toInt < l.length) (e4 : D.set i (k, .inr (t, (l.set j.toInt.toNat y).map Value.int)) = D1) (kk : yT X fr lo mi (ip + 1) L r D1 c s Q) : yT X fr lo mi ip L (.int y :: .int j :: .ref k :: r) D c s Q :=
  xt_bast hM hc i e1 e0 ⟨(yjn e2.1).1, by rw [(yjn e2.1).2, List.length_map]; omega⟩ (by rw [(yjn e2.1).2, ← List.map_set]; exact e4) kk
theorem yt_ast {l : List Value} {ty : FieldType} (hM : xpr.1[mi]? = some M) (hc : M.2.2.2.2.2.2[ip]? = some (.aastore, pc, a, b, q)) (i : Nat) (e1 : D[i]? = some (k, .inr (t, l))) (e5 : xats[t]? = some ty) (e6 : 4 ≤ t) (e7 : xasE X D ty v) (e2 : 0 ≤ j.toInt ∧ j.toInt < l.length) (e4 : D.set i (k, .inr (t, l.set j.toInt.toNat v)) = D1) (kk : yT X fr lo mi (ip + 1) L r D1 c s Q) : yT X fr lo mi ip L (v :: .int j :: .ref k :: r) D c s Q :=
  xt_aast hM hc i e1 e5 e6 e7 ⟨(yjn e2.1).1, by rw [(yjn e2.1).2]; omega⟩ (by rw [(yjn e2.1).2]; exact e4) kk
theorem yt_newI {n : Int32} {at' : ArrayType} {c1 s1 : Nat} (hM : xpr.1[mi]? = some M) (hc : M.2.2.2.2.2.2[ip]? = some (.newarray at', pc, 0, b, q)) (e2 : 0 ≤ n.toInt ∧ n.toInt ≤ 65536) (hc1 : c1 + 1 ≤ c) (hs1 : s1 + n.toInt.toNat ≤ s) (kk : ∀ m, yT X fr lo mi (ip + 1) L (.ref m :: r) ((m, .inr (0, (List.replicate n.toInt.toNat (0 : Int32)).map Value.int)) :: D) c1 s1 Q) : yT X fr lo mi ip L (.int n :: r) D c s Q := by
  refine xt_newa hM hc rfl ?_ hc1 hs1 ?_
  · rintro (h | h)
    · exact (yjn e2.1).1 h
    · rw [(yjn e2.1).2] at h; omega
  · intro m
    have h := kk m
    rw [List.map_replicate] at h
    exact h
theorem yt_newJ {n : Int32} {at' : ArrayType} {c1 s1 : Nat} (hM : xpr.1[mi]? = some M) (hc : M.2.2.2.2.2.2[ip]? = some (.newarray at', pc, 1, b, q)) (e2 : 0 ≤ n.toInt ∧ n.toInt ≤ 65536) (hc1 : c1 + 1 ≤ c) (hs1 : s1 + n.toInt.toNat ≤ s) (kk : ∀ m, yT X fr lo mi (ip + 1) L (.ref m :: r) ((m, .inr (1, (List.replicate n.toInt.toNat (0 : Int64)).map Value.long)) :: D) c1 s1 Q) : yT X fr lo mi ip L (.int n :: r) D c s Q := by
  refine xt_newa hM hc rfl ?_ hc1 hs1 ?_
  · rintro (h | h)
    · exact (yjn e2.1).1 h
    · rw [(yjn e2.1).2] at h; omega
  · intro m
    have h := kk m
    rw [List.map_replicate] at h
    exact h
theorem yt_newA {n : Int32} {c1 s1 : Nat} (hM : xpr.1[mi]? = some M) (hc : M.2.2.2.2.2.2[ip]? = some (.anewarray idx, pc, a, b, q)) (e2 : 0 ≤ n.toInt ∧ n.toInt ≤ 65536) (hc1 : c1 + 1 ≤ c) (hs1 : s1 + n.toInt.toNat ≤ s) (kk : ∀ m, yT X fr lo mi (ip + 1) L (.ref m :: r) ((m, .inr (a, List.replicate n.toInt.toNat .null)) :: D) c1 s1 Q) : yT X fr lo mi ip L (.int n :: r) D c s Q := by
  refine xt_anew hM hc ?_ hc1 hs1 kk
  rintro (h | h)
  · exact (yjn e2.1).1 h
  · rw [(yjn e2.1).2] at h; omega
/-- entries are kept up to their order -/
theorem yT.post {Q1 : Option Value → List xE → Prop} (w : yT X fr lo mi ip L st D c s Q1) (hQ : ∀ v D', Q1 v D' → ∃ D2, D'.Perm D2 ∧ Q v D2) : yT X fr lo mi ip L st D c s Q := by
  intro h H
  obtain ⟨v, h', D', w1, w2, w3, w4, w5⟩ := w h H
  obtain ⟨D2, p, q⟩ := hQ _ _ w5
  exact ⟨v, h', D2, w1, w2.perm p, w3, w4, q⟩
theorem yK.post {vs : List Value} {Q1 : Option Value → List xE → Prop} (w : yK X fr lo mi vs D c s Q1) (hQ : ∀ v D', Q1 v D' → ∃ D2, D'.Perm D2 ∧ Q v D2) : yK X fr lo mi vs D c s Q := by
  intro h H
  obtain ⟨v, h', D', w1, w2, w3, w4, w5⟩ := w h H
  obtain ⟨D2, p, q⟩ := hQ _ _ w5
  exact ⟨v, h', D2, w1, w2.perm p, w3, w4, q⟩
theorem yK.psub {vs : List Value} {Q1 : Option Value → List xE → Prop} (w : yK X fr lo mi vs D c s Q1) (hQ : ∀ v D', Q1 v D' → ∃ D2, D2.Sublist D' ∧ Q v D2) : yK X fr lo mi vs D c s Q := by
  intro h H
  obtain ⟨v, h', D', w1, w2, w3, w4, w5⟩ := w h H
  obtain ⟨D2, p, q⟩ := hQ _ _ w5
  exact ⟨v, h', D2, w1, w2.sub p, w3, w4, q⟩
end TROWS3
theorem ymvb {e : xE} {l l1 : List xE} (i : Nat) (hi : l[i]? = some e) (hD : l.eraseIdx i = l1) : (e :: l1).Perm l := by
  obtain ⟨h1, h2⟩ := ysplit hi
  subst hD
  rw [List.eraseIdx_eq_take_drop_succ]
  conv => rhs; rw [h1]
  exact List.perm_middle.symm
