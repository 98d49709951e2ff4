/-! ROWS OF BRANCHES, of calls walked into, of two-word comparisons -/
def xcN (c : Jvm.ClassFile.Cond) (x y : Int32) : Prop := match c with
  | .eq => x ≠ y
  | .ne => x = y
  | .lt => y.toInt ≤ x.toInt
  | .ge => x.toInt < y.toInt
  | .gt => x.toInt ≤ y.toInt
  | .le => y.toInt < x.toInt
theorem xcN_of {c : Jvm.ClassFile.Cond} {x y : Int32} (h : ¬ xcP c x y) : xcN c x y := by
  cases c <;> simp only [xcP, xcN] at h ⊢ <;> first | omega | exact h | exact Decidable.not_not.mp h
def xcLP (c : Jvm.ClassFile.Cond) (x y : Int64) : Prop := match c with
  | .eq => x = y
  | .ne => x ≠ y
  | .lt => x.toInt < y.toInt
  | .ge => y.toInt ≤ x.toInt
  | .gt => y.toInt < x.toInt
  | .le => x.toInt ≤ y.toInt
def xcLN (c : Jvm.ClassFile.Cond) (x y : Int64) : Prop := match c with
  | .eq => x ≠ y
  | .ne => x = y
  | .lt => y.toInt ≤ x.toInt
  | .ge => x.toInt < y.toInt
  | .gt => x.toInt ≤ y.toInt
  | .le => y.toInt < x.toInt
theorem xcLN_of {c : Jvm.ClassFile.Cond} {x y : Int64} (h : ¬ xcLP c x y) : xcLN c x y := by
  cases c <;> simp only [xcLP, xcLN] at h ⊢ <;> first | omega | exact h | exact Decidable.not_not.mp h
theorem xi64_eq {x y : Int64} : x = y ↔ x.toInt = y.toInt := Int64.toInt_inj.symm
theorem xi32_eq {x y : Int32} : x = y ↔ x.toInt = y.toInt := Int32.toInt_inj.symm
theorem xlcmp {c : Jvm.ClassFile.Cond} {x y : Int64} : xcP c (lg_cmp x y) 0 ↔ xcLP c x y := by
  have h0 : (0 : Int32).toInt = 0 := by decide
  have h1 : (1 : Int32).toInt = 1 := by decide
  have h2 : (-1 : Int32).toInt = -1 := by decide
  have hx : ∀ c : Jvm.ClassFile.Cond, (xcLP c x y ↔ match c with | .eq => x.toInt = y.toInt | .ne => ¬ x.toInt = y.toInt | .lt => x.toInt < y.toInt | .ge => y.toInt ≤ x.toInt | .gt => y.toInt < x.toInt | .le => x.toInt ≤ y.toInt) := by
    intro c
    cases c <;> simp only [xcLP, xi64_eq, Ne]
  have hy : ∀ (c : Jvm.ClassFile.Cond) (z : Int32), (xcP c z 0 ↔ match c with | .eq => z.toInt = 0 | .ne => ¬ z.toInt = 0 | .lt => z.toInt < 0 | .ge => 0 ≤ z.toInt | .gt => 0 < z.toInt | .le => z.toInt ≤ 0) := by
    intro c z
    cases c <;> simp only [xcP, xi32_eq, Ne, h0]
  rw [hx, hy]
  rcases Int.lt_trichotomy x.toInt y.toInt with h | h | h
  · have e : lg_cmp x y = -1 := by
      unfold lg_cmp
      rw [if_neg (by rw [gt_iff_lt, Int64.lt_iff_toInt_lt]; omega), if_neg (by rw [xi64_eq]; omega)]
    rw [e, h2]
    cases c <;> dsimp only <;> omega
  · have e : lg_cmp x y = 0 := by
      unfold lg_cmp
      rw [if_neg (by rw [gt_iff_lt, Int64.lt_iff_toInt_lt]; omega), if_pos (by rw [xi64_eq]; omega)]
    rw [e, h0]
    cases c <;> dsimp only <;> omega
  · have e : lg_cmp x y = 1 := by
      unfold lg_cmp
      rw [if_pos (by rw [gt_iff_lt, Int64.lt_iff_toInt_lt]; omega)]
    rw [e, h1]
    cases c <;> dsimp only <;> omega
section TROWS2
variable {X : List Int32} {fr lo mi ip pc a b q c s : Nat} {L L1 : xL} {st st1 r : List Value} {D D1 : List xE} {v : Value} {k t : Nat} {idx : Nat} {x y : Int32} {j : Int32} {M : xM} {Q : Option Value → List xE → Prop}
theorem yt_ic {cd : Jvm.ClassFile.Cond} {o : Int} (hM : xpr.1[mi]? = some M) (hc : M.2.2.2.2.2.2[ip]? = some (.if_icmp cd o, pc, a, b, q)) (kT : xcP cd x y → yT X fr lo mi a L r D c s Q) (kF : xcN cd x y → yT X fr lo mi (ip + 1) L r D c s Q) : yT X fr lo mi ip L (.int y :: .int x :: r) D c s Q := xt_ic hM hc kT (fun h => kF (xcN_of h))
theorem yt_if {cd : Jvm.ClassFile.Cond} {o : Int} (hM : xpr.1[mi]? = some M) (hc : M.2.2.2.2.2.2[ip]? = some (.ifCond cd o, pc, a, b, q)) (kT : xcP cd x 0 → yT X fr lo mi a L r D c s Q) (kF : xcN cd x 0 → yT X fr lo mi (ip + 1) L r D c s Q) : yT X fr lo mi ip L (.int x :: r) D c s Q := xt_if hM hc kT (fun h => kF (xcN_of h))
/-- lcmp and the branch behind it -/
theorem yt_lc {x y : Int64} {cd : Jvm.ClassFile.Cond} {o : Int} {pc2 a2 b2 q2 : Nat} (hM : xpr.1[mi]? = some M) (hc : M.2.2.2.2.2.2[ip]? = some (.lcmp, pc, a, b, q)) (hc2 : M.2.2.2.2.2.2[ip + 1]? = some (.ifCond cd o, pc2, a2, b2, q2)) (kT : xcLP cd x y → yT X fr lo mi a2 L r D c s Q) (kF : xcLN cd x y → yT X fr lo mi (ip + 1 + 1) L r D c s Q) : yT X fr lo mi ip L (.long y :: .long x :: r) D c s Q :=
  xt_pure hM hc rfl rfl (xt_if hM hc2 (fun h => kT (xlcmp.mp h)) (fun h => kF (xcLN_of (fun h2 => h (xlcmp.mpr h2)))))
/-- the other cases of a switch -/
theorem yt_tsd {d lo' hi : Int} {offs : Array Int} {tg : Nat} (hM : xpr.1[mi]? = some M) (hc : M.2.2.2.2.2.2[ip]? = some (.tableswitch d lo' hi offs, pc, a, b, q)) (hx : x.toInt < lo' ∨ hi < x.toInt) (ht : xat M.2.2.2.2.2.2 ((pc : Int) + d).toNat = some tg) (kk : yT X fr lo mi tg L r D c s Q) : yT X fr lo mi ip L (.int x :: r) D c s Q := by
  refine xt_pure hM hc rfl (L1 := L) (st1 := r) (ip1 := tg) ?_ kk
  unfold xpure
  dsimp only
  rw [if_pos hx, ht]
  rfl
theorem yt_lsd {d : Int} {ps : Array (Int × Int)} {tg : Nat} (hM : xpr.1[mi]? = some M) (hc : M.2.2.2.2.2.2[ip]? = some (.lookupswitch d ps, pc, a, b, q)) (hx : Op.lookupswitch.offset ps.toList d x.toInt = d) (ht : xat M.2.2.2.2.2.2 ((pc : Int) + d).toNat = some tg) (kk : yT X fr lo mi tg L r D c s Q) : yT X fr lo mi ip L (.int x :: r) D c s Q := by
  refine xt_pure hM hc rfl (L1 := L) (st1 := r) (ip1 := tg) ?_ kk
  unfold xpure
  dsimp only
  rw [hx, ht]
  rfl
/-- calls walked into: what is behind the call is what must hold at its end -/
theorem yt_inV {M1 : xM} {c0 c2 s2 fr1 lo1 c1 s1 : Nat} {ck : Nat × Value} (hM : xpr.1[mi]? = some M) (hc : M.2.2.2.2.2.2[ip]? = some (.invokevirtual idx, pc, a, b, q)) (hM1 : xpr.1[a]? = some M1) (e1 : st.drop M1.2.2.2.2.1 = .ref k :: r) (e2 : (k, .inl (c0, ck)) ∈ D ++ xcon X) (e3 : M1.2.2.2.2.2.1 = 1 ∧ xcns[c0]? = some M1.1.cls ∧ M1.2.2.2.2.1 ≤ st.length ∧ xcats r ≤ 8 ∧ fr1 + 1 ≤ fr ∧ lo1 + (19 + M1.2.2.1) ≤ lo) (hl : (xargs (.ref k :: (st.take M1.2.2.2.2.1).reverse)).length ≤ M1.2.2.1) (hL : xargs (.ref k :: (st.take M1.2.2.2.2.1).reverse) ++ List.replicate (M1.2.2.1 - (xargs (.ref k :: (st.take M1.2.2.2.2.1).reverse)).length) none = L1) (hcs : c1 + c2 ≤ c ∧ s1 + s2 ≤ s) (kk : yT X fr1 lo1 a 0 L1 [] D c1 s1 (fun w D1 => yT X fr lo mi (ip + 1) L (w.toList ++ r) D1 c2 s2 Q)) : yT X fr lo mi ip L st D c s Q := xt_callV hM hc hM1 e1 e2 e3 (yK.of hM1 hl hL kk) hcs (fun _ _ h => h)
theorem yt_inI {M1 : xM} {c2 s2 fr1 lo1 c1 s1 : Nat} (hM : xpr.1[mi]? = some M) (hc : M.2.2.2.2.2.2[ip]? = some (.invokespecial idx, pc, a, b, q)) (hb : ¬ b = 1) (hM1 : xpr.1[a]? = some M1) (e1 : st.drop M1.2.2.2.2.1 = .ref k :: r) (e3 : M1.2.2.2.2.2.1 = 2 ∧ M1.2.2.2.2.1 ≤ st.length ∧ xcats r ≤ 8 ∧ fr1 + 1 ≤ fr ∧ lo1 + (19 + M1.2.2.1) ≤ lo) (hl : (xargs (.ref k :: (st.take M1.2.2.2.2.1).reverse)).length ≤ M1.2.2.1) (hL : xargs (.ref k :: (st.take M1.2.2.2.2.1).reverse) ++ List.replicate (M1.2.2.1 - (xargs (.ref k :: (st.take M1.2.2.2.2.1).reverse)).length) none = L1) (hcs : c1 + c2 ≤ c ∧ s1 + s2 ≤ s) (kk : yT X fr1 lo1 a 0 L1 [] D c1 s1 (fun w D1 => yT X fr lo mi (ip + 1) L (w.toList ++ r) D1 c2 s2 Q)) : yT X fr lo mi ip L st D c s Q := xt_callI hM hc hb hM1 e1 e3 (yK.of hM1 hl hL kk) hcs (fun _ _ h => h)
theorem yt_inS {M1 : xM} {c2 s2 fr1 lo1 c1 s1 : Nat} (hM : xpr.1[mi]? = some M) (hc : M.2.2.2.2.2.2[ip]? = some (.invokestatic idx, pc, a, b, q)) (hb : ¬ b = 1 ∧ ¬ b = 2 ∧ ¬ b = 3 ∧ ¬ b = 4) (hM1 : xpr.1[a]? = some M1) (e3 : M1.2.2.2.2.2.1 = 0 ∧ M1.2.2.2.2.1 ≤ st.length ∧ xcats (st.drop M1.2.2.2.2.1) ≤ 8 ∧ fr1 + 1 ≤ fr ∧ lo1 + (19 + M1.2.2.1) ≤ lo) (hl : (xargs (st.take M1.2.2.2.2.1).reverse).length ≤ M1.2.2.1) (hL : xargs (st.take M1.2.2.2.2.1).reverse ++ List.replicate (M1.2.2.1 - (xargs (st.take M1.2.2.2.2.1).reverse).length) none = L1) (hcs : c1 + c2 ≤ c ∧ s1 + s2 ≤ s) (kk : yT X fr1 lo1 a 0 L1 [] D c1 s1 (fun w D1 => yT X fr lo mi (ip + 1) L (w.toList ++ st.drop M1.2.2.2.2.1) D1 c2 s2 Q)) : yT X fr lo mi ip L st D c s Q := xt_callS hM hc hb hM1 e3 (yK.of hM1 hl hL kk) hcs (fun _ _ h => h)
end TROWS2
