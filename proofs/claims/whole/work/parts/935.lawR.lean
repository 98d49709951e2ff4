/-! THE LAW: reading the script, calls of both -/
def lwA (X : List Int32) (j x : Int32) : Prop := ¬ j < 0 ∧ (X.map Value.int)[j.toNatClampNeg]? = some (.int x)
section LAWR
variable {X : List Int32} {fr lo mi ip pc a b q c s : Nat} {L : xL} {st r : List Value} {D : List xE} {idx : Nat} {x : Int32} {M : xM} {Q : Option Value → List xE → Prop}
/-- the class's call -/
theorem xt_callP {α : Type} {f : α → Value} {mm : Nat} {as : List Value} {M1 : xM} {c2 s2 : Nat} (hM : xpr.1[mi]? = some M) (hc : M.2.2.2.2.2.2[ip]? = some (.invokevirtual idx, pc, a, b, q)) (hM1 : xpr.1[a]? = some M1) (e1 : st.drop M1.2.2.2.2.1 = .ref 78 :: r) (e3 : M1.2.2.2.2.2.1 = 1 ∧ xcns[11]? = some M1.1.cls ∧ M1.2.2.2.2.1 ≤ st.length ∧ xcats r ≤ 8 ∧ 1300 + 1 ≤ fr ∧ 35000 + (19 + M1.2.2.1) ≤ lo) (ea : (st.take M1.2.2.2.2.1).reverse = as) (hR : yP2 f X a mm as D) (hcs : 200 + c2 ≤ c ∧ 2400 + s2 ≤ s) (kk : ∀ v D1, yK X 1300 35000 mm (.ref 209 :: as) D1 200 2400 (fun w2 D2 => w2 = some (f v) ∧ Inv D2) → yT X fr lo mi (ip + 1) L (f v :: r) D1 c2 s2 Q) : yT X fr lo mi ip L st D c s Q := by
  subst ea
  obtain ⟨v, hv⟩ := hR
  refine xt_callV hM hc hM1 e1 (xmC 115 rfl) e3 hv hcs ?_
  rintro w D1 ⟨rfl, hm⟩
  exact kk v D1 hm
/-- the reference's call -/
theorem xt_callM {as : List Value} {v : Value} {M1 : xM} {c2 s2 : Nat} (hM : xpr.1[mi]? = some M) (hc : M.2.2.2.2.2.2[ip]? = some (.invokevirtual idx, pc, a, b, q)) (hM1 : xpr.1[a]? = some M1) (e1 : st.drop M1.2.2.2.2.1 = .ref 209 :: r) (e3 : M1.2.2.2.2.2.1 = 1 ∧ xcns[14]? = some M1.1.cls ∧ M1.2.2.2.2.1 ≤ st.length ∧ xcats r ≤ 8 ∧ 1300 + 1 ≤ fr ∧ 35000 + (19 + M1.2.2.1) ≤ lo) (ea : (st.take M1.2.2.2.2.1).reverse = as) (hR : yK X 1300 35000 a (.ref 209 :: as) D 200 2400 (fun w2 D2 => w2 = some v ∧ Inv D2)) (hcs : 200 + c2 ≤ c ∧ 2400 + s2 ≤ s) (kk : ∀ D2, Inv D2 → yT X fr lo mi (ip + 1) L (v :: r) D2 c2 s2 Q) : yT X fr lo mi ip L st D c s Q := by
  subst ea
  refine xt_callV hM hc hM1 e1 (xmC 176 rfl) e3 hR hcs ?_
  rintro w D1 ⟨rfl, hI⟩
  exact kk D1 hI
/-- one case of a switch -/
theorem yt_ts {d lo' hi o : Int} {offs : Array Int} {tg : Nat} (hM : xpr.1[mi]? = some M) (hc : M.2.2.2.2.2.2[ip]? = some (.tableswitch d lo' hi offs, pc, a, b, q)) (hx : ¬ (x.toInt < lo' ∨ hi < x.toInt)) (ho : offs[(x.toInt - lo').toNat]? = some o) (ht : xat M.2.2.2.2.2.2 ((pc : Int) + o).toNat = some tg) (kk : yT X fr lo mi tg L r D c s Q) : yT X fr lo mi ip L (.int x :: r) D c s Q := by
  refine xt_pure hM hc rfl (L1 := L) (st1 := r) (ip1 := tg) ?_ kk
  unfold xpure
  dsimp only
  rw [if_neg hx, ho]
  dsimp only
  rw [ht]
  rfl
end LAWR
