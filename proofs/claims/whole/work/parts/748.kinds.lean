/-! NAMES IN EXPS: what stands at their nodes and codes -/
def GU (s : zP) (u : zU) : Prop := (∃ nd, s.2.2.2.1[u.2.2.2.2]? = some nd ∧ 1 ≤ nd.1.toInt ∧ nd.1.toInt ≤ 9) ∧ ∀ c, u.2.2.2.1 = some c → ∃ d, s.2.2.1[c]? = some d ∧ 7 ≤ d.1.toInt ∧ d.1.toInt ≤ 14
def Uk (s : zP) : Prop := ∀ (i : Nat) u, s.2.2.2.2[i]? = some u → GU s u
def Kv {β : Type} (r : zF β) : Prop := ∀ s b, r = .inl (s, b) → Uk s
section KINDS
variable {α β : Type} {tk : List zK} {s : zP} {fg : Nat} {rl : Nat → Nat → zP → zF Nat} {ro : Nat → zP → zF Nat} {i : Nat}
theorem Kv.bind {r : zF α} {f : zP → α → zF β} (h : Kv r) (g : ∀ s a, r = .inl (s, a) → Uk s → Kv (f s a)) : Kv (pb r f) := by
  intro s b hb
  obtain ⟨s1, a, q1, q2⟩ := pb_inl hb
  exact g s1 a q1 (h s1 a q1) s b q2
theorem Kv.ret {b : β} (h : Uk s) : Kv (.inl (s, b)) := by
  intro s1 b1 hb
  cases hb; exact h
theorem Kv.flt {k : Option Nat} : Kv (.inr k : zF β) := by
  intro s1 b1 hb
  cases hb
theorem Uk.nx (h : Uk s) : Uk (sNx s) := h
theorem Uk.no (h : Uk s) : Kv (sNo s) := by
  intro s1 b hb
  obtain ⟨_, rfl⟩ := sNo_inl hb
  exact h
theorem Uk.want {c : Int32} (h : Uk s) : Kv (pWant tk c s) := by
  intro s1 b hb
  obtain ⟨_, rfl⟩ := pWant_inl hb
  exact h
theorem Uk.em {d w : Int32} (h : Uk s) : Kv (sEm s d w) := by
  intro s1 b hb
  obtain ⟨_, rfl, _⟩ := sEm_inl hb
  intro j u hu
  obtain ⟨q1, q2⟩ := h j u hu
  refine ⟨q1, fun c hc => ?_⟩
  obtain ⟨d', g1, g2⟩ := q2 c hc
  exact ⟨d', by show (s.2.2.1 ++ [(d, w)])[c]? = _; rw [List.getElem?_append_left (List.getElem?_eq_some_iff.mp g1).1]; exact g1, g2⟩
theorem Uk.nd {x : yNd} (h : Uk s) : Kv (sNd s x) := by
  intro s1 b hb
  obtain ⟨_, rfl, _⟩ := sNd_inl hb
  intro j u hu
  obtain ⟨⟨nd, q1, q1'⟩, q2⟩ := h j u hu
  exact ⟨⟨nd, by show (s.2.2.2.1 ++ [x])[u.2.2.2.2]? = _; rw [List.getElem?_append_left (List.getElem?_eq_some_iff.mp q1).1]; exact q1, q1'⟩, q2⟩
theorem Uk.sn {j : Nat} {x : yNd} (h : Uk s) (h1 : 1 ≤ x.1.toInt) (h2 : x.1.toInt ≤ 9) : Uk (sSn s j x) := by
  intro k u hu
  obtain ⟨⟨nd, q1, q1'⟩, q2⟩ := h k u hu
  have hl := (List.getElem?_eq_some_iff.mp q1).1
  refine ⟨?_, q2⟩
  by_cases hj : j = u.2.2.2.2
  · exact ⟨x, by show (s.2.2.2.1.set j x)[u.2.2.2.2]? = _; rw [hj]; exact List.getElem?_set_self hl, h1, h2⟩
  · exact ⟨nd, by show (s.2.2.2.1.set j x)[u.2.2.2.2]? = _; rw [List.getElem?_set_ne hj]; exact q1, q1'⟩
theorem Uk.cd {j : Nat} {x d : Int32 × Int32} (h : Uk s) (hd : s.2.2.1[j]? = some d) (h1 : d.1.toInt < 7 ∨ 14 < d.1.toInt) : Uk (sCd s j x) := by
  intro k u hu
  obtain ⟨q1, q2⟩ := h k u hu
  refine ⟨q1, fun c hc => ?_⟩
  obtain ⟨d', g1, g2⟩ := q2 c hc
  have hj : j ≠ c := by
    rintro rfl
    rw [hd] at g1
    cases g1
    omega
  exact ⟨d', by show (s.2.2.1.set j x)[c]? = _; rw [List.getElem?_set_ne hj]; exact g1, g2⟩
theorem Uk.use {told n : Nat} {nd : yNd} (h : Uk s) (hn : s.2.2.2.1[n]? = some nd) (h1 : 1 ≤ nd.1.toInt) (h2 : nd.1.toInt ≤ 9) : Kv (pUse tk told n s) := by
  intro s1 b hb
  obtain ⟨hk, _, rfl, _⟩ := pUse_inl hb
  intro j u hu
  have hu : (s.2.2.2.2 ++ [(pl tk s.1, va tk s.1, told, none, n)])[j]? = some u := hu
  by_cases hi : j < s.2.2.2.2.length
  · rw [List.getElem?_append_left hi] at hu
    exact h j u hu
  · have hil := (List.getElem?_eq_some_iff.mp hu).1
    rw [List.length_append, List.length_singleton] at hil
    obtain rfl : j = s.2.2.2.2.length := by omega
    rw [List.getElem?_append_right (Nat.le_refl _), Nat.sub_self] at hu
    cases hu
    exact ⟨⟨nd, hn, h1, h2⟩, fun c hc => by cases hc⟩
theorem Uk.su {u a : Nat} {b : Int64} {t n : Nat} {nd : yNd} (h : Uk s) (hn : s.2.2.2.1[n]? = some nd) (h1 : 1 ≤ nd.1.toInt) (h2 : nd.1.toInt ≤ 9) : Uk (sSu s u (a, b, t, none, n)) := by
  intro j v hv
  have hv : (s.2.2.2.2.set u (a, b, t, none, n))[j]? = some v := hv
  by_cases hj : u = j
  · subst hj
    have hl := (List.getElem?_eq_some_iff.mp hv).1
    rw [List.length_set] at hl
    rw [List.getElem?_set_self hl] at hv
    cases hv
    exact ⟨⟨nd, hn, h1, h2⟩, fun c hc => by cases hc⟩
  · rw [List.getElem?_set_ne hj] at hv
    exact h j v hv
theorem Uk.fin {d w : Int32} {u : Nat} {us : zU} {n x : Nat} {nd : yNd} (h : Uk s) (hn : s.2.2.2.1[us.2.2.2.2]? = some nd) (h1 : 1 ≤ nd.1.toInt) (h2 : nd.1.toInt ≤ 9) (d1 : 7 ≤ d.toInt) (d2 : d.toInt ≤ 14) : Kv (pEnd d w u us x s) := by
  intro s1 y hb
  unfold pEnd at hb
  obtain ⟨s2, c, q1, q2⟩ := pb_inl hb
  have h2' := h.em s2 c q1
  obtain ⟨_, rfl, rfl⟩ := sEm_inl q1
  cases q2
  intro j v hv
  have hv : (s.2.2.2.2.set u (us.1, us.2.1, us.2.2.1, some s.2.2.1.length, us.2.2.2.2))[j]? = some v := hv
  by_cases hj : u = j
  · subst hj
    have hl := (List.getElem?_eq_some_iff.mp hv).1
    rw [List.length_set] at hl
    rw [List.getElem?_set_self hl] at hv
    cases hv
    refine ⟨⟨nd, hn, h1, h2⟩, fun c hc => ?_⟩
    cases hc
    refine ⟨(d, w), ?_, d1, d2⟩
    show (s.2.2.1 ++ [(d, w)])[s.2.2.1.length]? = _
    rw [List.getElem?_append_right (Nat.le_refl _), Nat.sub_self]; rfl
  · rw [List.getElem?_set_ne hj] at hv
    exact h2' j v hv
def KL (rl : Nat → Nat → zP → zF Nat) : Prop := ∀ l i s, Uk s → Kv (rl l i s)
def KO (ro : Nat → zP → zF Nat) : Prop := ∀ i s, Uk s → Kv (ro i s)
theorem Uk.between (hl : KL rl) (h : Uk s) : Kv (pBetween rl i s) := by
  unfold pBetween
  intro s1 b hb
  obtain ⟨s2, a, q1, q2⟩ := pb_inl hb
  obtain ⟨_, rfl⟩ := pEnter_inl q1
  exact hl _ _ (sNx s2) h s1 b q2
theorem em_at {d w : Int32} {s s1 : zP} {c : Nat} (h : sEm s d w = .inl (s1, c)) : s1.2.2.1[c]? = some (d, w) := by
  obtain ⟨_, rfl, rfl⟩ := sEm_inl h
  show (s.2.2.1 ++ [(d, w)])[s.2.2.1.length]? = _
  rw [List.getElem?_append_right (Nat.le_refl _), Nat.sub_self]; rfl
theorem Ext.cat {s s' : zP} {c : Nat} {x : Int32 × Int32} (e : Ext s s') (h : s.2.2.1[c]? = some x) : s'.2.2.1[c]? = some x := by
  rw [e.2.1 c (List.getElem?_eq_some_iff.mp h).1]; exact h
theorem Ext.nat {s s' : zP} {c : Nat} {x : yNd} (e : Ext s s') (h : s.2.2.2.1[c]? = some x) : s'.2.2.2.1[c]? = some x := by
  rw [e.2.2.1 c (List.getElem?_eq_some_iff.mp h).1]; exact h
theorem sn_at {s : zP} {n : Nat} {x y : yNd} (h : s.2.2.2.1[n]? = some x) : (sSn s n y).2.2.2.1[n]? = some y := List.getElem?_set_self (List.getElem?_eq_some_iff.mp h).1
theorem Uk.try' (ho : KO ro) (eo : ExtO ro) (h : Uk s) : Kv (pTry tk ro i s) := by
  unfold pTry
  intro s1 b hb
  obtain ⟨s2, a, q1, q2⟩ := pb_inl hb
  obtain ⟨_, rfl⟩ := pEnter_inl q1
  refine Kv.bind h.no (fun s3 _ e3 u3 => ?_) s1 b q2
  refine Kv.bind (Uk.em (s := sNx s3) u3) fun s4 st e4 u4 => Kv.bind (ho _ _ u4) fun s5 _ e5 u5 => Kv.bind u5.em fun s6 en e6 u6 => ?_
  have x5 := eo _ _ _ _ e5
  have x6 := Ext.refl.em e6
  have c6 := (x5.trans x6).cat (em_at e4)
  have c6' := em_at e6
  have hne : st ≠ en := by
    obtain ⟨_, _, rfl⟩ := sEm_inl e6
    have hl4 := (List.getElem?_eq_some_iff.mp (x5.cat (em_at e4))).1
    omega
  refine Kv.bind (Uk.want (u6.cd c6 (Or.inl (by decide)))) fun s7 _ e7 u7 => ?_
  obtain ⟨_, rfl⟩ := pWant_inl e7
  refine Kv.bind (ho _ _ u7) fun s8 _ e8 u8 => ?_
  have x8 := eo _ _ _ _ e8
  have c7 : (sNx (sCd s6 st (5, Int32.ofNat s6.2.2.1.length))).2.2.1[en]? = some (6, 0) := by
    show (s6.2.2.1.set st _)[en]? = _
    rw [List.getElem?_set_ne hne]; exact c6'
  exact Uk.nd (u8.cd (x8.cat c7) (Or.inl (by decide)))
theorem Uk.named (hl : KL rl) (el : ExtL rl) (h : Uk s) : Kv (pNamed tk fg rl i s) := by
  unfold pNamed
  refine Kv.bind h.nd fun s1 n e1 u1 => Kv.bind u1.no fun s2 _ e2 u2 => ?_
  obtain ⟨_, rfl⟩ := sNo_inl e2
  obtain ⟨_, rfl, rfl⟩ := sNd_inl e1
  have n2 : (s.1, s.2.1 + 1, s.2.2.1, s.2.2.2.1 ++ [(1, 0, 0, 0)], s.2.2.2.2).2.2.2.1[s.2.2.2.1.length]? = some ((1, 0, 0, 0) : yNd) := by
    show (s.2.2.2.1 ++ [((1, 0, 0, 0) : yNd)])[s.2.2.2.1.length]? = _
    rw [List.getElem?_append_right (Nat.le_refl _), Nat.sub_self]; rfl
  refine Kv.bind (Uk.use u2 n2 (by decide) (by decide)) fun s3 u e3 u3 => ?_
  have n3 := (Ext.refl.us e3).nat n2
  split
  · refine Kv.bind (Uk.between hl (Uk.sn (Uk.su u3 n3 (by decide) (by decide)) (by decide) (by decide))) fun s5 a e5 u5 => ?_
    have n4 : (sSn (sSu s3 u (pl tk s.1, va tk s.1, 0, none, s.2.2.2.1.length)) s.2.2.2.1.length (3, 0, 0, 0)).2.2.2.1[s.2.2.2.1.length]? = some (3, 0, 0, 0) := sn_at (s := sSu s3 u _) n3
    have n5 := (E_between el e5).nat n4
    split
    · refine Kv.bind (hl _ _ (sNx (sSn s5 s.2.2.2.1.length (3, 0, Int32.ofNat a, 0))) (u5.sn (by first | decide | (dsimp only; decide)) (by first | decide | (dsimp only; decide)))) fun s6 b e6 u6 => ?_
      have n6 := (el _ _ _ _ _ e6).nat (show (sNx (sSn s5 s.2.2.2.1.length (3, 0, Int32.ofNat a, 0))).2.2.2.1[s.2.2.2.1.length]? = some (3, 0, Int32.ofNat a, 0) from sn_at n5)
      refine Kv.bind (Uk.want (u6.sn (by first | decide | (dsimp only; decide)) (by first | decide | (dsimp only; decide)))) fun s7 _ e7 u7 => ?_
      obtain ⟨_, rfl⟩ := pWant_inl e7
      exact Uk.fin (n := 0) u7 (sn_at n6) (by first | decide | (dsimp only; decide)) (by first | decide | (dsimp only; decide)) (by first | decide | (dsimp only; decide)) (by first | decide | (dsimp only; decide))
    · refine Kv.bind (Uk.want (u5.sn (by first | decide | (dsimp only; decide)) (by first | decide | (dsimp only; decide)))) fun s7 _ e7 u7 => ?_
      obtain ⟨_, rfl⟩ := pWant_inl e7
      exact Uk.fin (n := 0) u7 (sn_at n5) (by first | decide | (dsimp only; decide)) (by first | decide | (dsimp only; decide)) (by first | decide | (dsimp only; decide)) (by first | decide | (dsimp only; decide))
  · exact Uk.fin (n := 0) u3 n3 (by decide) (by decide) (by decide) (by decide)
theorem Uk.asked2 (hl : KL rl) (el : ExtL rl) {d so n : Nat} {nd : yNd} (h : Uk s) (hn : s.2.2.2.1[n]? = some nd) (h1 : 1 ≤ nd.1.toInt) (h2 : nd.1.toInt ≤ 9) (d1 : 8 ≤ d) (d2 : d ≤ 11) : Kv (pAsked2 tk rl d i so n s) := by
  unfold pAsked2
  refine Kv.bind h.no fun s2 _ e2 u2 => ?_
  obtain ⟨_, rfl⟩ := sNo_inl e2
  refine Kv.bind (Uk.use (s := (s.1, s.2.1 + 1, s.2.2)) u2 hn h1 h2) fun s3 u e3 u3 => ?_
  have n3 := (Ext.refl.us e3).nat (show (s.1, s.2.1 + 1, s.2.2).2.2.2.1[n]? = some nd from hn)
  split
  · refine Kv.bind (Uk.between hl u3) fun s5 a e5 u5 => ?_
    have n5 := (E_between el e5).nat n3
    refine Kv.bind (Uk.want (u5.sn (by first | decide | (dsimp only; decide)) (by first | decide | (dsimp only; decide)))) fun s7 _ e7 u7 => ?_
    obtain ⟨_, rfl⟩ := pWant_inl e7
    exact Uk.fin (n := 0) u7 (sn_at n5) (by first | decide | (dsimp only; decide)) (by first | decide | (dsimp only; decide)) (by first | decide | (dsimp only; decide)) (by first | decide | (dsimp only; decide))
  · exact Uk.fin (n := 0) u3 n3 h1 h2 (by rw [yi_nat (by omega)]; omega) (by rw [yi_nat (by omega)]; omega)
theorem Uk.asked (hl : KL rl) (el : ExtL rl) {d : Nat} (d1 : 8 ≤ d) (d2 : d ≤ 11) (h : Uk s) : Kv (pAsked tk rl d i s) := by
  unfold pAsked
  refine Kv.bind h.nd fun s1 n e1 u1 => Kv.bind u1.no fun s2 _ e2 u2 => ?_
  obtain ⟨_, rfl⟩ := sNo_inl e2
  obtain ⟨_, rfl, rfl⟩ := sNd_inl e1
  have dv : 1 ≤ (Int32.ofNat (d - 3)).toInt ∧ (Int32.ofNat (d - 3)).toInt ≤ 9 := by
    rw [yi_nat (by omega)]
    omega
  have hS : ∀ s3 so, (if d = 10 then pSort tk (sNx (s.1, s.2.1 + 1, s.2.2.1, s.2.2.2.1 ++ [(Int32.ofNat (d - 3), 0, 0, 0)], s.2.2.2.2)) else .inl (sNx (s.1, s.2.1 + 1, s.2.2.1, s.2.2.2.1 ++ [(Int32.ofNat (d - 3), 0, 0, 0)], s.2.2.2.2), 0)) = .inl (s3, so) → Uk s3 ∧ s3.2.2.2.1 = s.2.2.2.1 ++ [(Int32.ofNat (d - 3), 0, 0, 0)] := by
    intro s3 so hs
    split at hs
    · unfold pSort at hs
      split at hs
      · cases hs
        exact ⟨u2, rfl⟩
      · cases hs
    · cases hs
      exact ⟨u2, rfl⟩
  refine Kv.bind (fun s3 so hs => (hS s3 so hs).1) fun s3 so e3 u3 => ?_
  obtain ⟨_, l3⟩ := hS s3 so e3
  refine Uk.asked2 hl el (u3.sn dv.1 dv.2) (sn_at (x := (Int32.ofNat (d - 3), 0, 0, 0)) ?_) dv.1 dv.2 d1 d2
  rw [l3, List.getElem?_append_right (Nat.le_refl _), Nat.sub_self]; rfl
theorem Uk.base (hl : KL rl) (ho : KO ro) (el : ExtL rl) (eo : ExtO ro) (h : Uk s) : Kv (pBase tk fg rl ro i s) := by
  unfold pBase
  split
  · exact Kv.bind h.no fun s1 _ e1 u1 => Kv.bind u1.em fun s2 _ e2 u2 => Kv.bind u2.nd fun s3 _ e3 u3 => Kv.ret u3.nx
  split
  · exact Uk.named hl el h
  split
  · exact Kv.bind (Uk.between hl h) fun s1 _ _ u1 => Kv.bind u1.want fun s2 _ _ u2 => Kv.ret u2
  split
  · exact Uk.asked hl el (by decide) (by decide) h
  split
  · exact Uk.asked hl el (by decide) (by decide) h
  split
  · exact Uk.asked hl el (by decide) (by decide) h
  split
  · exact Uk.asked hl el (by decide) (by decide) h
  split
  · exact Uk.try' ho eo h
  · exact Kv.flt
theorem Uk.one (hl : KL rl) (ho : KO ro) (el : ExtL rl) (eo : ExtO ro) : KO (pOne tk fg rl ro) := by
  intro i s h
  unfold pOne
  split
  · intro s1 b hb
    obtain ⟨s2, a, q1, q2⟩ := pb_inl hb
    obtain ⟨_, rfl⟩ := pEnter_inl q1
    exact Kv.bind h.no (fun s3 _ e3 u3 => Kv.bind (ho _ (sNx s3) u3) fun s4 _ _ u4 => Kv.bind u4.em fun s5 _ _ u5 => u5.nd) s1 b q2
  · exact Uk.base hl ho el eo h
theorem Uk.loop (hl : KL rl) (el : ExtL rl) {l : Nat} : ∀ (f x : Nat) (s : zP), Uk s → Kv (pLoop tk rl f l i x s)
  | 0, _, _, _ => Kv.flt
  | f + 1, x, s, h => by
    rw [pLoop]
    split
    · refine Kv.bind h.no fun s1 _ e1 u1 => ?_
      refine Kv.bind ?_ fun s2 sk e2 u2 => Kv.bind (hl _ _ _ u2) fun s3 _ e3 u3 => Kv.bind u3.em fun s4 _ e4 u4 => Kv.bind (Uk.nd ?_) fun s5 x5 _ u5 => ?_
      · split
        · exact Uk.em (s := sNx s1) u1
        · exact Kv.ret (s := sNx s1) u1
      · split
        · rename_i hl2
          rw [if_pos hl2] at e2
          have c4 := ((el _ _ _ _ _ e3).trans (Ext.refl.em e4)).cat (em_at e2)
          refine u4.cd c4 (Or.inl ?_)
          show (if kd tk s.1 = 219 then (3 : Int32) else 4).toInt < 7
          split <;> decide
        · exact u4
      · split
        · exact Kv.ret u5
        · exact Uk.loop hl el f x5 s5 u5
    · exact Kv.ret h
theorem Uk.level (hl : KL rl) (ho : KO ro) (el : ExtL rl) : KL (pLevel tk rl ro) := by
  intro l i s h
  unfold pLevel
  split
  · exact Kv.bind (hl _ _ _ h) fun s1 x _ u1 => Uk.loop hl el 251 x s1 u1
  · exact ho _ _ h
end KINDS
theorem Uk.fix {tk : List zK} {fg : Nat} : ∀ n : Nat, KL (pFix tk fg n).1 ∧ KO (pFix tk fg n).2
  | 0 => ⟨fun _ _ _ _ => Kv.flt, fun _ _ _ => Kv.flt⟩
  | n + 1 => by
    obtain ⟨h1, h2⟩ := Uk.fix (tk := tk) (fg := fg) n
    obtain ⟨e1, e2⟩ := E_fix (tk := tk) (fg := fg) n
    exact ⟨Uk.level h1 h2 e1, Uk.one h1 h2 e1 e2⟩
section KINDSF
variable {α β : Type} {tk : List zK} {s : zP} {G : zG} {i fg : Nat}
def Kp (s : zP) (r : zF β) : Prop := Uk s → Kv r
theorem Kp.bind {r : zF α} {f : zP → α → zF β} (h : Kp s r) (g : ∀ s a, Kp s (f s a)) : Kp s (pb r f) := fun u => Kv.bind (h u) fun s1 a _ u1 => g s1 a u1
theorem Kp.ret {b : β} : Kp s (.inl (s, b)) := fun u => Kv.ret u
theorem Kp.rnx {b : β} : Kp s (.inl (sNx s, b)) := fun u => Kv.ret u.nx
theorem Kp.flt {k : Option Nat} : Kp s (.inr k : zF β) := fun _ => Kv.flt
theorem Kp.pre {r : zF β} (h : Kp (sNx s) r) : Kp s r := fun u => h u.nx
theorem Kp.want {c : Int32} : Kp s (pWant tk c s) := fun u => u.want
theorem Kp.num {lo hi : Int32} : Kp s (fNum tk lo hi s) := by
  unfold fNum
  split
  · exact Kp.rnx
  · exact Kp.flt
theorem Kp.new {p : Prop} [Decidable p] : Kp s (fNew tk G p s) := by
  unfold fNew
  split
  · exact Kp.rnx
  · exact Kp.flt
theorem Kp.bounds {k : Int32} : Kp s (fBounds tk k s) := by
  unfold fBounds
  split
  · exact Kp.bind Kp.num fun s1 _ => Kp.bind Kp.num fun s2 _ => Kp.ret
  split
  · exact Kp.bind Kp.num fun s1 _ => Kp.ret
  split
  · exact Kp.bind Kp.num fun s1 _ => Kp.bind Kp.num fun s2 _ => Kp.ret
  split
  · exact Kp.bind Kp.num fun s1 _ => Kp.ret
  split
  · exact Kp.bind Kp.num fun s1 _ => Kp.bind Kp.num fun s2 _ => Kp.bind Kp.num fun s3 _ => Kp.ret
  split
  · exact Kp.bind Kp.num fun s1 _ => Kp.ret
  split
  · exact Kp.bind Kp.num fun s1 _ => Kp.bind Kp.num fun s2 _ => Kp.ret
  split
  · exact Kp.bind Kp.num fun s1 _ => Kp.ret
  split
  · exact Kp.bind Kp.num fun s1 _ => Kp.ret
  · exact Kp.ret
theorem Kp.exp : Kp s (fExp tk fg i s) := by
  unfold fExp
  exact Kp.bind (fun u => (Uk.fix 92).1 _ _ _ u) fun s1 n => Kp.bind (fun u => u.em) fun s2 _ => Kp.ret
theorem Kp.when : Kp s (fWhen tk i s) := by
  unfold fWhen
  split
  · exact Kp.pre Kp.exp
  · exact Kp.ret
theorem Kp.enter : Kp s (pEnter i s) := by
  unfold pEnter
  split
  · exact Kp.ret
  · exact Kp.flt
theorem Kp.plain {g must : Int32} : Kp s (fPlain tk i g must G s) := by
  unfold fPlain
  split
  · exact Kp.bind (Kp.pre Kp.new) fun s1 _ => Kp.bind Kp.bounds fun s2 _ => Kp.bind Kp.when fun s3 _ => Kp.bind Kp.want fun s4 _ => Kp.ret
  · exact Kp.flt
theorem Kp.group {g : Int32} : Kp s (fGroup tk i g G s) := by
  unfold fGroup
  exact Kp.bind Kp.enter fun s0 _ => Kp.bind (Kp.pre Kp.new) fun s1 _ => Kp.bind Kp.when fun s3 _ => Kp.bind Kp.want fun s4 _ => Kp.ret
theorem Kp.fig : Kp s (fFig tk G s) := by
  unfold fFig
  exact Kp.bind (Kp.pre Kp.new) fun s1 _ => Kp.bind Kp.want fun s2 _ => Kp.bind Kp.exp fun s3 _ => Kp.bind Kp.want fun s4 _ => Kp.ret
theorem Kp.chk : Kp s (fChk tk G s) := by
  unfold fChk
  split
  · exact Kp.bind (Kp.pre Kp.num) fun s1 _ => Kp.bind Kp.exp fun s3 _ => Kp.bind Kp.want fun s4 _ => Kp.ret
  · exact Kp.flt
def Kp2 (s : zP) (r : zF2 β) : Prop := Uk s → ∀ G s' b, r = .inl (G, s', b) → Uk s'
theorem Kp2.pu {r : zF α} {f : zP → α → zF2 β} (h : Kp s r) (g : ∀ s1 a, Kp2 s1 (f s1 a)) : Kp2 s (pu r f) := by
  intro u G' s' b hb
  rcases r with ⟨s1, a⟩ | k
  · exact g s1 a (h u s1 a rfl) G' s' b hb
  · cases hb
theorem Kp2.pb {r : zF2 α} {f : zG → zP → α → zF2 β} (h : Kp2 s r) (g : ∀ G1 s1 a, Kp2 s1 (f G1 s1 a)) : Kp2 s (pb2 r f) := by
  intro u G' s' b hb
  rcases r with ⟨G1, s1, a⟩ | k
  · exact g G1 s1 a (h u G1 s1 a rfl) G' s' b hb
  · cases hb
theorem Kp2.ret {b : β} : Kp2 s (.inl (G, s, b)) := by
  intro u G1 s1 b1 hb
  cases hb; exact u
theorem Kp2.flt {k : Option Nat} : Kp2 s (.inr k : zF2 β) := by
  intro u G1 s1 b1 hb
  cases hb
theorem Kp2.parts : ∀ (m i : Nat) (g : Int32) (G : zG) (s : zP), Kp2 s (fParts tk m i g G s)
  | 0, _, _, _, _ => Kp2.flt
  | m + 1, i, g, G, s => by
    rw [fParts]
    split
    · exact Kp2.pu Kp.group fun s1 p => Kp2.pb (Kp2.parts m _ _ _ _) fun G2 s2 _ => Kp2.pu Kp.want fun s3 _ => Kp2.parts m _ _ _ _
    split
    · exact Kp2.pu (Kp.pre Kp.plain) fun s1 p => Kp2.parts m _ _ _ _
    split
    · exact Kp2.pu Kp.plain fun s1 p => Kp2.parts m _ _ _ _
    · exact Kp2.ret
theorem Kp2.rules : ∀ (m : Nat) (G : zG) (s : zP), Kp2 s (fRules tk m G s)
  | 0, _, _ => Kp2.flt
  | m + 1, G, s => by
    rw [fRules]
    split
    · exact Kp2.pu Kp.fig fun s1 p => Kp2.rules m _ _
    split
    · exact Kp2.pu Kp.chk fun s1 p => Kp2.rules m _ _
    · exact Kp2.ret
theorem Kp2.form {b : Unit} (h : fForm tk = .inl (G, s, b)) : Uk s := by
  have h0 : Kp2 (0, 0, [], [], []) (fForm tk) := by
    unfold fForm
    refine Kp2.pu ?_ fun s1 v => Kp2.pb (Kp2.parts _ _ _ _ _) fun G2 s2 _ => Kp2.pb (Kp2.rules _ _ _) fun G3 s3 _ => ?_
    · unfold fHead
      refine Kp.bind Kp.want fun s1 _ => Kp.bind Kp.want fun s2 _ => Kp.bind ?_ fun s3 _ => Kp.bind ?_ fun s4 _ => Kp.ret
      · unfold fUntil
        split
        · exact Kp.bind (Kp.pre Kp.num) fun s1 _ => Kp.bind Kp.want fun s4 _ => Kp.ret
        · exact Kp.ret
      · unfold fSigners
        split
        · exact Kp.bind (Kp.pre Kp.num) fun s1 _ => Kp.bind Kp.want fun s4 _ => Kp.ret
        · exact Kp.ret
    · split
      · exact Kp2.ret
      · exact Kp2.flt
  exact h0 (fun i u hu => by simp at hu) G s b h
end KINDSF
