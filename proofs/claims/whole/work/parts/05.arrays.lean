/-! ARRAYS: reading, writing, length -/
section ARR
variable {p : Program} {l : Launch} {e : Env} {R : Room} {s : State} {m : MethodId} {args : Array Value} {below : List Frame} {meth : Method} {c : Code} {H : Heap} {locs : List Loc} {cells slots : Nat} {Q : State → Prop}
variable {cl : List vw_C} {AT : List FieldType} {D : xD} {ad : Nat → Nat} {n0 b0 nW : Nat} {H0 : Heap} {h h1 : xH} {bytes : ByteArray} {pc idx k t : Nat} {i : Int32} {ls : Array Slot} {rest : List Value} {v : Value} {ty : FieldType}
/-- what reading an item needs of the cell -/
theorem xitem_ok (hK : xKn cl AT nW D s) (hH : xHR cl D ad n0 b0 H0 h H) (hg : xitem h k i = some (t, v)) (hT : AT[t]? = some ty) : ∃ cell : Cell, H[ad k]? = some cell ∧ s.isArrayOf cell ty ∧ cell.vm ≠ .unknown ∧ ¬ (i < 0 ∨ cell.slots.size ≤ i.toNatClampNeg) ∧ cell.slots[i.toNatClampNeg]? = some (xcn ad v) := by
  unfold xitem at hg
  split at hg
  · rename_i t0 vs hk
    split at hg
    · cases hg
    · rename_i hi
      cases hv : vs[i.toNatClampNeg]? with
      | none => rw [hv] at hg; cases hg
      | some w =>
        rw [hv] at hg
        cases hg
        obtain ⟨cell, q1, q2, q3, -, q4, -, -, q5⟩ := hH.2.2.1 k _ hk
        have q5 := q5 _ _ hv
        refine ⟨cell, q1, ((hK.2.1 _ _ _ hT).mp q4).arr q2, q3, ?_, q5⟩
        rintro (q | q)
        · exact hi q
        · exact Nat.not_le.mpr (Array.getElem?_eq_some_iff.mp q5).1 q
  · cases hg
/-- what writing an item needs of the cell, and what it gives -/
theorem xputi_ok (hA : xAd ad n0 b0) (hK : xKn cl AT nW D s) (hH : xHR cl D ad n0 b0 H0 h H) (hg : xputi n0 h k i v = some (t, h1)) (hT : AT[t]? = some ty) (hloc : ∀ q ∈ locs, b0 ≤ q.base) : ∃ cell : Cell, H[ad k]? = some cell ∧ s.isArrayOf cell ty ∧ cell.vm = .none ∧ ¬ (i < 0 ∨ cell.slots.size ≤ i.toNatClampNeg) ∧ xAs s ty cell.cls ∧
    (∀ H' : Heap, H'[ad k]? = some (cell.setSlot i.toNatClampNeg (xcn ad v)) → H'.size = H.size → (∀ q, q ≠ ad k → H'[q]? = H[q]?) → xHR cl D ad n0 b0 H0 h1 H') ∧ ∀ q ∈ locs ++ [⟨ad k, i.toNatClampNeg⟩], b0 ≤ q.base := by
  unfold xputi at hg
  split at hg
  · rename_i t0 vs hk
    split at hg
    · rename_i hc
      obtain ⟨hi, hn0, hlt⟩ := hc
      cases hg
      obtain ⟨cell, q1, q2, q3, q9, q4, q6, -, -⟩ := hH.2.2.1 k _ hk
      obtain ⟨q6, q5⟩ := q6 hn0
      have hkl : k < h.length := (List.getElem?_eq_some_iff.mp hk).1
      refine ⟨cell, q1, ((hK.2.1 _ _ _ hT).mp q4).arr q2, q9 hn0, ?_, (hK.2.2.1 _ _ _ hT).mp q6, ?_, ?_⟩
      · rw [q5]; simp; exact ⟨Int32.not_lt.mp hi, hlt⟩
      · intro H' e1 e2 e3
        refine xHR.set hA hH hn0 hkl e2 e3 (xCR.arr e1 (q9 hn0) q4 q6 ?_)
        show cell.slots.setIfInBounds i.toNatClampNeg (xcn ad v) = _
        rw [q5]
        simp [List.map_set]
      · intro q hq
        rcases List.mem_append.mp hq with hq | hq
        · exact hloc q hq
        · rw [List.mem_singleton.mp hq]; show b0 ≤ ad k; rw [hA.1 k hn0]; omega
    · cases hg
  · cases hg
theorem xW_iald (hx : p.tables.exec = Jvm.exec) (hb : c.code = bytes) (hK : xKn cl AT nW D s) (hH : xHR cl D ad n0 b0 H0 h H) (hg : xitem h k i = some (t, v)) (hT : AT[t]? = some .int) (hd : decode bytes pc = .ok (.iaload, 1))
    (kk : W p l e R s m args below meth c H locs cells slots Q (F0 m (pc + 1) ls (xcn ad v :: rest))) : W p l e R s m args below meth c H locs cells slots Q (F0 m pc ls (.int i :: .ref (ad k) :: rest)) := by
  obtain ⟨cell, q1, q2, q3, q4, q5⟩ := xitem_ok hK hH hg hT
  exact W.iald hx hb q1 q2 q3 q4 q5 rfl rfl hd kk
theorem xW_lald (hx : p.tables.exec = Jvm.exec) (hb : c.code = bytes) (hK : xKn cl AT nW D s) (hH : xHR cl D ad n0 b0 H0 h H) (hg : xitem h k i = some (t, v)) (hT : AT[t]? = some .long) (hd : decode bytes pc = .ok (.laload, 1))
    (kk : W p l e R s m args below meth c H locs cells slots Q (F0 m (pc + 1) ls (xcn ad v :: rest))) : W p l e R s m args below meth c H locs cells slots Q (F0 m pc ls (.int i :: .ref (ad k) :: rest)) := by
  obtain ⟨cell, q1, q2, q3, q4, q5⟩ := xitem_ok hK hH hg hT
  exact W.lald hx hb q1 q2 q3 q4 q5 rfl rfl hd kk
theorem xW_bald (hx : p.tables.exec = Jvm.exec) (hb : c.code = bytes) (hK : xKn cl AT nW D s) (hH : xHR cl D ad n0 b0 H0 h H) (hg : xitem h k i = some (t, v)) (hT : AT[t]? = some .byte ∨ AT[t]? = some .boolean) (hd : decode bytes pc = .ok (.baload, 1))
    (kk : W p l e R s m args below meth c H locs cells slots Q (F0 m (pc + 1) ls (xcn ad v :: rest))) : W p l e R s m args below meth c H locs cells slots Q (F0 m pc ls (.int i :: .ref (ad k) :: rest)) := by
  rcases hT with hT | hT
  · obtain ⟨cell, q1, q2, q3, q4, q5⟩ := xitem_ok hK hH hg hT
    exact W.bald hx hb q1 q2 q3 q4 q5 rfl rfl hd kk
  · obtain ⟨cell, q1, q2, q3, q4, q5⟩ := xitem_ok hK hH hg hT
    exact W.zald hx hb q1 q2 q3 q4 q5 rfl rfl hd kk
theorem xW_aald (hx : p.tables.exec = Jvm.exec) (hb : c.code = bytes) (hK : xKn cl AT nW D s) (hH : xHR cl D ad n0 b0 H0 h H) (hg : xitem h k i = some (t, v)) (hT : AT[t]? = some ty) (hr : ty.isReference = true) (hd : decode bytes pc = .ok (.aaload, 1))
    (kk : W p l e R s m args below meth c H locs cells slots Q (F0 m (pc + 1) ls (xcn ad v :: rest))) : W p l e R s m args below meth c H locs cells slots Q (F0 m pc ls (.int i :: .ref (ad k) :: rest)) := by
  obtain ⟨cell, q1, q2, q3, q4, q5⟩ := xitem_ok hK hH hg hT
  exact W.aald hx hb q1 q2 hr q3 q4 q5 rfl rfl hd kk
theorem xW_iast {x : Int32} (hx : p.tables.exec = Jvm.exec) (hb : c.code = bytes) (hA : xAd ad n0 b0) (hK : xKn cl AT nW D s) (hH : xHR cl D ad n0 b0 H0 h H) (hg : xputi n0 h k i (.int x) = some (t, h1)) (hT : AT[t]? = some .int) (hloc : ∀ q ∈ locs, b0 ≤ q.base) (hd : decode bytes pc = .ok (.iastore, 1))
    (kk : ∀ (H1 : Heap) (locs1 : List Loc), xHR cl D ad n0 b0 H0 h1 H1 → (∀ q ∈ locs1, b0 ≤ q.base) → W p l e R s m args below meth c H1 locs1 cells slots Q (F0 m (pc + 1) ls rest)) : W p l e R s m args below meth c H locs cells slots Q (F0 m pc ls (.int x :: .int i :: .ref (ad k) :: rest)) := by
  obtain ⟨cell, q1, q2, q3, q4, -, q5, q6⟩ := xputi_ok hA hK hH hg hT hloc
  exact W.iast hx hb q1 q2 (by rw [q3]; exact fun h => by cases h) q4 rfl rfl hd (fun H' e1 e2 e3 => kk H' _ (q5 H' e1 e2 e3) q6)
theorem xW_last {x : Int64} (hx : p.tables.exec = Jvm.exec) (hb : c.code = bytes) (hA : xAd ad n0 b0) (hK : xKn cl AT nW D s) (hH : xHR cl D ad n0 b0 H0 h H) (hg : xputi n0 h k i (.long x) = some (t, h1)) (hT : AT[t]? = some .long) (hloc : ∀ q ∈ locs, b0 ≤ q.base) (hd : decode bytes pc = .ok (.lastore, 1))
    (kk : ∀ (H1 : Heap) (locs1 : List Loc), xHR cl D ad n0 b0 H0 h1 H1 → (∀ q ∈ locs1, b0 ≤ q.base) → W p l e R s m args below meth c H1 locs1 cells slots Q (F0 m (pc + 1) ls rest)) : W p l e R s m args below meth c H locs cells slots Q (F0 m pc ls (.long x :: .int i :: .ref (ad k) :: rest)) := by
  obtain ⟨cell, q1, q2, q3, q4, -, q5, q6⟩ := xputi_ok hA hK hH hg hT hloc
  exact W.last hx hb q1 q2 (by rw [q3]; exact fun h => by cases h) q4 rfl rfl hd (fun H' e1 e2 e3 => kk H' _ (q5 H' e1 e2 e3) q6)
theorem xW_bast {x : Int32} (hx : p.tables.exec = Jvm.exec) (hb : c.code = bytes) (hA : xAd ad n0 b0) (hK : xKn cl AT nW D s) (hH : xHR cl D ad n0 b0 H0 h H) (hg : xputi n0 h k i (.int x) = some (t, h1)) (hT : (AT[t]? = some .byte ∧ xfit .byte (.int x) = true) ∨ (AT[t]? = some .boolean ∧ xfit .boolean (.int x) = true)) (hloc : ∀ q ∈ locs, b0 ≤ q.base) (hd : decode bytes pc = .ok (.bastore, 1))
    (kk : ∀ (H1 : Heap) (locs1 : List Loc), xHR cl D ad n0 b0 H0 h1 H1 → (∀ q ∈ locs1, b0 ≤ q.base) → W p l e R s m args below meth c H1 locs1 cells slots Q (F0 m (pc + 1) ls rest)) : W p l e R s m args below meth c H locs cells slots Q (F0 m pc ls (.int x :: .int i :: .ref (ad k) :: rest)) := by
  rcases hT with ⟨hT, hf⟩ | ⟨hT, hf⟩
  · obtain ⟨cell, q1, q2, q3, q4, -, q5, q6⟩ := xputi_ok hA hK hH hg hT hloc
    exact W.bast hx hb q1 q2 (by rw [q3]; exact fun h => by cases h) q4 rfl rfl hd (fun H' e1 e2 e3 => kk H' _ (q5 H' (by rw [e1]; exact congrArg some (congrArg _ (xfit_ok ad hf).1)) e2 e3) q6)
  · obtain ⟨cell, q1, q2, q3, q4, -, q5, q6⟩ := xputi_ok hA hK hH hg hT hloc
    exact W.zast hx hb q1 q2 (by rw [q3]; exact fun h => by cases h) q4 rfl rfl hd (fun H' e1 e2 e3 => kk H' _ (q5 H' (by rw [e1]; exact congrArg some (congrArg _ (xfit_ok ad hf).1)) e2 e3) q6)
theorem xW_alen {vs : List Value} (hx : p.tables.exec = Jvm.exec) (hb : c.code = bytes) (hK : xKn cl AT nW D s) (hH : xHR cl D ad n0 b0 H0 h H) (hg : h[k]? = some (.inr (t, vs))) (hT : AT[t]? = some ty) (hd : decode bytes pc = .ok (.arraylength, 1))
    (kk : W p l e R s m args below meth c H locs cells slots Q (F0 m (pc + 1) ls (.int (Int32.ofNat vs.length) :: rest))) : W p l e R s m args below meth c H locs cells slots Q (F0 m pc ls (.ref (ad k) :: rest)) := by
  obtain ⟨cell, q1, q2, q3, -, q4, -, q5, -⟩ := hH.2.2.1 k _ hg
  exact W.alen hx hb q1 (((hK.2.1 _ _ _ hT).mp q4).arr q2) q5 rfl rfl hd kk
theorem xassign (vm : Vm) (c : ClassId) : vm.assignable c c = true := by
  first | exact Vm.assignable_self vm c | simp [Vm.assignable, Vm.assignableAux]
/-- null into an array of references -/
theorem xaastN0 {T : State} (X : Stand p l e R s m args below meth c T locs cells slots) (hexec : p.tables.exec = Jvm.exec) {a : Addr} {cell : Cell} {j : Int32} (hcell : T.heap[a]? = some cell) (harr : s.isArrayOf cell ty) (hr : (∃ C, ty = .object C) ∨ ∃ t, ty = .array t) (hknown : cell.vm ≠ .unknown)
    (hin : ¬ (j < 0 ∨ cell.slots.size ≤ j.toNatClampNeg))
    {g : JFrame} (hg : g.method = m) (hstack : g.stack = .null :: .int j :: .ref a :: rest) (hdg : decode c.code g.pc = .ok (.aastore, 1)) :
    Stand p l e R s m args below meth c (T.setCell a (cell.setSlot j.toNatClampNeg .null)) (locs ++ [⟨a, j.toNatClampNeg⟩]) cells slots ∧
      ∀ target, Steps p.tables e below ((T.setCell a (cell.setSlot j.toNatClampNeg .null)).setTop { g with pc := g.pc + 1, stack := rest }) target → Steps p.tables e below (T.setTop g) target := by
  have hT := State.isArrayOf_alike X.warmed.alike harr
  have hfit : T.fitsSlot cell.cls cell.vm j.toNatClampNeg .null = true := by
    obtain ⟨hobj, k, hk, comp, hkind⟩ := hT
    rcases hr with ⟨C, rfl⟩ | ⟨t, rfl⟩ <;> cases hvm : cell.vm <;> first | exact absurd hvm (hobj _) | simp [State.fitsSlot, State.slotType?, hk, hkind, fits]
  refine ⟨X.stored hcell _ _, fun target hrest => ?_⟩
  subst hg
  jvm_step X.here [hexec, hdg]
  refine aastore.wp_of_null (c := cell) (t := ty) X.here.top hstack hcell hT hin hknown (Nat.not_le.mp fun q => hin (Or.inr q)) hfit ?_
  intro acts
  rw [afterInstr_ok]
  exact hrest
theorem xWaastN (hexec : p.tables.exec = Jvm.exec) (hb : c.code = bytes) {a : Addr} {cell : Cell} {j : Int32} (hcell : H[a]? = some cell) (harr : s.isArrayOf cell ty) (hr : (∃ C, ty = .object C) ∨ ∃ t, ty = .array t) (hknown : cell.vm ≠ .unknown) (hin : ¬ (j < 0 ∨ cell.slots.size ≤ j.toNatClampNeg))
    {g : JFrame} (hg : g.method = m) (hstack : g.stack = .null :: .int j :: .ref a :: rest) (hdg : decode bytes g.pc = .ok (.aastore, 1))
    (kk : ∀ H' : Heap, H'[a]? = some (cell.setSlot j.toNatClampNeg .null) → H'.size = H.size → (∀ q, q ≠ a → H'[q]? = H[q]?) → W p l e R s m args below meth c H' (locs ++ [⟨a, j.toNatClampNeg⟩]) cells slots Q { g with pc := g.pc + 1, stack := rest }) :
    W p l e R s m args below meth c H locs cells slots Q g := by
  intro T hT X
  have hT' : T.heap[a]? = some cell := by rw [hT]; exact hcell
  obtain ⟨X', st⟩ := xaastN0 X hexec hT' harr hr hknown hin hg hstack (by rw [hb]; exact hdg)
  have hlt : a < T.heap.size := (Array.getElem?_eq_some_iff.mp hT').1
  obtain ⟨t', a1, b1⟩ := kk _ (heapAt_setCell_self _ hlt) (by rw [size_setCell, hT]) (fun q hq => by rw [heapAt_setCell_ne _ (Ne.symm hq), hT]) (T.setCell a (cell.setSlot j.toNatClampNeg .null)) rfl X'
  exact ⟨t', st t' a1, b1⟩
theorem xW_aast {cn : List String} (hx : p.tables.exec = Jvm.exec) (hb : c.code = bytes) (hA : xAd ad n0 b0) (hK : xKn cl AT nW D s) (hH : xHR cl D ad n0 b0 H0 h H) (hcn : ∀ (ci : Nat) (n : String), cn[ci]? = some n → ∃ q, cl[ci]? = some q ∧ q.1 = n) (hg : xputi n0 h k i v = some (t, h1)) (hT : AT[t]? = some ty) (hs : xast n0 cn ty AT h v = true) (hloc : ∀ q ∈ locs, b0 ≤ q.base) (hd : decode bytes pc = .ok (.aastore, 1))
    (kk : ∀ (H1 : Heap) (locs1 : List Loc), xHR cl D ad n0 b0 H0 h1 H1 → (∀ q ∈ locs1, b0 ≤ q.base) → W p l e R s m args below meth c H1 locs1 cells slots Q (F0 m (pc + 1) ls rest)) : W p l e R s m args below meth c H locs cells slots Q (F0 m pc ls (xcn ad v :: .int i :: .ref (ad k) :: rest)) := by
  obtain ⟨cell, q1, q2, q3, q4, q7, q5, q6⟩ := xputi_ok hA hK hH hg hT hloc
  have q4' : ¬ i < 0 ∧ i.toNatClampNeg < cell.slots.size := ⟨fun q => q4 (Or.inl q), Nat.not_le.mp fun q => q4 (Or.inr q)⟩
  unfold xast at hs
  split at hs
  · have hr : (∃ C, ty = .object C) ∨ ∃ t, ty = .array t := by
      split at hs
      · exact Or.inl ⟨_, rfl⟩
      · exact Or.inr ⟨_, rfl⟩
      · cases hs
    exact xWaastN hx hb q1 q2 hr (by rw [q3]; exact fun h => by cases h) q4 rfl rfl hd (fun H' e1 e2 e3 => kk H' _ (q5 H' e1 e2 e3) q6)
  · rename_i kv
    split at hs
    · rename_i cv fs hkv
      split at hs
      · rename_i n n2 hn2
        have en : n = n2 := by simpa using hs
        subst en
        obtain ⟨cellV, g1, g2, g3, -, g4, -, -⟩ := hH.2.2.1 kv _ hkv
        obtain ⟨q, hq, rfl⟩ := hcn cv n hn2
        obtain ⟨-, kA, comp, k1, k2, k3⟩ := q7
        have hcomp : comp = D.1 cv := Option.some.inj (k3.symm.trans (hK.1 cv q hq).1)
        subst hcomp
        obtain ⟨kC, hkC, -⟩ := Vm.findClass_spec k3
        exact W.aast hx hb q1 (fun q h => by rw [q3] at h; cases h) (fun h => by rw [q3] at h; cases h) k1 k2 rfl hkC q4' g1 (fun q h => by rw [h] at g2; cases g2) (by rw [g4]; exact hkC) (by rw [g4]; exact xassign _ _) rfl rfl hd (fun H' e1 e2 e3 => kk H' _ (q5 H' e1 e2 e3) q6)
      · cases hs
    · rename_i tv vs hkv
      split at hs
      · rename_i e1 e2 he2
        simp only [Bool.and_eq_true, beq_iff_eq, decide_eq_true_eq] at hs
        obtain ⟨en, hnk⟩ := hs
        subst en
        obtain ⟨cellV, g1, g2, g3, -, g4, g5, -, -⟩ := hH.2.2.1 kv _ hkv
        obtain ⟨f1, kV, compV, f2, -⟩ := (hK.2.2.1 _ _ _ he2).mp (g5 hnk).1
        obtain ⟨-, kA, comp, k1, k2, k3⟩ := q7
        have hcomp : comp = cellV.cls := Option.some.inj (k3.symm.trans f1)
        exact W.aast hx hb q1 (fun q h => by rw [q3] at h; cases h) (fun h => by rw [q3] at h; cases h) k1 k2 rfl (by rw [hcomp]; exact f2) q4' g1 (fun q h => by rw [h] at g2; cases g2) f2 (by rw [hcomp]; exact xassign _ _) rfl rfl hd (fun H' e1 e2 e3 => kk H' _ (q5 H' e1 e2 e3) q6)
      · cases hs
    · cases hs
  · cases hs
end ARR
