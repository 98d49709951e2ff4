/-! NEW CELLS, statics, System.arraycopy -/
section ALLOC
variable {p : Program} {l : Launch} {e : Env} {R : Room} {s : State} {m : MethodId} {args : Array Value} {below : List Frame} {meth : Method} {c : Code} {H : Heap} {locs : List Loc} {cells slots : Nat} {Q : State → Prop}
variable {cl : List vw_C} {AT : List FieldType} {D : xD} {ad : Nat → Nat} {n0 b0 nW : Nat} {H0 : Heap} {h h1 : xH} {bytes : ByteArray} {pc idx k ci t : Nat} {ls : Array Slot} {rest : List Value} {v : Value} {own C : String} {T : u_T} {N : Nat} {ty : FieldType} {n : Int32}
theorem xW_new {tys : List FieldType} (hx : p.tables.exec = Jvm.exec) (hb : c.code = bytes) (hown : s.vm.findClass own = some m.cls) (hA : xAd ad n0 b0) (hK : xKn cl AT nW D s) (hH : xHR cl D ad n0 b0 H0 h H) (hw : ci < nW) (hcl : cl[ci]? = some (C, T, N)) (hlay : ∀ w ∈ u_ws C T N, w.before args s = true) (hty : ∀ k, k < N → parseFieldDescriptor (T k).2.2.1 = some (tys.getD k .int)) (hlen : tys.length = N) (hlink : (Cond.classLink own idx C).before args s = true) (hins : (Cond.instantiable C N).before args s = true) (hini : (Cond.initialized C).before args s = true) (hd : decode bytes pc = .ok (.new idx, 3)) (hcells : cells + 1 ≤ R.cells) (hslots : slots + N ≤ R.slots)
    (kk : ∀ H1 : Heap, xHR cl D ad n0 b0 H0 (h ++ [.inl (ci, tys.map defaultValue)]) H1 → W p l e R s m args below meth c H1 locs (cells + 1) (slots + N) Q (F0 m (pc + 3) ls (.ref (ad h.length) :: rest))) : W p l e R s m args below meth c H locs cells slots Q (F0 m pc ls rest) := by
  have hu := hK.2.2.2 ci _ hw hcl
  refine W.newcK hx hb hown hlink hins hini rfl hd hcells hslots (cC := D.1 ci) hu.2.1 (h := H.size) rfl (fun H' kC hkC e1 e2 e3 => ?_)
  have ea : ad h.length = H.size := xad_len hA hH
  have hob := u_born (fun k => tys.getD k .int) hlay (fun w h => h) hu hkC e1 hty
  obtain ⟨cell, g1, g2, g3, g4⟩ := hob
  have hf : ∀ (j : Nat) (w : Value), (tys.map defaultValue)[j]? = some w → cell.slots[D.2.1 ci j]? = some (xcn ad w) := fun j w hj => by
    rw [List.getElem?_map] at hj
    cases hq : tys[j]? with
    | none => rw [hq] at hj; cases hj
    | some q =>
      rw [hq] at hj
      cases hj
      have hjN : j < N := by rw [← hlen]; exact (List.getElem?_eq_some_iff.mp hq).1
      rw [g4 j hjN, xcn_def]
      show some (defaultValue (tys.getD j .int)) = _
      rw [List.getD_eq_getElem?_getD, hq]
      rfl
  have hcr : xCR cl D ad n0 h.length (.inl (ci, tys.map defaultValue)) H' := ⟨cell, (by rw [ea]; exact g1), (by rw [g3]; rfl), (fun h => (by rw [g3] at h; cases h)), fun _ => g3, g2, ⟨C, T, (by rw [List.length_map, hlen]; exact hcl)⟩, hf⟩
  have := kk H' (xHR.push hA hH e2 e3 hcr)
  rw [ea] at this
  exact this
theorem xrep (ad : Nat → Nat) (n : Nat) (v : Value) (hv : xcn ad v = v) : Array.replicate n v = ((List.replicate n v).map (xcn ad)).toArray := by
  rw [List.map_replicate, hv]
  simp
theorem xW_newa {atype : ArrayType} (hx : p.tables.exec = Jvm.exec) (hb : c.code = bytes) (hA : xAd ad n0 b0) (hK : xKn cl AT nW D s) (hH : xHR cl D ad n0 b0 H0 h H) (hT : AT[t]? = some ty) (hty : newarray.typeOf atype = ty) (hr : refKind ty = false) (harr : (Cond.arrayClass ty).before args s = true) (hd : decode bytes pc = .ok (.newarray atype, 2)) (hn : ¬ n < 0) (hn2 : n.toNatClampNeg ≤ 65536) (hcells : cells + 1 ≤ R.cells) (hslots : slots + n.toNatClampNeg ≤ R.slots)
    (kk : ∀ H1 : Heap, xHR cl D ad n0 b0 H0 (h ++ [.inr (t, List.replicate n.toNatClampNeg (defaultValue ty))]) H1 → W p l e R s m args below meth c H1 locs (cells + 1) (slots + n.toNatClampNeg) Q (F0 m (pc + 2) ls (.ref (ad h.length) :: rest))) : W p l e R s m args below meth c H locs cells slots Q (F0 m pc ls (.int n :: rest)) := by
  subst hty
  have ea : ad h.length = H.size := xad_len hA hH
  have hbytes : n.toNatClampNeg * componentBytes (newarray.typeOf atype) ≤ 536870912 := by
    have : componentBytes (newarray.typeOf atype) ≤ 8 := by cases newarray.typeOf atype <;> simp [componentBytes]
    have := Nat.mul_le_mul hn2 this
    omega
  refine W.newa hx hb harr rfl hd rfl hn hbytes hcells hslots (fun cA kA comp g1 g2 g3 => ?_)
  have hs : xAs s (newarray.typeOf atype) cA := ⟨g1, kA, comp, g2, g3, by cases hq : newarray.typeOf atype <;> first | trivial | (rw [hq] at hr; cases hr)⟩
  have := kk _ (xHR.push (H1 := H.push { cls := cA, slots := Array.replicate n.toNatClampNeg (defaultValue (newarray.typeOf atype)), vm := .none }) (c := .inr (t, List.replicate n.toNatClampNeg (defaultValue (newarray.typeOf atype)))) hA hH (by simp) (fun q hq => by rw [Array.getElem?_push, if_neg (Nat.ne_of_lt hq)]) (xCR.arr (cell := { cls := cA, slots := Array.replicate n.toNatClampNeg (defaultValue (newarray.typeOf atype)), vm := .none }) (by rw [ea]; simp) rfl ((hK.2.1 _ _ _ hT).mpr (xAw.of hs)) ((hK.2.2.1 _ _ _ hT).mpr hs) (xrep ad _ _ (xcn_def ad _))))
  rw [ea] at this
  exact this
theorem xW_anew (hx : p.tables.exec = Jvm.exec) (hb : c.code = bytes) (hown : s.vm.findClass own = some m.cls) (hA : xAd ad n0 b0) (hK : xKn cl AT nW D s) (hH : xHR cl D ad n0 b0 H0 h H) (hT : AT[t]? = some ty) (hty : (∃ C, ty = .object C ∧ (Cond.classLink own idx C).before args s = true) ∨ ∃ a, ty = .array a ∧ (Cond.classLink own idx (FieldType.array a).toString).before args s = true) (hover : (Cond.arrayOver ty).before args s = true) (hd : decode bytes pc = .ok (.anewarray idx, 3)) (hn : ¬ n < 0) (hn2 : n.toNatClampNeg ≤ 65536) (hcells : cells + 1 ≤ R.cells) (hslots : slots + n.toNatClampNeg ≤ R.slots)
    (kk : ∀ H1 : Heap, xHR cl D ad n0 b0 H0 (h ++ [.inr (t, List.replicate n.toNatClampNeg .null)]) H1 → W p l e R s m args below meth c H1 locs (cells + 1) (slots + n.toNatClampNeg) Q (F0 m (pc + 3) ls (.ref (ad h.length) :: rest))) : W p l e R s m args below meth c H locs cells slots Q (F0 m pc ls (.int n :: rest)) := by
  have ea : ad h.length = H.size := xad_len hA hH
  have fin : ∀ cA : ClassId, xAs s ty cA → W p l e R s m args below meth c (H.push { cls := cA, slots := Array.replicate n.toNatClampNeg .null, vm := .none }) locs (cells + 1) (slots + n.toNatClampNeg) Q (F0 m (pc + 3) ls (.ref H.size :: rest)) := fun cA hs => by
    have := kk _ (xHR.push (H1 := H.push { cls := cA, slots := Array.replicate n.toNatClampNeg .null, vm := .none }) (c := .inr (t, List.replicate n.toNatClampNeg .null)) hA hH (by simp) (fun q hq => by rw [Array.getElem?_push, if_neg (Nat.ne_of_lt hq)]) (xCR.arr (cell := { cls := cA, slots := Array.replicate n.toNatClampNeg .null, vm := .none }) (by rw [ea]; simp) rfl ((hK.2.1 _ _ _ hT).mpr (xAw.of hs)) ((hK.2.2.1 _ _ _ hT).mpr hs) (xrep ad _ _ rfl)))
    rw [ea] at this
    exact this
  rcases hty with ⟨C, rfl, hl⟩ | ⟨a, rfl, hl⟩
  · exact W.anew hx hb hown hl hover rfl hd rfl hn (by omega) hcells hslots (fun cA kA comp g1 g2 g3 g4 => fin cA ⟨g1, kA, comp, g2, g3, g4⟩)
  · exact W.anewA hx hb hown hl hover rfl hd rfl hn (by omega) hcells hslots (fun cA kA comp g1 g2 g3 g4 => fin cA ⟨g1, kA, comp, g2, g3, g4⟩)
/-- a static field that nobody writes -/
def xZ (ad : Nat → Nat) (b0 : Nat) (H0 : Heap) (q : String × String × String) (v : Value) (s : State) : Prop := ∃ (cf : ClassId) (kf : Class) (fi : Nat) (f : Field) (a : Nat) (cell : Cell), s.fieldFound? q.1 q.2.1 q.2.2 = some (cf, kf, fi, f) ∧ f.isStatic = true ∧ kf.init = .initialized ∧ kf.statics = some a ∧ a < b0 ∧ H0[a]? = some cell ∧ cell.vm.isStatics = true ∧ cell.slots[f.slot]? = some (xcn ad v)
theorem xZ.moved {q : String × String × String} {u U : State} (hvm : u.vm.Alike U.vm) (h : xZ ad b0 H0 q v u) : xZ ad b0 H0 q v U := by
  obtain ⟨cf, kf, fi, f, a, cell, h1, h2, h3, h4, h5⟩ := h
  obtain ⟨k', hi', he⟩ := State.fieldFound?_setVm hvm h1
  exact ⟨cf, k', fi, f, a, cell, hi', h2, by rw [he]; exact h3, by rw [he]; exact h4, h5⟩
/-- a static field of which only a reference or null is said -/
def xZq (b0 : Nat) (H0 : Heap) (q : String × String × String) (s : State) : Prop := ∃ (w : Value) (cf : ClassId) (kf : Class) (fi : Nat) (f : Field) (a : Nat) (cell : Cell), (w = .null ∨ ∃ t, w = .ref t) ∧ s.fieldFound? q.1 q.2.1 q.2.2 = some (cf, kf, fi, f) ∧ f.isStatic = true ∧ kf.init = .initialized ∧ kf.statics = some a ∧ a < b0 ∧ H0[a]? = some cell ∧ cell.vm.isStatics = true ∧ cell.slots[f.slot]? = some w
theorem xZq.moved {q : String × String × String} {u U : State} (hvm : u.vm.Alike U.vm) (h : xZq b0 H0 q u) : xZq b0 H0 q U := by
  obtain ⟨w, cf, kf, fi, f, a, cell, h0, h1, h2, h3, h4, h5⟩ := h
  obtain ⟨k', hi', he⟩ := State.fieldFound?_setVm hvm h1
  exact ⟨w, cf, k', fi, f, a, cell, h0, hi', h2, by rw [he]; exact h3, by rw [he]; exact h4, h5⟩
theorem xW_gets {q : String × String × String} (hx : p.tables.exec = Jvm.exec) (hb : c.code = bytes) (hown : s.vm.findClass own = some m.cls) (hH : xHR cl D ad n0 b0 H0 h H) (hZ : xZ ad b0 H0 q v s) (hlink : (Cond.fieldLink own idx q.1 q.2.1 q.2.2).before args s = true ∨ ∃ host, (Cond.fieldLinkNest own idx q.1 q.2.1 q.2.2 host).before args s = true) (hd : decode bytes pc = .ok (.getstatic idx, 3))
    (kk : W p l e R s m args below meth c H locs cells slots Q (F0 m (pc + 3) ls (xcn ad v :: rest))) : W p l e R s m args below meth c H locs cells slots Q (F0 m pc ls rest) := by
  obtain ⟨cf, kf, fi, f, a, cell, h1, h2, h3, h4, h5, h6, h7, h8⟩ := hZ
  rcases hlink with hl | ⟨host, hl⟩
  · exact W.gets hx hb hown hl h1 h2 h3 h4 (by rw [hH.2.2.2 a h5]; exact h6) (fun e => by rw [e] at h7; cases h7) h8 rfl hd kk
  · exact va_WgetsN hx hb hown hl h1 h2 h3 h4 (by rw [hH.2.2.2 a h5]; exact h6) (fun e => by rw [e] at h7; cases h7) h8 rfl hd kk
/-- a run of stores, by places -/
theorem xpairs_at (at_ : Nat) : ∀ (xs : List Value) (i : Nat) (c : Cell) (k : Nat), (c.storePairs at_ (xs.zipIdx i)).slots[k]? = if at_ + i ≤ k ∧ k < at_ + i + xs.length ∧ k < c.slots.size then xs[k - (at_ + i)]? else c.slots[k]?
  | [], i, c, k => by
    show c.slots[k]? = _
    rw [if_neg (by simp only [List.length_nil]; omega)]
  | x :: xs, i, c, k => by
    rw [List.zipIdx_cons]
    show ((c.setSlot (at_ + i) x).storePairs at_ (xs.zipIdx (i + 1))).slots[k]? = _
    rw [xpairs_at at_ xs (i + 1)]
    have hz : (c.setSlot (at_ + i) x).slots.size = c.slots.size := by simp [Cell.setSlot]
    rw [hz]
    have hs : (c.setSlot (at_ + i) x).slots[k]? = if at_ + i = k then (if k < c.slots.size then some x else none) else c.slots[k]? := by
      show (c.slots.setIfInBounds (at_ + i) x)[k]? = _
      rw [Array.getElem?_setIfInBounds]
      split
      · rename_i e2; subst e2; rfl
      · rfl
    rw [hs]
    by_cases hk : at_ + i = k
    · rw [if_neg (by omega), if_pos hk]
      by_cases hl : k < c.slots.size
      · rw [if_pos hl, if_pos (by simp only [List.length_cons]; omega), ← hk]
        simp
      · rw [if_neg hl, if_neg (by omega)]
        simp; omega
    · rw [if_neg hk]
      by_cases h : at_ + (i + 1) ≤ k ∧ k < at_ + (i + 1) + xs.length ∧ k < c.slots.size
      · rw [if_pos h, if_pos (by simp only [List.length_cons]; omega)]
        have e2 : k - (at_ + i) = (k - (at_ + (i + 1))) + 1 := by omega
        rw [e2, List.getElem?_cons_succ]
      · rw [if_neg h, if_neg (by simp only [List.length_cons]; omega)]
theorem xcpy_map (ad : Nat → Nat) (vs ws : List Value) (sp dp n : Nat) : (xcpy vs ws sp dp n).map (xcn ad) = xcpy (vs.map (xcn ad)) (ws.map (xcn ad)) sp dp n := by
  unfold xcpy
  simp [List.map_append, List.map_take, List.map_drop]
theorem xcopied {cs cd : Cell} {vs ws : List Value} {sp dp n : Nat} (h1 : cs.slots = vs.toArray) (h2 : cd.slots = ws.toArray) (hs : sp + n ≤ vs.length) (hd : dp + n ≤ ws.length) : (cd.storeRun dp (cs.stretch sp n)).slots = (xcpy vs ws sp dp n).toArray := by
  have e : cs.stretch sp n = (vs.drop sp).take n := by
    unfold Cell.stretch
    rw [h1]
    apply List.ext_getElem?
    intro i
    rw [List.getElem?_map, List.getElem?_take]
    by_cases hi : i < n
    · rw [List.getElem?_range hi, if_pos hi, List.getElem?_drop]
      simp [Array.getD_eq_getD_getElem?]
      rw [List.getElem?_eq_getElem (by omega)]
      rfl
    · rw [if_neg hi, List.getElem?_eq_none (by rw [List.length_range]; omega)]
      rfl
  rw [e, Cell.storeRun]
  apply Array.ext_getElem?
  intro k
  rw [xpairs_at, h2]
  have hl : ((vs.drop sp).take n).length = n := by simp; omega
  unfold xcpy
  simp only [Nat.add_zero, hl, List.size_toArray, List.getElem?_toArray]
  by_cases hk : dp ≤ k ∧ k < dp + n ∧ k < ws.length
  · rw [if_pos hk, List.append_assoc, List.getElem?_append_right (by simp; omega), List.getElem?_append_left (by simp; omega)]
    congr 1
    simp; omega
  · rw [if_neg hk]
    by_cases h3 : k < dp
    · rw [List.append_assoc, List.getElem?_append_left (by simp; omega), List.getElem?_take, if_pos h3]
    · rw [List.getElem?_append_right (by simp; omega), List.getElem?_drop]
      congr 1
      simp; omega
theorem xnn (z : Int32) (hz : ¬ z < 0) : z.toInt = (z.toNatClampNeg : Int) := by
  have hz0 : (0 : Int) ≤ z.toInt := by
    have := Int32.not_lt.mp hz
    simpa using Int32.le_iff_toInt_le.mp this
  show z.toInt = ((z.toInt.toNat : Nat) : Int)
  omega
theorem xW_acopy {sr ds : Nat} {sp dp : Int32} (hx : p.tables.exec = Jvm.exec) (hb : c.code = bytes) (hml : c.maxLocals = ls.size) (hown : s.vm.findClass own = some m.cls) (hA : xAd ad n0 b0) (hK : xKn cl AT nW D s) (hT0 : AT[0]? = some .int) (hT1 : AT[1]? = some .long) (hH : xHR cl D ad n0 b0 H0 h H) (hg : xacopy n0 h sr sp ds dp n = some h1) (hlink : (Cond.methodLink own idx arraycopyName).before args s = true) (hnat : (Cond.native arraycopyName).before args s = true) (hstat : (Cond.static arraycopyName).before args s = true) (hini : (Cond.initialized "java/lang/System").before args s = true) (hloc : ∀ q ∈ locs, b0 ≤ q.base)
    (hframes : 1 ≤ R.frames) (hlocals : (rest.map fun v => v.category).sum + (nativeFrameWords "java/lang/System" "arraycopy" 5 + 11) ≤ R.locals) (hd : decode bytes pc = .ok (.invokestatic idx, 3))
    (kk : ∀ (H1 : Heap) (locs1 : List Loc), xHR cl D ad n0 b0 H0 h1 H1 → (∀ q ∈ locs1, b0 ≤ q.base) → W p l e R s m args below meth c H1 locs1 cells slots Q (F0 m (pc + 3) ls rest)) : W p l e R s m args below meth c H locs cells slots Q (F0 m pc ls (.int n :: .int dp :: .ref (ad ds) :: .int sp :: .ref (ad sr) :: rest)) := by
  unfold xacopy at hg
  split at hg
  · rename_i t0 vs t1 ws e1 e2
    split at hg
    · rename_i hc
      simp only [xacok, Bool.and_eq_true, decide_eq_true_eq] at hc
      obtain ⟨⟨ht, hlt, hn0, hn1, hs0, hd0, hnn, hs1, hd1⟩, hall⟩ := hc
      subst ht
      cases hg
      obtain ⟨cs, q1, q2, q3, -, q4, q5, -, -⟩ := hH.2.2.1 sr _ e1
      obtain ⟨cd, g1, g2, g3, g9, g4, g6, -, -⟩ := hH.2.2.1 ds _ e2
      obtain ⟨-, q5⟩ := q5 hn1
      obtain ⟨g6, g5⟩ := g6 hn0
      have hdl : ds < h.length := (List.getElem?_eq_some_iff.mp e2).1
      obtain ⟨ty, hT, hty⟩ : ∃ ty, AT[t0]? = some ty ∧ ((t0 = 0 ∧ ty = .int) ∨ (¬ t0 = 0 ∧ ty = .long)) := by
        rcases (show t0 = 0 ∨ t0 = 1 by omega) with rfl | rfl
        · exact ⟨_, hT0, Or.inl ⟨rfl, rfl⟩⟩
        · exact ⟨_, hT1, Or.inr ⟨by decide, rfl⟩⟩
      obtain ⟨ks, comps, hks, hkks⟩ := (hK.2.1 _ _ _ hT).mp q4
      obtain ⟨kd, compd, hkd, hkkd⟩ := (hK.2.1 _ _ _ hT).mp g4
      intro T hTT X
      obtain ⟨vm', X', step⟩ := X.arraycopy hx hown hlink hnat hstat hini (src := ad sr) (dst := ad ds) (cs := cs) (cd := cd) (srcPos := sp) (destPos := dp) (n := n) (by rw [hTT]; exact q1) (by rw [hTT]; exact g1)
        (fun _ h => by rw [h] at q2; cases q2) (fun _ h => by rw [h] at g2; cases g2) q3 g3 hks hkd hkks hkkd (by rcases hty with ⟨-, rfl⟩ | ⟨-, rfl⟩ <;> decide) hs0 hd0 hnn
        (by rw [xnn sp hs0, xnn n hnn, q5]; simp; omega) (by rw [xnn dp hd0, xnn n hnn, g5]; simp; omega)
        (fun vm₁ _ i hi => by
          have hi2 : sp.toNatClampNeg + i < vs.length := by omega
          have e : cs.slots.getD (sp.toNatClampNeg + i) .null = xcn ad (vs[sp.toNatClampNeg + i]) := by
            rw [q5]
            simp [Array.getD_eq_getD_getElem?, hi2]
          have hm : vs[sp.toNatClampNeg + i] ∈ (vs.drop sp.toNatClampNeg).take n.toNatClampNeg := by
            apply List.mem_of_getElem? (i := i)
            rw [List.getElem?_take, if_pos hi, List.getElem?_drop, List.getElem?_eq_getElem hi2]
          have hv := List.all_eq_true.mp hall _ hm
          rw [e]
          rcases hty with ⟨h0, rfl⟩ | ⟨h0, rfl⟩
          · rw [if_pos h0] at hv
            obtain ⟨x, hx⟩ := xisI_ok hv
            rw [hx]
            exact ⟨rfl, trivial⟩
          · rw [if_neg h0] at hv
            obtain ⟨x, hx⟩ := xisJ_ok hv
            rw [hx]
            exact ⟨rfl, trivial⟩)
        (g := F0 m pc ls (.int n :: .int dp :: .ref (ad ds) :: .int sp :: .ref (ad sr) :: rest)) rfl (by rw [hml]) (rest := rest) rfl (by rw [hb]; exact hd) hframes (by show 2 * 0 + _ + _ ≤ _; omega)
      have hcp : (copied cs cd sp dp n).slots = ((xcpy vs ws sp.toNatClampNeg dp.toNatClampNeg n.toNatClampNeg).map (xcn ad)).toArray := by
        rw [xcpy_map]
        exact xcopied q5 g5 (by simp; omega) (by simp; omega)
      have hcf := Cell.storePairs_facts cd dp.toNatClampNeg (cs.stretch sp.toNatClampNeg n.toNatClampNeg).zipIdx
      have hcl2 : (copied cs cd sp dp n).cls = cd.cls := hcf.1
      have hvm2 : (copied cs cd sp dp n).vm = cd.vm := hcf.2.1
      have hl : ad ds < H.size := (Array.getElem?_eq_some_iff.mp g1).1
      obtain ⟨t', a1, b1⟩ := kk (H.setIfInBounds (ad ds) (copied cs cd sp dp n)) _ (xHR.set hA hH hn0 hdl (by simp) (fun q hq => by simp [Array.getElem?_setIfInBounds, Ne.symm hq]) (xCR.arr (cell := copied cs cd sp dp n) (by simp [Array.getElem?_setIfInBounds, hl]) (by rw [hvm2]; exact g9 hn0) (by rw [hcl2]; exact g4) (by rw [hcl2]; exact g6) hcp)) (fun q hq => by
          rcases List.mem_append.mp hq with hq | hq
          · exact hloc q hq
          · obtain ⟨z, -, hz⟩ := List.mem_map.mp hq
            rw [← hz]
            show b0 ≤ ad ds
            rw [hA.1 ds hn0]
            omega) _ (by rw [← hTT]; rfl) X'
      exact ⟨t', step t' a1, b1⟩
    · cases hg
  · cases hg
end ALLOC
