/-! THE HEAP: cells of the list stand at addresses; how each instruction of the heap goes over -/
/-- classes: their numbers in the machine, their fields' slots, which numbers are arrays of a type, which are THE arrays of a type -/
abbrev xD : Type := (Nat → ClassId) × (Nat → Nat → Nat) × (Nat → ClassId → Prop) × (Nat → ClassId → Prop)
def xCR (cl : List vw_C) (D : xD) (ad : Nat → Nat) (n0 k : Nat) (c : xC) (H : Heap) : Prop := ∃ cell : Cell, H[ad k]? = some cell ∧ cell.vm.isStatics = false ∧ cell.vm ≠ .unknown ∧ (n0 ≤ k → cell.vm = .none) ∧ match c with
  | .inl o => cell.cls = D.1 o.1 ∧ (∃ (C : String) (T : u_T), cl[o.1]? = some (C, T, o.2.length)) ∧ ∀ (j : Nat) (v : Value), o.2[j]? = some v → cell.slots[D.2.1 o.1 j]? = some (xcn ad v)
  | .inr a => D.2.2.1 a.1 cell.cls ∧ (n0 ≤ k → D.2.2.2 a.1 cell.cls ∧ cell.slots = (a.2.map (xcn ad)).toArray) ∧ cell.slots.size.toInt32 = Int32.ofNat a.2.length ∧ ∀ (j : Nat) (v : Value), a.2[j]? = some v → cell.slots[j]? = some (xcn ad v)
def xHR (cl : List vw_C) (D : xD) (ad : Nat → Nat) (n0 b0 : Nat) (H0 : Heap) (h : xH) (H : Heap) : Prop := H.size = b0 + (h.length - n0) ∧ n0 ≤ h.length ∧ (∀ (k : Nat) (c : xC), h[k]? = some c → xCR cl D ad n0 k c H) ∧ ∀ q : Nat, q < b0 → H[q]? = H0[q]?
def xAd (ad : Nat → Nat) (n0 b0 : Nat) : Prop := (∀ k, n0 ≤ k → ad k = b0 + (k - n0)) ∧ ∀ k, k < n0 → ad k < b0
theorem xAd.ne {ad : Nat → Nat} {n0 b0 j k : Nat} (h : xAd ad n0 b0) (hk : n0 ≤ k) (hj : ¬ j = k) : ad j ≠ ad k := by
  rw [h.1 k hk]
  by_cases q : n0 ≤ j
  · rw [h.1 j q]; omega
  · have := h.2 j (by omega); omega
theorem xCR.arr {cl : List vw_C} {D : xD} {ad : Nat → Nat} {n0 k t : Nat} {vs : List Value} {H : Heap} {cell : Cell} (h1 : H[ad k]? = some cell) (h2 : cell.vm = .none) (h3 : D.2.2.1 t cell.cls) (h4 : D.2.2.2 t cell.cls) (h5 : cell.slots = (vs.map (xcn ad)).toArray) : xCR cl D ad n0 k (.inr (t, vs)) H :=
  ⟨cell, h1, (by rw [h2]; rfl), (fun q => (by rw [h2] at q; cases q)), fun _ => h2, h3, fun _ => ⟨h4, h5⟩, (by rw [h5]; simp), fun j v hj => (by rw [h5, List.getElem?_toArray, List.getElem?_map, hj]; rfl)⟩
theorem xCR.kept {cl : List vw_C} {D : xD} {ad : Nat → Nat} {n0 k : Nat} {c : xC} {H H1 : Heap} (h : xCR cl D ad n0 k c H) (e : H1[ad k]? = H[ad k]?) : xCR cl D ad n0 k c H1 := by
  obtain ⟨cell, h1, h2⟩ := h
  exact ⟨cell, by rw [e]; exact h1, h2⟩
/-- one cell changes -/
theorem xHR.set {cl : List vw_C} {D : xD} {ad : Nat → Nat} {n0 b0 : Nat} {H0 : Heap} {h : xH} {H H1 : Heap} {k : Nat} {c : xC} (hA : xAd ad n0 b0) (hH : xHR cl D ad n0 b0 H0 h H) (hk : n0 ≤ k) (hkl : k < h.length) (hz : H1.size = H.size) (ho : ∀ q, q ≠ ad k → H1[q]? = H[q]?) (hc : xCR cl D ad n0 k c H1) : xHR cl D ad n0 b0 H0 (h.set k c) H1 := by
  refine ⟨by rw [hz, List.length_set]; exact hH.1, by rw [List.length_set]; exact hH.2.1, fun j d hj => ?_, fun q hq => ?_⟩
  · rw [List.getElem?_set] at hj
    split at hj
    · rename_i e
      subst e
      cases hj
      exact hc
    · rename_i e
      exact (hH.2.2.1 j d hj).kept (ho _ (hA.ne hk (fun q => e q.symm)))
  · rw [ho q (by rw [hA.1 k hk]; omega)]
    exact hH.2.2.2 q hq
/-- a cell is new -/
theorem xHR.push {cl : List vw_C} {D : xD} {ad : Nat → Nat} {n0 b0 : Nat} {H0 : Heap} {h : xH} {H H1 : Heap} {c : xC} (hA : xAd ad n0 b0) (hH : xHR cl D ad n0 b0 H0 h H) (hz : H1.size = H.size + 1) (ho : ∀ q, q < H.size → H1[q]? = H[q]?) (hc : xCR cl D ad n0 h.length c H1) : xHR cl D ad n0 b0 H0 (h ++ [c]) H1 := by
  have h1 := hH.1
  have h2 := hH.2.1
  refine ⟨by rw [hz, List.length_append]; simp; omega, by rw [List.length_append]; omega, fun j d hj => ?_, fun q hq => ?_⟩
  · by_cases e : j < h.length
    · rw [List.getElem?_append_left e] at hj
      obtain ⟨cell, q1, q2⟩ := hH.2.2.1 j d hj
      exact ⟨cell, by rw [ho _ (Array.getElem?_eq_some_iff.mp q1).1]; exact q1, q2⟩
    · rw [List.getElem?_append_right (by omega)] at hj
      have e2 : j - h.length = 0 := by
        have := (List.getElem?_eq_some_iff.mp hj).1
        simp at this; omega
      rw [e2] at hj
      cases hj
      rw [show j = h.length by omega]
      exact hc
  · rw [ho q (by omega)]
    exact hH.2.2.2 q hq
theorem xad_len {ad : Nat → Nat} {cl : List vw_C} {D : xD} {n0 b0 : Nat} {H0 : Heap} {h : xH} {H : Heap} (hA : xAd ad n0 b0) (hH : xHR cl D ad n0 b0 H0 h H) : ad h.length = H.size := by
  rw [hA.1 _ hH.2.1, hH.1]
/-- arrays by their class, in a state -/
def xAw (s : State) (ty : FieldType) (c : ClassId) : Prop := ∃ (kA : Class) (comp : ClassId), s.vm.classes[c]? = some kA ∧ kA.kind = .array comp ty
def xAs (s : State) (ty : FieldType) (c : ClassId) : Prop := s.vm.findClass ("[" ++ ty.toString) = some c ∧ ∃ (kA : Class) (comp : ClassId), s.vm.classes[c]? = some kA ∧ kA.kind = .array comp ty ∧ match ty with
  | .object C => s.vm.findClass C = some comp
  | .array t => s.vm.findClass (FieldType.array t).toString = some comp
  | _ => True
theorem xAw.moved {u U : State} {ty : FieldType} {c : ClassId} (hvm : u.vm.Alike U.vm) (h : xAw u ty c) : xAw U ty c := by
  obtain ⟨kA, comp, h1, h2⟩ := h
  obtain ⟨k', hk', he⟩ := hvm.2.2 _ _ h1
  exact ⟨k', comp, hk', by rw [he]; exact h2⟩
theorem xAs.moved {u U : State} {ty : FieldType} {c : ClassId} (hvm : u.vm.Alike U.vm) (h : xAs u ty c) : xAs U ty c := by
  obtain ⟨h0, kA, comp, h1, h2, h3⟩ := h
  obtain ⟨k', hk', he⟩ := hvm.2.2 _ _ h1
  refine ⟨by rw [hvm.findClass]; exact h0, k', comp, hk', by rw [he]; exact h2, ?_⟩
  cases ty <;> first | trivial | (show U.vm.findClass _ = _; rw [hvm.findClass]; exact h3)
/-- a class of which fields are read -/
def xKr (s : State) (q : vw_C) (cC : ClassId) (iS : Nat → Nat) : Prop := s.vm.findClass q.1 = some cC ∧ ∀ k, k < q.2.2 → ∃ (cf : ClassId) (kf : Class) (fi : Nat) (f : Field), s.fieldFound? (q.2.1 k).1 (q.2.1 k).2.1 (q.2.1 k).2.2.1 = some (cf, kf, fi, f) ∧ f.slot = iS k ∧ f.isStatic = false
theorem xKr.moved {q : vw_C} {cC : ClassId} {iS : Nat → Nat} {u U : State} (hvm : u.vm.Alike U.vm) (h : xKr u q cC iS) : xKr U q cC iS := by
  refine ⟨by rw [hvm.findClass]; exact h.1, fun k hk => ?_⟩
  obtain ⟨cf, kf, fi, f, h1, h2, h3⟩ := h.2 k hk
  obtain ⟨k', hi', he⟩ := State.fieldFound?_setVm hvm h1
  exact ⟨cf, k', fi, f, hi', h2, h3⟩
/-- what is known of the classes in a state: the first nW may be written and made -/
def xKn (cl : List vw_C) (AT : List FieldType) (nW : Nat) (D : xD) (s : State) : Prop := (∀ (ci : Nat) (q : vw_C), cl[ci]? = some q → xKr s q (D.1 ci) (D.2.1 ci)) ∧ (∀ (t : Nat) (ty : FieldType) (c : ClassId), AT[t]? = some ty → (D.2.2.1 t c ↔ xAw s ty c)) ∧ (∀ (t : Nat) (ty : FieldType) (c : ClassId), AT[t]? = some ty → (D.2.2.2 t c ↔ xAs s ty c)) ∧ ∀ (ci : Nat) (q : vw_C), ci < nW → cl[ci]? = some q → u_Kn s q.1 q.2.1 q.2.2 (D.1 ci) (D.2.1 ci)
theorem xKn.moved {cl : List vw_C} {AT : List FieldType} {nW : Nat} {D : xD} {u U : State} (hvm : u.vm.Alike U.vm) (h : xKn cl AT nW D u) : xKn cl AT nW D U :=
  ⟨fun ci q hq => (h.1 ci q hq).moved hvm, fun t ty c ht => ⟨fun q => ((h.2.1 t ty c ht).mp q).moved hvm, fun q => (h.2.1 t ty c ht).mpr (q.moved hvm.symm)⟩, fun t ty c ht => ⟨fun q => ((h.2.2.1 t ty c ht).mp q).moved hvm, fun q => (h.2.2.1 t ty c ht).mpr (q.moved hvm.symm)⟩, fun ci q hw hq => u_Kn_moved hvm (h.2.2.2 ci q hw hq)⟩
theorem xAw.of {s : State} {ty : FieldType} {c : ClassId} (h : xAs s ty c) : xAw s ty c := by
  obtain ⟨-, kA, comp, h1, h2, -⟩ := h
  exact ⟨kA, comp, h1, h2⟩
theorem xAw.arr {s : State} {ty : FieldType} {cell : Cell} (h : xAw s ty cell.cls) (hv : cell.vm.isStatics = false) : s.isArrayOf cell ty := by
  obtain ⟨kA, comp, h1, h2⟩ := h
  exact ⟨fun k e => (by rw [e] at hv; cases hv), kA, h1, comp, h2⟩
section HEAP
variable {p : Program} {l : Launch} {e : Env} {R : Room} {s : State} {m : MethodId} {args : Array Value} {below : List Frame} {meth : Method} {c : Code} {H : Heap} {locs : List Loc} {cells slots : Nat} {Q : State → Prop}
variable {cl : List vw_C} {AT : List FieldType} {D : xD} {ad : Nat → Nat} {n0 b0 nW : Nat} {H0 : Heap} {h h1 : xH} {bytes : ByteArray} {pc idx k ci j : Nat} {ls : Array Slot} {rest : List Value} {v : Value} {own C : String} {T : u_T} {N : Nat}
/-- a field's link, of the class's own or of a nest mate's -/
def xFl (own : String) (idx : Nat) (q : String × String × String × Bool) (args : Array Value) (s : State) : Prop := (Cond.fieldLink own idx q.1 q.2.1 q.2.2.1).before args s = true ∨ ∃ host, (Cond.fieldLinkNest own idx q.1 q.2.1 q.2.2.1 host).before args s = true
theorem xW_getf (hx : p.tables.exec = Jvm.exec) (hb : c.code = bytes) (hown : s.vm.findClass own = some m.cls) (hK : xKn cl AT nW D s) (hH : xHR cl D ad n0 b0 H0 h H) (hg : xgetf h k ci j = some v) (hcl : cl[ci]? = some (C, T, N)) (hl : xFl own idx (T j) args s) (hd : decode bytes pc = .ok (.getfield idx, 3))
    (kk : W p l e R s m args below meth c H locs cells slots Q (F0 m (pc + 3) ls (xcn ad v :: rest))) : W p l e R s m args below meth c H locs cells slots Q (F0 m pc ls (.ref (ad k) :: rest)) := by
  unfold xgetf at hg
  split at hg
  · rename_i c0 fs hk
    split at hg
    · rename_i ec
      subst ec
      obtain ⟨cell, q1, q2, q3, -, q4, ⟨C', T', q5⟩, q6⟩ := hH.2.2.1 k _ hk
      cases hcl.symm.trans q5
      have hj : j < fs.length := (List.getElem?_eq_some_iff.mp hg).1
      obtain ⟨cf, kf, fi, f, hi, hsl, hst⟩ := (hK.1 _ _ hcl).2 j hj
      rcases hl with hl | ⟨host, hl⟩
      · exact W.getf hx hb hown hl hi hst q1 q3 (by rw [hsl]; exact q6 j v hg) rfl rfl hd kk
      · exact va_Wgetf hx hb hown hl hi hst q1 q3 (by rw [hsl]; exact q6 j v hg) rfl rfl hd kk
    · cases hg
  · cases hg
theorem xslot_set {fs : List Value} {cell : Cell} {iS : Nat → Nat} (hap : ∀ x y, x < fs.length → y < fs.length → x ≠ y → iS x ≠ iS y) (hs : ∀ (j : Nat) (v : Value), fs[j]? = some v → cell.slots[iS j]? = some (xcn ad v)) (hj : j < fs.length) : ∀ (i : Nat) (w : Value), (fs.set j v)[i]? = some w → (cell.setSlot (iS j) (xcn ad v)).slots[iS i]? = some (xcn ad w) := by
  intro i w hi
  have hlt : iS j < cell.slots.size := (Array.getElem?_eq_some_iff.mp (hs j _ (List.getElem?_eq_getElem hj))).1
  show (cell.slots.setIfInBounds (iS j) (xcn ad v))[iS i]? = _
  rw [List.getElem?_set] at hi
  split at hi
  · rename_i e1
    subst e1
    cases hi
    simp [Array.getElem?_setIfInBounds, hlt]
  · rename_i e1
    have hil : i < fs.length := (List.getElem?_eq_some_iff.mp hi).1
    rw [Array.getElem?_setIfInBounds, if_neg (hap j i hj hil e1)]
    exact hs i w hi
theorem xW_putf (hx : p.tables.exec = Jvm.exec) (hb : c.code = bytes) (hown : s.vm.findClass own = some m.cls) (hA : xAd ad n0 b0) (hK : xKn cl AT nW D s) (hH : xHR cl D ad n0 b0 H0 h H) (hg : xputf n0 h k ci j v = some h1) (hw : ci < nW) (hcl : cl[ci]? = some (C, T, N)) (hlay : ∀ w ∈ u_ws C T N, w.before args s = true) (hnm : ∀ a, a < N → ∀ b, b < N → a ≠ b → (T a).2.1 ≠ (T b).2.1) (ty0 : Nat → FieldType) (hty : ∀ k, k < N → parseFieldDescriptor (T k).2.2.1 = some (ty0 k)) (hf : xfit (ty0 j) v = true) (hl : ((T j).2.2.2 = false ∧ xFl own idx (T j) args s) ∨ ((T j).2.2.2 = true ∧ (Cond.fieldLink own idx (T j).1 (T j).2.1 (T j).2.2.1).before args s = true ∧ meth.name = "<init>" ∧ (T j).1 = own)) (hd : decode bytes pc = .ok (.putfield idx, 3)) (hloc : ∀ q ∈ locs, b0 ≤ q.base)
    (kk : ∀ (H1 : Heap) (locs1 : List Loc), xHR cl D ad n0 b0 H0 h1 H1 → (∀ q ∈ locs1, b0 ≤ q.base) → W p l e R s m args below meth c H1 locs1 cells slots Q (F0 m (pc + 3) ls rest)) : W p l e R s m args below meth c H locs cells slots Q (F0 m pc ls (xcn ad v :: .ref (ad k) :: rest)) := by
  unfold xputf at hg
  split at hg
  · rename_i c0 fs hk
    split at hg
    · rename_i ec
      obtain ⟨ec, hn0, hj⟩ := ec
      subst ec
      cases hg
      obtain ⟨cell, q1, q2, q3, q9, q4, ⟨C', T', q5⟩, q6⟩ := hH.2.2.1 k _ hk
      have q9 := q9 hn0
      cases hcl.symm.trans q5
      have hkl : k < h.length := (List.getElem?_eq_some_iff.mp hk).1
      have hu := hK.2.2.2 _ _ hw hcl
      have hap := va_apart (own := own) (D := (fun _ => D.1 c0, fun _ => D.2.1 c0)) (cl := [(C, T, fs.length)]) (tys := []) (ci := 0) (s := s) (args := args) (Ts := u_ws C T fs.length) hlay (fun w h => h) ty0 hty hnm ⟨fun c q hq => by
        have h0 : c < 1 := (List.getElem?_eq_some_iff.mp hq).1
        rw [show c = 0 by omega] at hq
        cases hq
        exact hu, fun k q h => by simp at h⟩ rfl
      obtain ⟨hS, hfc, kC, hkC, hkind⟩ := hu
      obtain ⟨cf, kf, fi, f, hi, hsl⟩ := hS j hj
      have hst := (u_facts hfc hkC (u_lays (ws := u_ws C T fs.length) hlay (fun w h => h) hj) hi).1
      obtain ⟨hn1, hn2⟩ := xfit_ok ad hf
      have hlt : f.slot < cell.slots.size := by rw [hsl]; exact (Array.getElem?_eq_some_iff.mp (q6 j _ (List.getElem?_eq_getElem hj))).1
      have hwd := hlay _ (u_in_lay hj)
      have fin : ∀ H' : Heap, H'[ad k]? = some (cell.setSlot f.slot (xcn ad v)) → H'.size = H.size → (∀ q, q ≠ ad k → H'[q]? = H[q]?) → W p l e R s m args below meth c H' (locs ++ [⟨ad k, f.slot⟩]) cells slots Q (F0 m (pc + 3) ls rest) := fun H' e1 e2 e3 => by
        refine kk H' _ (xHR.set hA hH hn0 hkl e2 e3 ⟨_, e1, q2, q3, fun _ => q9, q4, ⟨C, T, by rw [List.length_set]; exact hcl⟩, ?_⟩) ?_
        · rw [hsl]; exact xslot_set hap q6 hj
        · intro q hq
          rcases List.mem_append.mp hq with hq | hq
          · exact hloc q hq
          · rw [List.mem_singleton.mp hq]; show b0 ≤ ad k; rw [hA.1 k hn0]; omega
      rcases hl with ⟨hfin, hl⟩ | ⟨hfin, hl, hin2, hdecl⟩
      · unfold u_lay at hwd
        rw [if_neg (by rw [hfin]; decide)] at hwd
        have h6 := u_store hfc hkC hkind hwd hi (hty j hj) hn1 hn2
        rcases hl with hl | ⟨host, hl⟩
        · exact W.putK hx hb (f := f) ⟨hown, hl, ⟨_, _, _, hi⟩, hst⟩ (by rw [q4]; exact h6) q1 q9 hlt rfl rfl hd fin
        · exact va_WputK hx hb (f := f) hown hl hi hst (by rw [q4]; exact h6) q1 q9 hlt rfl rfl hd fin
      · unfold u_lay at hwd
        rw [if_pos hfin] at hwd
        have hcf : m.cls = cf := by
          obtain ⟨_, _, c', _, _, _, -, -, hf', -, -, -, hown2, -⟩ := Cond.laysFinal_spec hwd
          have e1 : c' = cf := by have := hi.symm.trans hf'; simp at this; exact this.1.symm
          rw [hdecl] at hown2
          rw [← e1]; exact Option.some.inj (hown.symm.trans hown2)
        have h6 := u_fits hfc hkC hkind (Or.inr hwd) hi (hty j hj) hn1 hn2
        exact W.putFinK hx hb hown hl hi hst hcf hin2 (by rw [q4]; exact h6) q1 q9 hlt rfl rfl hd fin
    · cases hg
  · cases hg
end HEAP
