/-! THE PROGRAM IS AS THE TABLES SAY; a method's contract out of the machine's answer -/
def xkeep (w : Jvm.Cond) : Bool := match w with
  | .fieldLinkNest _ _ _ _ _ _ => true
  | .methodLinkNest _ _ _ _ => true
  | .arrayOver (.object _) => true
  | .arrayOver (.array _) => true
  | w => goodWord w
theorem xAOA {t : FieldType} {u U : State} (hvm : u.vm.Alike U.vm) {A : Array Value} (h : (Cond.arrayOver (.array t)).before A u = true) (B : Array Value) : (Cond.arrayOver (.array t)).before B U = true := by
  obtain ⟨comp, c, k, h1, h2, h3, h4, h5⟩ := arrayOverA_spec h
  obtain ⟨k', hk', he⟩ := hvm.2.2 _ _ h3
  have hi : (U.vm.classes.findIdx? fun (x : Class) => match x.kind with | .array component _ => component == comp | _ => false) = some c := by
    rw [hvm.findIdx?_eq _ (fun _ => rfl)]
    exact h2
  have hkind : k'.kind = .array comp (.array t) := by rw [he]; exact h4
  have f1 : U.vm.findClass (FieldType.array t).toString = some comp := by rw [hvm.findClass]; exact h1
  have f2 : U.vm.findClass ("[" ++ (FieldType.array t).toString) = some c := by rw [hvm.findClass]; exact h5
  unfold Cond.before Cond.holds
  simp only [Cond.value]
  rw [f1, Option.bind_some]
  refine (congrArg (fun o : Option Nat => (o.bind (fun c => (U.vm.classes[c]?).map fun (k : Class) => match k.kind with | .array _ ty => decide (ty = FieldType.array t) && decide (U.vm.findClass ("[" ++ (FieldType.array t).toString) = some c) | _ => false) == some true)) hi).trans ?_
  simp [hk', hkind, f2]
theorem xkeep_warm {w : Jvm.Cond} {s U : State} (h : xkeep w = true) (hW : s.WarmedH U.vm) (hw : ∀ a, w.before a s = true) (a : Array Value) : w.before a U = true := by
  unfold xkeep at h
  split at h
  · exact va_Nw.use rfl (va_Nw.warmF hW (hw #[]))
  · exact va_Nw.use rfl (va_Nw.warmM hW (hw #[]))
  · exact va_AO.use (va_AO.moved hW.alike (va_AO.of (hw #[])))
  · exact xAOA hW.alike (hw #[]) a
  · exact word_at hW (good_of_word h) (hw #[])
section CTX
variable (Ts : List Jvm.Cond) (cl : List vw_C) (cn : List String) (P : xP) (SN : List (String × String × String)) (SR : List (String × Nat × Nat)) (nW : Nat) (D : xD) (ad : Nat → Nat) (b0 : Nat) (H0 : Heap)
def xSQ : String × String × String := ("jdk/internal/util/Preconditions", "SIOOBE_FORMATTER", "Ljava/util/function/BiFunction;")
/-- what holds in every state: the words, the classes, the statics, the texts -/
def xCx (s : State) : Prop := (∀ w ∈ Ts, ∀ a, w.before a s = true) ∧ xKn cl P.2.2.1 nW D s ∧ (∀ (j : Nat) (q : String × String × String) (v : Value), SN[j]? = some q → P.2.2.2.2.1[j]? = some v → xZ ad b0 H0 q v s) ∧ (∀ q ∈ SR, ∃ tx, vk_R q.1 q.2.1 tx (ad q.2.2) s) ∧ xZq b0 H0 xSQ s
theorem xCx.warm {s U : State} (hT : ∀ w ∈ Ts, xkeep w = true) (hW : s.WarmedH U.vm) (h : xCx Ts cl P SN SR nW D ad b0 H0 s) : xCx Ts cl P SN SR nW D ad b0 H0 U :=
  ⟨fun w hw a => xkeep_warm (hT w hw) hW (h.1 w hw) a, h.2.1.moved hW.alike, fun j q v h1 h2 => (h.2.2.1 j q v h1 h2).moved hW.alike, fun q hq => by
    obtain ⟨tx, hR⟩ := h.2.2.2.1 q hq
    exact ⟨tx, hR.warm hW⟩, h.2.2.2.2.moved hW.alike⟩
def xFw (own : String) (idx : Nat) (q : String × String × String × Bool) : Prop := Cond.fieldLink own idx q.1 q.2.1 q.2.2.1 ∈ Ts ∨ ∃ host, Cond.fieldLinkNest own idx q.1 q.2.1 q.2.2.1 host ∈ Ts
def xMw (own : String) (idx : Nat) (y : MethodName) : Prop := Cond.methodLink own idx y ∈ Ts ∨ ∃ host, Cond.methodLinkNest own idx y host ∈ Ts
/-- what an instruction is resolved to is what the tables say -/
def xok1 (own : String) (kd : Nat) (x : xI) : Prop := match x.1 with
  | .getfield idx => ∃ q : vw_C, cl[x.2.2.1]? = some q ∧ xFw Ts own idx (q.2.1 x.2.2.2.1)
  | .putfield idx => x.2.2.1 < nW ∧ ∃ q : vw_C, cl[x.2.2.1]? = some q ∧ (((q.2.1 x.2.2.2.1).2.2.2 = false ∧ xFw Ts own idx (q.2.1 x.2.2.2.1)) ∨ ((q.2.1 x.2.2.2.1).2.2.2 = true ∧ Cond.fieldLink own idx (q.2.1 x.2.2.2.1).1 (q.2.1 x.2.2.2.1).2.1 (q.2.1 x.2.2.2.1).2.2.1 ∈ Ts ∧ kd = 2 ∧ (q.2.1 x.2.2.2.1).1 = own))
  | .getstatic idx => ∃ q : String × String × String, SN[x.2.2.1]? = some q ∧ (Cond.fieldLink own idx q.1 q.2.1 q.2.2 ∈ Ts ∨ ∃ host, Cond.fieldLinkNest own idx q.1 q.2.1 q.2.2 host ∈ Ts)
  | .new idx => x.2.2.1 < nW ∧ ∃ q : vw_C, cl[x.2.2.1]? = some q ∧ Cond.classLink own idx q.1 ∈ Ts ∧ Cond.instantiable q.1 q.2.2 ∈ Ts ∧ Cond.initialized q.1 ∈ Ts
  | .newarray at' => ∃ ty, P.2.2.1[x.2.2.1]? = some ty ∧ newarray.typeOf at' = ty ∧ refKind ty = false ∧ Cond.arrayClass ty ∈ Ts
  | .anewarray idx => ∃ ty, P.2.2.1[x.2.2.1]? = some ty ∧ ((∃ C, ty = .object C ∧ Cond.classLink own idx C ∈ Ts) ∨ ∃ a, ty = .array a ∧ Cond.classLink own idx (FieldType.array a).toString ∈ Ts) ∧ Cond.arrayOver ty ∈ Ts
  | .multianewarray idx d => d = 2 ∧ ∃ ty, P.2.2.1[x.2.2.2.1]? = some ty ∧ P.2.2.1[x.2.2.1]? = some (.array ty) ∧ refKind ty = false ∧ Cond.classLink own idx ("[" ++ (FieldType.array ty).toString) ∈ Ts ∧ Cond.arrayOver (.array ty) ∈ Ts ∧ Cond.arrayClass ty ∈ Ts
  | .invokevirtual idx => ∃ M : xM, P.1[x.2.2.1]? = some M ∧ xMw Ts own idx M.1
  | .invokespecial idx => (x.2.2.2.1 = 1 ∧ Cond.methodLink own idx objectInit ∈ Ts ∧ Cond.instanceMethod objectInit ∈ Ts ∧ Cond.code objectInit ⟨#[0xb1]⟩ 1 none ∈ Ts) ∨ (¬ x.2.2.2.1 = 1 ∧ ∃ M : xM, P.1[x.2.2.1]? = some M ∧ xMw Ts own idx M.1)
  | .invokestatic idx => (x.2.2.2.1 = 1 ∧ Cond.methodLink own idx arraycopyName ∈ Ts ∧ Cond.native arraycopyName ∈ Ts ∧ Cond.static arraycopyName ∈ Ts ∧ Cond.initialized "java/lang/System" ∈ Ts) ∨ (x.2.2.2.1 = 2 ∧ Cond.methodLink own idx xy_ci ∈ Ts) ∨ (x.2.2.2.1 = 3 ∧ Cond.methodLink own idx Lib.Math.max.name ∈ Ts ∧ Cond.static Lib.Math.max.name ∈ Ts ∧ Cond.initialized "java/lang/Math" ∈ Ts ∧ Cond.code Lib.Math.max.name Lib.Math.max.code 2 (some .int) ∈ Ts) ∨ (x.2.2.2.1 = 4 ∧ Cond.methodLink own idx Lib.Math.min.name ∈ Ts ∧ Cond.static Lib.Math.min.name ∈ Ts ∧ Cond.initialized "java/lang/Math" ∈ Ts ∧ Cond.code Lib.Math.min.name Lib.Math.min.code 2 (some .int) ∈ Ts) ∨ (4 < x.2.2.2.1 + 5 ∧ ¬ x.2.2.2.1 = 1 ∧ ¬ x.2.2.2.1 = 2 ∧ ¬ x.2.2.2.1 = 3 ∧ ¬ x.2.2.2.1 = 4 ∧ ∃ M : xM, P.1[x.2.2.1]? = some M ∧ xMw Ts own idx M.1)
  | .ldc idx => ∃ v, P.2.2.2.1[x.2.2.1]? = some v ∧ ((∃ z, v = .int z ∧ Cond.constant own idx z ∈ Ts) ∨ ∃ k, v = .ref k ∧ (own, idx, k) ∈ SR)
  | .ldc_w idx => ∃ v, P.2.2.2.1[x.2.2.1]? = some v ∧ ∃ z, v = .int z ∧ Cond.constant own idx z ∈ Ts
  | .ldc2_w idx => ∃ v, P.2.2.2.1[x.2.2.1]? = some v ∧ ∃ z, v = .long z ∧ Cond.constantLong own idx z ∈ Ts
  | _ => True
/-- a method is as the tables say -/
def xokm (M : xM) : Prop := (M.2.2.2.2.2.1 ≤ 2 → Cond.code M.1 M.2.1 M.2.2.1 M.2.2.2.1 ∈ Ts ∧ Cond.initialized M.1.cls ∈ Ts ∧ (M.1.cls ≠ "java/lang/invoke/MethodHandle" ∧ M.1.cls ≠ "java/lang/invoke/VarHandle" ∧ (parseMethodDescriptor M.1.desc).map (fun d => d.parameters.length) = some M.2.2.2.2.1) ∧ plainName M.1.cls = true) ∧
  (M.2.2.2.2.2.1 = 0 → Cond.static M.1 ∈ Ts) ∧ (M.2.2.2.2.2.1 = 1 → Cond.instanceMethod M.1 ∈ Ts ∧ Cond.selects M.1.cls M.1 M.1 ∈ Ts) ∧ (M.2.2.2.2.2.1 = 2 → Cond.instanceMethod M.1 ∈ Ts ∧ M.1.name = "<init>" ∧ M.2.2.2.1 = none) ∧
  xokc M.2.1 M.2.2.2.2.2.2 ∧ (∀ x, M.2.2.2.2.2.2[0]? = some x → x.2.1 = 0) ∧ ∀ (ip : Nat) (x : xI), M.2.2.2.2.2.2[ip]? = some x → xok1 Ts cl P SN SR nW M.1.cls M.2.2.2.2.2.1 x
/-- the JDK's check of an index -/
def xokci : Prop := (Cond.code xy_ci xb_ci 2 none ∈ Ts ∧ Cond.static xy_ci ∈ Ts ∧ Cond.initialized "java/lang/String" ∈ Ts) ∧ (Cond.code xy_pci xb_pci 3 (some .int) ∈ Ts ∧ Cond.static xy_pci ∈ Ts ∧ Cond.initialized "jdk/internal/util/Preconditions" ∈ Ts) ∧ Cond.fieldLink "java/lang/String" 1053 xSQ.1 xSQ.2.1 xSQ.2.2 ∈ Ts ∧ Cond.methodLink "java/lang/String" 1059 xy_pci ∈ Ts
/-- the classes are as the tables say -/
def xokk : Prop := xokci Ts ∧ (∀ w ∈ Ts, xkeep w = true) ∧ (∀ (ci : Nat) (n : String), cn[ci]? = some n → ∃ q, cl[ci]? = some q ∧ q.1 = n) ∧ P.2.2.1[0]? = some .int ∧ P.2.2.1[1]? = some .long ∧ P.2.2.1[2]? = some .byte ∧ P.2.2.1[3]? = some .boolean ∧ (∀ t ty, 4 ≤ t → P.2.2.1[t]? = some ty → ty.isReference = true) ∧
  ∀ (ci : Nat) (q : vw_C), ci < nW → cl[ci]? = some q → (∀ w ∈ u_ws q.1 q.2.1 q.2.2, w ∈ Ts) ∧ (∀ a, a < q.2.2 → ∀ b, b < q.2.2 → a ≠ b → (q.2.1 a).2.1 ≠ (q.2.1 b).2.1) ∧ ∃ tys, P.2.1[ci]? = some tys ∧ tys.length = q.2.2 ∧ ∀ k, k < q.2.2 → parseFieldDescriptor (q.2.1 k).2.2.1 = some (tys.getD k .int)
def xPc (vs : List Value) (h : xH) : Array Value → State → Prop := fun a U => a = (vs.map (xcn ad)).toArray ∧ xHR cl D ad P.2.2.2.2.2 b0 H0 h U.heap ∧ xCx Ts cl P SN SR nW D ad b0 H0 U
def xQc (r : Option Value) (h : xH) : Array Value → State → Outcome → State → Prop := fun _ _ o t => o = .returned (r.map (xcn ad)) ∧ xHR cl D ad P.2.2.2.2.2 b0 H0 h t.heap
/-- SOUND for a fuel: the machine's answer is the machine's of the claim -/
def xGood (l : Launch) (f : Nat) : Prop := ∀ (fr lo mi ip : Nat) (L : xL) (st : List Value) (h : xH) (r : Option Value) (h' : xH), xex cn P f fr lo mi ip L st h = some (r, h') → ∀ (M : xM) (x : xI), P.1[mi]? = some M → M.2.2.2.2.2.2[ip]? = some x →
  ∀ {p : Program} {e : Env} {R : Room} {s : State} {m : MethodId} {args : Array Value} {below : List Frame} {meth : Method} {c : Code} {H : Heap} {locs : List Loc} {cells slots : Nat} {ls : Array Slot}, p.tables.exec = Jvm.exec → c.code = M.2.1 → c.maxLocals = M.2.2.1 → meth.sig.returnType = M.2.2.2.1 → meth.locks = false → s.vm.findClass M.1.cls = some m.cls → (M.2.2.2.2.2.1 = 2 → meth.name = "<init>") →
    xCx Ts cl P SN SR nW D ad b0 H0 s → xLR ad ls L → ls.size = M.2.2.1 → xHR cl D ad P.2.2.2.2.2 b0 H0 h H → (∀ q ∈ locs, b0 ≤ q.base) → cells + (h'.length - h.length) = R.cells → slots + (xsl h' - xsl h) = R.slots → fr ≤ R.frames → lo ≤ R.locals →
    W p l e R s m args below meth c H locs cells slots (MQ below (xQc cl P D ad b0 H0 r h') args s R.cells R.slots (fun q => b0 ≤ q)) (F0 m x.2.1 ls (st.map (xcn ad)))
variable {Ts} {cl} {cn} {P} {SN} {SR} {nW} {D} {ad} {b0} {H0}
theorem xPc_blind {vs : List Value} {h : xH} (hT : ∀ w ∈ Ts, xkeep w = true) : FrameBlind (xPc Ts cl P SN SR nW D ad b0 H0 vs h) := fun a U g mk q => ⟨q.1, q.2.1, xCx.warm Ts cl P SN SR nW D ad b0 H0 hT (State.WarmedH.refl U) q.2.2⟩
/-- a method's contract -/
theorem xmet {l : Launch} {f fr lo a : Nat} {M : xM} {vs : List Value} {h h1 : xH} {r : Option Value} (ih : xGood Ts cl cn P SN SR nW D ad b0 H0 l f) (hM : P.1[a]? = some M) (hok : xokm Ts cl P SN SR nW M) (hk2 : M.2.2.2.2.2.1 ≤ 2) (hl : (xargs vs).length ≤ M.2.2.1) (hx : xex cn P f fr lo a 0 (xargs vs ++ List.replicate (M.2.2.1 - (xargs vs).length) none) [] h = some (r, h1)) :
    Met l M.1 [Cond.code M.1 M.2.1 M.2.2.1 M.2.2.2.1] { frames := fr, cells := h1.length - h.length, slots := xsl h1 - xsl h, locals := lo } (xPc Ts cl P SN SR nW D ad b0 H0 vs h) (xQc cl P D ad b0 H0 r h1) (h1.length - h.length) (xsl h1 - xsl h) (fun q => b0 ≤ q) := by
  obtain ⟨og, o5, o6, o7, o8, o9, o10⟩ := hok
  obtain ⟨o1, o2, o3, o4⟩ := og hk2
  obtain ⟨M', x, hM', hc⟩ := xex_at hx
  cases hM.symm.trans hM'
  refine Met.ofW (cc := M.2.1) (maxL := M.2.2.1) (ret := M.2.2.2.1) o4 rfl ?_
  intro p e s m args below meth c s₁ B hml hv
  obtain ⟨rfl, hH, hC⟩ := hv
  rw [lg_entry_eq]
  have hE := xLR.entry ad vs hl
  have hz := o9 x hc
  have hW := ih fr lo a 0 _ [] h r h1 hx M x hM hc (p := p) (e := e) (R := { frames := fr, cells := h1.length - h.length, slots := xsl h1 - xsl h, locals := lo }) (s := s) (m := m) (args := (vs.map (xcn ad)).toArray) (below := below) (meth := meth) (c := c) (H := s.heap) (locs := []) (cells := 0) (slots := 0) B.exec B.bytes hml B.returns B.notSynchronized (findClass_of_methodNamed B.named) (fun hk => by rw [(name_of_methodNamed B.named B.method).1]; exact (o7 hk).2.1) hC hE (by rw [hE.1]; simp; omega) hH (fun q hq => by cases hq) (by simp) (by simp) (Nat.le_refl _) (Nat.le_refl _)
  rw [hz] at hW
  exact hW
end CTX
