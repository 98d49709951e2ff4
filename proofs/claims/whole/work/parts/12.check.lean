/-! THE CHECK OF A PROGRAM, by a function that the kernel runs -/
/-- a field's link: class, place in the pool, owner, name, descriptor, the nest's host if it is a nest mate's -/
abbrev xF : Type := String × Nat × String × String × String × Option String
abbrev xG : Type := String × Nat × MethodName × Option String
def xFc (q : xF) : Jvm.Cond := match q.2.2.2.2.2 with
  | none => .fieldLink q.1 q.2.1 q.2.2.1 q.2.2.2.1 q.2.2.2.2.1
  | some host => .fieldLinkNest q.1 q.2.1 q.2.2.1 q.2.2.2.1 q.2.2.2.2.1 host
def xGc (q : xG) : Jvm.Cond := match q.2.2.2 with
  | none => .methodLink q.1 q.2.1 q.2.2.1
  | some host => .methodLinkNest q.1 q.2.1 q.2.2.1 host
/-- the words of a method itself -/
def xMk (M : xM) : List Jvm.Cond := match M.2.2.2.2.2.1 with
  | 0 => [.code M.1 M.2.1 M.2.2.1 M.2.2.2.1, .static M.1]
  | 1 => [.code M.1 M.2.1 M.2.2.1 M.2.2.2.1, .instanceMethod M.1, .selects M.1.cls M.1 M.1]
  | 2 => [.code M.1 M.2.1 M.2.2.1 M.2.2.2.1, .instanceMethod M.1]
  | _ => []
def xT (l : List (String × String × String × Bool)) : u_T := fun k => l.getD k ("", "", "", false)
section CHECK
variable (cl : List vw_C) (P : xP) (SN : List (String × String × String)) (SR : List (String × Nat × Nat)) (nW : Nat) (FL : List xF) (ML : List xG) (IC : List String) (XW : List Jvm.Cond)
def xTs : List Jvm.Cond := P.1.flatMap xMk ++ (FL.map xFc ++ (ML.map xGc ++ (IC.map (fun c => Jvm.Cond.initialized c) ++ XW)))
def xckF (own : String) (idx : Nat) (r n d : String) (c : Nat) : Bool := match FL[c]? with
  | some (o, i, r', n', d', _) => decide (o = own) && decide (i = idx) && decide (r' = r) && decide (n' = n) && decide (d' = d)
  | none => false
def xckFp (own : String) (idx : Nat) (r n d : String) (c : Nat) : Bool := match FL[c]? with
  | some (o, i, r', n', d', none) => decide (o = own) && decide (i = idx) && decide (r' = r) && decide (n' = n) && decide (d' = d)
  | _ => false
def xckG (own : String) (idx : Nat) (y : MethodName) (c : Nat) : Bool := match ML[c]? with
  | some (o, i, y', _) => decide (o = own) && decide (i = idx) && decide (y' = y)
  | none => false
def xckGp (own : String) (idx : Nat) (y : MethodName) (c : Nat) : Bool := match ML[c]? with
  | some (o, i, y', none) => decide (o = own) && decide (i = idx) && decide (y' = y)
  | _ => false
def xck1 (own : String) (kd : Nat) (x : xI) : Bool := match x.1 with
  | .getfield idx => match cl[x.2.2.1]? with
    | some q => xckF FL own idx (q.2.1 x.2.2.2.1).1 (q.2.1 x.2.2.2.1).2.1 (q.2.1 x.2.2.2.1).2.2.1 x.2.2.2.2
    | none => false
  | .putfield idx => match cl[x.2.2.1]? with
    | some q => decide (x.2.2.1 < nW) && (match (q.2.1 x.2.2.2.1).2.2.2 with
      | false => xckF FL own idx (q.2.1 x.2.2.2.1).1 (q.2.1 x.2.2.2.1).2.1 (q.2.1 x.2.2.2.1).2.2.1 x.2.2.2.2
      | true => xckFp FL own idx (q.2.1 x.2.2.2.1).1 (q.2.1 x.2.2.2.1).2.1 (q.2.1 x.2.2.2.1).2.2.1 x.2.2.2.2 && decide (kd = 2) && decide ((q.2.1 x.2.2.2.1).1 = own))
    | none => false
  | .getstatic idx => match SN[x.2.2.1]? with
    | some q => xckF FL own idx q.1 q.2.1 q.2.2 x.2.2.2.2
    | none => false
  | .new idx => match cl[x.2.2.1]? with
    | some q => decide (x.2.2.1 < nW) && decide (Jvm.Cond.classLink own idx q.1 ∈ XW) && decide (Jvm.Cond.instantiable q.1 q.2.2 ∈ XW) && decide (q.1 ∈ IC)
    | none => false
  | .newarray at' => match P.2.2.1[x.2.2.1]? with
    | some ty => decide (newarray.typeOf at' = ty) && !refKind ty && decide (Jvm.Cond.arrayClass ty ∈ XW)
    | none => false
  | .anewarray idx => match P.2.2.1[x.2.2.1]? with
    | some (.object C) => decide (Jvm.Cond.classLink own idx C ∈ XW) && decide (Jvm.Cond.arrayOver (.object C) ∈ XW)
    | some (.array a) => decide (Jvm.Cond.classLink own idx (FieldType.array a).toString ∈ XW) && decide (Jvm.Cond.arrayOver (.array a) ∈ XW)
    | _ => false
  | .multianewarray idx d => match P.2.2.1[x.2.2.2.1]? with
    | some ty => decide (d = 2) && decide (P.2.2.1[x.2.2.1]? = some (.array ty)) && !refKind ty && decide (Jvm.Cond.classLink own idx ("[" ++ (FieldType.array ty).toString) ∈ XW) && decide (Jvm.Cond.arrayOver (.array ty) ∈ XW) && decide (Jvm.Cond.arrayClass ty ∈ XW)
    | none => false
  | .invokevirtual idx => match P.1[x.2.2.1]? with
    | some M => xckG ML own idx M.1 x.2.2.2.2
    | none => false
  | .invokespecial idx => if x.2.2.2.1 = 1 then xckGp ML own idx objectInit x.2.2.2.2 && decide (Cond.instanceMethod objectInit ∈ XW) && decide (Cond.code objectInit ⟨#[0xb1]⟩ 1 none ∈ XW)
    else match P.1[x.2.2.1]? with
    | some M => xckG ML own idx M.1 x.2.2.2.2
    | none => false
  | .invokestatic idx => if x.2.2.2.1 = 1 then decide (Jvm.Cond.methodLink own idx arraycopyName ∈ XW) && decide (Jvm.Cond.native arraycopyName ∈ XW) && decide (Jvm.Cond.static arraycopyName ∈ XW) && decide ("java/lang/System" ∈ IC)
    else if x.2.2.2.1 = 2 then xckGp ML own idx xy_ci x.2.2.2.2
    else if x.2.2.2.1 = 3 then xckGp ML own idx Lib.Math.max.name x.2.2.2.2 && decide (Cond.static Lib.Math.max.name ∈ XW) && decide ("java/lang/Math" ∈ IC) && decide (Cond.code Lib.Math.max.name Lib.Math.max.code 2 (some .int) ∈ XW)
    else if x.2.2.2.1 = 4 then xckGp ML own idx Lib.Math.min.name x.2.2.2.2 && decide (Cond.static Lib.Math.min.name ∈ XW) && decide ("java/lang/Math" ∈ IC) && decide (Cond.code Lib.Math.min.name Lib.Math.min.code 2 (some .int) ∈ XW)
    else match P.1[x.2.2.1]? with
    | some M => xckG ML own idx M.1 x.2.2.2.2
    | none => false
  | .ldc idx => match P.2.2.2.1[x.2.2.1]? with
    | some (.int z) => decide (Jvm.Cond.constant own idx z ∈ XW)
    | some (.ref k) => decide ((own, idx, k) ∈ SR)
    | _ => false
  | .ldc_w idx => match P.2.2.2.1[x.2.2.1]? with
    | some (.int z) => decide (Jvm.Cond.constant own idx z ∈ XW)
    | _ => false
  | .ldc2_w idx => match P.2.2.2.1[x.2.2.1]? with
    | some (.long z) => decide (Jvm.Cond.constantLong own idx z ∈ XW)
    | _ => false
  | _ => true
def xckL (bytes : ByteArray) (all : List xI) : List xI → Bool
  | [] => true
  | x :: r => (match x.1 with
      | .athrow => true
      | i => decide (decode bytes x.2.1 = .ok (i, xlen i x.2.2.2.1)) && (match r with
        | z :: _ => decide (x.2.1 + xlen i x.2.2.2.1 = z.2.1)
        | [] => true) && (match xoff i with
        | some o => (match all[x.2.2.1]? with
          | some z => decide ((x.2.1 : Int) + o = (z.2.1 : Int))
          | none => false)
        | none => true) && xswok i x.2.1) && xckL bytes all r
def xckm (M : xM) : Bool := (decide (M.2.2.2.2.2.1 = 3) || (decide (M.1.cls ∈ IC) && decide (M.1.cls ≠ "java/lang/invoke/MethodHandle" ∧ M.1.cls ≠ "java/lang/invoke/VarHandle" ∧ (parseMethodDescriptor M.1.desc).map (fun d => d.parameters.length) = some M.2.2.2.2.1) && plainName M.1.cls && decide (M.2.2.2.2.2.1 ≤ 2))) && (decide (¬ M.2.2.2.2.2.1 = 2) || (decide (M.1.name = "<init>") && decide (M.2.2.2.1 = none))) &&
  xckL M.2.1 M.2.2.2.2.2.2 M.2.2.2.2.2.2 && (match M.2.2.2.2.2.2 with
    | x :: _ => decide (x.2.1 = 0)
    | [] => true) && M.2.2.2.2.2.2.all (fun x => xck1 cl P SN SR nW FL ML IC XW M.1.cls M.2.2.2.2.2.1 x)
variable {cl P SN SR nW FL ML IC XW}
theorem xTs_F {c : Nat} {q : xF} (h : FL[c]? = some q) : xFc q ∈ xTs P FL ML IC XW := List.mem_append_right _ (List.mem_append_left _ (List.mem_map.mpr ⟨q, List.mem_of_getElem? h, rfl⟩))
theorem xTs_G {c : Nat} {q : xG} (h : ML[c]? = some q) : xGc q ∈ xTs P FL ML IC XW := List.mem_append_right _ (List.mem_append_right _ (List.mem_append_left _ (List.mem_map.mpr ⟨q, List.mem_of_getElem? h, rfl⟩)))
theorem xTs_I {n : String} (h : n ∈ IC) : Jvm.Cond.initialized n ∈ xTs P FL ML IC XW := List.mem_append_right _ (List.mem_append_right _ (List.mem_append_right _ (List.mem_append_left _ (List.mem_map.mpr ⟨n, h, rfl⟩))))
theorem xTs_X {w : Jvm.Cond} (h : w ∈ XW) : w ∈ xTs P FL ML IC XW := List.mem_append_right _ (List.mem_append_right _ (List.mem_append_right _ (List.mem_append_right _ h)))
theorem xTs_M {a : Nat} {M : xM} {w : Jvm.Cond} (h : P.1[a]? = some M) (hw : w ∈ xMk M) : w ∈ xTs P FL ML IC XW := List.mem_append_left _ (List.mem_flatMap.mpr ⟨M, List.mem_of_getElem? h, hw⟩)
theorem xckF_ok {own r n d : String} {b : Bool} {idx c : Nat} (h : xckF FL own idx r n d c = true) : xFw (xTs P FL ML IC XW) own idx (r, n, d, b) := by
  unfold xckF at h
  split at h
  · rename_i o i r' n' d' host hq
    simp only [Bool.and_eq_true, decide_eq_true_eq] at h
    obtain ⟨⟨⟨⟨rfl, rfl⟩, rfl⟩, rfl⟩, rfl⟩ := h
    have hm := xTs_F (P := P) (ML := ML) (IC := IC) (XW := XW) hq
    cases host with
    | none => exact Or.inl hm
    | some host => exact Or.inr ⟨host, hm⟩
  · cases h
theorem xckFp_ok {own r n d : String} {idx c : Nat} (h : xckFp FL own idx r n d c = true) : Cond.fieldLink own idx r n d ∈ xTs P FL ML IC XW := by
  unfold xckFp at h
  split at h
  · rename_i o i r' n' d' hq
    simp only [Bool.and_eq_true, decide_eq_true_eq] at h
    obtain ⟨⟨⟨⟨rfl, rfl⟩, rfl⟩, rfl⟩, rfl⟩ := h
    exact xTs_F (P := P) (ML := ML) (IC := IC) (XW := XW) hq
  · cases h
theorem xckG_ok {own : String} {idx c : Nat} {y : MethodName} (h : xckG ML own idx y c = true) : xMw (xTs P FL ML IC XW) own idx y := by
  unfold xckG at h
  split at h
  · rename_i o i y' host hq
    simp only [Bool.and_eq_true, decide_eq_true_eq] at h
    obtain ⟨⟨rfl, rfl⟩, rfl⟩ := h
    have hm := xTs_G (P := P) (FL := FL) (IC := IC) (XW := XW) hq
    cases host with
    | none => exact Or.inl hm
    | some host => exact Or.inr ⟨host, hm⟩
  · cases h
theorem xckGp_ok {own : String} {idx c : Nat} {y : MethodName} (h : xckGp ML own idx y c = true) : Cond.methodLink own idx y ∈ xTs P FL ML IC XW := by
  unfold xckGp at h
  split at h
  · rename_i o i y' hq
    simp only [Bool.and_eq_true, decide_eq_true_eq] at h
    obtain ⟨⟨rfl, rfl⟩, rfl⟩ := h
    exact xTs_G (P := P) (FL := FL) (IC := IC) (XW := XW) hq
  · cases h
theorem xck1_ok {own : String} {kd : Nat} {x : xI} (h : xck1 cl P SN SR nW FL ML IC XW own kd x = true) : xok1 (xTs P FL ML IC XW) cl P SN SR nW own kd x := by
  obtain ⟨i, pc, a, b, c⟩ := x
  unfold xck1 at h
  unfold xok1
  dsimp only at h ⊢
  split at h
  · dsimp only
    split at h
    · rename_i q hq
      exact ⟨q, hq, xckF_ok h⟩
    · cases h
  · dsimp only
    split at h
    · rename_i q hq
      simp only [Bool.and_eq_true, decide_eq_true_eq] at h
      obtain ⟨h1, h⟩ := h
      refine ⟨h1, q, hq, ?_⟩
      split at h
      · rename_i hf
        exact Or.inl ⟨hf, xckF_ok h⟩
      · rename_i hf
        simp only [Bool.and_eq_true, decide_eq_true_eq] at h
        exact Or.inr ⟨hf, xckFp_ok h.1.1, h.1.2, h.2⟩
    · cases h
  · dsimp only
    split at h
    · rename_i q hq
      exact ⟨q, hq, xckF_ok (b := false) h⟩
    · cases h
  · dsimp only
    split at h
    · rename_i q hq
      simp only [Bool.and_eq_true, decide_eq_true_eq] at h
      exact ⟨h.1.1.1, q, hq, xTs_X h.1.1.2, xTs_X h.1.2, xTs_I h.2⟩
    · cases h
  · dsimp only
    split at h
    · rename_i ty hq
      simp only [Bool.and_eq_true, decide_eq_true_eq, Bool.not_eq_true'] at h
      exact ⟨ty, hq, h.1.1, h.1.2, xTs_X h.2⟩
    · cases h
  · dsimp only
    split at h
    · rename_i C hq
      simp only [Bool.and_eq_true, decide_eq_true_eq] at h
      exact ⟨_, hq, Or.inl ⟨C, rfl, xTs_X h.1⟩, xTs_X h.2⟩
    · rename_i a hq
      simp only [Bool.and_eq_true, decide_eq_true_eq] at h
      exact ⟨_, hq, Or.inr ⟨a, rfl, xTs_X h.1⟩, xTs_X h.2⟩
    · cases h
  · dsimp only
    split at h
    · rename_i ty hq
      simp only [Bool.and_eq_true, decide_eq_true_eq, Bool.not_eq_true'] at h
      obtain ⟨⟨⟨⟨⟨h1, h2⟩, h3⟩, h4⟩, h5⟩, h6⟩ := h
      exact ⟨h1, ty, hq, h2, h3, xTs_X h4, xTs_X h5, xTs_X h6⟩
    · cases h
  · dsimp only
    split at h
    · rename_i M hM
      exact ⟨M, hM, xckG_ok h⟩
    · cases h
  · dsimp only
    split at h
    · rename_i hb
      simp only [Bool.and_eq_true, decide_eq_true_eq] at h
      exact Or.inl ⟨hb, xckGp_ok h.1.1, xTs_X h.1.2, xTs_X h.2⟩
    · rename_i hb
      split at h
      · rename_i M hM
        exact Or.inr ⟨hb, M, hM, xckG_ok h⟩
      · cases h
  · dsimp only
    split at h
    · rename_i hb
      simp only [Bool.and_eq_true, decide_eq_true_eq] at h
      exact Or.inl ⟨hb, xTs_X h.1.1.1, xTs_X h.1.1.2, xTs_X h.1.2, xTs_I h.2⟩
    · rename_i hb
      split at h
      · rename_i hb2
        exact Or.inr (Or.inl ⟨hb2, xckGp_ok h⟩)
      · rename_i hb2
        split at h
        · rename_i hb3
          simp only [Bool.and_eq_true, decide_eq_true_eq] at h
          exact Or.inr (Or.inr (Or.inl ⟨hb3, xckGp_ok h.1.1.1, xTs_X h.1.1.2, xTs_I h.1.2, xTs_X h.2⟩))
        · rename_i hb3
          split at h
          · rename_i hb4
            simp only [Bool.and_eq_true, decide_eq_true_eq] at h
            exact Or.inr (Or.inr (Or.inr (Or.inl ⟨hb4, xckGp_ok h.1.1.1, xTs_X h.1.1.2, xTs_I h.1.2, xTs_X h.2⟩)))
          · rename_i hb4
            split at h
            · rename_i M hM
              exact Or.inr (Or.inr (Or.inr (Or.inr ⟨by omega, hb, hb2, hb3, hb4, M, hM, xckG_ok h⟩)))
            · cases h
  · dsimp only
    split at h
    · rename_i z hz
      simp only [decide_eq_true_eq] at h
      exact ⟨_, hz, Or.inl ⟨z, rfl, xTs_X h⟩⟩
    · rename_i k hz
      simp only [decide_eq_true_eq] at h
      exact ⟨_, hz, Or.inr ⟨k, rfl, h⟩⟩
    · cases h
  · dsimp only
    split at h
    · rename_i z hz
      simp only [decide_eq_true_eq] at h
      exact ⟨_, hz, z, rfl, xTs_X h⟩
    · cases h
  · dsimp only
    split at h
    · rename_i z hz
      simp only [decide_eq_true_eq] at h
      exact ⟨_, hz, z, rfl, xTs_X h⟩
    · cases h
  · split
    all_goals first | trivial | (exfalso; simp_all; done)
theorem xckL_ok {bytes : ByteArray} {all : List xI} : ∀ (code : List xI), xckL bytes all code = true → ∀ (ip : Nat) (x : xI), code[ip]? = some x → x.1 = .athrow ∨ (decode bytes x.2.1 = .ok (x.1, xlen x.1 x.2.2.2.1) ∧ (∀ z, code[ip + 1]? = some z → x.2.1 + xlen x.1 x.2.2.2.1 = z.2.1) ∧ (∀ o, xoff x.1 = some o → ∃ z, all[x.2.2.1]? = some z ∧ (x.2.1 : Int) + o = (z.2.1 : Int)) ∧ xswok x.1 x.2.1 = true) := by
  intro code
  induction code with
  | nil => intro _ ip x hx; cases hx
  | cons y r ih =>
    intro h ip x hx
    unfold xckL at h
    rw [Bool.and_eq_true] at h
    cases ip with
    | succ ip => exact ih h.2 ip x hx
    | zero =>
      cases hx
      replace h := h.1
      split at h
      · left; assumption
      · rename_i i hi
        right
        simp only [Bool.and_eq_true, decide_eq_true_eq] at h
        obtain ⟨⟨⟨h1, h2⟩, h3⟩, h4⟩ := h
        refine ⟨h1, fun z hz => ?_, fun o ho => ?_, h4⟩
        · cases r with
          | nil => cases hz
          | cons w r2 =>
            cases hz
            simpa using h2
        · rw [ho] at h3
          dsimp only at h3
          split at h3
          · rename_i z hz
            exact ⟨z, hz, by simpa using h3⟩
          · cases h3
theorem xckm_ok {a : Nat} {M : xM} (hM : P.1[a]? = some M) (h : xckm cl P SN SR nW FL ML IC XW M = true) : xokm (xTs P FL ML IC XW) cl P SN SR nW M := by
  unfold xckm at h
  simp only [Bool.and_eq_true, Bool.or_eq_true, decide_eq_true_eq] at h
  obtain ⟨⟨⟨⟨h1, h2⟩, h3⟩, h4⟩, h5⟩ := h
  refine ⟨fun hk => ?_, fun hk => ?_, fun hk => ?_, fun hk => ?_, fun ip x hx => xckL_ok _ h3 ip x hx, fun x hx => ?_, fun ip x hx => xck1_ok (List.all_eq_true.mp h5 x (List.mem_of_getElem? hx))⟩
  · rcases h1 with h1 | h1
    · omega
    · obtain ⟨⟨⟨g1, g2⟩, g3⟩, g4⟩ := h1
      refine ⟨xTs_M hM ?_, xTs_I g1, g2, g3⟩
      unfold xMk
      rcases (show M.2.2.2.2.2.1 = 0 ∨ M.2.2.2.2.2.1 = 1 ∨ M.2.2.2.2.2.1 = 2 by omega) with e | e | e <;> (rw [e]; exact List.mem_cons_self)
  · refine xTs_M hM ?_
    unfold xMk
    rw [hk]
    simp
  · refine ⟨xTs_M hM ?_, xTs_M hM ?_⟩ <;> (unfold xMk; rw [hk]; simp)
  · rcases h2 with h2 | h2
    · exact absurd hk h2
    · exact ⟨xTs_M hM (by unfold xMk; rw [hk]; simp), h2.1, h2.2⟩
  · split at h4
    · rename_i z r hz
      rw [hz] at hx
      cases hx
      simpa using h4
    · rename_i hz
      rw [hz] at hx
      cases hx
end CHECK
