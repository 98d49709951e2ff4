/-! AN ABSTRACT MACHINE: resolved code, a heap that is a list of cells (a reference is a place in it), answers by fuel. -/
/-- a cell: an object (number of its class, fields), or an array (number of its type, items) -/
abbrev xC : Type := (Nat × List Value) ⊕ (Nat × List Value)
abbrev xH : Type := List xC
/-- an instruction, its pc, and what it is resolved to -/
abbrev xI : Type := Instr × Nat × Nat × Nat × Nat
/-- a method: name, bytes, maxLocals, what it returns, how many parameters, kind (0 static, 1 instance, 2 constructor), code -/
abbrev xM : Type := MethodName × ByteArray × Nat × Option FieldType × Nat × Nat × List xI
abbrev xL : Type := List (Option Value)
/-- a program: methods, types of the classes' fields, types of the arrays, constants, statics, how many cells are old -/
abbrev xP : Type := List xM × List (List FieldType) × List FieldType × List Value × List Value × Nat
/-- a value fits a place of a type as it is -/
def xfit (ty : FieldType) (v : Value) : Bool := match ty, v with
  | .int, .int _ => true
  | .long, .long _ => true
  | .boolean, .int x => x == 0 || x == 1
  | .byte, .int x => x.toInt8.toInt32 == x
  | .char, .int x => (x.toUInt32 % 65536).toInt32 == x
  | .object _, .ref _ => true
  | .object _, .null => true
  | .array _, .ref _ => true
  | .array _, .null => true
  | _, _ => false
/-- storing a value into a local: a two-word value just ahead of it is gone -/
def xst1 (L : xL) (i : Nat) (v : Value) : xL := match i with
  | 0 => L.set 0 (some v)
  | j + 1 => match L[j]? with
    | some (some w) => if w.category = 2 then (L.set (j + 1) (some v)).set j none else L.set (j + 1) (some v)
    | _ => L.set (j + 1) (some v)
def xst2 (L : xL) (i : Nat) (v : Value) : xL := (xst1 L i v).set (i + 1) none
def xtest (c : Jvm.ClassFile.Cond) (x y : Int32) : Bool := match c with
  | .eq => decide (x = y)
  | .ne => !decide (x = y)
  | .lt => decide (x < y)
  | .ge => decide (y ≤ x)
  | .gt => decide (y < x)
  | .le => decide (x ≤ y)
/-- the place in the code of a pc -/
def xat : List xI → Nat → Option Nat
  | [], _ => none
  | i :: r, pc => if i.2.1 = pc then some 0 else (xat r pc).map (· + 1)
def xload (L : xL) (k : Nat) (ok : Value → Bool) : Option Value := match L[k]? with
  | some (some v) => if ok v then some v else none
  | _ => none
def xisI : Value → Bool | .int _ => true | _ => false
def xisJ : Value → Bool | .long _ => true | _ => false
def xisA : Value → Bool | .ref _ => true | .null => true | _ => false
/-- the instructions that touch locals and stack alone: the next place, locals, stack -/
def xpure (code : List xI) (ct : List Value) (i : Instr) (pc a ip : Nat) (L : xL) (st : List Value) : Option (Nat × xL × List Value) := match i with
  | .aconst_null => some (ip + 1, L, .null :: st)
  | .iconst n => some (ip + 1, L, .int (Int32.ofInt n) :: st)
  | .bipush n => some (ip + 1, L, .int (Int8.ofInt n).toInt32 :: st)
  | .sipush n => some (ip + 1, L, .int (Int16.ofInt n).toInt32 :: st)
  | .lconst n => some (ip + 1, L, .long (Int64.ofNat (n : Nat)) :: st)
  | .iload k => (xload L k xisI).map fun v => (ip + 1, L, v :: st)
  | .iload_n k => (xload L k xisI).map fun v => (ip + 1, L, v :: st)
  | .lload k => (xload L k xisJ).map fun v => (ip + 1, L, v :: st)
  | .lload_n k => (xload L k xisJ).map fun v => (ip + 1, L, v :: st)
  | .aload k => (xload L k xisA).map fun v => (ip + 1, L, v :: st)
  | .aload_n k => (xload L k xisA).map fun v => (ip + 1, L, v :: st)
  | .istore k => match st with
    | .int x :: r => if k < L.length then some (ip + 1, xst1 L k (.int x), r) else none
    | _ => none
  | .istore_n k => match st with
    | .int x :: r => if (k : Nat) < L.length then some (ip + 1, xst1 L k (.int x), r) else none
    | _ => none
  | .lstore k => match st with
    | .long x :: r => if k + 1 < L.length then some (ip + 1, xst2 L k (.long x), r) else none
    | _ => none
  | .lstore_n k => match st with
    | .long x :: r => if (k : Nat) + 1 < L.length then some (ip + 1, xst2 L k (.long x), r) else none
    | _ => none
  | .astore k => match st with
    | v :: r => if xisA v && decide (k < L.length) then some (ip + 1, xst1 L k v, r) else none
    | _ => none
  | .astore_n k => match st with
    | v :: r => if xisA v && decide ((k : Nat) < L.length) then some (ip + 1, xst1 L k v, r) else none
    | _ => none
  | .iinc k n => match xload L k xisI with
    | some (.int x) => some (ip + 1, xst1 L k (.int (x + Int32.ofInt n)), st)
    | _ => none
  | .iadd => match st with | .int y :: .int x :: r => some (ip + 1, L, .int (x + y) :: r) | _ => none
  | .isub => match st with | .int y :: .int x :: r => some (ip + 1, L, .int (x - y) :: r) | _ => none
  | .imul => match st with | .int y :: .int x :: r => some (ip + 1, L, .int (x * y) :: r) | _ => none
  | .iand => match st with | .int y :: .int x :: r => some (ip + 1, L, .int (x &&& y) :: r) | _ => none
  | .ior => match st with | .int y :: .int x :: r => some (ip + 1, L, .int (x ||| y) :: r) | _ => none
  | .ixor => match st with | .int y :: .int x :: r => some (ip + 1, L, .int (x ^^^ y) :: r) | _ => none
  | .ishl => match st with | .int y :: .int x :: r => some (ip + 1, L, .int (x <<< (y &&& 31)) :: r) | _ => none
  | .ishr => match st with | .int y :: .int x :: r => some (ip + 1, L, .int (x >>> (y &&& 31)) :: r) | _ => none
  | .iushr => match st with | .int y :: .int x :: r => some (ip + 1, L, .int (x.toUInt32 >>> (y.toUInt32 &&& Int32.toUInt32 31)).toInt32 :: r) | _ => none
  | .ladd => match st with | .long y :: .long x :: r => some (ip + 1, L, .long (x + y) :: r) | _ => none
  | .lsub => match st with | .long y :: .long x :: r => some (ip + 1, L, .long (x - y) :: r) | _ => none
  | .lmul => match st with | .long y :: .long x :: r => some (ip + 1, L, .long (x * y) :: r) | _ => none
  | .land => match st with | .long y :: .long x :: r => some (ip + 1, L, .long (x &&& y) :: r) | _ => none
  | .lor => match st with | .long y :: .long x :: r => some (ip + 1, L, .long (x ||| y) :: r) | _ => none
  | .ldiv => match st with | .long y :: .long x :: r => if y = 0 then none else some (ip + 1, L, .long (x / y) :: r) | _ => none
  | .lrem => match st with | .long y :: .long x :: r => if y = 0 then none else some (ip + 1, L, .long (x - x / y * y) :: r) | _ => none
  | .lneg => match st with | .long x :: r => some (ip + 1, L, .long (-x) :: r) | _ => none
  | .lshl => match st with | .int y :: .long x :: r => some (ip + 1, L, .long (x <<< (y.toInt64 &&& 63)) :: r) | _ => none
  | .lshr => match st with | .int y :: .long x :: r => some (ip + 1, L, .long (x >>> (y.toInt64 &&& 63)) :: r) | _ => none
  | .lcmp => match st with | .long y :: .long x :: r => some (ip + 1, L, .int (lg_cmp x y) :: r) | _ => none
  | .i2l => match st with | .int x :: r => some (ip + 1, L, .long x.toInt64 :: r) | _ => none
  | .l2i => match st with | .long x :: r => some (ip + 1, L, .int x.toInt32 :: r) | _ => none
  | .i2b => match st with | .int x :: r => some (ip + 1, L, .int x.toInt8.toInt32 :: r) | _ => none
  | .i2c => match st with | .int x :: r => some (ip + 1, L, .int (x.toUInt32 % 65536).toInt32 :: r) | _ => none
  | .dup => match st with | v :: r => if v.category = 1 then some (ip + 1, L, v :: v :: r) else none | _ => none
  | .pop => match st with | v :: r => if v.category = 1 then some (ip + 1, L, r) else none | _ => none
  | .dup2 => match st with
    | v :: r => if v.category = 2 then some (ip + 1, L, v :: v :: r) else match r with
      | w :: r2 => if w.category = 1 then some (ip + 1, L, v :: w :: v :: w :: r2) else none
      | [] => none
    | _ => none
  | .pop2 => match st with
    | v :: r => if v.category = 2 then some (ip + 1, L, r) else match r with
      | w :: r2 => if w.category = 1 then some (ip + 1, L, r2) else none
      | [] => none
    | _ => none
  | .goto _ => some (a, L, st)
  | .ifCond c _ => match st with | .int x :: r => some (if xtest c x 0 then a else ip + 1, L, r) | _ => none
  | .if_icmp c _ => match st with | .int y :: .int x :: r => some (if xtest c x y then a else ip + 1, L, r) | _ => none
  | .ifnull _ => match st with | .null :: r => some (a, L, r) | .ref _ :: r => some (ip + 1, L, r) | _ => none
  | .ifnonnull _ => match st with | .null :: r => some (ip + 1, L, r) | .ref _ :: r => some (a, L, r) | _ => none
  | .tableswitch d lo hi offs => match st with
    | .int x :: r => if x.toInt < lo ∨ hi < x.toInt then (xat code ((pc : Int) + d).toNat).map fun t => (t, L, r)
      else match offs[(x.toInt - lo).toNat]? with
        | some o => (xat code ((pc : Int) + o).toNat).map fun t => (t, L, r)
        | none => none
    | _ => none
  | .lookupswitch d ps => match st with
    | .int x :: r => (xat code ((pc : Int) + Op.lookupswitch.offset ps.toList d x.toInt).toNat).map fun t => (t, L, r)
    | _ => none
  | .ldc _ => (ct[a]?).map fun v => (ip + 1, L, v :: st)
  | .ldc_w _ => (ct[a]?).map fun v => (ip + 1, L, v :: st)
  | .ldc2_w _ => (ct[a]?).map fun v => (ip + 1, L, v :: st)
  | _ => none
/-- what a local's list is at a method's entry -/
def xargs : List Value → xL
  | [] => []
  | v :: r => if v.category = 2 then some v :: none :: xargs r else some v :: xargs r
def xcats (st : List Value) : Nat := (st.map fun v => v.category).sum
/-- reading a field, an item -/
def xgetf (h : xH) (k ci j : Nat) : Option Value := match h[k]? with
  | some (.inl (c, fs)) => if c = ci then fs[j]? else none
  | _ => none
def xitem (h : xH) (k : Nat) (j : Int32) : Option (Nat × Value) := match h[k]? with
  | some (.inr (t, vs)) => if j < 0 then none else (vs[j.toNatClampNeg]?).map fun v => (t, v)
  | _ => none
def xputf (n0 : Nat) (h : xH) (k ci j : Nat) (v : Value) : Option xH := match h[k]? with
  | some (.inl (c, fs)) => if c = ci ∧ n0 ≤ k ∧ j < fs.length then some (h.set k (.inl (c, fs.set j v))) else none
  | _ => none
def xputi (n0 : Nat) (h : xH) (k : Nat) (j : Int32) (v : Value) : Option (Nat × xH) := match h[k]? with
  | some (.inr (t, vs)) => if ¬ j < 0 ∧ n0 ≤ k ∧ j.toNatClampNeg < vs.length then some (t, h.set k (.inr (t, vs.set j.toNatClampNeg v))) else none
  | _ => none
/-- may a value be stored in an array of references of a type: nothing, an object of just that class, an array of just that type -/
def xast (n0 : Nat) (cn : List String) (ty : FieldType) (at' : List FieldType) (h : xH) (v : Value) : Bool := match v with
  | .null => match ty with
    | .object _ => true
    | .array _ => true
    | _ => false
  | .ref k => match h[k]? with
    | some (.inl (c, _)) => match ty, cn[c]? with
      | .object n, some n2 => n == n2
      | _, _ => false
    | some (.inr (t, _)) => match ty, at'[t]? with
      | .array e, some e2 => e == e2 && decide (n0 ≤ k)
      | _, _ => false
    | none => false
  | _ => false
def xcpy (src dst : List Value) (sp dp n : Nat) : List Value := dst.take dp ++ (src.drop sp).take n ++ dst.drop (dp + n)
def xacok (n0 t t2 s d : Nat) (sp dp n : Int32) (vs ws : List Value) : Bool := decide (t = t2 ∧ t < 2 ∧ n0 ≤ d ∧ n0 ≤ s ∧ ¬ sp < 0 ∧ ¬ dp < 0 ∧ ¬ n < 0 ∧ sp.toNatClampNeg + n.toNatClampNeg ≤ vs.length ∧ dp.toNatClampNeg + n.toNatClampNeg ≤ ws.length) && ((vs.drop sp.toNatClampNeg).take n.toNatClampNeg).all (fun v => if t = 0 then xisI v else xisJ v)
def xacopy (n0 : Nat) (h : xH) (s : Nat) (sp : Int32) (d : Nat) (dp n : Int32) : Option xH := match h[s]?, h[d]? with
  | some (.inr (t, vs)), some (.inr (t2, ws)) => if xacok n0 t t2 s d sp dp n vs ws = true
      then some (h.set d (.inr (t2, xcpy vs ws sp.toNatClampNeg dp.toNatClampNeg n.toNatClampNeg))) else none
  | _, _ => none
/-- the machine: fuel, frames and words of locals that are left, the class names, the program, the method, place, locals, stack, heap -/
def xex (cn : List String) (P : xP) : Nat → Nat → Nat → Nat → Nat → xL → List Value → xH → Option (Option Value × xH)
  | 0, _, _, _, _, _, _, _ => none
  | f + 1, fr, lo, mi, ip, L, st, h =>
    match P.1[mi]? with
    | none => none
    | some (_, _, _, ret, _, _, code) =>
    match code[ip]? with
    | none => none
    | some (i, pc, a, b, _) =>
    match i with
    | .getfield _ => match st with
      | .ref k :: r => match xgetf h k a b with
        | some v => xex cn P f fr lo mi (ip + 1) L (v :: r) h
        | none => none
      | _ => none
    | .putfield _ => match st with
      | v :: .ref k :: r => match P.2.1[a]? with
        | some tys => match tys[b]? with
          | some ty => if xfit ty v then match xputf P.2.2.2.2.2 h k a b v with
              | some h1 => xex cn P f fr lo mi (ip + 1) L r h1
              | none => none
            else none
          | none => none
        | none => none
      | _ => none
    | .getstatic _ => match P.2.2.2.2.1[a]? with
      | some v => xex cn P f fr lo mi (ip + 1) L (v :: st) h
      | none => none
    | .iaload => match st with
      | .int j :: .ref k :: r => match xitem h k j with
        | some (t, v) => if t = 0 then xex cn P f fr lo mi (ip + 1) L (v :: r) h else none
        | none => none
      | _ => none
    | .laload => match st with
      | .int j :: .ref k :: r => match xitem h k j with
        | some (t, v) => if t = 1 then xex cn P f fr lo mi (ip + 1) L (v :: r) h else none
        | none => none
      | _ => none
    | .baload => match st with
      | .int j :: .ref k :: r => match xitem h k j with
        | some (t, v) => if t = 2 ∨ t = 3 then xex cn P f fr lo mi (ip + 1) L (v :: r) h else none
        | none => none
      | _ => none
    | .aaload => match st with
      | .int j :: .ref k :: r => match xitem h k j with
        | some (t, v) => if 4 ≤ t ∧ (P.2.2.1[t]?).isSome = true then xex cn P f fr lo mi (ip + 1) L (v :: r) h else none
        | none => none
      | _ => none
    | .iastore => match st with
      | .int x :: .int j :: .ref k :: r => match xputi P.2.2.2.2.2 h k j (.int x) with
        | some (t, h1) => if t = 0 then xex cn P f fr lo mi (ip + 1) L r h1 else none
        | none => none
      | _ => none
    | .lastore => match st with
      | .long x :: .int j :: .ref k :: r => match xputi P.2.2.2.2.2 h k j (.long x) with
        | some (t, h1) => if t = 1 then xex cn P f fr lo mi (ip + 1) L r h1 else none
        | none => none
      | _ => none
    | .bastore => match st with
      | .int x :: .int j :: .ref k :: r => match xputi P.2.2.2.2.2 h k j (.int x) with
        | some (t, h1) => if (t = 2 ∧ xfit .byte (.int x)) ∨ (t = 3 ∧ xfit .boolean (.int x)) then xex cn P f fr lo mi (ip + 1) L r h1 else none
        | none => none
      | _ => none
    | .aastore => match st with
      | v :: .int j :: .ref k :: r => match xputi P.2.2.2.2.2 h k j v with
        | some (t, h1) => match P.2.2.1[t]? with
          | some ty => if 4 ≤ t ∧ xast P.2.2.2.2.2 cn ty P.2.2.1 h v then xex cn P f fr lo mi (ip + 1) L r h1 else none
          | none => none
        | none => none
      | _ => none
    | .arraylength => match st with
      | .ref k :: r => match h[k]? with
        | some (.inr (t, vs)) => if (P.2.2.1[t]?).isSome = true then xex cn P f fr lo mi (ip + 1) L (.int (Int32.ofNat vs.length) :: r) h else none
        | _ => none
      | _ => none
    | .new _ => match P.2.1[a]? with
      | some tys => xex cn P f fr lo mi (ip + 1) L (.ref h.length :: st) (h ++ [.inl (a, tys.map defaultValue)])
      | none => none
    | .newarray _ => match st with
      | .int n :: r => match P.2.2.1[a]? with
        | some ty => if n < 0 ∨ 65536 < n.toNatClampNeg then none
            else xex cn P f fr lo mi (ip + 1) L (.ref h.length :: r) (h ++ [.inr (a, List.replicate n.toNatClampNeg (defaultValue ty))])
        | none => none
      | _ => none
    | .anewarray _ => match st with
      | .int n :: r => if n < 0 ∨ 65536 < n.toNatClampNeg then none
            else xex cn P f fr lo mi (ip + 1) L (.ref h.length :: r) (h ++ [.inr (a, List.replicate n.toNatClampNeg .null)])
      | _ => none
    | .multianewarray _ _ => match st with
      | .int k :: .int n :: r => match P.2.2.1[b]? with
        | some ty => if n < 0 ∨ k < 0 ∨ 65536 < n.toNatClampNeg ∨ 65536 < k.toNatClampNeg then none
            else xex cn P f fr lo mi (ip + 1) L (.ref h.length :: r) (h ++ .inr (a, (List.range n.toNatClampNeg).map (fun i => .ref (h.length + 1 + i))) :: List.replicate n.toNatClampNeg (.inr (b, List.replicate k.toNatClampNeg (defaultValue ty))))
        | none => none
      | _ => none
    | .invokevirtual _ => match P.1[a]? with
      | some (y, _, mL, _, n, kd, _) => match st.drop n with
        | .ref k :: r => match h[k]? with
          | some (.inl (c, _)) => if kd = 1 ∧ cn[c]? = some y.cls ∧ n ≤ st.length ∧ (xargs (.ref k :: (st.take n).reverse)).length ≤ mL ∧ xcats r ≤ 8 ∧ 1 ≤ fr ∧ 19 + mL ≤ lo then
              match xex cn P f (fr - 1) (lo - (19 + mL)) a 0 (xargs (.ref k :: (st.take n).reverse) ++ List.replicate (mL - (xargs (.ref k :: (st.take n).reverse)).length) none) [] h with
              | some (v, h1) => xex cn P f fr lo mi (ip + 1) L (v.toList ++ r) h1
              | none => none
            else none
          | _ => none
        | _ => none
      | none => none
    | .invokespecial _ => if b = 1 then match st with
        | .ref _ :: r => if xcats r ≤ 8 ∧ 1 ≤ fr ∧ 100 ≤ lo then xex cn P f fr lo mi (ip + 1) L r h else none
        | _ => none
      else match P.1[a]? with
      | some (_, _, mL, _, n, kd, _) => match st.drop n with
        | .ref k :: r => if kd = 2 ∧ n ≤ st.length ∧ (xargs (.ref k :: (st.take n).reverse)).length ≤ mL ∧ xcats r ≤ 8 ∧ 1 ≤ fr ∧ 19 + mL ≤ lo then
              match xex cn P f (fr - 1) (lo - (19 + mL)) a 0 (xargs (.ref k :: (st.take n).reverse) ++ List.replicate (mL - (xargs (.ref k :: (st.take n).reverse)).length) none) [] h with
              | some (v, h1) => xex cn P f fr lo mi (ip + 1) L (v.toList ++ r) h1
              | none => none
            else none
        | _ => none
      | none => none
    | .invokestatic _ => if b = 1 then match st with
        | .int n :: .int dp :: .ref d :: .int sp :: .ref s :: r => match xacopy P.2.2.2.2.2 h s sp d dp n with
          | some h1 => if xcats r ≤ 8 ∧ 1 ≤ fr ∧ 100 ≤ lo then xex cn P f fr lo mi (ip + 1) L r h1 else none
          | none => none
        | _ => none
      else if b = 2 then match st with
        | .int n :: .int j :: r => if ¬ j < 0 ∧ j < n ∧ xcats r ≤ 8 ∧ 2 ≤ fr ∧ 100 ≤ lo then xex cn P f fr lo mi (ip + 1) L r h else none
        | _ => none
      else if b = 3 then match st with
        | .int y :: .int x :: r => if xcats r ≤ 8 ∧ 1 ≤ fr ∧ 100 ≤ lo then xex cn P f fr lo mi (ip + 1) L (.int (if x < y then y else x) :: r) h else none
        | _ => none
      else if b = 4 then match st with
        | .int y :: .int x :: r => if xcats r ≤ 8 ∧ 1 ≤ fr ∧ 100 ≤ lo then xex cn P f fr lo mi (ip + 1) L (.int (if y < x then y else x) :: r) h else none
        | _ => none
      else match P.1[a]? with
      | some (_, _, mL, _, n, kd, _) => if kd = 0 ∧ n ≤ st.length ∧ (xargs (st.take n).reverse).length ≤ mL ∧ xcats (st.drop n) ≤ 8 ∧ 1 ≤ fr ∧ 19 + mL ≤ lo then
              match xex cn P f (fr - 1) (lo - (19 + mL)) a 0 (xargs (st.take n).reverse ++ List.replicate (mL - (xargs (st.take n).reverse).length) none) [] h with
              | some (v, h1) => xex cn P f fr lo mi (ip + 1) L (v.toList ++ st.drop n) h1
              | none => none
            else none
      | none => none
    | .ireturn => match st with
      | [.int x] => match ret with
        | some ty => if xfit ty (.int x) then some (some (.int x), h) else none
        | none => none
      | _ => none
    | .lreturn => match st with
      | [.long x] => match ret with
        | some .long => some (some (.long x), h)
        | _ => none
      | _ => none
    | .areturn => match st with
      | [v] => match ret with
        | some (.object _) => if xisA v then some (some v, h) else none
        | some (.array _) => if xisA v then some (some v, h) else none
        | _ => none
      | _ => none
    | .return_ => match st with
      | [] => match ret with
        | none => some (none, h)
        | _ => none
      | _ => none
    | _ => match xpure code P.2.2.2.1 i pc a ip L st with
      | some (ip1, L1, st1) => xex cn P f fr lo mi ip1 L1 st1 h
      | none => none
