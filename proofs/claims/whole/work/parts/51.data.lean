/-! THE PURE PICTURE: objects, forms, drafts; how class and reference hold them in entries -/
/-- an OBJECT: its sort, its items (NOTHING among entries: -1), its rows -/
abbrev yO : Type := Nat × List Int64 × List (Option (List Int32))
def osz (o : yO) : Nat := if o.1 = 4 then o.2.2.length else o.2.1.length
/-- NOTHING among entries is -9 in the class -/
def cnv (x : Int64) : Int64 := if x = -1 then -9 else x
def cit (o : yO) : List Int64 := if o.1 = 5 ∨ o.1 = 6 then o.2.1.map cnv else o.2.1
/-- an object as it must be, there being so many entries with such signers -/
def yOk (En : List (Int64 × Int32)) (o : yO) : Prop := o.1 ≤ 7 ∧ (o.1 = 4 → o.2.1 = [] ∧ o.2.2.length ≤ 6 ∧ ∀ l, some l ∈ o.2.2 → l.length ≤ 6) ∧ (o.1 ≠ 4 → o.2.2 = [] ∧ o.2.1.length ≤ 12) ∧ (o.1 = 7 → ∃ n, n < En.length ∧ o.2.1 = [Int64.ofNat n]) ∧ (o.1 = 5 → ∀ v ∈ o.2.1, v = -1 ∨ ∃ n, n < En.length ∧ v = Int64.ofNat n) ∧ (o.1 = 6 → ∀ v ∈ o.2.1, v = -1 ∨ ∃ (n : Nat) (e : Int64 × Int32), En[n]? = some e ∧ e.2 ≠ -9 ∧ v = Int64.ofNat n) ∧ (o.1 = 0 → ∀ v ∈ o.2.1, v = 0 ∨ v = 1) ∧ (o.1 = 1 → ∀ v ∈ o.2.1, v.toInt32.toInt64 = v) ∧ (o.1 = 3 → ∀ v ∈ o.2.1, 0 ≤ v.toInt ∧ v.toInt ≤ 65535)
/-- a row of an object of rows: the value that the class's array of rows holds -/
def yRw (D : List xE) (v : Value) (r : Option (List Int32)) : Prop := match r with
  | none => v = .null
  | some l => ∃ k, v = .ref k ∧ ((k, .inr (0, l.map Value.int)) : xE) ∈ D
/-- the class's object at an address -/
def yOC (D : List xE) (a : Nat) (o : yO) : Prop := ∃ (ia ra : Nat) (jk : List Int64) (rr : List Value), ((a, .inl (6, 0, .int (Int32.ofNat o.1))) : xE) ∈ D ∧ ((a, .inl (6, 1, .int (Int32.ofNat (osz o)))) : xE) ∈ D ∧ ((a, .inl (6, 2, .ref ia)) : xE) ∈ D ∧ ((a, .inl (6, 3, .ref ra)) : xE) ∈ D ∧ ((ia, .inr (1, (cit o ++ jk).map Value.long)) : xE) ∈ D ∧ ((ra, .inr (4, rr)) : xE) ∈ D ∧ (o.1 = 4 → rr.length = o.2.2.length) ∧ ∀ (i : Nat) v r, rr[i]? = some v → o.2.2[i]? = some r → yRw D v r
def rsz (r : Option (List Int32)) : Int32 := match r with
  | none => -1
  | some l => Int32.ofNat l.length
/-- the reference's object at an address -/
def yOM (D : List xE) (b : Nat) (o : yO) : Prop := ∃ (ia ra ca : Nat) (jk : List Int64) (rs cs : List Int32), ((b, .inl (13, 0, .int (Int32.ofNat o.1))) : xE) ∈ D ∧ ((b, .inl (13, 1, .int (Int32.ofNat (osz o)))) : xE) ∈ D ∧ ((b, .inl (13, 2, .ref ia)) : xE) ∈ D ∧ ((b, .inl (13, 3, .ref ra)) : xE) ∈ D ∧ ((b, .inl (13, 4, .ref ca)) : xE) ∈ D ∧ ((ia, .inr (1, (o.2.1 ++ jk).map Value.long)) : xE) ∈ D ∧ o.2.1.length + jk.length = 12 ∧ ((ra, .inr (0, rs.map Value.int)) : xE) ∈ D ∧ rs.length = 6 ∧ ((ca, .inr (0, cs.map Value.int)) : xE) ∈ D ∧ cs.length = 36 ∧ (∀ (i : Nat) r, o.2.2[i]? = some r → rs[i]? = some (rsz r)) ∧ (∀ (i : Nat) l (j : Nat) x, o.2.2[i]? = some (some l) → l[j]? = some x → cs[6 * i + j]? = some x)
theorem yRw.mono {D D2 : List xE} (h : D ⊆ D2) {v : Value} {r : Option (List Int32)} (q : yRw D v r) : yRw D2 v r := by
  cases r with
  | none => exact q
  | some l =>
    obtain ⟨k, h1, h2⟩ := q
    exact ⟨k, h1, h h2⟩
theorem yOC.mono {D D2 : List xE} (h : D ⊆ D2) {a : Nat} {o : yO} (q : yOC D a o) : yOC D2 a o := by
  obtain ⟨ia, ra, jk, rr, h1, h2, h3, h4, h5, h6, h7, h8⟩ := q
  exact ⟨ia, ra, jk, rr, h h1, h h2, h h3, h h4, h h5, h h6, h7, fun i v r q1 q2 => (h8 i v r q1 q2).mono h⟩
theorem yOM.mono {D D2 : List xE} (h : D ⊆ D2) {a : Nat} {o : yO} (q : yOM D a o) : yOM D2 a o := by
  obtain ⟨ia, ra, ca, jk, rs, cs, h1, h2, h3, h4, h5, h6, h7, h8, h9, h10, h11⟩ := q
  exact ⟨ia, ra, ca, jk, rs, cs, h h1, h h2, h h3, h h4, h h5, h h6, h7, h h8, h9, h h10, h11⟩
/-- a value that is an object or NOTHING -/
def yVC (D : List xE) (v : Value) (z : Option yO) : Prop := match z with
  | none => v = .null
  | some o => ∃ a, v = .ref a ∧ yOC D a o
def yVM (D : List xE) (v : Value) (z : Option yO) : Prop := match z with
  | none => v = .null
  | some o => ∃ a, v = .ref a ∧ yOM D a o
theorem yVC.mono {D D2 : List xE} (h : D ⊆ D2) {v : Value} {z : Option yO} (q : yVC D v z) : yVC D2 v z := by
  cases z with
  | none => exact q
  | some o =>
    obtain ⟨a, h1, h2⟩ := q
    exact ⟨a, h1, h2.mono h⟩
theorem yVM.mono {D D2 : List xE} (h : D ⊆ D2) {v : Value} {z : Option yO} (q : yVM D v z) : yVM D2 v z := by
  cases z with
  | none => exact q
  | some o =>
    obtain ⟨a, h1, h2⟩ := q
    exact ⟨a, h1, h2.mono h⟩
/-- a PART: kind, group, must (1, 0), least, most, width, its condition's node and where its code begins (-9: none) -/
abbrev yPt : Type := Int32 × Int32 × Int32 × Int32 × Int32 × Int32 × Int32 × Int32
/-- a node of an exp: what it does, one, two, value -/
abbrev yNd : Type := Int32 × Int32 × Int32 × Int64
/-- a form: parts, figures (node, begin of code), checks (message, node, begin of code), NODES, until, signers, the table of nodes, the code -/
abbrev yF : Type := List yPt × List (Int32 × Int32) × List (Int32 × Int32 × Int32) × (Int32 × Int32 × Int32) × List yNd × List (Int32 × Int32)
/-- a part that can be asked for -/
def yAsk (F : yF) (p : Int32) : Prop := 0 ≤ p.toInt ∧ ∃ P : yPt, F.1[p.toInt.toNat]? = some P ∧ P.1 ≠ 11
/-- the class's code from s up to e works what the node n says; figures below j alone are named -/
def yRep (F : yF) (j : Nat) : Nat → Nat → Nat → Int32 → Prop
  | 0, _, _, _ => False
  | k + 1, s, e, n => 0 ≤ n.toInt ∧ ∃ op one two val, F.2.2.2.2.1[n.toInt.toNat]? = some (op, one, two, val) ∧ (
      (op = 0 ∧ e = s + 1 ∧ ∃ v, F.2.2.2.2.2[s]? = some (1, v) ∧ val = v.toInt64)
    ∨ (op = 1 ∧ e = s + 1 ∧ F.2.2.2.2.2[s]? = some (7, 8 * one) ∧ yAsk F one)
    ∨ (op = 2 ∧ e = s + 1 ∧ F.2.2.2.2.2[s]? = some (2, one) ∧ 0 ≤ one.toInt ∧ one.toInt < j)
    ∨ (op = 3 ∧ s < e ∧ yRep F j k s (e - 1) two ∧ F.2.2.2.2.2[e - 1]? = some (12, 8 * one) ∧ yAsk F one)
    ∨ (op = 4 ∧ s < e ∧ ∃ m, yRep F j k s m two ∧ yRep F j k m (e - 1) val.toInt32 ∧ F.2.2.2.2.2[e - 1]? = some (13, 8 * one) ∧ yAsk F one)
    ∨ (op = 5 ∧ e = s + 1 ∧ F.2.2.2.2.2[s]? = some (8, 8 * one) ∧ yAsk F one)
    ∨ (op = 6 ∧ e = s + 1 ∧ F.2.2.2.2.2[s]? = some (9, 8 * one) ∧ yAsk F one)
    ∨ (op = 7 ∧ e = s + 1 ∧ F.2.2.2.2.2[s]? = some (10, 8 * one + two) ∧ yAsk F one ∧ 0 ≤ two.toInt ∧ two.toInt < 8)
    ∨ (op = 8 ∧ e = s + 1 ∧ F.2.2.2.2.2[s]? = some (11, 8 * one) ∧ yAsk F one)
    ∨ (op = 9 ∧ s < e ∧ yRep F j k s (e - 1) two ∧ F.2.2.2.2.2[e - 1]? = some (14, 8 * one) ∧ yAsk F one)
    ∨ (op = 10 ∧ ∃ m, F.2.2.2.2.2[s]? = some (5, Int32.ofNat (m + 1)) ∧ yRep F j k (s + 1) m one ∧ F.2.2.2.2.2[m]? = some (6, Int32.ofNat e) ∧ yRep F j k (m + 1) e two)
    ∨ ((op = 11 ∨ op = 12) ∧ s < e ∧ ∃ m, yRep F j k s m one ∧ F.2.2.2.2.2[m]? = some (op - 8, Int32.ofNat e) ∧ yRep F j k (m + 1) (e - 1) two ∧ F.2.2.2.2.2[e - 1]? = some (15, 0))
    ∨ ((op = 13 ∨ op = 14) ∧ s < e ∧ yRep F j k s (e - 1) one ∧ F.2.2.2.2.2[e - 1]? = some (30 - op, 0))
    ∨ (15 ≤ op.toInt ∧ op.toInt ≤ 22 ∧ s < e ∧ ∃ m, yRep F j k s m one ∧ yRep F j k m (e - 1) two ∧ F.2.2.2.2.2[e - 1]? = some (if op.toInt < 20 then op + 6 else op - 2, 0)))
/-- an exp: where its code begins, its node; the code of figures that it may name (below j, their ends fe) lies ahead of it; e is where its code ends -/
def yExp (F : yF) (fe : Nat → Nat) (j : Nat) (at' n : Int32) (e : Nat) : Prop := ∃ s, at' = Int32.ofNat s ∧ s < e ∧ yRep F j 300 s e n ∧ F.2.2.2.2.2[e]? = some (0, 0) ∧ ∀ i, i < j → fe i < s
/-- the entries of the class's form: address, addresses and items of its arrays -/
def fcE (a : Nat) (p : Nat → Nat) (q : Nat → List Int32) (F : yF) : List xE := [(a, .inl (2, 0, .int (Int32.ofNat F.1.length))), (a, .inl (2, 1, .ref (p 1))), (a, .inl (2, 2, .ref (p 2))), (a, .inl (2, 3, .ref (p 3))), (a, .inl (2, 4, .ref (p 4))), (a, .inl (2, 5, .ref (p 5))), (a, .inl (2, 6, .ref (p 6))), (a, .inl (2, 7, .ref (p 7))), (a, .inl (2, 8, .int (Int32.ofNat F.2.1.length))), (a, .inl (2, 9, .ref (p 9))), (a, .inl (2, 10, .int (Int32.ofNat F.2.2.1.length))), (a, .inl (2, 11, .ref (p 11))), (a, .inl (2, 12, .ref (p 12))), (a, .inl (2, 13, .int F.2.2.2.1.1)), (a, .inl (2, 14, .int F.2.2.2.1.2.1)), (a, .inl (2, 15, .int F.2.2.2.1.2.2)), (a, .inl (2, 16, .ref (p 16))), (a, .inl (2, 17, .ref (p 17))), (a, .inl (2, 18, .int (Int32.ofNat F.2.2.2.2.2.length))), (p 1, .inr (0, (q 1).map Value.int)), (p 2, .inr (0, (q 2).map Value.int)), (p 3, .inr (0, (q 3).map Value.int)), (p 4, .inr (0, (q 4).map Value.int)), (p 5, .inr (0, (q 5).map Value.int)), (p 6, .inr (0, (q 6).map Value.int)), (p 7, .inr (0, (q 7).map Value.int)), (p 9, .inr (0, (q 9).map Value.int)), (p 11, .inr (0, (q 11).map Value.int)), (p 12, .inr (0, (q 12).map Value.int)), (p 16, .inr (0, (q 16).map Value.int)), (p 17, .inr (0, (q 17).map Value.int))]
/-- a form as it must be: kinds 0 .. 11; groups behind their own group, and parts of groups likewise; bounds -/
def yFok (F : yF) : Prop := ∃ fe : Nat → Nat, F.2.2.2.2.2.length ≤ 560 ∧ F.2.2.2.2.1.length ≤ 299 ∧ (∀ (i : Nat) (n w : Int32), F.2.1[i]? = some (n, w) → yExp F fe i w n (fe i)) ∧ (∀ (i : Nat) (m n w : Int32), F.2.2.1[i]? = some (m, n, w) → ∃ j e, j ≤ F.2.1.length ∧ yExp F fe j w n e) ∧ F.1.length ≤ 20 ∧ F.2.1.length ≤ 12 ∧ F.2.2.1.length ≤ 12 ∧ (0 ≤ F.2.2.2.1.2.2.toInt ∧ F.2.2.2.1.2.2.toInt ≤ 5) ∧ ∀ (i : Nat) (P : yPt), F.1[i]? = some P → (0 ≤ P.1.toInt ∧ P.1.toInt ≤ 11) ∧ (P.2.1 = -9 ∨ ∃ g, g < i ∧ P.2.1 = Int32.ofNat g) ∧ (P.2.2.1 = 0 ∨ P.2.2.1 = 1) ∧ (P.1 = 0 → P.2.2.2.1 = 0 ∧ P.2.2.2.2.1 = 1) ∧ (P.1 = 4 → P.2.2.2.1 = 0 ∧ P.2.2.2.2.2.1 = P.2.2.2.2.1 + 1) ∧ (P.1 = 2 → P.2.2.2.1 = 0) ∧ (0 ≤ P.2.2.2.1.toInt ∧ P.2.2.2.1.toInt ≤ 999999) ∧ (0 ≤ P.2.2.2.2.1.toInt ∧ P.2.2.2.2.1.toInt ≤ 999999) ∧ (P.1 = 5 → 1 ≤ P.2.2.2.2.2.1.toInt) ∧ (P.1 = 4 → 2 ≤ P.2.2.2.2.2.1.toInt) ∧ (P.1 = 7 → 1 ≤ P.2.2.2.2.2.1.toInt) ∧ (0 ≤ P.2.2.2.2.2.1.toInt ∧ P.2.2.2.2.2.1.toInt ≤ 8) ∧ ((P.2.2.2.2.2.2.1 = -9 ∧ P.2.2.2.2.2.2.2 = -9) ∨ ∃ e, yExp F fe 0 P.2.2.2.2.2.2.2 P.2.2.2.2.2.2.1 e)
/-- the class's form at an address -/
def yFC (D : List xE) (a : Nat) (F : yF) : Prop := ∃ (p : Nat → Nat) (q : Nat → List Int32), (∀ e ∈ fcE a p q F, e ∈ D) ∧ ((q 1).length = 20 ∧ (q 2).length = 20 ∧ (q 3).length = 20 ∧ (q 4).length = 20 ∧ (q 5).length = 20 ∧ (q 6).length = 20 ∧ (q 7).length = 20 ∧ (q 9).length = 12 ∧ (q 11).length = 12 ∧ (q 12).length = 12 ∧ (q 16).length = 560 ∧ (q 17).length = 560) ∧ (∀ (i : Nat) (P : yPt), F.1[i]? = some P → (q 1)[i]? = some P.1 ∧ (q 2)[i]? = some P.2.1 ∧ (q 3)[i]? = some P.2.2.1 ∧ (P.1 ≠ 11 → (q 4)[i]? = some P.2.2.2.1 ∧ (q 5)[i]? = some P.2.2.2.2.1 ∧ (q 6)[i]? = some P.2.2.2.2.2.1) ∧ (q 7)[i]? = some P.2.2.2.2.2.2.2) ∧ (∀ (i : Nat) n w, F.2.1[i]? = some (n, w) → (q 9)[i]? = some w) ∧ (∀ (i : Nat) m n w, F.2.2.1[i]? = some (m, n, w) → (q 11)[i]? = some m ∧ (q 12)[i]? = some w) ∧ (∀ (i : Nat) d w, F.2.2.2.2.2[i]? = some (d, w) → (q 16)[i]? = some d ∧ (q 17)[i]? = some w)
/-- the entries of the reference's form -/
def fmE (a : Nat) (p : Nat → Nat) (q : Nat → List Int32) (nm fn vl : List Int64) (F : yF) : List xE := [(a, .inl (12, 0, .int (Int32.ofNat F.1.length))), (a, .inl (12, 1, .ref (p 1))), (a, .inl (12, 2, .ref (p 2))), (a, .inl (12, 3, .ref (p 3))), (a, .inl (12, 4, .ref (p 4))), (a, .inl (12, 5, .ref (p 5))), (a, .inl (12, 6, .ref (p 6))), (a, .inl (12, 7, .ref (p 7))), (a, .inl (12, 8, .ref (p 8))), (a, .inl (12, 9, .int (Int32.ofNat F.2.1.length))), (a, .inl (12, 10, .ref (p 10))), (a, .inl (12, 11, .ref (p 11))), (a, .inl (12, 12, .int (Int32.ofNat F.2.2.1.length))), (a, .inl (12, 13, .ref (p 13))), (a, .inl (12, 14, .ref (p 14))), (a, .inl (12, 15, .int F.2.2.2.1.2.1)), (a, .inl (12, 16, .int F.2.2.2.1.2.2)), (a, .inl (12, 17, .int F.2.2.2.1.1)), (a, .inl (12, 18, .int (Int32.ofNat F.2.2.2.2.1.length))), (a, .inl (12, 19, .ref (p 19))), (a, .inl (12, 20, .ref (p 20))), (a, .inl (12, 21, .ref (p 21))), (a, .inl (12, 22, .ref (p 22))), (p 1, .inr (1, nm.map Value.long)), (p 2, .inr (0, (q 2).map Value.int)), (p 3, .inr (0, (q 3).map Value.int)), (p 4, .inr (3, (q 4).map Value.int)), (p 5, .inr (0, (q 5).map Value.int)), (p 6, .inr (0, (q 6).map Value.int)), (p 7, .inr (0, (q 7).map Value.int)), (p 8, .inr (0, (q 8).map Value.int)), (p 10, .inr (1, fn.map Value.long)), (p 11, .inr (0, (q 11).map Value.int)), (p 13, .inr (0, (q 13).map Value.int)), (p 14, .inr (0, (q 14).map Value.int)), (p 19, .inr (0, (q 19).map Value.int)), (p 20, .inr (1, vl.map Value.long)), (p 21, .inr (0, (q 21).map Value.int)), (p 22, .inr (0, (q 22).map Value.int))]
/-- the reference's form at an address -/
def yFM (D : List xE) (a : Nat) (F : yF) : Prop := ∃ (p : Nat → Nat) (q : Nat → List Int32) (nm fn vl : List Int64), (∀ e ∈ fmE a p q nm fn vl F, e ∈ D) ∧ (nm.length = 20 ∧ (q 2).length = 20 ∧ (q 3).length = 20 ∧ (q 4).length = 20 ∧ (q 5).length = 20 ∧ (q 6).length = 20 ∧ (q 7).length = 20 ∧ (q 8).length = 20 ∧ fn.length = 12 ∧ (q 11).length = 12 ∧ (q 13).length = 12 ∧ (q 14).length = 12 ∧ (q 19).length = 300 ∧ vl.length = 300 ∧ (q 21).length = 300 ∧ (q 22).length = 300) ∧ (∀ (i : Nat) (P : yPt), F.1[i]? = some P → (q 2)[i]? = some P.1 ∧ (q 3)[i]? = some P.2.1 ∧ (q 4)[i]? = some P.2.2.1 ∧ (P.1 ≠ 0 → P.1 ≠ 10 → P.1 ≠ 11 → (q 5)[i]? = some P.2.2.2.1 ∧ (q 6)[i]? = some P.2.2.2.2.1 ∧ (P.1 ≠ 4 → (q 7)[i]? = some P.2.2.2.2.2.1)) ∧ (q 8)[i]? = some P.2.2.2.2.2.2.1) ∧ (∀ (i : Nat) n w, F.2.1[i]? = some (n, w) → (q 11)[i]? = some n) ∧ (∀ (i : Nat) m n w, F.2.2.1[i]? = some (m, n, w) → (q 13)[i]? = some m ∧ (q 14)[i]? = some n) ∧ (∀ (i : Nat) op one two val, F.2.2.2.2.1[i]? = some (op, one, two, val) → (q 19)[i]? = some op ∧ (q 21)[i]? = some one ∧ (q 22)[i]? = some two ∧ vl[i]? = some val)
theorem yFC.mono {D D2 : List xE} (h : D ⊆ D2) {a : Nat} {F : yF} (z : yFC D a F) : yFC D2 a F := by
  obtain ⟨p, q, h1, h2⟩ := z
  exact ⟨p, q, fun e he => h (h1 e he), h2⟩
theorem yFM.mono {D D2 : List xE} (h : D ⊆ D2) {a : Nat} {F : yF} (z : yFM D a F) : yFM D2 a F := by
  obtain ⟨p, q, nm, fn, vl, h1, h2⟩ := z
  exact ⟨p, q, nm, fn, vl, fun e he => h (h1 e he), h2⟩
/-- forms in class and reference -/
def yFsC (Fs : List yF) (D : List xE) : Prop := ∃ fa : List Nat, fa.length = Fs.length ∧ Fs.length ≤ 10 ∧ ((78, .inl (11, 3, .int (Int32.ofNat Fs.length))) : xE) ∈ D ∧ ((92, .inr (5, fa.map Value.ref ++ List.replicate (10 - Fs.length) Value.null)) : xE) ∈ D ∧ ∀ (i : Nat) F a, Fs[i]? = some F → fa[i]? = some a → yFC D a F
def yFsM (Fs : List yF) (D : List xE) : Prop := ∃ fa : List Nat, fa.length = Fs.length ∧ Fs.length ≤ 10 ∧ ((209, .inl (14, 7, .int (Int32.ofNat Fs.length))) : xE) ∈ D ∧ ((211, .inr (8, fa.map Value.ref ++ List.replicate (10 - Fs.length) Value.null)) : xE) ∈ D ∧ ∀ (i : Nat) F a, Fs[i]? = some F → fa[i]? = some a → yFM D a F
theorem yFsC.mono {D D2 : List xE} (h : D ⊆ D2) {Fs : List yF} (z : yFsC Fs D) : yFsC Fs D2 := by
  obtain ⟨fa, h1, h2, h3, h4, h5⟩ := z
  exact ⟨fa, h1, h2, h h3, h h4, fun i F a q1 q2 => (h5 i F a q1 q2).mono h⟩
theorem yFsM.mono {D D2 : List xE} (h : D ⊆ D2) {Fs : List yF} (z : yFsM Fs D) : yFsM Fs D2 := by
  obtain ⟨fa, h1, h2, h3, h4, h5⟩ := z
  exact ⟨fa, h1, h2, h h3, h h4, fun i F a q1 q2 => (h5 i F a q1 q2).mono h⟩
theorem ymm {D : List xE} {l : List xE} (h : ∀ e ∈ l, e ∈ D) {e : xE} (i : Nat) (hi : l[i]? = some e) : e ∈ D := h e (List.mem_of_getElem? hi)
