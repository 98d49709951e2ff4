/-! WORKING, as a function: what an exp is worth, and what FAILS -/
/-- an answer taken AS a sort: the object, or the FAILURE -/
def asR (z : Option yO) (s : Nat) : yO ⊕ Int32 := match z with
  | none => .inr 1
  | some o => if o.1 = s ∨ (o.1 = 6 ∧ s = 5) then .inl o else .inr 2
/-- the sort that a part's answer is taken AS, by its kind -/
def sOf (k : Int32) : Nat := if k = 0 ∨ k = 5 then 0 else if k = 2 then 2 else if k = 6 then 3 else if k = 7 then 4 else if k = 8 ∨ k = 10 then 5 else if k = 9 then 6 else 1
def amt (En : List (Int64 × Int32)) (v : Int64) : Int64 := ((En.map Prod.fst)[v.toInt.toNat]?).getD 0
/-- an item as a number -/
def wthR (En : List (Int64 × Int32)) (o : yO) (i : Int32) : Int64 ⊕ Int32 := if ¬ (0 ≤ i.toInt ∧ i.toInt < osz o) then .inr 3 else if o.1 = 4 then (match (gI o.2.2 i).getD none with
  | none => .inr 1
  | some l => .inl (Int32.ofNat l.length).toInt64) else if o.1 < 4 then .inl ((gI o.2.1 i).getD 0) else if (gI o.2.1 i).getD 0 = -1 then .inr 1 else .inl (amt En ((gI o.2.1 i).getD 0))
def truN : List Int64 → Nat
  | [] => 0
  | x :: r => (if x = 0 then 0 else 1) + truN r
/-- what a name is worth -/
def nameR (En : List (Int64 × Int32)) (k : Int32) (z : Option yO) : Int64 ⊕ Int32 := match asR z (if k = 10 then 7 else sOf k) with
  | .inr f => .inr f
  | .inl o => if k = 5 then .inl (Int32.ofNat (truN o.2.1)).toInt64 else if k = 6 ∨ k = 7 ∨ k = 8 ∨ k = 9 then .inl (Int32.ofNat (osz o)).toInt64 else wthR En o 0
def lenR (k : Int32) (z : Option yO) : Int64 ⊕ Int32 := match asR z (sOf k) with
  | .inr f => .inr f
  | .inl o => .inl (Int32.ofNat (osz o)).toInt64
def itemR (En : List (Int64 × Int32)) (k : Int32) (z : Option yO) (i : Int32) : Int64 ⊕ Int32 := match asR z (sOf k) with
  | .inr f => .inr f
  | .inl o => wthR En o i
def celR (o : yO) (i j : Int32) : Int64 ⊕ Int32 := if ¬ (0 ≤ i.toInt ∧ i.toInt < osz o) then .inr 3 else match (gI o.2.2 i).getD none with
  | none => .inr 1
  | some l => match gI l j with
    | none => .inr 3
    | some x => .inl x.toInt64
def cellR (z : Option yO) (i j : Int32) : Int64 ⊕ Int32 := match asR z 4 with
  | .inr f => .inr f
  | .inl o => celR o i j
def rowS : List Int32 → Int64 → Int64
  | [], a => a
  | x :: r, a => rowS r (a + x.toInt64)
/-- the sum of what n items from the i-th on are worth -/
def sumR (f : Int32 → Int64 ⊕ Int32) : Nat → Nat → Int64 → Int64 ⊕ Int32
  | 0, _, a => .inl a
  | n + 1, i, a => match f (Int32.ofNat i) with
    | .inr k => .inr k
    | .inl v => sumR f n (i + 1) (a + v)
def rowR (o : yO) (i : Int32) : Int64 ⊕ Int32 := match (gI o.2.2 i).getD none with
  | none => .inr 1
  | some l => .inl (rowS l 0)
def totR (En : List (Int64 × Int32)) (k : Int32) (z : Option yO) : Int64 ⊕ Int32 := match asR z (sOf k) with
  | .inr f => .inr f
  | .inl o => sumR (if o.1 = 4 then rowR o else wthR En o) (osz o) 0 0
def colR (z : Option yO) (j : Int32) : Int64 ⊕ Int32 := match asR z 4 with
  | .inr f => .inr f
  | .inl o => sumR (fun i => celR o i j) (osz o) 0 0
/-- a value, or a FAILURE and the figure in which it AROSE -/
abbrev yR : Type := Int64 ⊕ (Int32 × Int32)
/-- FAILURES ever, figures worked, elses, what figures were worth -/
abbrev yW : Type := Int32 × Int32 × Int32 × List (Option yR)
def okR (r : Int64 ⊕ Int32) (cur : Int32) (w : yW) : yR × yW := match r with
  | .inl v => (.inl v, w)
  | .inr k => (.inr (k, cur), (w.1 + 1, w.2))
def bR (x : Bool) : Int64 := if x then 1 else 0
/-- a pair, reckoned -/
def prR (op : Int32) (x y : Int64) : Int64 ⊕ Int32 := if op = 15 then .inl (x + y) else if op = 16 then .inl (x - y) else if op = 17 then .inl (x * y) else if op = 18 then (if y = 0 then .inr 4 else .inl (x / y)) else if op = 19 then (if y = 0 then .inr 4 else .inl (x - x / y * y)) else if op = 20 then .inl (if x = y then 1 else 0) else if op = 21 then .inl (if x < y then 1 else 0) else .inl (if y < x then 1 else 0)
def knd (F : yF) (p : Int32) : Int32 := ((gI F.1 p).map (fun P => P.1)).getD 0
def anR (A : List (Option yO)) (p : Int32) : Option yO := (gI A p).getD none
def evx (F : yF) (A : List (Option yO)) (En : List (Int64 × Int32)) (fg : Int32 → yW → yR × yW) : Nat → Int32 → Int32 → yW → yR × yW
  | 0, _, _, w => (.inl 0, w)
  | k + 1, cur, n, w => match F.2.2.2.2.1[n.toInt.toNat]? with
    | none => (.inl 0, w)
    | some (op, one, two, val) =>
      if op = 0 then (.inl val, w)
      else if op = 1 then okR (nameR En (knd F one) (anR A one)) cur w
      else if op = 2 then fg one w
      else if op = 3 then (match evx F A En fg k cur two w with
        | (.inr e, w1) => (.inr e, w1)
        | (.inl i, w1) => okR (itemR En (knd F one) (anR A one) i.toInt32) cur w1)
      else if op = 4 then (match evx F A En fg k cur two w with
        | (.inr e, w1) => (.inr e, w1)
        | (.inl i, w1) => match evx F A En fg k cur val.toInt32 w1 with
          | (.inr e, w2) => (.inr e, w2)
          | (.inl j, w2) => okR (cellR (anR A one) i.toInt32 j.toInt32) cur w2)
      else if op = 5 then okR (lenR (knd F one) (anR A one)) cur w
      else if op = 6 then (.inl (if (anR A one).isSome then 1 else 0), w)
      else if op = 7 then (.inl (match anR A one with
        | none => 0
        | some o => if o.1 = two.toInt.toNat ∨ (o.1 = 6 ∧ two.toInt.toNat = 5) then 1 else 0), w)
      else if op = 8 then okR (totR En (knd F one) (anR A one)) cur w
      else if op = 9 then (match evx F A En fg k cur two w with
        | (.inr e, w1) => (.inr e, w1)
        | (.inl j, w1) => okR (colR (anR A one) j.toInt32) cur w1)
      else if op = 10 then (match evx F A En fg k cur one w with
        | (.inl v, w1) => (.inl v, w1)
        | (.inr _, w1) => evx F A En fg k cur two (w1.1, w1.2.1, w1.2.2.1 + 1, w1.2.2.2))
      else if op = 13 then (match evx F A En fg k cur one w with
        | (.inr e, w1) => (.inr e, w1)
        | (.inl v, w1) => (.inl (if v = 0 then 1 else 0), w1))
      else if op = 14 then (match evx F A En fg k cur one w with
        | (.inr e, w1) => (.inr e, w1)
        | (.inl v, w1) => (.inl (-v), w1))
      else (match evx F A En fg k cur one w with
        | (.inr e, w1) => (.inr e, w1)
        | (.inl x, w1) =>
          if op = 11 ∧ x ≠ 0 then (.inl 1, w1) else if op = 12 ∧ x = 0 then (.inl 0, w1) else
          match evx F A En fg k cur two w1 with
          | (.inr e, w2) => (.inr e, w2)
          | (.inl y, w2) => if op = 11 ∨ op = 12 then (.inl (if y = 0 then 0 else 1), w2) else okR (prR op x y) cur w2)
/-- a figure's worth -/
def figx (F : yF) (A : List (Option yO)) (En : List (Int64 × Int32)) (K : Nat) : Nat → Int32 → yW → yR × yW
  | 0, _, w => (.inl 0, w)
  | j + 1, f, w => match (gI w.2.2.2 f).getD none with
    | some r => (r, w)
    | none => match evx F A En (figx F A En K j) K f (((gI F.2.1 f).map Prod.fst).getD 0) (w.1, w.2.1 + 1, w.2.2.1, w.2.2.2) with
      | (r, w1) => (r, (w1.1, w1.2.1, w1.2.2.1, w1.2.2.2.set f.toInt.toNat (some r)))
