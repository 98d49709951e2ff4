/-! READING FORMS: a function on tokens -/
/-- a form being read: parts and their names; figures: name, node, code; checks: number, node, code; until; signers -/
abbrev zG : Type := List (Int64 × yPt) × List (Int64 × Int32 × Int32) × List (Int32 × Int32 × Int32) × Int32 × Int32
abbrev zF2 (β : Type) : Type := (zG × zP × β) ⊕ Option Nat
def pb2 {α β : Type} (r : zF2 α) (f : zG → zP → α → zF2 β) : zF2 β := match r with
  | .inl (G, s, a) => f G s a
  | .inr k => .inr k
def pu {α β : Type} (r : zF α) (f : zP → α → zF2 β) : zF2 β := match r with
  | .inl (s, a) => f s a
  | .inr k => .inr k
def gAdd (G : zG) (p : Int64 × yPt) : zG := (G.1 ++ [p], G.2)
def gFig (G : zG) (p : Int64 × Int32 × Int32) : zG := (G.1, G.2.1 ++ [p], G.2.2)
def gChk (G : zG) (p : Int32 × Int32 × Int32) : zG := (G.1, G.2.1, G.2.2.1 ++ [p], G.2.2.2)
section FSPEC
variable (tk : List zK)
def fNum (lo hi : Int32) (s : zP) : zF Int32 := if kd tk s.1 = 2 ∧ lo.toInt ≤ (va tk s.1).toInt ∧ (va tk s.1).toInt ≤ hi.toInt then .inl (sNx s, (va tk s.1).toInt32) else .inr (some s.1)
/-- least, most, width -/
def fBounds (k : Int32) (s : zP) : zF (Int32 × Int32 × Int32) :=
  if k = 1 then pb (fNum tk 0 999999 s) fun s a => pb (fNum tk a 999999 s) fun s b => .inl (s, a, b, 0)
  else if k = 2 then pb (fNum tk 0 999999 s) fun s b => .inl (s, 0, b, 0)
  else if k = 3 then pb (fNum tk 0 9999 s) fun s a => pb (fNum tk a 9999 s) fun s b => .inl (s, a, b, 0)
  else if k = 4 then pb (fNum tk 2 8 s) fun s c => .inl (s, 0, c - 1, c)
  else if k = 5 then pb (fNum tk 1 8 s) fun s c => pb (fNum tk 0 c s) fun s a => pb (fNum tk a c s) fun s b => .inl (s, a, b, c)
  else if k = 6 then pb (fNum tk 1 24 s) fun s b => .inl (s, 0, b, 0)
  else if k = 7 then pb (fNum tk 1 4 s) fun s c => pb (fNum tk 1 6 s) fun s b => .inl (s, 0, b, c)
  else if k = 8 then pb (fNum tk 1 8 s) fun s b => .inl (s, 0, b, 0)
  else if k = 9 then pb (fNum tk 1 8 s) fun s b => .inl (s, 0, b, 0)
  else .inl (s, 0, 1, 0)
def fNew (G : zG) (c : Prop) [Decidable c] (s : zP) : zF Int64 := if kd tk s.1 = 3 ∧ c ∧ va tk s.1 ∉ G.1.map Prod.fst ∧ va tk s.1 ∉ G.2.1.map Prod.fst then .inl (sNx s, va tk s.1) else .inr (some s.1)
/-- its node, its code -/
def fExp (fg i : Nat) (s : zP) : zF (Int32 × Int32) := pb ((pFix tk fg 92).1 0 i s) fun s1 n => pb (sEm s1 0 0) fun s2 _ => .inl (s2, Int32.ofNat n, Int32.ofNat s.2.2.1.length)
def fWhen (i : Nat) (s : zP) : zF (Int32 × Int32) := if kd tk s.1 = 204 then fExp tk 0 i (sNx s) else .inl (s, -9, -9)
def fPlain (i : Nat) (g must : Int32) (G : zG) (s : zP) : zF (Int64 × yPt) := if 206 ≤ (kd tk s.1).toInt ∧ (kd tk s.1).toInt ≤ 216 then pb (fNew tk G (G.1.length < 20) (sNx s)) fun s1 nm => pb (fBounds tk (kd tk s.1 - 206) s1) fun s2 b => pb (fWhen tk i s2) fun s3 w => pb (pWant tk 59 s3) fun s4 _ => .inl (s4, nm, kd tk s.1 - 206, g, must, b.1, b.2.1, b.2.2, w.1, w.2) else .inr (some s.1)
def fGroup (i : Nat) (g : Int32) (G : zG) (s : zP) : zF (Int64 × yPt) := pb (pEnter i s) fun s _ => pb (fNew tk G (G.1.length < 20) (sNx s)) fun s1 nm => pb (fWhen tk (i + 1) s1) fun s3 w => pb (pWant tk 123 s3) fun s4 _ => .inl (s4, nm, 11, g, 0, 0, 0, 0, w.1, w.2)
def fParts : Nat → Nat → Int32 → zG → zP → zF2 Unit
  | 0, _, _, _, _ => .inr none
  | m + 1, i, g, G, s => if kd tk s.1 = 205 then pu (fGroup tk i g G s) fun s1 p => pb2 (fParts m (i + 1) (Int32.ofNat G.1.length) (gAdd G p) s1) fun G2 s2 _ => pu (pWant tk 125 s2) fun s3 _ => fParts m i g G2 s3
    else if kd tk s.1 = 203 then pu (fPlain tk i g 1 G (sNx s)) fun s1 p => fParts m i g (gAdd G p) s1
    else if 206 ≤ (kd tk s.1).toInt ∧ (kd tk s.1).toInt ≤ 216 then pu (fPlain tk i g 0 G s) fun s1 p => fParts m i g (gAdd G p) s1
    else .inl (G, s, ())
def fFig (G : zG) (s : zP) : zF (Int64 × Int32 × Int32) := pb (fNew tk G (G.2.1.length < 12) (sNx s)) fun s1 nm => pb (pWant tk 61 s1) fun s2 _ => pb (fExp tk G.2.1.length 0 s2) fun s3 w => pb (pWant tk 59 s3) fun s4 _ => .inl (s4, nm, w.1, w.2)
def fChk (G : zG) (s : zP) : zF (Int32 × Int32 × Int32) := if G.2.2.1.length < 12 then pb (fNum tk 0 999999 (sNx s)) fun s1 no => pb (fExp tk G.2.1.length 0 s1) fun s3 w => pb (pWant tk 59 s3) fun s4 _ => .inl (s4, no, w.1, w.2) else .inr (some (s.1 + 1))
def fRules : Nat → zG → zP → zF2 Unit
  | 0, _, _ => .inr none
  | m + 1, G, s => if kd tk s.1 = 217 then pu (fFig tk G s) fun s1 p => fRules m (gFig G p) s1
    else if kd tk s.1 = 218 then pu (fChk tk G s) fun s1 p => fRules m (gChk G p) s1
    else .inl (G, s, ())
def fUntil (s : zP) : zF Int32 := if kd tk s.1 = 201 then pb (fNum tk 0 9999 (sNx s)) fun s v => pb (pWant tk 59 s) fun s _ => .inl (s, v) else .inl (s, -9)
def fSigners (s : zP) : zF Int32 := if kd tk s.1 = 202 then pb (fNum tk 0 5 (sNx s)) fun s v => pb (pWant tk 59 s) fun s _ => .inl (s, v) else .inl (s, 0)
def fHead (s : zP) : zF (Int32 × Int32) := pb (pWant tk 200 s) fun s _ => pb (pWant tk 59 s) fun s _ => pb (fUntil tk s) fun s u => pb (fSigners tk s) fun s v => .inl (s, u, v)
def fForm : zF2 Unit := pu (fHead tk (0, 0, [], [], [])) fun s h => pb2 (fParts tk 21 0 (-9) ([], [], [], h.1, h.2) s) fun G s _ => pb2 (fRules tk 25 G s) fun G s _ => if kd tk s.1 = 0 then .inl (G, s, ()) else .inr (some s.1)
end FSPEC
