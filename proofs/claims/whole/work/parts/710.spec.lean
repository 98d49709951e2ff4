/-! READING EXPS: a function on tokens that says what both do -/
theorem tks_len : ∀ (m p : Nat) (r : List Int32), (tks m p r).length ≤ r.length + 1
  | 0, _, _ => by simp [tks]
  | m + 1, p, r => by
    have wB := nB_le r
    rw [tks]
    split
    · simp
    · rename_i h
      have ih := tks_len m (p + nB r + (lexK (r.drop (nB r))).2.1) ((r.drop (nB r)).drop (lexK (r.drop (nB r))).2.1)
      rw [List.length_drop, List.length_drop] at ih
      cases hd : r.drop (nB r) with
      | nil => rw [hd] at h; exact absurd (Or.inl rfl) h
      | cons b r1 =>
        have hl := lexK_len (b := b) (r := r1)
        rw [← hd, List.length_drop] at hl
        rw [← hd, List.length_cons]
        omega
/-- a token is as the tape has it at its place -/
def tokS (t : List Int32) (τ : zK) : Prop := τ.2.1 ≤ t.length ∧ τ.1 = kdAt t τ.2.1 ∧ τ.2.2.1 = τ.2.1 + (lexK (t.drop τ.2.1)).2.1 ∧ τ.2.2.2 = (lexK (t.drop τ.2.1)).2.2 ∧ τ.2.2.1 ≤ t.length
theorem tks_spec {t : List Int32} : ∀ (m p i : Nat) (τ : zK), p ≤ t.length → (t.drop p).length < m → (tks m p (t.drop p))[i]? = some τ → tokS t τ ∧ (∀ τ', (tks m p (t.drop p))[i + 1]? = some τ' → τ'.2.1 = τ.2.2.1 + nB (t.drop τ.2.2.1)) ∧ (τ.1 ≠ 0 → τ.1 ≠ 1 → ∃ τ', (tks m p (t.drop p))[i + 1]? = some τ') ∧ (i = 0 → τ.2.1 = p + nB (t.drop p))
  | 0, _, _, _, _, h, _ => by omega
  | m + 1, p, i, τ, hp, hm, hi => by
    have wB := nB_le (t.drop p)
    have hdl : (t.drop p).length = t.length - p := List.length_drop
    have hdd : (t.drop p).drop (nB (t.drop p)) = t.drop (p + nB (t.drop p)) := by rw [List.drop_drop]
    rw [tks] at hi ⊢
    rw [hdd] at hi ⊢
    generalize hq : p + nB (t.drop p) = q at hi ⊢
    have hql : q ≤ t.length := by omega
    have hd2 : (t.drop q).drop (lexK (t.drop q)).2.1 = t.drop (q + (lexK (t.drop q)).2.1) := by rw [List.drop_drop]
    have hle : q + (lexK (t.drop q)).2.1 ≤ t.length ∧ ((lexK (t.drop q)).1 ≠ 0 → 1 ≤ (lexK (t.drop q)).2.1) := by
      cases hd : t.drop q with
      | nil => exact ⟨by show q + 0 ≤ _; omega, fun h => absurd rfl h⟩
      | cons b r =>
        have hl := lexK_len (b := b) (r := r)
        have := congrArg List.length hd
        rw [List.length_drop] at this
        exact ⟨by omega, fun _ => hl.1⟩
    rw [hd2] at hi ⊢
    cases i with
    | zero =>
      cases hi
      refine ⟨⟨hql, rfl, rfl, rfl, hle.1⟩, ?_, ?_, fun _ => rfl⟩
      · intro τ' h
        rw [List.getElem?_cons_succ] at h
        split at h
        · cases h
        · rename_i hk
          rw [not_or] at hk
          have h1 := hle.2 hk.1
          exact (tks_spec m (q + (lexK (t.drop q)).2.1) 0 τ' hle.1 (by rw [List.length_drop]; omega) h).2.2.2 rfl
      · intro h0 h1
        rw [List.getElem?_cons_succ, if_neg (by rw [not_or]; exact ⟨h0, h1⟩)]
        have h1 := hle.2 h0
        have hm1 : t.length - (q + (lexK (t.drop q)).2.1) < m := by omega
        obtain ⟨m, rfl⟩ : ∃ n, m = n + 1 := ⟨m - 1, by omega⟩
        exact ⟨_, by rw [tks]; rfl⟩
    | succ i =>
      rw [List.getElem?_cons_succ] at hi
      split at hi
      · cases hi
      · rename_i hk
        have hk2 := hk
        rw [not_or] at hk2
        have h1 := hle.2 hk2.1
        obtain ⟨g1, g2, g3, _⟩ := tks_spec m (q + (lexK (t.drop q)).2.1) i τ hle.1 (by rw [List.length_drop]; omega) hi
        refine ⟨g1, ?_, ?_, fun h => by omega⟩
        · intro τ' h
          rw [List.getElem?_cons_succ, if_neg hk] at h
          exact g2 τ' h
        · rw [List.getElem?_cons_succ, if_neg hk]
          exact g3
/-- a name in an exp: place, name, figures told, where its code is, its node -/
abbrev zU : Type := Nat × Int64 × Nat × Option Nat × Nat
/-- reading: the token at hand, NODES, code, table of nodes, names -/
abbrev zP : Type := Nat × Nat × List (Int32 × Int32) × List yNd × List zU
/-- what comes of it: a state and what is told, or THE FAULT at a token, or (none) what never comes -/
abbrev zF (β : Type) : Type := (zP × β) ⊕ Option Nat
def pb {α β : Type} (r : zF α) (f : zP → α → zF β) : zF β := match r with
  | .inl (s, a) => f s a
  | .inr k => .inr k
def kd (tk : List zK) (k : Nat) : Int32 := ((tk[k]?).map fun τ => τ.1).getD 1
def pl (tk : List zK) (k : Nat) : Nat := ((tk[k]?).map fun τ => τ.2.1).getD 0
def va (tk : List zK) (k : Nat) : Int64 := ((tk[k]?).bind fun τ => τ.2.2.2).getD 0
def sNx (s : zP) : zP := (s.1 + 1, s.2)
def sNo (s : zP) : zF Unit := if s.2.1 < 250 then .inl ((s.1, s.2.1 + 1, s.2.2), ()) else .inr (some s.1)
def sEm (s : zP) (d w : Int32) : zF Nat := if s.2.2.1.length < 559 then .inl ((s.1, s.2.1, s.2.2.1 ++ [(d, w)], s.2.2.2), s.2.2.1.length) else .inr none
def sCd (s : zP) (i : Nat) (c : Int32 × Int32) : zP := (s.1, s.2.1, s.2.2.1.set i c, s.2.2.2)
def sNd (s : zP) (n : yNd) : zF Nat := if s.2.2.2.1.length < 299 then .inl ((s.1, s.2.1, s.2.2.1, s.2.2.2.1 ++ [n], s.2.2.2.2), s.2.2.2.1.length) else .inr none
def sSn (s : zP) (i : Nat) (n : yNd) : zP := (s.1, s.2.1, s.2.2.1, s.2.2.2.1.set i n, s.2.2.2.2)
def sUs (s : zP) (u : zU) : zF Nat := if s.2.2.2.2.length < 250 then .inl ((s.1, s.2.1, s.2.2.1, s.2.2.2.1, s.2.2.2.2 ++ [u]), s.2.2.2.2.length) else .inr none
def sSu (s : zP) (i : Nat) (u : zU) : zP := (s.1, s.2.1, s.2.2.1, s.2.2.2.1, s.2.2.2.2.set i u)
def pWant (tk : List zK) (c : Int32) (s : zP) : zF Unit := if kd tk s.1 = c then .inl (sNx s, ()) else .inr (some s.1)
def pEnter (i : Nat) (s : zP) : zF Unit := if i < 10 then .inl (s, ()) else .inr (some s.1)
/-- the level of a sign or word between exps; what it does in the code, in the table -/
def lvO (c : Int32) : Int32 := if c = 37 then 4 else if c = 42 then 4 else if c = 43 then 3 else if c = 45 then 3 else if c = 47 then 4 else if c = 60 then 2 else if c = 61 then 2 else if c = 62 then 2 else if c = 219 then 0 else if c = 220 then 1 else -9
def doO (c : Int32) : Int32 := if c = 37 then 25 else if c = 42 then 23 else if c = 43 then 21 else if c = 45 then 22 else if c = 47 then 24 else if c = 60 then 19 else if c = 61 then 18 else if c = 62 then 20 else 15
def opO (c : Int32) : Int32 := if c = 37 then 19 else if c = 42 then 17 else if c = 43 then 15 else if c = 45 then 16 else if c = 47 then 18 else if c = 60 then 21 else if c = 61 then 20 else if c = 62 then 22 else if c = 219 then 11 else 12
section PSPEC
variable (tk : List zK) (fg : Nat) (rl : Nat → Nat → zP → zF Nat) (ro : Nat → zP → zF Nat)
def pBetween (i : Nat) (s : zP) : zF Nat := pb (pEnter i s) fun s _ => rl 0 (i + 1) (sNx s)
def pTry (i : Nat) (s : zP) : zF Nat := pb (pEnter i s) fun s _ => pb (sNo s) fun s _ => pb (sEm (sNx s) 5 0) fun s st => pb (ro (i + 1) s) fun s a => pb (sEm s 6 0) fun s en => pb (pWant tk 227 (sCd s st (5, Int32.ofNat s.2.2.1.length))) fun s _ => pb (ro (i + 1) s) fun s b => sNd (sCd s en (6, Int32.ofNat s.2.2.1.length)) (10, Int32.ofNat a, Int32.ofNat b, 0)
/-- the use of a name at hand, a NODE already; its node -/
def pUse (told n : Nat) (s : zP) : zF Nat := if kd tk s.1 = 3 then pb (sUs s (pl tk s.1, va tk s.1, told, none, n)) fun s u => .inl (sNx s, u) else .inr (some s.1)
/-- a name's code -/
def pEnd (d w : Int32) (u : Nat) (us : zU) (n : Nat) (s : zP) : zF Nat := pb (sEm s d w) fun s c => .inl (sSu s u (us.1, us.2.1, us.2.2.1, some c, us.2.2.2.2), n)
def pNamed (i : Nat) (s : zP) : zF Nat := pb (sNd s (1, 0, 0, 0)) fun s n => pb (sNo s) fun s _ => pb (pUse tk fg n s) fun s1 u =>
  if kd tk s1.1 = 91 then pb (pBetween rl i (sSn (sSu s1 u (pl tk s.1, va tk s.1, 0, none, n)) n (3, 0, 0, 0))) fun s2 a =>
    if kd tk s2.1 = 44 then pb (rl 0 (i + 1) (sNx (sSn s2 n (3, 0, Int32.ofNat a, 0)))) fun s3 b => pb (pWant tk 93 (sSn s3 n (4, 0, Int32.ofNat a, Int64.ofNat b))) fun s4 _ => pEnd 13 0 u (pl tk s.1, va tk s.1, 0, none, n) n s4
    else pb (pWant tk 93 (sSn s2 n (3, 0, Int32.ofNat a, 0))) fun s4 _ => pEnd 12 0 u (pl tk s.1, va tk s.1, 0, none, n) n s4
  else pEnd 7 0 u (pl tk s.1, va tk s.1, fg, none, n) n s1
def pSort (s : zP) : zF Nat := if 228 ≤ (kd tk s.1).toInt ∧ (kd tk s.1).toInt ≤ 235 then .inl (sNx s, ((kd tk s.1).toInt - 228).toNat) else .inr (some s.1)
/-- len 8, has 9, is 10, total 11 -/
def pAsked2 (d : Nat) (i so n : Nat) (s : zP) : zF Nat := pb (sNo s) fun s _ => pb (pUse tk 0 n s) fun s1 u =>
  if d = 11 ∧ kd tk s1.1 = 91 then pb (pBetween rl i s1) fun s2 a => pb (pWant tk 93 (sSn s2 n (9, 0, Int32.ofNat a, 0))) fun s3 _ => pEnd 14 0 u (pl tk s.1, va tk s.1, 0, none, n) n s3
  else pEnd (Int32.ofNat d) (Int32.ofNat so) u (pl tk s.1, va tk s.1, 0, none, n) n s1
def pAsked (d : Nat) (i : Nat) (s : zP) : zF Nat := pb (sNd s (Int32.ofNat (d - 3), 0, 0, 0)) fun s n => pb (sNo s) fun s _ => pb (if d = 10 then pSort tk (sNx s) else .inl (sNx s, 0)) fun s so => pAsked2 tk rl d i so n (sSn s n (Int32.ofNat (d - 3), 0, Int32.ofNat so, 0))
def pBase (i : Nat) (s : zP) : zF Nat :=
  if kd tk s.1 = 2 then pb (sNo s) fun s _ => pb (sEm s 1 (va tk s.1).toInt32) fun s _ => pb (sNd s (0, 0, 0, va tk s.1)) fun s n => .inl (sNx s, n)
  else if kd tk s.1 = 3 then pNamed tk fg rl i s
  else if kd tk s.1 = 40 then pb (pBetween rl i s) fun s n => pb (pWant tk 41 s) fun s _ => .inl (s, n)
  else if kd tk s.1 = 222 then pAsked tk rl 8 i s
  else if kd tk s.1 = 223 then pAsked tk rl 9 i s
  else if kd tk s.1 = 224 then pAsked tk rl 10 i s
  else if kd tk s.1 = 225 then pAsked tk rl 11 i s
  else if kd tk s.1 = 226 then pTry tk ro i s
  else .inr (some s.1)
def pOne (i : Nat) (s : zP) : zF Nat :=
  if kd tk s.1 = 45 ∨ kd tk s.1 = 221 then pb (pEnter i s) fun s1 _ => pb (sNo s1) fun s1 _ => pb (ro (i + 1) (sNx s1)) fun s2 n => pb (sEm s2 (if kd tk s.1 = 45 then 16 else 17) 0) fun s3 _ => sNd s3 (if kd tk s.1 = 45 then 14 else 13, Int32.ofNat n, 0, 0)
  else pBase tk fg rl ro i s
def pLoop : Nat → Nat → Nat → Nat → zP → zF Nat
  | 0, _, _, _, _ => .inr none
  | f + 1, l, i, n, s => if lvO (kd tk s.1) = Int32.ofNat l then
      pb (sNo s) fun s1 _ => pb (if l < 2 then sEm (sNx s1) (if kd tk s.1 = 219 then 3 else 4) 0 else .inl (sNx s1, 0)) fun s2 sk => pb (rl (l + 1) i s2) fun s3 m => pb (sEm s3 (doO (kd tk s.1)) 0) fun s4 _ => pb (sNd (if l < 2 then sCd s4 sk (if kd tk s.1 = 219 then 3 else 4, Int32.ofNat s4.2.2.1.length) else s4) (opO (kd tk s.1), Int32.ofNat n, Int32.ofNat m, 0)) fun s5 n2 =>
      if l = 2 then .inl (s5, n2) else pLoop f l i n2 s5
    else .inl (s, n)
def pLevel (l i : Nat) (s : zP) : zF Nat := if l ≤ 4 then pb (rl (l + 1) i s) fun s n => pLoop tk rl 251 l i n s else ro i s
end PSPEC
def pFix (tk : List zK) (fg : Nat) : Nat → (Nat → Nat → zP → zF Nat) × (Nat → zP → zF Nat)
  | 0 => (fun _ _ _ => .inr none, fun _ _ => .inr none)
  | n + 1 => (pLevel tk (pFix tk fg n).1 (pFix tk fg n).2, pOne tk fg (pFix tk fg n).1 (pFix tk fg n).2)
