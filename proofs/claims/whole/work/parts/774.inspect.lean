/-! FINDINGS: a function that says what is found -/
/-- where no figure is named, what FAILS arose where one stands -/
theorem okR_arose {r : Int64 ⊕ Int32} {cur : Int32} {w w' : yW} {x : Int32 × Int32} (h : okR r cur w = (.inr x, w')) : x.2 = cur := by
  rcases r with v | k
  · cases h
  · cases h; rfl
theorem evx_arose {F : yF} {A : List (Option yO)} {En : List (Int64 × Int32)} {fg : Int32 → yW → yR × yW} {cur : Int32} : ∀ (k s e : Nat) (n : Int32) (w w' : yW) (x : Int32 × Int32), yRep F 0 k s e n → evx F A En fg k cur n w = (.inr x, w') → x.2 = cur
  | 0, _, _, _, _, _, _, h, _ => absurd h id
  | k + 1, s, e, n, w, w', x, h, hv => by
    obtain ⟨hn0, op, one, two, val, h3, h⟩ := h
    have ih := evx_arose (F := F) (A := A) (En := En) (fg := fg) (cur := cur) k
    rcases h with ⟨rfl, q1, v, q2, q3⟩ | ⟨rfl, q1, q2, q3⟩ | ⟨rfl, q1, q2, q3, q4⟩ | ⟨rfl, q1, q2, q3, q4⟩ | ⟨rfl, q1, t, q2, q3, q4, q5⟩ | ⟨rfl, q1, q2, q3⟩ | ⟨rfl, q1, q2, q3⟩ | ⟨rfl, q1, q2, q3, q4, q5⟩ | ⟨rfl, q1, q2, q3⟩ | ⟨rfl, q1, q2, q3, q4⟩ | ⟨rfl, t, q1, q2, q3, q4⟩ | ⟨q0, q1, t, q2, q3, q4, q5⟩ | ⟨q0, q1, q2, q3⟩ | ⟨q0, q0', q1, t, q2, q3, q4⟩
    · rw [evx_s h3, if_pos rfl] at hv; cases hv
    · rw [evx_s h3, if_neg (by decide), if_pos rfl] at hv; exact okR_arose hv
    · omega
    · rw [evx_3 h3] at hv
      rcases hr : evx F A En fg k cur two w with ⟨v | y, w1⟩
      · rw [hr] at hv; exact okR_arose hv
      · rw [hr] at hv; cases hv; exact ih _ _ _ _ _ _ q2 hr
    · rw [evx_4 h3] at hv
      rcases hr : evx F A En fg k cur two w with ⟨v | y, w1⟩
      · rw [hr] at hv
        replace hv : (match evx F A En fg k cur val.toInt32 w1 with
          | (.inr e, w2) => (.inr e, w2)
          | (.inl j, w2) => okR (cellR (anR A one) v.toInt32 j.toInt32) cur w2) = (.inr x, w') := hv
        rcases hr2 : evx F A En fg k cur val.toInt32 w1 with ⟨v2 | y2, w2⟩
        · rw [hr2] at hv; exact okR_arose hv
        · rw [hr2] at hv; cases hv; exact ih _ _ _ _ _ _ q3 hr2
      · rw [hr] at hv; cases hv; exact ih _ _ _ _ _ _ q2 hr
    · rw [evx_s h3, if_neg (by decide), if_neg (by decide), if_neg (by decide), if_neg (by decide), if_neg (by decide), if_pos rfl] at hv; exact okR_arose hv
    · rw [evx_s h3, if_neg (by decide), if_neg (by decide), if_neg (by decide), if_neg (by decide), if_neg (by decide), if_neg (by decide), if_pos rfl] at hv; cases hv
    · rw [evx_7 h3] at hv; cases hv
    · rw [evx_s h3, if_neg (by decide), if_neg (by decide), if_neg (by decide), if_neg (by decide), if_neg (by decide), if_neg (by decide), if_neg (by decide), if_neg (by decide), if_pos rfl] at hv; exact okR_arose hv
    · rw [evx_9 h3] at hv
      rcases hr : evx F A En fg k cur two w with ⟨v | y, w1⟩
      · rw [hr] at hv; exact okR_arose hv
      · rw [hr] at hv; cases hv; exact ih _ _ _ _ _ _ q2 hr
    · rw [evx_10 h3] at hv
      rcases hr : evx F A En fg k cur one w with ⟨v | y, w1⟩
      · rw [hr] at hv; cases hv
      · rw [hr] at hv
        exact ih _ _ _ _ _ _ q4 hv
    · rw [evx_pair (by rcases q0 with h | h; exact Or.inl h; exact Or.inr (Or.inl h)) h3] at hv
      rcases hr : evx F A En fg k cur one w with ⟨v | y, w1⟩
      · rw [hr] at hv
        replace hv : (if op = 11 ∧ v ≠ 0 then (.inl 1, w1) else if op = 12 ∧ v = 0 then (.inl 0, w1) else
          match evx F A En fg k cur two w1 with
          | (.inr e, w2) => (.inr e, w2)
          | (.inl y, w2) => if op = 11 ∨ op = 12 then (.inl (if y = 0 then 0 else 1), w2) else okR (prR op v y) cur w2) = (.inr x, w') := hv
        split at hv
        · cases hv
        split at hv
        · cases hv
        rcases hr2 : evx F A En fg k cur two w1 with ⟨v2 | y2, w2⟩
        · rw [hr2] at hv
          cases hv
        · rw [hr2] at hv; cases hv; exact ih _ _ _ _ _ _ q4 hr2
      · rw [hr] at hv; cases hv; exact ih _ _ _ _ _ _ q2 hr
    · rcases q0 with rfl | rfl
      · rw [evx_13 h3] at hv
        rcases hr : evx F A En fg k cur one w with ⟨v | y, w1⟩
        · rw [hr] at hv; cases hv
        · rw [hr] at hv; cases hv; exact ih _ _ _ _ _ _ q2 hr
      · rw [evx_14 h3] at hv
        rcases hr : evx F A En fg k cur one w with ⟨v | y, w1⟩
        · rw [hr] at hv; cases hv
        · rw [hr] at hv; cases hv; exact ih _ _ _ _ _ _ q2 hr
    · rw [evx_pair (Or.inr (Or.inr ⟨q0, q0'⟩)) h3] at hv
      rcases hr : evx F A En fg k cur one w with ⟨v | y, w1⟩
      · rw [hr] at hv
        replace hv : (if op = 11 ∧ v ≠ 0 then (.inl 1, w1) else if op = 12 ∧ v = 0 then (.inl 0, w1) else
          match evx F A En fg k cur two w1 with
          | (.inr e, w2) => (.inr e, w2)
          | (.inl y, w2) => if op = 11 ∨ op = 12 then (.inl (if y = 0 then 0 else 1), w2) else okR (prR op v y) cur w2) = (.inr x, w') := hv
        split at hv
        · cases hv
        split at hv
        · cases hv
        rcases hr2 : evx F A En fg k cur two w1 with ⟨v2 | y2, w2⟩
        · rw [hr2] at hv
          replace hv : (if op = 11 ∨ op = 12 then (.inl (if v2 = 0 then 0 else 1), w2) else okR (prR op v v2) cur w2) = (.inr x, w') := hv
          split at hv
          · cases hv
          · exact okR_arose hv
        · rw [hr2] at hv; cases hv; exact ih _ _ _ _ _ _ q3 hr2
      · rw [hr] at hv; cases hv; exact ih _ _ _ _ _ _ q2 hr
/-- a finding: kind, part, check, message, where it arose -/
abbrev yFd : Type := Int32 × Int32 × Int32 × Int32 × Int32
/-- working, what is shown of the parts so far, findings -/
abbrev yI : Type := yW × List Bool × List yFd
/-- a condition's worth -/
def cdR (F : yF) (A : List (Option yO)) (En : List (Int64 × Int32)) (K : Nat) (P : yPt) (w : yW) : yR × yW := if P.2.2.2.2.2.2.1 = -9 then (.inl 1, w) else evx F A En (figx F A En K 12) K (-9) P.2.2.2.2.2.2.1 w
abbrev isOp (P : yPt) (sh : List Bool) : Prop := P.2.1 = -9 ∨ sh[P.2.1.toInt.toNat]? = some true
def fdAns (A : List (Option yO)) (p : Nat) (P : yPt) (w : yW) : Int32 × yW := match anR A (Int32.ofNat p) with
  | none => (if P.2.2.1 = 1 then 7 else 0, w)
  | some y => (jdOne P y, if jdE (jdOne P y) then (w.1 + 1, w.2) else w)
def fdAdd (c : Int32) (p : Nat) (fd : List yFd) : List yFd := if c = 0 then fd else fd ++ [(c, Int32.ofNat p, -9, 0, -9)]
def ipPart (F : yF) (A : List (Option yO)) (En : List (Int64 × Int32)) (K : Nat) (p : Nat) (P : yPt) (st : yI) : yI :=
  if ¬ isOp P st.2.1 then (st.1, st.2.1 ++ [false], st.2.2) else match cdR F A En K P st.1 with
  | (.inr x, w') => (w', st.2.1 ++ [false], st.2.2 ++ [(x.1, Int32.ofNat p, -9, 0, -9)])
  | (.inl v, w') => if v = 0 then (w', st.2.1 ++ [false], st.2.2) else if P.1 = 11 then (w', st.2.1 ++ [true], st.2.2) else ((fdAns A p P w').2, st.2.1 ++ [true], fdAdd (fdAns A p P w').1 p st.2.2)
def ipParts (F : yF) (A : List (Option yO)) (En : List (Int64 × Int32)) (K : Nat) : Nat → List yPt → yI → yI
  | _, [], st => st
  | p, P :: r, st => ipParts F A En K (p + 1) r (ipPart F A En K p P st)
def ipChk (F : yF) (A : List (Option yO)) (En : List (Int64 × Int32)) (K : Nat) (i : Nat) (c : Int32 × Int32 × Int32) (st : yI) : yI := match evx F A En (figx F A En K 12) K (-9) c.2.1 st.1 with
  | (.inr x, w') => (w', st.2.1, st.2.2 ++ [(x.1, -9, Int32.ofNat i, c.1, x.2)])
  | (.inl v, w') => (w', st.2.1, if v = 0 then st.2.2 ++ [(9, -9, Int32.ofNat i, c.1, -9)] else st.2.2)
def ipChks (F : yF) (A : List (Option yO)) (En : List (Int64 × Int32)) (K : Nat) : Nat → List (Int32 × Int32 × Int32) → yI → yI
  | _, [], st => st
  | i, c :: r, st => ipChks F A En K (i + 1) r (ipChk F A En K i c st)
def w0R (ev : Int32) : yW := (ev, 0, 0, List.replicate 12 none)
def inspR (F : yF) (A : List (Option yO)) (En : List (Int64 × Int32)) (K : Nat) (ev : Int32) : yI := ipChks F A En K 0 F.2.2.1 (ipParts F A En K 0 F.1 (w0R ev, [], []))
theorem ipPart_len {F : yF} {A : List (Option yO)} {En : List (Int64 × Int32)} {K p : Nat} {P : yPt} {st : yI} : (ipPart F A En K p P st).2.1.length = st.2.1.length + 1 ∧ (ipPart F A En K p P st).2.2.length ≤ st.2.2.length + 1 := by
  unfold ipPart
  split
  · exact ⟨by simp, by simp⟩
  · rcases cdR F A En K P st.1 with ⟨v | x, w'⟩
    · show (if v = 0 then (w', st.2.1 ++ [false], st.2.2) else if P.1 = 11 then (w', st.2.1 ++ [true], st.2.2) else ((fdAns A p P w').2, st.2.1 ++ [true], fdAdd (fdAns A p P w').1 p st.2.2) : yI).2.1.length = _ ∧ (if v = 0 then (w', st.2.1 ++ [false], st.2.2) else if P.1 = 11 then (w', st.2.1 ++ [true], st.2.2) else ((fdAns A p P w').2, st.2.1 ++ [true], fdAdd (fdAns A p P w').1 p st.2.2) : yI).2.2.length ≤ _
      split
      · exact ⟨by simp, by simp⟩
      split
      · exact ⟨by simp, by simp⟩
      · refine ⟨by simp, ?_⟩
        show (fdAdd _ _ _).length ≤ _
        unfold fdAdd
        split <;> simp
    · exact ⟨by simp, by simp⟩
theorem ipChk_len {F : yF} {A : List (Option yO)} {En : List (Int64 × Int32)} {K i : Nat} {c : Int32 × Int32 × Int32} {st : yI} : (ipChk F A En K i c st).2.2.length ≤ st.2.2.length + 1 := by
  unfold ipChk
  rcases evx F A En (figx F A En K 12) K (-9) c.2.1 st.1 with ⟨v | x, w'⟩
  · show (if v = 0 then st.2.2 ++ [(9, -9, Int32.ofNat i, c.1, -9)] else st.2.2 : List yFd).length ≤ _
    split <;> simp
  · show (st.2.2 ++ [(x.1, -9, Int32.ofNat i, c.1, x.2)]).length ≤ _
    simp
