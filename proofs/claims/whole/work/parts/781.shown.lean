/-! WHAT IS SHOWN -/
/-- the part that a part stands in -/
def pnR (F : yF) (p : Nat) : Option Nat := match F.1[p]? with
  | none => none
  | some P => if P.2.1 = -9 then none else some P.2.1.toInt.toNat
def hd1 (r : yR × yW) : Bool × yW := match r with
  | (.inr _, w') => (false, w')
  | (.inl v, w') => (decide (v ≠ 0), w')
def hdR (F : yF) (A : List (Option yO)) (En : List (Int64 × Int32)) (K p : Nat) (w : yW) : Bool × yW := match F.1[p]? with
  | none => (false, w)
  | some P => hd1 (cdR F A En K P w)
/-- one, then, if it was true, the other -/
def thR (r : Bool × yW) (f : yW → Bool × yW) : Bool × yW := if r.1 then f r.2 else (false, r.2)
def shR (F : yF) (A : List (Option yO)) (En : List (Int64 × Int32)) (K : Nat) : Nat → Nat → yW → Bool × yW
  | 0, _, w => (false, w)
  | k + 1, p, w => match pnR F p with
    | none => hdR F A En K p w
    | some g => thR (shR F A En K k g w) (hdR F A En K p)
/-- q is p, or p stands in q -/
def arR (F : yF) (q : Nat) : Nat → Nat → Bool
  | 0, _ => false
  | k + 1, p => if p = q then true else match pnR F p with
    | none => false
    | some g => arR F q k g
def lpR (F : yF) (A : List (Option yO)) (En : List (Int64 × Int32)) (K p : Nat) : Nat → Nat → yW → Bool × yW
  | 0, _, w => (true, w)
  | k + 1, i, w => if arR F i 20 p then thR (hdR F A En K i w) (lpR F A En K p k (i + 1)) else lpR F A En K p k (i + 1) w
section SHOWN
variable {F : yF} {A : List (Option yO)} {En : List (Int64 × Int32)} {K : Nat}
theorem pn_lt (hok : yFok F) {p g : Nat} (h : pnR F p = some g) : g < p ∧ p < 20 ∧ ∃ P, F.1[p]? = some P ∧ P.2.1 = Int32.ofNat g := by
  obtain ⟨fe, _, _, hfe, _, hl20, hl12, _, _, hPs⟩ := hok
  unfold pnR at h
  rcases hp : F.1[p]? with _ | P
  · rw [hp] at h; cases h
  · rw [hp] at h
    have h : (if P.2.1 = -9 then none else some P.2.1.toInt.toNat) = some g := h
    have hpl := (List.getElem?_eq_some_iff.mp hp).1
    rcases (hPs p P hp).2.1 with e | ⟨g', l, e⟩
    · rw [if_pos e] at h; cases h
    · have hne : ¬ P.2.1 = -9 := by rw [e, xi32_eq, yi_nat (by omega), y_m9]; omega
      rw [if_neg hne] at h
      have hg : g = g' := by
        injection h with h
        rw [← h, e, yi_nat (by omega)]; omega
      subst hg
      exact ⟨l, by omega, P, rfl, e⟩
theorem ar_st (hok : yFok F) {q : Nat} : ∀ (k k' p : Nat), p < k → p < k' → arR F q k p = arR F q k' p
  | 0, _, _, h, _ => by omega
  | _ + 1, 0, _, _, h => by omega
  | k + 1, k' + 1, p, h, h' => by
    rw [arR, arR]
    by_cases e : p = q
    · rw [if_pos e, if_pos e]
    · rw [if_neg e, if_neg e]
      rcases hg : pnR F p with _ | g
      · rfl
      · have := (pn_lt hok hg).1
        exact ar_st hok k k' g (by omega) (by omega)
theorem ar_pn (hok : yFok F) {q p g : Nat} (hp : p < 20) (hne : p ≠ q) (hg : pnR F p = some g) : arR F q 20 p = arR F q 20 g := by
  have hl := (pn_lt hok hg).1
  rw [arR, if_neg hne, hg]
  exact ar_st hok 19 20 g (by omega) (by omega)
theorem ar_no {q p : Nat} (hne : p ≠ q) (hg : pnR F p = none) : arR F q 20 p = false := by
  rw [arR, if_neg hne, hg]
theorem ar_self {p : Nat} : arR F p 20 p = true := by rw [arR, if_pos rfl]
theorem ar_le (hok : yFok F) {q : Nat} : ∀ (k p : Nat), arR F q k p = true → q ≤ p
  | 0, _, h => by cases h
  | k + 1, p, h => by
    rw [arR] at h
    by_cases e : p = q
    · omega
    · rw [if_neg e] at h
      rcases hg : pnR F p with _ | g
      · rw [hg] at h; cases h
      · rw [hg] at h
        have h1 := (pn_lt hok hg).1
        have h2 := ar_le hok k g h
        omega
theorem thR_as {r : Bool × yW} {f g : yW → Bool × yW} : thR (thR r f) g = thR r (fun w => thR (f w) g) := by
  obtain ⟨b, w⟩ := r
  cases b <;> rfl
theorem lp_split {p : Nat} : ∀ (a b i : Nat) (w : yW), lpR F A En K p (a + b) i w = thR (lpR F A En K p a i w) (lpR F A En K p b (i + a))
  | 0, b, i, w => by
    rw [Nat.zero_add]; rfl
  | a + 1, b, i, w => by
    rw [show a + 1 + b = (a + b) + 1 by omega, lpR, lpR]
    have e : ∀ w, lpR F A En K p (a + b) (i + 1) w = thR (lpR F A En K p a (i + 1) w) (lpR F A En K p b (i + (a + 1))) := fun w => by
      rw [lp_split a b (i + 1) w, show i + 1 + a = i + (a + 1) by omega]
    split
    · rw [thR_as]
      congr 1
      funext w'
      exact e w'
    · exact e w
theorem lp_cong {p q : Nat} : ∀ (a i : Nat) (w : yW), (∀ x, i ≤ x → x < i + a → arR F x 20 p = arR F x 20 q) → lpR F A En K p a i w = lpR F A En K q a i w
  | 0, _, _, _ => rfl
  | a + 1, i, w, h => by
    rw [lpR, lpR, h i (Nat.le_refl _) (by omega)]
    have e : ∀ w, lpR F A En K p a (i + 1) w = lpR F A En K q a (i + 1) w := fun w => lp_cong a (i + 1) w (fun x h1 h2 => h x (by omega) (by omega))
    split
    · congr 1
      funext w'
      exact e w'
    · exact e w
theorem lp_skip {p : Nat} : ∀ (a i : Nat) (w : yW), (∀ x, i ≤ x → x < i + a → arR F x 20 p = false) → lpR F A En K p a i w = (true, w)
  | 0, _, _, _ => rfl
  | a + 1, i, w, h => by
    rw [lpR, h i (Nat.le_refl _) (by omega), if_neg (by decide)]
    exact lp_skip a (i + 1) w (fun x h1 h2 => h x (by omega) (by omega))
theorem lp_one {p : Nat} {w : yW} : lpR F A En K p 1 p w = hdR F A En K p w := by
  rw [lpR, ar_self, if_pos rfl]
  unfold thR
  rcases hdR F A En K p w with ⟨b, w'⟩
  cases b <;> rfl
theorem lp_sh (hok : yFok F) : ∀ (k p : Nat) (w : yW), p < k → p < 20 → lpR F A En K p (p + 1) 0 w = shR F A En K k p w
  | 0, _, _, h, _ => by omega
  | k + 1, p, w, h, hp => by
    rw [shR]
    rcases hg : pnR F p with _ | g
    · rw [lp_split p 1 0 w, lp_skip p 0 w (fun x _ hx => ar_no (by omega) hg), Nat.zero_add]
      exact lp_one
    · have hl := (pn_lt hok hg).1
      show _ = thR (shR F A En K k g w) (hdR F A En K p)
      rw [← lp_sh hok k g w (by omega) (by omega), show p + 1 = (g + 1) + ((p - g - 1) + 1) by omega, lp_split (g + 1) _ 0 w, lp_cong (g + 1) 0 w (q := g) (fun x _ hx => ar_pn hok hp (by omega) hg)]
      congr 1
      funext w'
      rw [lp_split (p - g - 1) 1 _ w', lp_skip (p - g - 1) _ w' (fun x h1 h2 => ?_)]
      · show lpR F A En K p 1 (0 + (g + 1) + (p - g - 1)) w' = _
        rw [show 0 + (g + 1) + (p - g - 1) = p by omega]
        exact lp_one
      · rcases hx : arR F x 20 p with _ | _
        · rfl
        · rw [ar_pn hok hp (by omega) hg] at hx
          have := ar_le hok 20 g hx
          omega
end SHOWN
