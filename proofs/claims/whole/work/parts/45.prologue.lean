/-! THE LAW UP TO ITS LOOP -/
/-- a masked heap filled up -/
def xmg : xH → xH → xH
  | [], _ => []
  | c :: r, [] => c :: xmg r []
  | c :: r, d :: q => (if xceq c xdum then d else c) :: xmg r q
def xnd : xH → xH → Bool
  | [], _ => true
  | c :: r, [] => !xceq c xdum && xnd r []
  | c :: r, d :: q => (!xceq c xdum || xceq d xdum) && xnd r q
theorem xmg_len : ∀ (a b : xH), (xmg a b).length = a.length
  | [], _ => rfl
  | c :: r, [] => by unfold xmg; simp [xmg_len r []]
  | c :: r, d :: q => by unfold xmg; simp [xmg_len r q]
theorem xceq_dum {c : xC} : xceq c xdum = true ↔ c = xdum := ⟨xceq_ok, fun h => by rw [h]; decide⟩
theorem xmg_at : ∀ (a b : xH) (k : Nat) (c : xC), a[k]? = some c → (xmg a b)[k]? = if xceq c xdum then (match b[k]? with | some d => some d | none => some c) else some c
  | [], _, k, c, h => by cases h
  | c :: r, [], 0, c', h => by cases h; unfold xmg; simp
  | c :: r, [], k + 1, c', h => by
    unfold xmg
    have := xmg_at r [] k c' h
    simpa using this
  | c :: r, d :: q, 0, c', h => by
    cases h
    unfold xmg
    show some (if xceq c xdum then d else c) = _
    split <;> rfl
  | c :: r, d :: q, k + 1, c', h => by
    unfold xmg
    have := xmg_at r q k c' h
    simpa using this
theorem xnd_at : ∀ (a b : xH), xnd a b = true → ∀ k : Nat, a[k]? = some xdum → b[k]? = some xdum
  | [], _, _, k, h => by cases h
  | c :: r, [], e, 0, h => by
    cases h
    unfold xnd at e
    have : xceq xdum xdum = true := by decide
    simp [this] at e
  | c :: r, [], e, k + 1, h => by
    unfold xnd at e
    rw [Bool.and_eq_true] at e
    have := xnd_at r [] e.2 k h
    cases this
  | c :: r, d :: q, e, 0, h => by
    cases h
    unfold xnd at e
    have h1 : xceq xdum xdum = true := by decide
    simp [h1] at e
    show some d = _
    rw [xceq_dum.mp e.1]
  | c :: r, d :: q, e, k + 1, h => by
    unfold xnd at e
    rw [Bool.and_eq_true] at e
    exact xnd_at r q e.2 k h
/-- a run on a masked heap is a run on the heap -/
theorem xunmask {f fr lo mi ip : Nat} {L : xL} {st : List Value} {h h' g : xH} {v : Option Value} (e : xex xcns xpr f fr lo mi ip L st h = some (v, h')) (hn : xnd h' h = true) (m : xMk3 h g) : xex xcns xpr f fr lo mi ip L st g = some (v, xmg h' g) := by
  obtain ⟨g', q1, q2, q3⟩ := xframe (by decide +kernel) f fr lo mi ip L st h v h' e f fr lo g (Nat.le_refl _) (Nat.le_refl _) (Nat.le_refl _) m
  rw [q1]
  congr 2
  apply List.ext_getElem?
  intro k
  cases hk : h'[k]? with
  | none =>
    have h1 : h'.length ≤ k := by simpa using hk
    rw [List.getElem?_eq_none (by rw [← q2.1]; exact h1), List.getElem?_eq_none (by rw [xmg_len]; exact h1)]
  | some c =>
    rw [xmg_at _ _ _ _ hk]
    by_cases hc : xceq c xdum = true
    · rw [if_pos hc]
      have ec := xceq_ok hc
      subst ec
      have := xnd_at _ _ hn k hk
      rw [(q3 k this).2]
      have hl : k < g.length := by rw [← m.1]; exact (List.getElem?_eq_some_iff.mp this).1
      rw [List.getElem?_eq_getElem hl]
    · rw [if_neg hc]
      exact (q2.2 k c hk).resolve_left (fun q => hc (by rw [q]; decide))
/-- a mask, decided cell by cell -/
def xmk : xH → xH → Prop
  | [], [] => True
  | c :: r, d :: q => (c = xdum ∨ c = d) ∧ xmk r q
  | _, _ => False
theorem xmk_ok : ∀ {a b : xH}, xmk a b → xMk3 a b
  | [], [], _ => xMk3.rf
  | c :: r, d :: q, h => by
    obtain ⟨h1, h2⟩ := h
    have := xmk_ok h2
    refine ⟨by simp [this.1], fun k c' hk => ?_⟩
    cases k with
    | zero =>
      cases hk
      rcases h1 with h1 | h1
      · exact Or.inl h1
      · right; rw [h1]; rfl
    | succ k => exact this.2 k c' hk
  | [], _ :: _, h => h.elim
  | _ :: _, [], h => h.elim
theorem xmk_app {a b c d : xH} (h1 : xmk a b) (h2 : xmk c d) : xmk (a ++ c) (b ++ d) := by
  induction a generalizing b with
  | nil => cases b with
    | nil => exact h2
    | cons _ _ => exact h1.elim
  | cons x r ih => cases b with
    | nil => exact h1.elim
    | cons y q => exact ⟨h1.1, ih h1.2⟩
theorem xmk_rf (a : xH) : xmk a a := by
  induction a with
  | nil => trivial
  | cons x r ih => exact ⟨Or.inr rfl, ih⟩
theorem xmk_dum (a : xH) : xmk (List.replicate a.length xdum) a := by
  induction a with
  | nil => trivial
  | cons x r ih => exact ⟨Or.inl rfl, ih⟩
/-- the heap at the law's loop, at the beginning -/
def xh1 (xs : List Int32) : xH := (.inr (0, xs.map Value.int) :: xold1) ++ (xnewF ++ xnewM)
theorem xnewF_n : xnewF.length = 131 := by decide +kernel
theorem xold1_n : xold1.length = 77 := by decide +kernel
theorem xmk_dum' {a : xH} {n : Nat} (h : a.length = n) : xmk (List.replicate n xdum) a := by rw [← h]; exact xmk_dum a
theorem xmg_app {a b c d : xH} (h : a.length = b.length) : xmg (a ++ c) (b ++ d) = xmg a b ++ xmg c d := by
  induction a generalizing b with
  | nil => cases b with
    | nil => rfl
    | cons _ _ => cases h
  | cons x r ih => cases b with
    | nil => cases h
    | cons y q =>
      show (if xceq x xdum then y else x) :: xmg (r ++ c) (q ++ d) = (if xceq x xdum then y else x) :: (xmg r q ++ xmg c d)
      rw [ih (by simpa using h)]
theorem xmg_rep {b : xH} {n : Nat} (h : b.length = n) : xmg (List.replicate n xdum) b = b := by
  subst h
  induction b with
  | nil => rfl
  | cons y q ih =>
    show (if xceq xdum xdum then y else xdum) :: xmg (List.replicate q.length xdum) q = y :: q
    rw [ih, if_pos (by decide)]
theorem xmg_nd : ∀ (a b : xH), a.all (fun c => !xceq c xdum) = true → xmg a b = a
  | [], _, _ => rfl
  | c :: r, [], h => by
    rw [List.all_cons, Bool.and_eq_true] at h
    unfold xmg
    rw [xmg_nd r [] h.2]
  | c :: r, d :: q, h => by
    rw [List.all_cons, Bool.and_eq_true] at h
    unfold xmg
    rw [xmg_nd r q h.2, if_neg (by simpa using h.1)]
theorem xold1_nd : xold1.all (fun c => !xceq c xdum) = true := by decide +kernel
theorem xnewF_nd : xnewF.all (fun c => !xceq c xdum) = true := by decide +kernel
theorem xnewM_nd : xnewM.all (fun c => !xceq c xdum) = true := by decide +kernel
theorem xmg_1 (c0 : xC) : xmg (xdum :: xold1) (c0 :: xold1) = c0 :: xold1 := by
  show (if xceq xdum xdum then c0 else xdum) :: xmg xold1 xold1 = _
  rw [if_pos (by decide), xmg_nd _ _ xold1_nd]
theorem xrunF (c0 : xC) : xR 100 5000 0 [.ref 78] ((c0 :: xold1) ++ [xobj 11]) none ((c0 :: xold1) ++ xnewF) := by
  refine ⟨xm_0, rfl, by decide, 20000, ?_⟩
  have h := xunmask (g := (c0 :: xold1) ++ [xobj 11]) xinitF (by decide +kernel) (xmk_ok (xmk_app ⟨Or.inl rfl, xmk_rf _⟩ (xmk_rf _)))
  rw [xmg_app (by rfl), xmg_1, xmg_nd _ _ xnewF_nd] at h
  exact h
theorem xrunM (c0 : xC) : xR 100 5000 207 [.ref 209] (((c0 :: xold1) ++ xnewF) ++ [xobj 14]) none (((c0 :: xold1) ++ xnewF) ++ xnewM) := by
  refine ⟨xm_207, rfl, by decide, 20000, ?_⟩
  have h := xunmask (g := ((c0 :: xold1) ++ xnewF) ++ [xobj 14]) xinitM (by decide +kernel) (xmk_ok (xmk_app (xmk_app ⟨Or.inl rfl, xmk_rf _⟩ (xmk_dum' xnewF_n)) (xmk_rf _)))
  rw [xmg_app (by simp [xnewF_n]), xmg_app (by rfl), xmg_1, xmg_rep xnewF_n, xmg_nd _ _ xnewM_nd] at h
  exact h
