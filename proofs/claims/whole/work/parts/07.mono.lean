/-! THE HEAP ONLY GROWS -/
def xsz (c : xC) : Nat := match c with
  | .inl o => o.2.length
  | .inr a => a.2.length
def xsl (h : xH) : Nat := (h.map xsz).sum
theorem xsl_app (h g : xH) : xsl (h ++ g) = xsl h + xsl g := by simp [xsl]
theorem xsl_set {h : xH} {k : Nat} {c d : xC} (hk : h[k]? = some c) (hz : xsz d = xsz c) : xsl (h.set k d) = xsl h := by
  induction h generalizing k with
  | nil => cases hk
  | cons a r ih =>
    cases k with
    | zero =>
      have e : a = c := Option.some.inj hk
      subst e
      show xsz d + xsl r = xsz a + xsl r
      rw [hz]
    | succ k =>
      show xsz a + xsl (r.set k d) = xsz a + xsl r
      rw [ih hk]
def xle (h g : xH) : Prop := h.length ≤ g.length ∧ xsl h ≤ xsl g
theorem xle.rf {h : xH} : xle h h := ⟨Nat.le_refl _, Nat.le_refl _⟩
theorem xle.tr {a b c : xH} (h1 : xle a b) (h2 : xle b c) : xle a c := ⟨Nat.le_trans h1.1 h2.1, Nat.le_trans h1.2 h2.2⟩
theorem xle.app {h g : xH} : xle h (h ++ g) := ⟨by simp, by rw [xsl_app]; omega⟩
theorem xputf_le {n0 k ci j : Nat} {h h1 : xH} {v : Value} (hg : xputf n0 h k ci j v = some h1) : xle h h1 ∧ h1.length = h.length ∧ xsl h1 = xsl h := by
  unfold xputf at hg
  split at hg
  · rename_i c fs hk
    split at hg
    · cases hg
      have e1 : (h.set k (.inl (c, fs.set j v))).length = h.length := List.length_set
      have e2 : xsl (h.set k (.inl (c, fs.set j v))) = xsl h := xsl_set hk (by simp [xsz])
      exact ⟨⟨by rw [e1]; exact Nat.le_refl _, by rw [e2]; exact Nat.le_refl _⟩, e1, e2⟩
    · cases hg
  · cases hg
theorem xputi_le {n0 k t : Nat} {h h1 : xH} {i : Int32} {v : Value} (hg : xputi n0 h k i v = some (t, h1)) : xle h h1 ∧ h1.length = h.length ∧ xsl h1 = xsl h := by
  unfold xputi at hg
  split at hg
  · rename_i c fs hk
    split at hg
    · cases hg
      have e1 : (h.set k (.inr (t, fs.set i.toNatClampNeg v))).length = h.length := List.length_set
      have e2 : xsl (h.set k (.inr (t, fs.set i.toNatClampNeg v))) = xsl h := xsl_set hk (by simp [xsz])
      exact ⟨⟨by rw [e1]; exact Nat.le_refl _, by rw [e2]; exact Nat.le_refl _⟩, e1, e2⟩
    · cases hg
  · cases hg
theorem xacopy_le {n0 sr ds : Nat} {h h1 : xH} {sp dp n : Int32} (hg : xacopy n0 h sr sp ds dp n = some h1) : xle h h1 ∧ h1.length = h.length ∧ xsl h1 = xsl h := by
  unfold xacopy at hg
  split at hg
  · rename_i t0 vs t1 ws e1 e2
    split at hg
    · rename_i hc
      simp only [xacok, Bool.and_eq_true, decide_eq_true_eq] at hc
      cases hg
      have e1 : (h.set ds (.inr (t1, xcpy vs ws sp.toNatClampNeg dp.toNatClampNeg n.toNatClampNeg))).length = h.length := List.length_set
      have e2 : xsl (h.set ds (.inr (t1, xcpy vs ws sp.toNatClampNeg dp.toNatClampNeg n.toNatClampNeg))) = xsl h := xsl_set e2 (by simp [xsz, xcpy]; omega)
      exact ⟨⟨by rw [e1]; exact Nat.le_refl _, by rw [e2]; exact Nat.le_refl _⟩, e1, e2⟩
    · cases hg
  · cases hg
set_option maxHeartbeats 4000000 in
theorem xmono {cn : List String} {P : xP} : ∀ (f fr lo mi ip : Nat) (L : xL) (st : List Value) (h : xH) (r : Option Value) (h' : xH), xex cn P f fr lo mi ip L st h = some (r, h') → xle h h' := by
  intro f
  induction f with
  | zero => intro fr lo mi ip L st h r h' hx; cases hx
  | succ f ih =>
    intro fr lo mi ip L st h r h' hx
    unfold xex at hx
    split at hx
    · cases hx
    · split at hx
      · cases hx
      · split at hx
        -- getfield
        · split at hx
          · split at hx
            · exact ih _ _ _ _ _ _ _ _ _ hx
            · cases hx
          · cases hx
        -- putfield
        · split at hx
          · split at hx
            · split at hx
              · split at hx
                · split at hx
                  · rename_i hp
                    exact (xputf_le hp).1.tr (ih _ _ _ _ _ _ _ _ _ hx)
                  · cases hx
                · cases hx
              · cases hx
            · cases hx
          · cases hx
        -- getstatic
        · split at hx
          · exact ih _ _ _ _ _ _ _ _ _ hx
          · cases hx
        -- iaload laload baload aaload
        iterate 4
          · split at hx
            · split at hx
              · split at hx
                · exact ih _ _ _ _ _ _ _ _ _ hx
                · cases hx
              · cases hx
            · cases hx
        -- iastore lastore bastore
        iterate 3
          · split at hx
            · split at hx
              · rename_i hp
                split at hx
                · exact (xputi_le hp).1.tr (ih _ _ _ _ _ _ _ _ _ hx)
                · cases hx
              · cases hx
            · cases hx
        -- aastore
        · split at hx
          · split at hx
            · rename_i hp
              split at hx
              · split at hx
                · exact (xputi_le hp).1.tr (ih _ _ _ _ _ _ _ _ _ hx)
                · cases hx
              · cases hx
            · cases hx
          · cases hx
        -- arraylength
        · split at hx
          · split at hx
            · split at hx
              · exact ih _ _ _ _ _ _ _ _ _ hx
              · cases hx
            · cases hx
          · cases hx
        -- new
        · split at hx
          · exact xle.app.tr (ih _ _ _ _ _ _ _ _ _ hx)
          · cases hx
        -- newarray
        · split at hx
          · split at hx
            · split at hx
              · cases hx
              · exact xle.app.tr (ih _ _ _ _ _ _ _ _ _ hx)
            · cases hx
          · cases hx
        -- anewarray
        · split at hx
          · split at hx
            · cases hx
            · exact xle.app.tr (ih _ _ _ _ _ _ _ _ _ hx)
          · cases hx
        -- multianewarray
        · split at hx
          · split at hx
            · split at hx
              · cases hx
              · exact xle.app.tr (ih _ _ _ _ _ _ _ _ _ hx)
            · cases hx
          · cases hx
        -- invokevirtual
        · split at hx
          · split at hx
            · split at hx
              · split at hx
                · split at hx
                  · rename_i hc
                    exact (ih _ _ _ _ _ _ _ _ _ hc).tr (ih _ _ _ _ _ _ _ _ _ hx)
                  · cases hx
                · cases hx
              · cases hx
            · cases hx
          · cases hx
        -- invokespecial
        · split at hx
          · split at hx
            · split at hx
              · exact ih _ _ _ _ _ _ _ _ _ hx
              · cases hx
            · cases hx
          · split at hx
            · split at hx
              · split at hx
                · split at hx
                  · rename_i hc
                    exact (ih _ _ _ _ _ _ _ _ _ hc).tr (ih _ _ _ _ _ _ _ _ _ hx)
                  · cases hx
                · cases hx
              · cases hx
            · cases hx
        -- invokestatic
        · split at hx
          · split at hx
            · split at hx
              · rename_i hp
                split at hx
                · exact (xacopy_le hp).1.tr (ih _ _ _ _ _ _ _ _ _ hx)
                · cases hx
              · cases hx
            · cases hx
          · split at hx
            · split at hx
              · split at hx
                · exact ih _ _ _ _ _ _ _ _ _ hx
                · cases hx
              · cases hx
            · split at hx
              · split at hx
                · split at hx
                  · exact ih _ _ _ _ _ _ _ _ _ hx
                  · cases hx
                · cases hx
              · split at hx
                · split at hx
                  · split at hx
                    · exact ih _ _ _ _ _ _ _ _ _ hx
                    · cases hx
                  · cases hx
                · split at hx
                  · split at hx
                    · split at hx
                      · rename_i hc
                        exact (ih _ _ _ _ _ _ _ _ _ hc).tr (ih _ _ _ _ _ _ _ _ _ hx)
                      · cases hx
                    · cases hx
                  · cases hx
        -- ireturn
        · split at hx
          · split at hx
            · split at hx
              · cases hx; exact xle.rf
              · cases hx
            · cases hx
          · cases hx
        -- lreturn
        · split at hx
          · split at hx
            · cases hx; exact xle.rf
            · cases hx
          · cases hx
        -- areturn
        · split at hx
          · split at hx
            · split at hx
              · cases hx; exact xle.rf
              · cases hx
            · split at hx
              · cases hx; exact xle.rf
              · cases hx
            · cases hx
          · cases hx
        -- return
        · split at hx
          · split at hx
            · cases hx; exact xle.rf
            · cases hx
          · cases hx
        -- the rest
        · split at hx
          · exact ih _ _ _ _ _ _ _ _ _ hx
          · cases hx
/-- a place in the code is there -/
theorem xex_at {cn : List String} {P : xP} {f fr lo mi ip : Nat} {L : xL} {st : List Value} {h : xH} {z : Option Value × xH} (hx : xex cn P f fr lo mi ip L st h = some z) : ∃ M x, P.1[mi]? = some M ∧ M.2.2.2.2.2.2[ip]? = some x := by
  cases f with
  | zero => cases hx
  | succ f =>
    unfold xex at hx
    split at hx
    · cases hx
    · rename_i hM
      split at hx
      · cases hx
      · rename_i hc
        exact ⟨_, _, hM, hc⟩
