/-! ARRAYS KEEP THEIR LENGTHS -/
def xshp (c : xC) : Bool × Nat × Nat := match c with
  | .inl o => (true, o.1, o.2.length)
  | .inr a => (false, a.1, a.2.length)
def xla (h g : xH) : Prop := ∀ (k : Nat) c, h[k]? = some c → ∃ d, g[k]? = some d ∧ xshp d = xshp c
theorem xla.rf {h : xH} : xla h h := fun _ c hc => ⟨c, hc, rfl⟩
theorem xla.tr {a b c : xH} (h1 : xla a b) (h2 : xla b c) : xla a c := by
  intro k x hx
  obtain ⟨y, y1, y2⟩ := h1 k x hx
  obtain ⟨z, z1, z2⟩ := h2 k y y1
  exact ⟨z, z1, z2.trans y2⟩
theorem xla.app {h g : xH} : xla h (h ++ g) := fun k c hc => ⟨c, by rw [List.getElem?_append_left (List.getElem?_eq_some_iff.mp hc).1]; exact hc, rfl⟩
theorem xla.set {h : xH} {k : Nat} {c d : xC} (hk : h[k]? = some c) (hz : xshp d = xshp c) : xla h (h.set k d) := by
  intro j x hx
  by_cases hj : k = j
  · subst hj
    rw [hk] at hx
    cases hx
    exact ⟨d, List.getElem?_set_self (List.getElem?_eq_some_iff.mp hk).1, hz⟩
  · exact ⟨x, by rw [List.getElem?_set_ne hj]; exact hx, rfl⟩
theorem xputf_la {n0 k ci j : Nat} {h h1 : xH} {v : Value} (hg : xputf n0 h k ci j v = some h1) : xla h h1 := by
  unfold xputf at hg
  split at hg
  · rename_i c fs hk
    split at hg
    · cases hg
      exact xla.set hk (by simp [xshp])
    · cases hg
  · cases hg
theorem xputi_la {n0 k t : Nat} {h h1 : xH} {i : Int32} {v : Value} (hg : xputi n0 h k i v = some (t, h1)) : xla h h1 := by
  unfold xputi at hg
  split at hg
  · rename_i c fs hk
    split at hg
    · cases hg
      exact xla.set hk (by simp [xshp])
    · cases hg
  · cases hg
theorem xacopy_la {n0 sr ds : Nat} {h h1 : xH} {sp dp n : Int32} (hg : xacopy n0 h sr sp ds dp n = some h1) : xla h h1 := by
  unfold xacopy at hg
  split at hg
  · rename_i t0 vs t1 ws e1 e2
    split at hg
    · rename_i hc
      simp only [xacok, Bool.and_eq_true, decide_eq_true_eq] at hc
      cases hg
      exact xla.set e2 (by simp [xshp, xcpy]; omega)
    · cases hg
  · cases hg
set_option maxHeartbeats 4000000 in
theorem xmonoA {cn : List String} {P : xP} : ∀ (f fr lo mi ip : Nat) (L : xL) (st : List Value) (h : xH) (r : Option Value) (h' : xH), xex cn P f fr lo mi ip L st h = some (r, h') → xla h h' := by
  intro f
  induction f with
  | zero => intro fr lo mi ip L st h r h' hx; cases hx
  | succ f ih =>
    intro fr lo mi ip L st h r h' hx
    unfold xex at hx
    split at hx
    · cases hx
    · split at hx
      · cases hx
      · split at hx
        -- getfield
        · split at hx
          · split at hx
            · exact ih _ _ _ _ _ _ _ _ _ hx
            · cases hx
          · cases hx
        -- putfield
        · split at hx
          · split at hx
            · split at hx
              · split at hx
                · split at hx
                  · rename_i hp
                    exact (xputf_la hp).tr (ih _ _ _ _ _ _ _ _ _ hx)
                  · cases hx
                · cases hx
              · cases hx
            · cases hx
          · cases hx
        -- getstatic
        · split at hx
          · exact ih _ _ _ _ _ _ _ _ _ hx
          · cases hx
        -- iaload laload baload aaload
        iterate 4
          · split at hx
            · split at hx
              · split at hx
                · exact ih _ _ _ _ _ _ _ _ _ hx
                · cases hx
              · cases hx
            · cases hx
        -- iastore lastore bastore
        iterate 3
          · split at hx
            · split at hx
              · rename_i hp
                split at hx
                · exact (xputi_la hp).tr (ih _ _ _ _ _ _ _ _ _ hx)
                · cases hx
              · cases hx
            · cases hx
        -- aastore
        · split at hx
          · split at hx
            · rename_i hp
              split at hx
              · split at hx
                · exact (xputi_la hp).tr (ih _ _ _ _ _ _ _ _ _ hx)
                · cases hx
              · cases hx
            · cases hx
          · cases hx
        -- arraylength
        · split at hx
          · split at hx
            · split at hx
              · exact ih _ _ _ _ _ _ _ _ _ hx
              · cases hx
            · cases hx
          · cases hx
        -- new
        · split at hx
          · exact xla.app.tr (ih _ _ _ _ _ _ _ _ _ hx)
          · cases hx
        -- newarray
        · split at hx
          · split at hx
            · split at hx
              · cases hx
              · exact xla.app.tr (ih _ _ _ _ _ _ _ _ _ hx)
            · cases hx
          · cases hx
        -- anewarray
        · split at hx
          · split at hx
            · cases hx
            · exact xla.app.tr (ih _ _ _ _ _ _ _ _ _ hx)
          · cases hx
        -- multianewarray
        · split at hx
          · split at hx
            · split at hx
              · cases hx
              · exact xla.app.tr (ih _ _ _ _ _ _ _ _ _ hx)
            · cases hx
          · cases hx
        -- invokevirtual
        · split at hx
          · split at hx
            · split at hx
              · split at hx
                · split at hx
                  · rename_i hc
                    exact (ih _ _ _ _ _ _ _ _ _ hc).tr (ih _ _ _ _ _ _ _ _ _ hx)
                  · cases hx
                · cases hx
              · cases hx
            · cases hx
          · cases hx
        -- invokespecial
        · split at hx
          · split at hx
            · split at hx
              · exact ih _ _ _ _ _ _ _ _ _ hx
              · cases hx
            · cases hx
          · split at hx
            · split at hx
              · split at hx
                · split at hx
                  · rename_i hc
                    exact (ih _ _ _ _ _ _ _ _ _ hc).tr (ih _ _ _ _ _ _ _ _ _ hx)
                  · cases hx
                · cases hx
              · cases hx
            · cases hx
        -- invokestatic
        · split at hx
          · split at hx
            · split at hx
              · rename_i hp
                split at hx
                · exact (xacopy_la hp).tr (ih _ _ _ _ _ _ _ _ _ hx)
                · cases hx
              · cases hx
            · cases hx
          · split at hx
            · split at hx
              · split at hx
                · exact ih _ _ _ _ _ _ _ _ _ hx
                · cases hx
              · cases hx
            · split at hx
              · split at hx
                · split at hx
                  · exact ih _ _ _ _ _ _ _ _ _ hx
                  · cases hx
                · cases hx
              · split at hx
                · split at hx
                  · split at hx
                    · exact ih _ _ _ _ _ _ _ _ _ hx
                    · cases hx
                  · cases hx
                · split at hx
                  · split at hx
                    · split at hx
                      · rename_i hc
                        exact (ih _ _ _ _ _ _ _ _ _ hc).tr (ih _ _ _ _ _ _ _ _ _ hx)
                      · cases hx
                    · cases hx
                  · cases hx
        -- ireturn
        · split at hx
          · split at hx
            · split at hx
              · cases hx; exact xla.rf
              · cases hx
            · cases hx
          · cases hx
        -- lreturn
        · split at hx
          · split at hx
            · cases hx; exact xla.rf
            · cases hx
          · cases hx
        -- areturn
        · split at hx
          · split at hx
            · split at hx
              · cases hx; exact xla.rf
              · cases hx
            · split at hx
              · cases hx; exact xla.rf
              · cases hx
            · cases hx
          · cases hx
        -- return
        · split at hx
          · split at hx
            · cases hx; exact xla.rf
            · cases hx
          · cases hx
        -- the rest
        · split at hx
          · exact ih _ _ _ _ _ _ _ _ _ hx
          · cases hx
theorem xR.la {fr lo mi : Nat} {vs : List Value} {h h' : xH} {v : Option Value} (w : xR fr lo mi vs h v h') : xla h h' := by
  obtain ⟨M, _, _, f, e⟩ := w
  exact xmonoA _ _ _ _ _ _ _ _ _ _ e
/-- arrays at the same address: as long, and of one sort -/
def xln (D D' : List xE) : Prop := ∀ (k t : Nat) (l : List Value) (t' : Nat) (l' : List Value), ((k, .inr (t, l)) : xE) ∈ D → ((k, .inr (t', l')) : xE) ∈ D' → l'.length = l.length ∧ t' = t
theorem yK.lens {X : List Int32} {fr lo mi c s : Nat} {vs : List Value} {D : List xE} {Q : Option Value → List xE → Prop} (w : yK X fr lo mi vs D c s Q) : yK X fr lo mi vs D c s (fun v D' => Q v D' ∧ xln D D') := by
  intro h H
  obtain ⟨v, h', D', q1, q2, q3, q4, q5⟩ := w h H
  refine ⟨v, h', D', q1, q2, q3, q4, q5, ?_⟩
  intro k t l t' l' m1 m2
  have e1 : h[k]? = some (.inr (t, l)) := H.2.1 _ (List.mem_append_left _ m1)
  have e2 : h'[k]? = some (.inr (t', l')) := q2.2.1 _ (List.mem_append_left _ m2)
  obtain ⟨d, d1, d2⟩ := q1.la k _ e1
  rw [e2] at d1
  cases d1
  simp only [xshp, Prod.mk.injEq, true_and] at d2
  exact ⟨d2.2, d2.1⟩
