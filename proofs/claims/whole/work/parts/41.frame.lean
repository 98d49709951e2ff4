/-! THE FRAME RULE: cells that a run doesn't ask for may be anything; more fuel and more room change nothing -/
/-- a cell that nobody can ask for anything -/
def xdum : xC := .inl (999, [])
/-- g is h, but for h's masked cells -/
def xMk3 (h g : xH) : Prop := h.length = g.length ∧ ∀ (k : Nat) (c : xC), h[k]? = some c → c = xdum ∨ g[k]? = some c
theorem xMk3.rf {h : xH} : xMk3 h h := ⟨rfl, fun _ _ h => Or.inr h⟩
theorem xMk3.inr {h g : xH} {k : Nat} {x : Nat × List Value} (m : xMk3 h g) (e : h[k]? = some (.inr x)) : g[k]? = some (.inr x) := (m.2 k _ e).resolve_left (fun q => by cases q)
theorem xMk3.inl {h g : xH} {k : Nat} {x : Nat × List Value} (m : xMk3 h g) (e : h[k]? = some (.inl x)) (hx : ¬ x.1 = 999) : g[k]? = some (.inl x) := (m.2 k _ e).resolve_left (fun q => hx (by cases q; rfl))
/-- what is masked stays as it is -/
def xKp (h h' g g' : xH) : Prop := ∀ k : Nat, h[k]? = some xdum → h'[k]? = some xdum ∧ g'[k]? = g[k]?
theorem xKp.rf {h g : xH} : xKp h h g g := fun _ h => ⟨h, rfl⟩
theorem xKp.tr {h h' h'' g g' g'' : xH} (a : xKp h h' g g') (b : xKp h' h'' g' g'') : xKp h h'' g g'' := fun k e => ⟨(b k (a k e).1).1, (b k (a k e).1).2.trans (a k e).2⟩
theorem xMk3.set {h g : xH} {k : Nat} {c d : xC} (m : xMk3 h g) (e : h[k]? = some d) (hd : d ≠ xdum) : xMk3 (h.set k c) (g.set k c) ∧ xKp h (h.set k c) g (g.set k c) := by
  have hk : k < h.length := (List.getElem?_eq_some_iff.mp e).1
  refine ⟨⟨by simp [m.1], fun j c' hj => ?_⟩, fun j hj => ?_⟩
  · rw [List.getElem?_set] at hj ⊢
    by_cases ej : k = j
    · subst ej
      rw [if_pos rfl, if_pos hk] at hj
      rw [if_pos rfl, if_pos (by rw [← m.1]; exact hk)]
      exact Or.inr hj
    · rw [if_neg ej] at hj ⊢
      exact m.2 j c' hj
  · have ej : ¬ k = j := fun q => by
      subst q
      rw [e] at hj
      exact hd (Option.some.inj hj)
    rw [List.getElem?_set, if_neg ej, List.getElem?_set, if_neg ej]
    exact ⟨hj, rfl⟩
theorem xMk3.app {h g x : xH} (m : xMk3 h g) : xMk3 (h ++ x) (g ++ x) ∧ xKp h (h ++ x) g (g ++ x) := by
  refine ⟨⟨by simp [m.1], fun j c' hj => ?_⟩, fun j hj => ?_⟩
  · by_cases ej : j < h.length
    · rw [List.getElem?_append_left ej] at hj
      rw [List.getElem?_append_left (by rw [← m.1]; exact ej)]
      exact m.2 j c' hj
    · rw [List.getElem?_append_right (by omega)] at hj
      rw [List.getElem?_append_right (by rw [← m.1]; omega), ← m.1]
      exact Or.inr hj
  · have ej : j < h.length := (List.getElem?_eq_some_iff.mp hj).1
    rw [List.getElem?_append_left ej, List.getElem?_append_left (by rw [← m.1]; exact ej)]
    exact ⟨hj, rfl⟩
theorem xgetf_m {h g : xH} {k ci j : Nat} {v : Value} (m : xMk3 h g) (e : xgetf h k ci j = some v) : xgetf g k ci j = some v := by
  unfold xgetf at e
  split at e
  · rename_i c fs hk
    split at e
    · rename_i ec
      have hne : ¬ c = 999 ∨ fs ≠ [] := Or.inr (fun q => by rw [q] at e; cases e)
      have hg : g[k]? = some (.inl (c, fs)) := (m.2 k _ hk).resolve_left (fun q => by cases q; cases e)
      unfold xgetf
      rw [hg]
      dsimp only
      rw [if_pos ec]
      exact e
    · cases e
  · cases e
theorem xitem_m {h g : xH} {k : Nat} {j : Int32} {z : Nat × Value} (m : xMk3 h g) (e : xitem h k j = some z) : xitem g k j = some z := by
  unfold xitem at e
  split at e
  · rename_i t vs hk
    unfold xitem
    rw [m.inr hk]
    exact e
  · cases e
theorem xputf_m {n0 : Nat} {h g h1 : xH} {k ci j : Nat} {v : Value} (m : xMk3 h g) (e : xputf n0 h k ci j v = some h1) : ∃ g1, xputf n0 g k ci j v = some g1 ∧ xMk3 h1 g1 ∧ xKp h h1 g g1 := by
  unfold xputf at e
  split at e
  · rename_i c fs hk
    split at e
    · rename_i ec
      cases e
      have hne : (.inl (c, fs) : xC) ≠ xdum := fun q => by cases q; exact absurd ec.2.2 (by simp)
      have hg : g[k]? = some (.inl (c, fs)) := (m.2 k _ hk).resolve_left hne
      refine ⟨g.set k (.inl (c, fs.set j v)), ?_, m.set hk hne⟩
      unfold xputf
      rw [hg]
      dsimp only
      rw [if_pos ec]
    · cases e
  · cases e
theorem xputi_m {n0 t : Nat} {h g h1 : xH} {k : Nat} {j : Int32} {v : Value} (m : xMk3 h g) (e : xputi n0 h k j v = some (t, h1)) : ∃ g1, xputi n0 g k j v = some (t, g1) ∧ xMk3 h1 g1 ∧ xKp h h1 g g1 := by
  unfold xputi at e
  split at e
  · rename_i c fs hk
    split at e
    · rename_i ec
      cases e
      have hne : (.inr (t, fs) : xC) ≠ xdum := fun q => by cases q
      refine ⟨g.set k (.inr (t, fs.set j.toNatClampNeg v)), ?_, m.set hk hne⟩
      unfold xputi
      rw [m.inr hk]
      dsimp only
      rw [if_pos ec]
    · cases e
  · cases e
theorem xacopy_m {n0 sr ds : Nat} {h g h1 : xH} {sp dp n : Int32} (m : xMk3 h g) (e : xacopy n0 h sr sp ds dp n = some h1) : ∃ g1, xacopy n0 g sr sp ds dp n = some g1 ∧ xMk3 h1 g1 ∧ xKp h h1 g g1 := by
  unfold xacopy at e
  split at e
  · rename_i t0 vs t1 ws e1 e2
    split at e
    · rename_i hc
      cases e
      have hne : (.inr (t1, ws) : xC) ≠ xdum := fun q => by cases q
      refine ⟨_, ?_, m.set e2 hne⟩
      unfold xacopy
      rw [m.inr e1, m.inr e2]
      dsimp only
      rw [if_pos hc]
    · cases e
  · cases e
theorem xast_m {n0 : Nat} {cn : List String} {ty : FieldType} {at' : List FieldType} {h g : xH} {v : Value} (hcn : cn.length ≤ 999) (m : xMk3 h g) (e : xast n0 cn ty at' h v = true) : xast n0 cn ty at' g v = true := by
  unfold xast at e ⊢
  split at e
  · exact e
  · rename_i k
    split at e
    · rename_i c fs hk
      split at e
      · rename_i n n2 hn
        have hc : ¬ c = 999 := fun q => by
          have := (List.getElem?_eq_some_iff.mp hn).1
          omega
        rw [m.inl hk hc]
        dsimp only
        rw [hn]
        exact e
      · cases e
    · rename_i t vs hk
      rw [m.inr hk]
      exact e
    · cases e
  · cases e
set_option maxHeartbeats 8000000 in
theorem xframe {cn : List String} {P : xP} (hcn : cn.length ≤ 999) : ∀ (f fr lo mi ip : Nat) (L : xL) (st : List Value) (h : xH) (r : Option Value) (h' : xH), xex cn P f fr lo mi ip L st h = some (r, h') → ∀ (f2 fr2 lo2 : Nat) (g : xH), f ≤ f2 → fr ≤ fr2 → lo ≤ lo2 → xMk3 h g → ∃ g', xex cn P f2 fr2 lo2 mi ip L st g = some (r, g') ∧ xMk3 h' g' ∧ xKp h h' g g' := by
  intro f
  induction f with
  | zero => intro fr lo mi ip L st h r h' hx; cases hx
  | succ f ih =>
    intro fr lo mi ip L st h r h' hx f2 fr2 lo2 g hf hfr hlo m
    obtain ⟨f2, rfl⟩ : ∃ q, f2 = q + 1 := ⟨f2 - 1, by omega⟩
    unfold xex at hx
    split at hx
    · cases hx
    · rename_i hM
      split at hx
      · cases hx
      · rename_i i pc a b q hc
        split at hx
        -- getfield
        · split at hx
          · split at hx
            · rename_i e1
              obtain ⟨g1, q1, q2, q3⟩ := ih _ _ _ _ _ _ _ _ _ hx f2 fr2 lo2 g (by omega) hfr hlo m
              exact ⟨g1, (xe_getf ⟨_, hM, hc⟩ (xgetf_m m e1)).trans q1, q2, q3⟩
            · cases hx
          · cases hx
        -- putfield
        · split at hx
          · split at hx
            · rename_i e1
              split at hx
              · rename_i e2
                split at hx
                · rename_i e3
                  split at hx
                  · rename_i e4
                    obtain ⟨g0, p1, p2, p3⟩ := xputf_m m e4
                    obtain ⟨g1, q1, q2, q3⟩ := ih _ _ _ _ _ _ _ _ _ hx f2 fr2 lo2 g0 (by omega) hfr hlo p2
                    exact ⟨g1, (xe_putf ⟨_, hM, hc⟩ (by rw [e1]; exact e2) e3 p1).trans q1, q2, p3.tr q3⟩
                  · cases hx
                · cases hx
              · cases hx
            · cases hx
          · cases hx
        -- getstatic
        · split at hx
          · rename_i e1
            obtain ⟨g1, q1, q2, q3⟩ := ih _ _ _ _ _ _ _ _ _ hx f2 fr2 lo2 g (by omega) hfr hlo m
            exact ⟨g1, (xe_gets ⟨_, hM, hc⟩ e1).trans q1, q2, q3⟩
          · cases hx
        -- iald
        · split at hx
          · split at hx
            · rename_i e1
              split at hx
              · rename_i e2
                obtain ⟨g1, q1, q2, q3⟩ := ih _ _ _ _ _ _ _ _ _ hx f2 fr2 lo2 g (by omega) hfr hlo m
                exact ⟨g1, (xe_iald ⟨_, hM, hc⟩ (xitem_m m e1) e2).trans q1, q2, q3⟩
              · cases hx
            · cases hx
          · cases hx
        -- lald
        · split at hx
          · split at hx
            · rename_i e1
              split at hx
              · rename_i e2
                obtain ⟨g1, q1, q2, q3⟩ := ih _ _ _ _ _ _ _ _ _ hx f2 fr2 lo2 g (by omega) hfr hlo m
                exact ⟨g1, (xe_lald ⟨_, hM, hc⟩ (xitem_m m e1) e2).trans q1, q2, q3⟩
              · cases hx
            · cases hx
          · cases hx
        -- bald
        · split at hx
          · split at hx
            · rename_i e1
              split at hx
              · rename_i e2
                obtain ⟨g1, q1, q2, q3⟩ := ih _ _ _ _ _ _ _ _ _ hx f2 fr2 lo2 g (by omega) hfr hlo m
                exact ⟨g1, (xe_bald ⟨_, hM, hc⟩ (xitem_m m e1) e2).trans q1, q2, q3⟩
              · cases hx
            · cases hx
          · cases hx
        -- aald
        · split at hx
          · split at hx
            · rename_i e1
              split at hx
              · rename_i e2
                obtain ⟨g1, q1, q2, q3⟩ := ih _ _ _ _ _ _ _ _ _ hx f2 fr2 lo2 g (by omega) hfr hlo m
                exact ⟨g1, (xe_aald ⟨_, hM, hc⟩ (xitem_m m e1) e2).trans q1, q2, q3⟩
              · cases hx
            · cases hx
          · cases hx
        -- iast
        · split at hx
          · split at hx
            · rename_i e1
              obtain ⟨g0, p1, p2, p3⟩ := xputi_m m e1
              split at hx
              · rename_i e2
                obtain ⟨g1, q1, q2, q3⟩ := ih _ _ _ _ _ _ _ _ _ hx f2 fr2 lo2 g0 (by omega) hfr hlo p2
                exact ⟨g1, (xe_iast ⟨_, hM, hc⟩ p1 e2).trans q1, q2, p3.tr q3⟩
              · cases hx
            · cases hx
          · cases hx
        -- last
        · split at hx
          · split at hx
            · rename_i e1
              obtain ⟨g0, p1, p2, p3⟩ := xputi_m m e1
              split at hx
              · rename_i e2
                obtain ⟨g1, q1, q2, q3⟩ := ih _ _ _ _ _ _ _ _ _ hx f2 fr2 lo2 g0 (by omega) hfr hlo p2
                exact ⟨g1, (xe_last ⟨_, hM, hc⟩ p1 e2).trans q1, q2, p3.tr q3⟩
              · cases hx
            · cases hx
          · cases hx
        -- bast
        · split at hx
          · split at hx
            · rename_i e1
              obtain ⟨g0, p1, p2, p3⟩ := xputi_m m e1
              split at hx
              · rename_i e2
                obtain ⟨g1, q1, q2, q3⟩ := ih _ _ _ _ _ _ _ _ _ hx f2 fr2 lo2 g0 (by omega) hfr hlo p2
                exact ⟨g1, (xe_bast ⟨_, hM, hc⟩ p1 e2).trans q1, q2, p3.tr q3⟩
              · cases hx
            · cases hx
          · cases hx
        -- aastore
        · split at hx
          · split at hx
            · rename_i e1
              obtain ⟨g0, p1, p2, p3⟩ := xputi_m m e1
              split at hx
              · rename_i e2
                split at hx
                · rename_i e3
                  obtain ⟨g1, q1, q2, q3⟩ := ih _ _ _ _ _ _ _ _ _ hx f2 fr2 lo2 g0 (by omega) hfr hlo p2
                  exact ⟨g1, (xe_aast ⟨_, hM, hc⟩ p1 e2 ⟨e3.1, xast_m hcn m e3.2⟩).trans q1, q2, p3.tr q3⟩
                · cases hx
              · cases hx
            · cases hx
          · cases hx
        -- arraylength
        · split at hx
          · split at hx
            · rename_i e1
              split at hx
              · rename_i e2
                obtain ⟨g1, q1, q2, q3⟩ := ih _ _ _ _ _ _ _ _ _ hx f2 fr2 lo2 g (by omega) hfr hlo m
                exact ⟨g1, (xe_alen ⟨_, hM, hc⟩ (m.inr e1) e2).trans q1, q2, q3⟩
              · cases hx
            · cases hx
          · cases hx
        -- new
        · split at hx
          · rename_i e1
            obtain ⟨p2, p3⟩ := m.app (x := _)
            obtain ⟨g1, q1, q2, q3⟩ := ih _ _ _ _ _ _ _ _ _ hx f2 fr2 lo2 _ (by omega) hfr hlo p2
            rw [m.1] at q1
            exact ⟨g1, (xe_new ⟨_, hM, hc⟩ e1).trans q1, q2, p3.tr q3⟩
          · cases hx
        -- newarray
        · split at hx
          · split at hx
            · rename_i e1
              split at hx
              · cases hx
              · rename_i e2
                obtain ⟨p2, p3⟩ := m.app (x := _)
                obtain ⟨g1, q1, q2, q3⟩ := ih _ _ _ _ _ _ _ _ _ hx f2 fr2 lo2 _ (by omega) hfr hlo p2
                rw [m.1] at q1
                exact ⟨g1, (xe_newa ⟨_, hM, hc⟩ e1 e2).trans q1, q2, p3.tr q3⟩
            · cases hx
          · cases hx
        -- anewarray
        · split at hx
          · split at hx
            · cases hx
            · rename_i e2
              obtain ⟨p2, p3⟩ := m.app (x := _)
              obtain ⟨g1, q1, q2, q3⟩ := ih _ _ _ _ _ _ _ _ _ hx f2 fr2 lo2 _ (by omega) hfr hlo p2
              rw [m.1] at q1
              exact ⟨g1, (xe_anew ⟨_, hM, hc⟩ e2).trans q1, q2, p3.tr q3⟩
          · cases hx
        -- multianewarray
        · split at hx
          · split at hx
            · rename_i e1
              split at hx
              · cases hx
              · rename_i e2
                obtain ⟨p2, p3⟩ := m.app (x := _)
                obtain ⟨g1, q1, q2, q3⟩ := ih _ _ _ _ _ _ _ _ _ hx f2 fr2 lo2 _ (by omega) hfr hlo p2
                rw [m.1] at q1
                exact ⟨g1, (xe_mna ⟨_, hM, hc⟩ e1 e2).trans q1, q2, p3.tr q3⟩
            · cases hx
          · cases hx
        -- invokevirtual
        · split at hx
          · rename_i y1 b1 mL1 ret1 n1 kd1 code1 e1
            split at hx
            · rename_i e2
              split at hx
              · rename_i c0 fs e3
                split at hx
                · rename_i e5
                  obtain ⟨-, -, -, -, -, x6, x7⟩ := id e5
                  split at hx
                  · rename_i e4
                    obtain ⟨g0, p1, p2, p3⟩ := ih _ _ _ _ _ _ _ _ _ e4 f2 (fr2 - 1) (lo2 - (19 + mL1)) g (by omega) (by omega) (by omega) m
                    obtain ⟨g1, q1, q2, q3⟩ := ih _ _ _ _ _ _ _ _ _ hx f2 fr2 lo2 g0 (by omega) hfr hlo p2
                    have hc9 : ¬ c0 = 999 := fun q => (by have := (List.getElem?_eq_some_iff.mp e5.2.1).1; omega)
                    exact ⟨g1, (xe_callV ⟨_, hM, hc⟩ e1 e2 (m.inl e3 hc9) ⟨e5.1, e5.2.1, e5.2.2.1, e5.2.2.2.1, e5.2.2.2.2.1, by omega, (by show 19 + mL1 ≤ lo2; omega)⟩ p1).trans q1, q2, p3.tr q3⟩
                  · cases hx
                · cases hx
              · cases hx
            · cases hx
          · cases hx
        -- invokespecial
        · split at hx
          · rename_i hb1
            split at hx
            · split at hx
              · rename_i e1
                obtain ⟨g1, q1, q2, q3⟩ := ih _ _ _ _ _ _ _ _ _ hx f2 fr2 lo2 g (by omega) hfr hlo m
                exact ⟨g1, (xe_obji ⟨_, hM, hc⟩ hb1 ⟨e1.1, by omega, by omega⟩).trans q1, q2, q3⟩
              · cases hx
            · cases hx
          · rename_i hb1
            split at hx
            · rename_i y1 b1 mL1 ret1 n1 kd1 code1 e1
              split at hx
              · rename_i e2
                split at hx
                · rename_i e5
                  obtain ⟨-, -, -, -, x6, x7⟩ := id e5
                  split at hx
                  · rename_i e4
                    obtain ⟨g0, p1, p2, p3⟩ := ih _ _ _ _ _ _ _ _ _ e4 f2 (fr2 - 1) (lo2 - (19 + mL1)) g (by omega) (by omega) (by omega) m
                    obtain ⟨g1, q1, q2, q3⟩ := ih _ _ _ _ _ _ _ _ _ hx f2 fr2 lo2 g0 (by omega) hfr hlo p2
                    exact ⟨g1, (xe_callI ⟨_, hM, hc⟩ hb1 e1 e2 ⟨e5.1, e5.2.1, e5.2.2.1, e5.2.2.2.1, by omega, (by show 19 + mL1 ≤ lo2; omega)⟩ p1).trans q1, q2, p3.tr q3⟩
                  · cases hx
                · cases hx
              · cases hx
            · cases hx
        -- invokestatic
        · split at hx
          · rename_i hb1
            split at hx
            · split at hx
              · rename_i e1
                obtain ⟨g0, p1, p2, p3⟩ := xacopy_m m e1
                split at hx
                · rename_i e2
                  obtain ⟨g1, q1, q2, q3⟩ := ih _ _ _ _ _ _ _ _ _ hx f2 fr2 lo2 g0 (by omega) hfr hlo p2
                  exact ⟨g1, (xe_acpy ⟨_, hM, hc⟩ hb1 p1 ⟨e2.1, by omega, by omega⟩).trans q1, q2, p3.tr q3⟩
                · cases hx
              · cases hx
            · cases hx
          · rename_i hb1
            split at hx
            · rename_i hb2
              split at hx
              · split at hx
                · rename_i e1
                  obtain ⟨g1, q1, q2, q3⟩ := ih _ _ _ _ _ _ _ _ _ hx f2 fr2 lo2 g (by omega) hfr hlo m
                  exact ⟨g1, (xe_ci ⟨_, hM, hc⟩ hb2 ⟨e1.1, e1.2.1, e1.2.2.1, by omega, by omega⟩).trans q1, q2, q3⟩
                · cases hx
              · cases hx
            · rename_i hb2
              split at hx
              · rename_i hb3
                split at hx
                · split at hx
                  · rename_i e1
                    obtain ⟨g1, q1, q2, q3⟩ := ih _ _ _ _ _ _ _ _ _ hx f2 fr2 lo2 g (by omega) hfr hlo m
                    exact ⟨g1, (xe_max ⟨_, hM, hc⟩ hb3 ⟨e1.1, by omega, by omega⟩).trans q1, q2, q3⟩
                  · cases hx
                · cases hx
              · rename_i hb3
                split at hx
                · rename_i hb4
                  split at hx
                  · split at hx
                    · rename_i e1
                      obtain ⟨g1, q1, q2, q3⟩ := ih _ _ _ _ _ _ _ _ _ hx f2 fr2 lo2 g (by omega) hfr hlo m
                      exact ⟨g1, (xe_min ⟨_, hM, hc⟩ hb4 ⟨e1.1, by omega, by omega⟩).trans q1, q2, q3⟩
                    · cases hx
                  · cases hx
                · rename_i hb4
                  split at hx
                  · rename_i y1 b1 mL1 ret1 n1 kd1 code1 e1
                    split at hx
                    · rename_i e5
                      obtain ⟨-, -, -, -, x6, x7⟩ := id e5
                      split at hx
                      · rename_i e4
                        obtain ⟨g0, p1, p2, p3⟩ := ih _ _ _ _ _ _ _ _ _ e4 f2 (fr2 - 1) (lo2 - (19 + mL1)) g (by omega) (by omega) (by omega) m
                        obtain ⟨g1, q1, q2, q3⟩ := ih _ _ _ _ _ _ _ _ _ hx f2 fr2 lo2 g0 (by omega) hfr hlo p2
                        exact ⟨g1, (xe_callS ⟨_, hM, hc⟩ ⟨hb1, hb2, hb3, hb4⟩ e1 ⟨e5.1, e5.2.1, e5.2.2.1, e5.2.2.2.1, by omega, (by show 19 + mL1 ≤ lo2; omega)⟩ p1).trans q1, q2, p3.tr q3⟩
                      · cases hx
                    · cases hx
                  · cases hx
        -- ireturn
        · split at hx
          · split at hx
            · split at hx
              · rename_i e1
                cases hx
                exact ⟨g, xe_iret hM hc rfl e1, m, xKp.rf⟩
              · cases hx
            · cases hx
          · cases hx
        -- lreturn
        · split at hx
          · split at hx
            · cases hx
              exact ⟨g, xe_lret hM hc rfl, m, xKp.rf⟩
            · cases hx
          · cases hx
        -- areturn
        · split at hx
          · split at hx
            · split at hx
              · rename_i e1
                cases hx
                exact ⟨g, xe_aret hM hc rfl rfl e1, m, xKp.rf⟩
              · cases hx
            · split at hx
              · rename_i e1
                cases hx
                exact ⟨g, xe_aret hM hc rfl rfl e1, m, xKp.rf⟩
              · cases hx
            · cases hx
          · cases hx
        -- return
        · split at hx
          · split at hx
            · cases hx
              exact ⟨g, xe_vret hM hc rfl, m, xKp.rf⟩
            · cases hx
          · cases hx
        -- the rest
        · rename_i n1 n2 n3 n4 n5 n6 n7 n8 n9 n10 n11 n12 n13 n14 n15 n16 n17 n18 n19 n20 n21 n22 n23
          split at hx
          · rename_i e1
            obtain ⟨g1, q1, q2, q3⟩ := ih _ _ _ _ _ _ _ _ _ hx f2 fr2 lo2 g (by omega) hfr hlo m
            have hi : xhp i = false := by
              cases i <;> first | rfl | (exfalso; simp_all; done)
            exact ⟨g1, (xe_pure hM hc hi e1).trans q1, q2, q3⟩
          · cases hx
