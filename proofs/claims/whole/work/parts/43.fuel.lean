/-! MORE FUEL, MORE ROOM: the same answer -/
set_option maxHeartbeats 8000000 in
theorem xfuel {cn : List String} {P : xP} : ∀ (f fr lo mi ip : Nat) (L : xL) (st : List Value) (h : xH) (r : Option Value) (h' : xH), xex cn P f fr lo mi ip L st h = some (r, h') → ∀ (f2 fr2 lo2 : Nat), f ≤ f2 → fr ≤ fr2 → lo ≤ lo2 → xex cn P f2 fr2 lo2 mi ip L st h = some (r, h') := by
  intro f
  induction f with
  | zero => intro fr lo mi ip L st h r h' hx; cases hx
  | succ f ih =>
    intro fr lo mi ip L st h r h' hx f2 fr2 lo2 hf hfr hlo
    obtain ⟨f2, rfl⟩ : ∃ q, f2 = q + 1 := ⟨f2 - 1, by omega⟩
    unfold xex at hx
    split at hx
    · cases hx
    · rename_i hM
      split at hx
      · cases hx
      · rename_i i pc a b q hc
        split at hx
        · split at hx
          · split at hx
            · rename_i e1
              exact (xe_getf ⟨_, hM, hc⟩ e1).trans (ih _ _ _ _ _ _ _ _ _ hx f2 fr2 lo2 (by omega) hfr hlo)
            · cases hx
          · cases hx
        · split at hx
          · split at hx
            · rename_i e1
              split at hx
              · rename_i e2
                split at hx
                · rename_i e3
                  split at hx
                  · rename_i e4
                    exact (xe_putf ⟨_, hM, hc⟩ (by rw [e1]; exact e2) e3 e4).trans (ih _ _ _ _ _ _ _ _ _ hx f2 fr2 lo2 (by omega) hfr hlo)
                  · cases hx
                · cases hx
              · cases hx
            · cases hx
          · cases hx
        · split at hx
          · rename_i e1
            exact (xe_gets ⟨_, hM, hc⟩ e1).trans (ih _ _ _ _ _ _ _ _ _ hx f2 fr2 lo2 (by omega) hfr hlo)
          · cases hx
        · split at hx
          · split at hx
            · rename_i e1
              split at hx
              · rename_i e2
                exact (xe_iald ⟨_, hM, hc⟩ e1 e2).trans (ih _ _ _ _ _ _ _ _ _ hx f2 fr2 lo2 (by omega) hfr hlo)
              · cases hx
            · cases hx
          · cases hx
        · split at hx
          · split at hx
            · rename_i e1
              split at hx
              · rename_i e2
                exact (xe_lald ⟨_, hM, hc⟩ e1 e2).trans (ih _ _ _ _ _ _ _ _ _ hx f2 fr2 lo2 (by omega) hfr hlo)
              · cases hx
            · cases hx
          · cases hx
        · split at hx
          · split at hx
            · rename_i e1
              split at hx
              · rename_i e2
                exact (xe_bald ⟨_, hM, hc⟩ e1 e2).trans (ih _ _ _ _ _ _ _ _ _ hx f2 fr2 lo2 (by omega) hfr hlo)
              · cases hx
            · cases hx
          · cases hx
        · split at hx
          · split at hx
            · rename_i e1
              split at hx
              · rename_i e2
                exact (xe_aald ⟨_, hM, hc⟩ e1 e2).trans (ih _ _ _ _ _ _ _ _ _ hx f2 fr2 lo2 (by omega) hfr hlo)
              · cases hx
            · cases hx
          · cases hx
        · split at hx
          · split at hx
            · rename_i e1
              split at hx
              · rename_i e2
                exact (xe_iast ⟨_, hM, hc⟩ e1 e2).trans (ih _ _ _ _ _ _ _ _ _ hx f2 fr2 lo2 (by omega) hfr hlo)
              · cases hx
            · cases hx
          · cases hx
        · split at hx
          · split at hx
            · rename_i e1
              split at hx
              · rename_i e2
                exact (xe_last ⟨_, hM, hc⟩ e1 e2).trans (ih _ _ _ _ _ _ _ _ _ hx f2 fr2 lo2 (by omega) hfr hlo)
              · cases hx
            · cases hx
          · cases hx
        · split at hx
          · split at hx
            · rename_i e1
              split at hx
              · rename_i e2
                exact (xe_bast ⟨_, hM, hc⟩ e1 e2).trans (ih _ _ _ _ _ _ _ _ _ hx f2 fr2 lo2 (by omega) hfr hlo)
              · cases hx
            · cases hx
          · cases hx
        · split at hx
          · split at hx
            · rename_i e1
              split at hx
              · rename_i e2
                split at hx
                · rename_i e3
                  exact (xe_aast ⟨_, hM, hc⟩ e1 e2 e3).trans (ih _ _ _ _ _ _ _ _ _ hx f2 fr2 lo2 (by omega) hfr hlo)
                · cases hx
              · cases hx
            · cases hx
          · cases hx
        · split at hx
          · split at hx
            · rename_i e1
              split at hx
              · rename_i e2
                exact (xe_alen ⟨_, hM, hc⟩ e1 e2).trans (ih _ _ _ _ _ _ _ _ _ hx f2 fr2 lo2 (by omega) hfr hlo)
              · cases hx
            · cases hx
          · cases hx
        · split at hx
          · rename_i e1
            exact (xe_new ⟨_, hM, hc⟩ e1).trans (ih _ _ _ _ _ _ _ _ _ hx f2 fr2 lo2 (by omega) hfr hlo)
          · cases hx
        · split at hx
          · split at hx
            · rename_i e1
              split at hx
              · cases hx
              · rename_i e2
                exact (xe_newa ⟨_, hM, hc⟩ e1 e2).trans (ih _ _ _ _ _ _ _ _ _ hx f2 fr2 lo2 (by omega) hfr hlo)
            · cases hx
          · cases hx
        · split at hx
          · split at hx
            · cases hx
            · rename_i e2
              exact (xe_anew ⟨_, hM, hc⟩ e2).trans (ih _ _ _ _ _ _ _ _ _ hx f2 fr2 lo2 (by omega) hfr hlo)
          · cases hx
        · split at hx
          · split at hx
            · rename_i e1
              split at hx
              · cases hx
              · rename_i e2
                exact (xe_mna ⟨_, hM, hc⟩ e1 e2).trans (ih _ _ _ _ _ _ _ _ _ hx f2 fr2 lo2 (by omega) hfr hlo)
            · cases hx
          · cases hx
        · split at hx
          · rename_i y1 b1 mL1 ret1 n1 kd1 code1 e1
            split at hx
            · rename_i e2
              split at hx
              · rename_i c0 fs e3
                split at hx
                · rename_i e5
                  obtain ⟨-, -, -, -, -, x6, x7⟩ := id e5
                  split at hx
                  · rename_i e4
                    have p1 := ih _ _ _ _ _ _ _ _ _ e4 f2 (fr2 - 1) (lo2 - (19 + mL1)) (by omega) (by omega) (by omega)
                    exact (xe_callV ⟨_, hM, hc⟩ e1 e2 e3 ⟨e5.1, e5.2.1, e5.2.2.1, e5.2.2.2.1, e5.2.2.2.2.1, by omega, (by show 19 + mL1 ≤ lo2; omega)⟩ p1).trans (ih _ _ _ _ _ _ _ _ _ hx f2 fr2 lo2 (by omega) hfr hlo)
                  · cases hx
                · cases hx
              · cases hx
            · cases hx
          · cases hx
        · split at hx
          · rename_i hb1
            split at hx
            · split at hx
              · rename_i e1
                exact (xe_obji ⟨_, hM, hc⟩ hb1 ⟨e1.1, by omega, by omega⟩).trans (ih _ _ _ _ _ _ _ _ _ hx f2 fr2 lo2 (by omega) hfr hlo)
              · cases hx
            · cases hx
          · rename_i hb1
            split at hx
            · rename_i y1 b1 mL1 ret1 n1 kd1 code1 e1
              split at hx
              · rename_i e2
                split at hx
                · rename_i e5
                  obtain ⟨-, -, -, -, x6, x7⟩ := id e5
                  split at hx
                  · rename_i e4
                    have p1 := ih _ _ _ _ _ _ _ _ _ e4 f2 (fr2 - 1) (lo2 - (19 + mL1)) (by omega) (by omega) (by omega)
                    exact (xe_callI ⟨_, hM, hc⟩ hb1 e1 e2 ⟨e5.1, e5.2.1, e5.2.2.1, e5.2.2.2.1, by omega, (by show 19 + mL1 ≤ lo2; omega)⟩ p1).trans (ih _ _ _ _ _ _ _ _ _ hx f2 fr2 lo2 (by omega) hfr hlo)
                  · cases hx
                · cases hx
              · cases hx
            · cases hx
        · split at hx
          · rename_i hb1
            split at hx
            · split at hx
              · rename_i e1
                split at hx
                · rename_i e2
                  exact (xe_acpy ⟨_, hM, hc⟩ hb1 e1 ⟨e2.1, by omega, by omega⟩).trans (ih _ _ _ _ _ _ _ _ _ hx f2 fr2 lo2 (by omega) hfr hlo)
                · cases hx
              · cases hx
            · cases hx
          · rename_i hb1
            split at hx
            · rename_i hb2
              split at hx
              · split at hx
                · rename_i e1
                  exact (xe_ci ⟨_, hM, hc⟩ hb2 ⟨e1.1, e1.2.1, e1.2.2.1, by omega, by omega⟩).trans (ih _ _ _ _ _ _ _ _ _ hx f2 fr2 lo2 (by omega) hfr hlo)
                · cases hx
              · cases hx
            · rename_i hb2
              split at hx
              · rename_i hb3
                split at hx
                · split at hx
                  · rename_i e1
                    exact (xe_max ⟨_, hM, hc⟩ hb3 ⟨e1.1, by omega, by omega⟩).trans (ih _ _ _ _ _ _ _ _ _ hx f2 fr2 lo2 (by omega) hfr hlo)
                  · cases hx
                · cases hx
              · rename_i hb3
                split at hx
                · rename_i hb4
                  split at hx
                  · split at hx
                    · rename_i e1
                      exact (xe_min ⟨_, hM, hc⟩ hb4 ⟨e1.1, by omega, by omega⟩).trans (ih _ _ _ _ _ _ _ _ _ hx f2 fr2 lo2 (by omega) hfr hlo)
                    · cases hx
                  · cases hx
                · rename_i hb4
                  split at hx
                  · rename_i y1 b1 mL1 ret1 n1 kd1 code1 e1
                    split at hx
                    · rename_i e5
                      obtain ⟨-, -, -, -, x6, x7⟩ := id e5
                      split at hx
                      · rename_i e4
                        have p1 := ih _ _ _ _ _ _ _ _ _ e4 f2 (fr2 - 1) (lo2 - (19 + mL1)) (by omega) (by omega) (by omega)
                        exact (xe_callS ⟨_, hM, hc⟩ ⟨hb1, hb2, hb3, hb4⟩ e1 ⟨e5.1, e5.2.1, e5.2.2.1, e5.2.2.2.1, by omega, (by show 19 + mL1 ≤ lo2; omega)⟩ p1).trans (ih _ _ _ _ _ _ _ _ _ hx f2 fr2 lo2 (by omega) hfr hlo)
                      · cases hx
                    · cases hx
                  · cases hx
        · split at hx
          · split at hx
            · split at hx
              · rename_i e1
                cases hx
                exact xe_iret hM hc rfl e1
              · cases hx
            · cases hx
          · cases hx
        · split at hx
          · split at hx
            · cases hx
              exact xe_lret hM hc rfl
            · cases hx
          · cases hx
        · split at hx
          · split at hx
            · split at hx
              · rename_i e1
                cases hx
                exact xe_aret hM hc rfl rfl e1
              · cases hx
            · split at hx
              · rename_i e1
                cases hx
                exact xe_aret hM hc rfl rfl e1
              · cases hx
            · cases hx
          · cases hx
        · split at hx
          · split at hx
            · cases hx
              exact xe_vret hM hc rfl
            · cases hx
          · cases hx
        · rename_i n1 n2 n3 n4 n5 n6 n7 n8 n9 n10 n11 n12 n13 n14 n15 n16 n17 n18 n19 n20 n21 n22 n23
          split at hx
          · rename_i e1
            have hi : xhp i = false := by
              cases i <;> first | rfl | (exfalso; simp_all; done)
            exact (xe_pure hM hc hi e1).trans (ih _ _ _ _ _ _ _ _ _ hx f2 fr2 lo2 (by omega) hfr hlo)
          · cases hx
