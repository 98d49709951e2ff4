/-! SUBMIT: the class -/
section CSUBMIT
variable {X : List Int32} {D0 : List xE} {Fs : List yF} {R : List yDR} {En : List (Int64 × Int32)} {K : Nat} {Q S : zS} {w : yW} {sh : List Bool} {fd : List yFd} {u v : Value} {t0 t1 t2 t3 x y : Int32}
/-- what submit does to the entries: its cases -/
def QsC (Fs : List yF) (R : List yDR) (En : List (Int64 × Int32)) (K : Nat) (Q S : zS) (w : yW) (u v : Value) (t0 t1 t2 t3 x y : Int32) (D0 : List xE) (j : Nat) (n0 : Int32) (a : Option Value) (D : List xE) : Prop := (gI R x = none ∧ a = some (.int (-1)) ∧ D = EC S u v [t0, t1, t2, t3] D0) ∨ (∃ r, gI R x = some r ∧ ¬ (0 ≤ y.toInt ∧ y.toInt ≤ 9999) ∧ a = some (.int (-1)) ∧ D = EC S u v [t0, t1, t2, t3] D0) ∨ (∃ r, gI R x = some r ∧ (0 ≤ y.toInt ∧ y.toInt ≤ 9999) ∧ 10000 ≤ w.1.toInt ∧ a = some (.int (-3)) ∧ D = EC S u v [t0, t1, t2, t3] D0) ∨ (∃ r, gI R x = some r ∧ (0 ≤ y.toInt ∧ y.toInt ≤ 9999) ∧ ¬ 10000 ≤ w.1.toInt ∧ r.2.2.2.2.2.2.2.2.1 ≠ -9 ∧ a = some (.int (-2)) ∧ D = EC S u v [t0, t1, t2, t3] D0) ∨ (∃ r F, gI R x = some r ∧ (0 ≤ y.toInt ∧ y.toInt ≤ 9999) ∧ ¬ 10000 ≤ w.1.toInt ∧ r.2.2.2.2.2.2.2.2.1 = -9 ∧ Fs[r.2.2.2.2.2.1]? = some F ∧ (F.2.2.2.1.2.1 ≠ -9 ∧ F.2.2.2.1.2.1.toInt < y.toInt) ∧ a = some (.int (-4)) ∧ D = EC S u v [t0, t1, t2, t3] D0) ∨ ∃ r F S', gI R x = some r ∧ (0 ≤ y.toInt ∧ y.toInt ≤ 9999) ∧ ¬ 10000 ≤ w.1.toInt ∧ r.2.2.2.2.2.2.2.2.1 = -9 ∧ Fs[r.2.2.2.2.2.1]? = some F ∧ ¬ (F.2.2.2.1.2.1 ≠ -9 ∧ F.2.2.2.1.2.1.toInt < y.toInt) ∧ W0 S' (inspR F r.2.2.2.2.2.2.1 En K w.1).1 ∧ insC118 Q S' (inspR F r.2.2.2.2.2.2.1 En K w.1).2.1 (inspR F r.2.2.2.2.2.2.1 En K w.1).2.2 ∧ (inspR F r.2.2.2.2.2.2.1 En K w.1).2.2.length ≤ 32 ∧ (((inspR F r.2.2.2.2.2.2.1 En K w.1).2.2 ≠ [] ∧ a = some (.int (-10 - Int32.ofNat (inspR F r.2.2.2.2.2.2.1 En K w.1).2.2.length)) ∧ D = EC S' (.ref r.2.2.1) (.ref r.2.1) [(inspR F r.2.2.2.2.2.2.1 En K w.1).1.2.1, (inspR F r.2.2.2.2.2.2.1 En K w.1).1.2.1, (inspR F r.2.2.2.2.2.2.1 En K w.1).1.2.2.1, -9] D0) ∨ ((inspR F r.2.2.2.2.2.2.1 En K w.1).2.2 = [] ∧ a = some (.int (n0 + 1)) ∧ ∃ i, D0[i]? = some (r.1, .inl (1, 5, .int r.2.2.2.2.2.2.2.2.1)) ∧ D = EC S' (.ref r.2.2.1) (.ref r.2.1) [(inspR F r.2.2.2.2.2.2.1 En K w.1).1.2.1, (inspR F r.2.2.2.2.2.2.1 En K w.1).1.2.1, (inspR F r.2.2.2.2.2.2.1 En K w.1).1.2.2.1, -9] ((D0.set j (78, .inl (11, 9, .int (n0 + 1)))).set i (r.1, .inl (1, 5, .int (n0 + 1))))))
theorem cK_submit (hKe : K = 300) (hR : DrC Fs R En D0) (hW : W0 S w) (hI : insC118 Q S sh fd) {j : Nat} {n0 : Int32} (hj : D0[j]? = some (78, .inl (11, 9, .int n0))) : yK X 200 5000 168 [.ref 78, .int x, .int y] (EC S u v [t0, t1, t2, t3] D0) 0 0 (QsC Fs R En K Q S w u v t0 t1 t2 t3 x y D0 j n0) := by
  refine yK.of rfl (yle rfl) (L := [_, _, _, _, _]) rfl ?_
  refine xt_pure rfl rfl rfl rfl ?_
  refine xt_pure rfl rfl rfl rfl ?_
  refine xt_callV rfl rfl rfl rfl (xmC 115 rfl) ⟨rfl, rfl, yle rfl, yle rfl, yle rfl, yle rfl⟩ (ck_draftAt (hR.1.mono inEC)) (c2 := 0) (s2 := 0) ⟨yle rfl, yle rfl⟩ ?_
  rintro _ _ (⟨rfl, hg, rfl⟩ | ⟨rfl, r, hg, rfl⟩)
  · skip
    refine xt_pure rfl rfl rfl (L1 := [_, _, _, _, _]) rfl ?_
    refine xt_pure rfl rfl rfl rfl ?_
    refine xt_pure rfl rfl rfl rfl ?_
    refine xt_pure rfl rfl rfl (st1 := .int (-1) :: _) rfl ?_
    exact xt_iret rfl rfl rfl rfl (Or.inl ⟨hg, rfl, rfl⟩)
  · obtain ⟨d1, F, d2, d3⟩ := hR.2 r (dr_mem hg)
    have d4 := d3.1
    obtain ⟨pp, qq, f1, _⟩ := d4
    have h0 := hW.tell.2.2.2
    refine xt_pure rfl rfl rfl (L1 := [_, _, _, _, _]) rfl ?_
    refine xt_pure rfl rfl rfl rfl ?_
    refine xt_pure rfl rfl rfl rfl ?_
    refine xt_pure rfl rfl rfl rfl ?_
    refine yt_if rfl rfl ?_ ?_
    · intro (h6 : Int32.toInt _ < (0 : Int))
      refine xt_pure rfl rfl rfl (st1 := .int (-1) :: _) rfl ?_
      exact xt_iret rfl rfl rfl rfl (Or.inr (Or.inl ⟨r, hg, by omega, rfl, rfl⟩))
    · intro (h6 : (0 : Int) ≤ Int32.toInt _)
      refine xt_pure rfl rfl rfl rfl ?_
      refine xt_pure rfl rfl rfl (st1 := .int 9999 :: _) rfl ?_
      refine yt_ic rfl rfl ?_ ?_
      rotate_left
      · intro (h7 : (9999 : Int) < Int32.toInt _)
        refine xt_pure rfl rfl rfl (st1 := .int (-1) :: _) rfl ?_
        exact xt_iret rfl rfl rfl rfl (Or.inr (Or.inl ⟨r, hg, by omega, rfl, rfl⟩))
      · intro (h7 : Int32.toInt _ ≤ (9999 : Int))
        refine xt_pure rfl rfl rfl rfl ?_
        refine xt_getf rfl rfl (xmC 120 rfl) ?_
        refine xt_callV rfl rfl rfl rfl (xmC 142 rfl) ⟨rfl, rfl, yle rfl, yle rfl, yle rfl, yle rfl⟩ (ck_isFull (fl := zI S 0) (List.mem_of_getElem? (i := 0) rfl)) (c2 := 0) (s2 := 0) ⟨yle rfl, yle rfl⟩ ?_
        rintro _ _ (⟨rfl, hf, rfl⟩ | ⟨rfl, hf, rfl⟩)
        · rw [h0] at hf
          refine xt_pure rfl rfl rfl rfl ?_
          refine xt_pure rfl rfl rfl (st1 := .int (-3) :: _) rfl ?_
          exact xt_iret rfl rfl rfl rfl (Or.inr (Or.inr (Or.inl ⟨r, hg, ⟨h6, h7⟩, hf, rfl, rfl⟩)))
        · rw [h0] at hf
          refine xt_pure rfl rfl rfl rfl ?_
          refine xt_pure rfl rfl rfl rfl ?_
          refine xt_getf rfl rfl (xmS 0 rfl (inEC (ymm d1 5 rfl))) ?_
          refine xt_pure rfl rfl rfl (st1 := .int (-9) :: _) rfl ?_
          refine yt_ic rfl rfl ?_ ?_
          rotate_left
          · intro (h8 : r.2.2.2.2.2.2.2.2.1 ≠ -9)
            refine xt_pure rfl rfl rfl (st1 := .int (-2) :: _) rfl ?_
            exact xt_iret rfl rfl rfl rfl (Or.inr (Or.inr (Or.inr (Or.inl ⟨r, hg, ⟨h6, h7⟩, hf, h8, rfl, rfl⟩))))
          · intro (h8 : r.2.2.2.2.2.2.2.2.1 = -9)
            have run : ¬ (F.2.2.2.1.2.1 ≠ -9 ∧ F.2.2.2.1.2.1.toInt < y.toInt) → ∀ (L4 : Option Value), yT X 200 5000 168 37 [some (.ref 78), some (.int x), some (.int y), some (.ref r.1), L4] [] (EC S u v [t0, t1, t2, t3] D0) 0 0 (QsC Fs R En K Q S w u v t0 t1 t2 t3 x y D0 j n0) := by
              intro h9 L4
              refine xt_pure rfl rfl rfl rfl ?_
              refine xt_getf rfl rfl (xmC 121 rfl) ?_
              refine xt_pure rfl rfl rfl rfl ?_
              refine xt_getf rfl rfl (xmS 0 rfl (inEC (ymm d1 1 rfl))) ?_
              refine xt_pure rfl rfl rfl rfl ?_
              refine xt_getf rfl rfl (xmS 0 rfl (inEC (ymm d1 2 rfl))) ?_
              refine xt_callV rfl rfl rfl rfl (xmC 150 rfl) ⟨rfl, rfl, yle rfl, yle rfl, yle rfl, yle rfl⟩ (ck_inspect_118 hKe (d3.mono (fun _ he => List.mem_cons_of_mem _ he)) hW hI) (c2 := 0) (s2 := 0) ⟨yle rfl, yle rfl⟩ ?_
              rintro _ _ ⟨S', rfl, rfl, e1, e2, e3⟩
              refine xt_pure rfl rfl rfl (L1 := [_, _, _, _, _]) rfl ?_
              refine xt_pure rfl rfl rfl rfl ?_
              refine xt_pure rfl rfl rfl (st1 := .int (-9) :: _) rfl ?_
              refine xt_callV rfl rfl rfl rfl (xmC 115 rfl) ⟨rfl, rfl, yle rfl, yle rfl, yle rfl, yle rfl⟩ ck_tell (c2 := 0) (s2 := 0) ⟨yle rfl, yle rfl⟩ ?_
              rintro _ _ ⟨rfl, rfl⟩
              obtain ⟨k1, k2, k3, _⟩ := e1.tell
              rw [k1, k2, k3]
              refine xt_pure rfl rfl rfl rfl ?_
              refine yt_if rfl rfl ?_ ?_
              · intro (h10 : Int32.toInt _ ≤ (0 : Int))
                rw [yi_nat (by omega)] at h10
                have hn : (inspR F r.2.2.2.2.2.2.1 En K w.1).2.2 = [] := List.eq_nil_of_length_eq_zero (by omega)
                obtain ⟨i, hi⟩ : ∃ i : Nat, D0[i]? = some ((r.1, .inl (1, 5, .int r.2.2.2.2.2.2.2.2.1)) : xE) := List.mem_iff_getElem?.mp (ymm d1 5 rfl)
                have hij : j ≠ i := by
                  intro hh
                  rw [hh, hi] at hj
                  simp only [Option.some.injEq, Prod.mk.injEq, Sum.inl.injEq] at hj
                  exact absurd hj.2.1 (by decide)
                refine xt_pure rfl rfl rfl rfl ?_
                refine xt_pure rfl rfl rfl rfl ?_
                refine xt_getf rfl rfl (xmS 0 rfl (inEC (List.mem_of_getElem? hj))) ?_
                refine xt_pure rfl rfl rfl (st1 := .int 1 :: _) rfl ?_
                refine xt_pure rfl rfl rfl rfl ?_
                refine xt_putf rfl rfl rfl rfl (33 + j) (EC_at.trans hj) EC_set ?_
                have hj2 : (D0.set j (78, .inl (11, 9, .int (n0 + 1))))[j]? = some (78, .inl (11, 9, .int (n0 + 1))) := by
                  rw [List.getElem?_set_self (List.getElem?_eq_some_iff.mp hj).1]
                have hi2 : (D0.set j (78, .inl (11, 9, .int (n0 + 1))))[i]? = some (r.1, .inl (1, 5, .int r.2.2.2.2.2.2.2.2.1)) := by
                  rw [List.getElem?_set_ne hij]; exact hi
                have hj3 : ((D0.set j (78, .inl (11, 9, .int (n0 + 1)))).set i (r.1, .inl (1, 5, .int (n0 + 1))))[j]? = some (78, .inl (11, 9, .int (n0 + 1))) := by
                  rw [List.getElem?_set_ne (Ne.symm hij)]; exact hj2
                refine xt_pure rfl rfl rfl rfl ?_
                refine xt_pure rfl rfl rfl rfl ?_
                refine xt_getf rfl rfl (xmS 0 rfl (inEC (List.mem_of_getElem? hj2))) ?_
                refine xt_putf rfl rfl rfl rfl (33 + i) (EC_at.trans hi2) EC_set ?_
                refine xt_pure rfl rfl rfl rfl ?_
                refine xt_getf rfl rfl (xmS 0 rfl (inEC (List.mem_of_getElem? hj3))) ?_
                exact xt_iret rfl rfl rfl rfl (Or.inr (Or.inr (Or.inr (Or.inr (Or.inr ⟨r, F, S', hg, ⟨h6, h7⟩, hf, h8, d2, h9, e1, e2, e3, Or.inr ⟨hn, rfl, i, hi, rfl⟩⟩)))))
              · intro (h10 : (0 : Int) < Int32.toInt _)
                rw [yi_nat (by omega)] at h10
                have hn : (inspR F r.2.2.2.2.2.2.1 En K w.1).2.2 ≠ [] := by
                  intro hh
                  rw [hh] at h10
                  exact absurd h10 (by decide)
                refine xt_pure rfl rfl rfl (st1 := .int (-10) :: _) rfl ?_
                refine xt_pure rfl rfl rfl rfl ?_
                refine xt_pure rfl rfl rfl rfl ?_
                exact xt_iret rfl rfl rfl rfl (Or.inr (Or.inr (Or.inr (Or.inr (Or.inr ⟨r, F, S', hg, ⟨h6, h7⟩, hf, h8, d2, h9, e1, e2, e3, Or.inl ⟨hn, rfl, rfl⟩⟩)))))
            refine xt_pure rfl rfl rfl rfl ?_
            refine xt_getf rfl rfl (xmS 0 rfl (inEC (ymm d1 1 rfl))) ?_
            refine xt_getf rfl rfl (xmS 0 rfl (inEC (ymm f1 14 rfl))) ?_
            refine xt_pure rfl rfl rfl (st1 := .int (-9) :: _) rfl ?_
            refine yt_ic rfl rfl ?_ ?_
            · intro (h9 : F.2.2.2.1.2.1 = -9)
              exact run (fun hh => hh.1 h9) _
            · intro (h9 : F.2.2.2.1.2.1 ≠ -9)
              refine xt_pure rfl rfl rfl rfl ?_
              refine xt_pure rfl rfl rfl rfl ?_
              refine xt_getf rfl rfl (xmS 0 rfl (inEC (ymm d1 1 rfl))) ?_
              refine xt_getf rfl rfl (xmS 0 rfl (inEC (ymm f1 14 rfl))) ?_
              refine yt_ic rfl rfl ?_ ?_
              · intro (h10 : Int32.toInt _ ≤ Int32.toInt _)
                exact run (fun hh => by have := hh.2; omega) _
              · intro (h10 : Int32.toInt _ < Int32.toInt _)
                refine xt_pure rfl rfl rfl (st1 := .int (-4) :: _) rfl ?_
                exact xt_iret rfl rfl rfl rfl (Or.inr (Or.inr (Or.inr (Or.inr (Or.inl ⟨r, F, hg, ⟨h6, h7⟩, hf, h8, d2, ⟨h9, h10⟩, rfl, rfl⟩)))))
end CSUBMIT
