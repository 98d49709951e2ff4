/-! CHECK, SHOWN, FIGURE: the class -/
/-- the entries: working, form and answers at work, what is told, the rest -/
abbrev EC (S : zS) (u v : Value) (t : List Int32) (D0 : List xE) : List xE := zD zTE zaE S (w2E u v ((125, .inr (0, t.map Value.int)) :: D0))
theorem inEC {S : zS} {u v : Value} {t : List Int32} {D0 : List xE} : D0 ⊆ EC S u v t D0 := fun _ he => List.mem_append_right _ (List.mem_cons_of_mem _ (List.mem_cons_of_mem _ (List.mem_cons_of_mem _ he)))
theorem ck_tell {X : List Int32} {D0 : List xE} {S : zS} {u v : Value} {t0 t1 t2 t3 x : Int32} : yK X 0 0 160 [.ref 78, .int x] (EC S u v [t0, t1, t2, t3] D0) 0 0 (fun r D => r = none ∧ D = EC S u v [zI S 4, zI S 5, zI S 6, x] D0) := by
  refine yK.of rfl (yle rfl) (L := [_, _]) rfl ?_
  refine xt_pure rfl rfl rfl rfl ?_
  refine xt_getf rfl rfl (xmC 122 rfl) ?_
  refine xt_pure rfl rfl rfl (st1 := .int 0 :: _) rfl ?_
  refine xt_pure rfl rfl rfl rfl ?_
  refine xt_getf rfl rfl (xmC 120 rfl) ?_
  refine xt_getf rfl rfl (xmD 4 rfl) ?_
  refine xt_iast rfl rfl 32 rfl ⟨by decide, yle rfl⟩ (D1 := EC S u v [zI S 4, t1, t2, t3] D0) rfl ?_
  refine xt_pure rfl rfl rfl rfl ?_
  refine xt_getf rfl rfl (xmC 122 rfl) ?_
  refine xt_pure rfl rfl rfl (st1 := .int 1 :: _) rfl ?_
  refine xt_pure rfl rfl rfl rfl ?_
  refine xt_getf rfl rfl (xmC 120 rfl) ?_
  refine xt_getf rfl rfl (xmD 5 rfl) ?_
  refine xt_iast rfl rfl 32 rfl ⟨by decide, yle rfl⟩ (D1 := EC S u v [zI S 4, zI S 5, t2, t3] D0) rfl ?_
  refine xt_pure rfl rfl rfl rfl ?_
  refine xt_getf rfl rfl (xmC 122 rfl) ?_
  refine xt_pure rfl rfl rfl (st1 := .int 2 :: _) rfl ?_
  refine xt_pure rfl rfl rfl rfl ?_
  refine xt_getf rfl rfl (xmC 120 rfl) ?_
  refine xt_getf rfl rfl (xmD 6 rfl) ?_
  refine xt_iast rfl rfl 32 rfl ⟨by decide, yle rfl⟩ (D1 := EC S u v [zI S 4, zI S 5, zI S 6, t3] D0) rfl ?_
  refine xt_pure rfl rfl rfl rfl ?_
  refine xt_getf rfl rfl (xmC 122 rfl) ?_
  refine xt_pure rfl rfl rfl (st1 := .int 3 :: _) rfl ?_
  refine xt_pure rfl rfl rfl rfl ?_
  refine xt_iast rfl rfl 32 rfl ⟨by decide, yle rfl⟩ (D1 := EC S u v [zI S 4, zI S 5, zI S 6, x] D0) rfl ?_
  exact xt_vret rfl rfl rfl ⟨rfl, rfl⟩
theorem W0.tell {S : zS} {w : yW} (h : W0 S w) : zI S 4 = w.2.1 ∧ zI S 5 = w.2.1 ∧ zI S 6 = w.2.2.1 ∧ zI S 0 = w.1 := by
  obtain ⟨R, ⟨a1, a2, a3, a4, a5, _⟩, _⟩ := h
  refine ⟨a2, ?_, a4, a1⟩
  have : zI S 5 + Int32.ofNat 0 = zI S 5 := by
    show zI S 5 + 0 = zI S 5
    exact Int32.add_zero _
  rw [this] at a3
  exact a3
section CCHECK
variable {X : List Int32} {D0 : List xE} {Fs : List yF} {R : List yDR} {En : List (Int64 × Int32)} {K : Nat} {Q S : zS} {w : yW} {sh : List Bool} {fd : List yFd} {u v : Value} {t0 t1 t2 t3 x : Int32}
theorem dr_mem {α : Type} {l : List α} {x : Int32} {a : α} (h : gI l x = some a) : a ∈ l := List.mem_of_getElem? (gI_some h).2.2.1
/-- every draft of the class has what working it reads -/
def DrC (Fs : List yF) (R : List yDR) (En : List (Int64 × Int32)) (D0 : List xE) : Prop := yDsA R D0 ∧ ∀ r ∈ R, (∀ e ∈ dfR r, e ∈ D0) ∧ ∃ F, Fs[r.2.2.2.2.2.1]? = some F ∧ HC D0 r.2.2.1 r.2.1 F r.2.2.2.2.2.2.1 En
theorem cK_check (hKe : K = 300) (hR : DrC Fs R En D0) (hW : W0 S w) (hI : insC118 Q S sh fd) : yK X 200 5000 129 [.ref 78, .int x] (EC S u v [t0, t1, t2, t3] D0) 0 0 (fun a D => (gI R x = none ∧ a = some (.int (-1)) ∧ D = EC S u v [t0, t1, t2, t3] D0) ∨ (∃ r, gI R x = some r ∧ 10000 ≤ w.1.toInt ∧ a = some (.int (-3)) ∧ D = EC S u v [t0, t1, t2, t3] D0) ∨ ∃ r F S', gI R x = some r ∧ ¬ 10000 ≤ w.1.toInt ∧ Fs[r.2.2.2.2.2.1]? = some F ∧ a = some (.int (Int32.ofNat (inspR F r.2.2.2.2.2.2.1 En K w.1).2.2.length)) ∧ D = EC S' (.ref r.2.2.1) (.ref r.2.1) [(inspR F r.2.2.2.2.2.2.1 En K w.1).1.2.1, (inspR F r.2.2.2.2.2.2.1 En K w.1).1.2.1, (inspR F r.2.2.2.2.2.2.1 En K w.1).1.2.2.1, -9] D0 ∧ W0 S' (inspR F r.2.2.2.2.2.2.1 En K w.1).1 ∧ insC118 Q S' (inspR F r.2.2.2.2.2.2.1 En K w.1).2.1 (inspR F r.2.2.2.2.2.2.1 En K w.1).2.2 ∧ (inspR F r.2.2.2.2.2.2.1 En K w.1).2.2.length ≤ 32) := by
  refine yK.of rfl (yle rfl) (L := [_, _, _, _]) rfl ?_
  refine xt_pure rfl rfl rfl rfl ?_
  refine xt_pure rfl rfl rfl rfl ?_
  refine xt_callV rfl rfl rfl rfl (xmC 120 rfl) ⟨rfl, rfl, yle rfl, yle rfl, yle rfl, yle rfl⟩ (ck_draftAt (hR.1.mono inEC)) (c2 := 0) (s2 := 0) ⟨yle rfl, yle rfl⟩ ?_
  rintro _ _ (⟨rfl, hg, rfl⟩ | ⟨rfl, r, hg, rfl⟩)
  · refine xt_pure rfl rfl rfl (L1 := [_, _, _, _]) rfl ?_
    refine xt_pure rfl rfl rfl rfl ?_
    refine xt_pure rfl rfl rfl rfl ?_
    refine xt_pure rfl rfl rfl (st1 := .int (-1) :: _) rfl ?_
    exact xt_iret rfl rfl rfl rfl (Or.inl ⟨hg, rfl, rfl⟩)
  · refine xt_pure rfl rfl rfl (L1 := [_, _, _, _]) rfl ?_
    refine xt_pure rfl rfl rfl rfl ?_
    refine xt_pure rfl rfl rfl rfl ?_
    refine xt_pure rfl rfl rfl rfl ?_
    refine xt_getf rfl rfl (xmC 120 rfl) ?_
    refine xt_callV rfl rfl rfl rfl (xmC 142 rfl) ⟨rfl, rfl, yle rfl, yle rfl, yle rfl, yle rfl⟩ (ck_isFull (fl := zI S 0) (List.mem_of_getElem? (i := 0) rfl)) (c2 := 0) (s2 := 0) ⟨yle rfl, yle rfl⟩ ?_
    have h0 := hW.tell.2.2.2
    rintro _ _ (⟨rfl, hf, rfl⟩ | ⟨rfl, hf, rfl⟩)
    · refine xt_pure rfl rfl rfl rfl ?_
      refine xt_pure rfl rfl rfl (st1 := .int (-3) :: _) rfl ?_
      rw [h0] at hf
      exact xt_iret rfl rfl rfl rfl (Or.inr (Or.inl ⟨r, hg, hf, rfl, rfl⟩))
    · obtain ⟨d1, F, d2, d3⟩ := hR.2 r (dr_mem hg)
      refine xt_pure rfl rfl rfl rfl ?_
      refine xt_pure rfl rfl rfl rfl ?_
      refine xt_getf rfl rfl (xmC 121 rfl) ?_
      refine xt_pure rfl rfl rfl rfl ?_
      refine xt_getf rfl rfl (xmS 0 rfl (inEC (ymm d1 1 rfl))) ?_
      refine xt_pure rfl rfl rfl rfl ?_
      refine xt_getf rfl rfl (xmS 0 rfl (inEC (ymm d1 2 rfl))) ?_
      refine xt_callV rfl rfl rfl rfl (xmC 150 rfl) ⟨rfl, rfl, yle rfl, yle rfl, yle rfl, yle rfl⟩ (ck_inspect_118 hKe (d3.mono (fun _ he => List.mem_cons_of_mem _ he)) hW hI) (c2 := 0) (s2 := 0) ⟨yle rfl, yle rfl⟩ ?_
      rintro _ _ ⟨S', rfl, rfl, e1, e2, e3⟩
      refine xt_pure rfl rfl rfl (L1 := [_, _, _, _]) rfl ?_
      refine xt_pure rfl rfl rfl rfl ?_
      refine xt_pure rfl rfl rfl (st1 := .int (-9) :: _) rfl ?_
      refine xt_callV rfl rfl rfl rfl (xmC 120 rfl) ⟨rfl, rfl, yle rfl, yle rfl, yle rfl, yle rfl⟩ ck_tell (c2 := 0) (s2 := 0) ⟨yle rfl, yle rfl⟩ ?_
      rintro _ _ ⟨rfl, rfl⟩
      refine xt_pure rfl rfl rfl rfl ?_
      rw [h0] at hf
      obtain ⟨k1, k2, k3, _⟩ := e1.tell
      rw [k1, k2, k3]
      exact xt_iret rfl rfl rfl rfl (Or.inr (Or.inr ⟨r, F, S', hg, hf, d2, rfl, rfl, e1, e2, e3⟩))
end CCHECK
