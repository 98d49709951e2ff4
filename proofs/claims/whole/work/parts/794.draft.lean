/-! DRAFT -/
section DRAFT
variable {X : List Int32} {D0 : List xE} {Fs : List yF} {x : Int32} {n : Nat}
theorem ck_open {da k j : Nat} {vs : List Value} {w0 : Value} (hn : n < 30) (hk : D0[k]? = some (109, .inr (6, vs))) (hl : vs.length = 30) (hj : D0[j]? = some (78, .inl (11, 8, .int (Int32.ofNat n)))) (hc : ((da, .inl (1, 0, w0)) : xE) ∈ D0) : yK X 0 0 109 [.ref 78, .ref da] D0 0 0 (fun a D => a = some (.int (Int32.ofNat n)) ∧ D = (D0.set k (109, .inr (6, vs.set n (.ref da)))).set j (78, .inl (11, 8, .int (Int32.ofNat (n + 1))))) := by
  have ti := yi_nat (i := n) (by omega)
  have tn : (Int32.ofNat n).toInt.toNat = n := yi_toNat (by omega)
  refine yK.of rfl (yle rfl) (L := [_, _]) rfl ?_
  refine xt_pure rfl rfl rfl rfl ?_
  refine xt_getf rfl rfl (xmC 119 rfl) ?_
  refine xt_pure rfl rfl rfl rfl ?_
  refine xt_getf rfl rfl (xmS 0 rfl (List.mem_of_getElem? hj)) ?_
  refine xt_pure rfl rfl rfl rfl ?_
  refine yt_ast rfl rfl k hk rfl (by decide) (Or.inl ⟨_, 1, 0, w0, rfl, rfl, List.mem_append_left _ hc⟩) ⟨by rw [ti]; omega, by rw [ti]; omega⟩ (D1 := D0.set k (109, .inr (6, vs.set n (.ref da)))) (by rw [tn]) ?_
  have j2 := ot_set (n := (109, .inr (6, vs.set n (.ref da)))) hk hj (by simp)
  refine xt_pure rfl rfl rfl rfl ?_
  refine xt_pure rfl rfl rfl rfl ?_
  refine xt_getf rfl rfl (xmS 0 rfl (List.mem_of_getElem? j2)) ?_
  refine xt_pure rfl rfl rfl (st1 := .int 1 :: _) rfl ?_
  refine xt_pure rfl rfl rfl rfl ?_
  refine xt_putf rfl rfl rfl rfl j j2 rfl ?_
  refine xt_pure rfl rfl rfl rfl ?_
  refine xt_getf rfl rfl (xmS 0 rfl (List.mem_of_getElem? (sat_set j2))) ?_
  refine xt_pure rfl rfl rfl (st1 := .int 1 :: _) rfl ?_
  refine xt_pure rfl rfl rfl rfl ?_
  rw [yi_add1, yi_s1]
  exact xt_iret rfl rfl rfl rfl ⟨rfl, rfl⟩
theorem ck_draftInit {da fa : Nat} {hf0 : Value} (hf : ((fa, .inl (2, 0, hf0)) : xE) ∈ D0) : yK X 1 100 108 [.ref da, .int x, .ref fa] ((da, .inl (1, 0, .int 0)) :: (da, .inl (1, 1, .null)) :: (da, .inl (1, 2, .null)) :: (da, .inl (1, 3, .null)) :: (da, .inl (1, 4, .int 0)) :: (da, .inl (1, 5, .int 0)) :: (da, .inl (1, 6, .int 0)) :: D0) 1 20 (fun a D => ∃ aa, a = none ∧ D = (aa, .inr (7, List.replicate 20 Value.null)) :: (da, .inl (1, 0, .int x)) :: (da, .inl (1, 1, .ref fa)) :: (da, .inl (1, 2, .ref aa)) :: (da, .inl (1, 3, .null)) :: (da, .inl (1, 4, .int 0)) :: (da, .inl (1, 5, .int (-9))) :: (da, .inl (1, 6, .int 0)) :: D0) := by
  refine yK.of rfl (yle rfl) (L := [_, _, _]) rfl ?_
  refine xt_pure rfl rfl rfl rfl ?_
  refine xt_obji rfl rfl rfl ⟨yle rfl, yle rfl, yle rfl⟩ ?_
  refine xt_pure rfl rfl rfl rfl ?_
  refine xt_pure rfl rfl rfl (st1 := .int 20 :: _) rfl ?_
  refine yt_newA rfl rfl ⟨by decide, by decide⟩ (c1 := 0) (s1 := 0) (yle rfl) (yle rfl) ?_
  intro aa
  refine xt_putf rfl rfl rfl rfl 3 rfl rfl ?_
  refine xt_pure rfl rfl rfl rfl ?_
  refine xt_pure rfl rfl rfl (st1 := .int (-9) :: _) rfl ?_
  refine xt_putf rfl rfl rfl rfl 6 rfl rfl ?_
  refine xt_pure rfl rfl rfl rfl ?_
  refine xt_pure rfl rfl rfl rfl ?_
  refine xt_putf rfl rfl rfl rfl 1 rfl rfl ?_
  refine xt_pure rfl rfl rfl rfl ?_
  refine xt_pure rfl rfl rfl rfl ?_
  refine xt_putf rfl rfl rfl rfl 2 rfl rfl ?_
  exact xt_vret rfl rfl rfl ⟨aa, rfl, rfl⟩
/-- where a form of the class stands -/
def yFaC (Fs : List yF) (D : List xE) (x : Int32) (fa : Nat) : Prop := ∃ fs : List Nat, fs.length = Fs.length ∧ ((92, .inr (5, fs.map Value.ref ++ List.replicate (10 - Fs.length) Value.null)) : xE) ∈ D ∧ fs[x.toInt.toNat]? = some fa
theorem cK_draft {k j : Nat} {vs : List Value} (hF : yFsC Fs D0) (hn : n ≤ 30) (hk : D0[k]? = some (109, .inr (6, vs))) (hl : vs.length = 30) (hj : D0[j]? = some (78, .inl (11, 8, .int (Int32.ofNat n)))) : yK X 3 150 107 [.ref 78, .int x] D0 2 27 (fun a D => (gI Fs x = none ∧ a = some (.int (-1)) ∧ D = D0) ∨ (∃ F, gI Fs x = some F ∧ n = 30 ∧ a = some (.int (-3)) ∧ D = D0) ∨ ∃ F fa da aa, gI Fs x = some F ∧ n < 30 ∧ (yFaC Fs D0 x fa ∧ yFC D0 fa F) ∧ a = some (.int (Int32.ofNat n)) ∧ D = (aa, .inr (7, List.replicate 20 Value.null)) :: (da, .inl (1, 0, .int x)) :: (da, .inl (1, 1, .ref fa)) :: (da, .inl (1, 2, .ref aa)) :: (da, .inl (1, 3, .null)) :: (da, .inl (1, 4, .int 0)) :: (da, .inl (1, 5, .int (-9))) :: (da, .inl (1, 6, .int 0)) :: (D0.set k (109, .inr (6, vs.set n (.ref da)))).set j (78, .inl (11, 8, .int (Int32.ofNat (n + 1))))) := by
  have hF0 := hF
  obtain ⟨fs, f1, f2, f3, f4, f5⟩ := hF
  refine yK.of rfl (yle rfl) (L := [_, _]) rfl ?_
  refine xt_pure rfl rfl rfl rfl ?_
  refine xt_pure rfl rfl rfl rfl ?_
  refine xt_callV rfl rfl rfl rfl (xmC 115 rfl) ⟨rfl, rfl, yle rfl, yle rfl, yle rfl, yle rfl⟩ (ck_formAt hF0) (c2 := 2) (s2 := 27) ⟨yle rfl, yle rfl⟩ ?_
  rintro _ _ (⟨rfl, hx, rfl⟩ | ⟨rfl, F, a, hx, hC, rfl⟩)
  · skip
    refine xt_pure rfl rfl rfl rfl ?_
    refine xt_pure rfl rfl rfl (st1 := .int (-1) :: _) rfl ?_
    exact xt_iret rfl rfl rfl rfl (Or.inl ⟨hx, rfl, rfl⟩)
  · obtain ⟨g1, g2, g3, g4, g5⟩ := gI_some hx
    obtain ⟨fa, hfa⟩ := yfa g3 f1
    obtain ⟨nm1, nm2⟩ := yform g3 hfa f1 f2
    rw [yi_id g1] at nm1 nm2
    have hC2 := f5 _ F fa g3 hfa
    obtain ⟨pp, qq, fE, _⟩ := id hC2
    have ti := yi_nat (i := n) (by omega)
    refine xt_pure rfl rfl rfl rfl ?_
    refine xt_pure rfl rfl rfl rfl ?_
    refine xt_getf rfl rfl (xmS 0 rfl (List.mem_of_getElem? hj)) ?_
    refine xt_pure rfl rfl rfl (st1 := .int 30 :: _) rfl ?_
    refine yt_ic rfl rfl ?_ ?_
    rotate_left
    · intro (h7 : (30 : Int) ≤ Int32.toInt _)
      rw [ti] at h7
      refine xt_pure rfl rfl rfl (st1 := .int (-3) :: _) rfl ?_
      refine xt_pure rfl rfl rfl rfl ?_
      exact xt_iret rfl rfl rfl rfl (Or.inr (Or.inl ⟨F, hx, by omega, rfl, rfl⟩))
    · intro (h7 : Int32.toInt _ < (30 : Int))
      rw [ti] at h7
      refine xt_pure rfl rfl rfl rfl ?_
      refine xt_new rfl rfl rfl (c1 := 1) (s1 := 20) (yle rfl) (yle rfl) ?_
      intro da
      show yT _ _ _ _ _ _ _ ((da, .inl (1, 0, .int 0)) :: (da, .inl (1, 1, .null)) :: (da, .inl (1, 2, .null)) :: (da, .inl (1, 3, .null)) :: (da, .inl (1, 4, .int 0)) :: (da, .inl (1, 5, .int 0)) :: (da, .inl (1, 6, .int 0)) :: D0) _ _ _
      refine xt_pure rfl rfl rfl rfl ?_
      refine xt_pure rfl rfl rfl rfl ?_
      refine xt_pure rfl rfl rfl rfl ?_
      refine xt_getf rfl rfl (xmC 117 rfl) ?_
      refine xt_pure rfl rfl rfl rfl ?_
      refine xt_aald rfl rfl ⟨by decide, rfl⟩ (xmS 7 rfl f4) nm1 (v := .ref fa) nm2 ?_
      refine xt_callI rfl rfl (by decide) rfl rfl ⟨rfl, yle rfl, yle rfl, yle rfl, yle rfl⟩ (ck_draftInit (ymm fE 0 rfl)) (c2 := 0) (s2 := 0) ⟨yle rfl, yle rfl⟩ ?_
      rintro _ _ ⟨aa, rfl, rfl⟩
      refine xt_callV rfl rfl rfl rfl (xmC 115 rfl) ⟨rfl, rfl, yle rfl, yle rfl, yle rfl, yle rfl⟩ (ck_open (k := k + 8) (j := j + 8) (w0 := .int x) (n := n) (by omega) hk hl hj (List.mem_of_getElem? (i := 1) rfl)) (c2 := 0) (s2 := 0) ⟨yle rfl, yle rfl⟩ ?_
      rintro _ _ ⟨rfl, rfl⟩
      exact xt_iret rfl rfl rfl rfl (Or.inr (Or.inr ⟨F, fa, da, aa, hx, by omega, ⟨⟨fs, f1, f4, hfa⟩, hC2⟩, rfl, rfl⟩))
end DRAFT
