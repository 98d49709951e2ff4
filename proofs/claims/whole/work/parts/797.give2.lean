/-! GIVE: the class, the call -/
section GIVE2
variable {X : List Int32} {D0 : List xE} {Fs : List yF} {R : List yDR} {x y : Int32}
theorem yVC_rf {D : List xE} {v : Value} {z : Option yO} (h : yVC D v z) : rfV v := by
  cases z with
  | none => exact Or.inl h
  | some o =>
    obtain ⟨a, h1, _⟩ := h
    exact Or.inr ⟨a, h1⟩
theorem yCh_rf {D : List xE} : ∀ {s : List (Nat × Option yO)} {v : Value}, yCh D v s → rfV v
  | [], _, h => Or.inl h
  | (_, _) :: _, _, ⟨g, _, _, h1, _⟩ => Or.inr ⟨g, h1⟩
/-- what give does to the entries, when it gives -/
def QgC (r : yDR) (y : Int32) (hv : Value) (jg jh : Nat) (g0 : Int32) (D0 D : List xE) : Prop := ∃ v0 g i3 i4 i7, gI r.2.2.2.1 y = some v0 ∧ D0[i3]? = some (r.1, .inl (1, 3, r.2.2.2.2.1)) ∧ D0[i4]? = some (r.1, .inl (1, 4, .int (Int32.ofNat r.2.2.2.2.2.2.2.1.length))) ∧ D0[i7]? = some (r.2.1, .inr (7, r.2.2.2.1)) ∧ D = (g, .inl (3, 0, .int y)) :: (g, .inl (3, 1, v0)) :: (g, .inl (3, 2, r.2.2.2.2.1)) :: (((((D0.set jg (78, .inl (11, 10, .int (g0 + 1)))).set i3 (r.1, .inl (1, 3, .ref g))).set i4 (r.1, .inl (1, 4, .int (Int32.ofNat r.2.2.2.2.2.2.2.1.length + 1)))).set i7 (r.2.1, .inr (7, r.2.2.2.1.set y.toInt.toNat hv))).set jh (78, .inl (11, 6, .null)))
theorem cK_give (h20 : ∀ (i : Nat) F, Fs[i]? = some F → F.1.length ≤ 20) (hDs : yDsC Fs R D0) {jg jh : Nat} {g0 : Int32} {hv : Value} (ej : D0[jg]? = some (78, .inl (11, 10, .int g0))) (eh : D0[jh]? = some (78, .inl (11, 6, hv))) (hv' : obV D0 hv) : yK X 3 160 110 [.ref 78, .int x, .int y] D0 1 3 (fun a D => (gI R x = none ∧ a = some (.int (-1)) ∧ D = D0) ∨ (∃ r F, gI R x = some r ∧ Fs[r.2.2.2.2.2.1]? = some F ∧ askP F y = none ∧ a = some (.int (-1)) ∧ D = D0) ∨ (∃ r F P, gI R x = some r ∧ Fs[r.2.2.2.2.2.1]? = some F ∧ askP F y = some P ∧ r.2.2.2.2.2.2.2.2.1 ≠ -9 ∧ a = some (.int (-2)) ∧ D = D0) ∨ (∃ r F P, gI R x = some r ∧ Fs[r.2.2.2.2.2.1]? = some F ∧ askP F y = some P ∧ r.2.2.2.2.2.2.2.2.1 = -9 ∧ 400 ≤ g0.toInt ∧ a = some (.int (-3)) ∧ D = D0) ∨ ∃ r F P, gI R x = some r ∧ Fs[r.2.2.2.2.2.1]? = some F ∧ askP F y = some P ∧ r.2.2.2.2.2.2.2.2.1 = -9 ∧ g0.toInt < 400 ∧ a = some (.int (Int32.ofNat r.2.2.2.2.2.2.2.1.length + 1)) ∧ QgC r y hv jg jh g0 D0 D) := by
  refine yK.of rfl (yle rfl) (L := [_, _, _, _]) rfl ?_
  refine xt_pure rfl rfl rfl rfl ?_
  refine xt_pure rfl rfl rfl rfl ?_
  refine xt_callV rfl rfl rfl rfl (xmC 115 rfl) ⟨rfl, rfl, yle rfl, yle rfl, yle rfl, yle rfl⟩ (ck_draftAt hDs.1) (c2 := 1) (s2 := 3) ⟨yle rfl, yle rfl⟩ ?_
  rintro _ _ (⟨rfl, hg, rfl⟩ | ⟨rfl, r, hg, rfl⟩)
  · skip
    refine xt_pure rfl rfl rfl (L1 := [_, _, _, _]) rfl ?_
    refine xt_pure rfl rfl rfl rfl ?_
    refine xt_pure rfl rfl rfl rfl ?_
    refine xt_pure rfl rfl rfl (st1 := .int (-1) :: _) rfl ?_
    exact xt_iret rfl rfl rfl rfl (Or.inl ⟨hg, rfl, rfl⟩)
  · obtain ⟨d1, F, d2, d3, d4, d5⟩ := hDs.2 r (dr_mem hg)
    obtain ⟨pp, qq, f1, _⟩ := id d3
    have hl := h20 _ F d2
    refine xt_pure rfl rfl rfl (L1 := [_, _, _, _]) rfl ?_
    refine xt_pure rfl rfl rfl rfl ?_
    refine xt_pure rfl rfl rfl rfl ?_
    refine xt_pure rfl rfl rfl rfl ?_
    refine xt_getf rfl rfl (xmS 0 rfl (ymm d1 1 rfl)) ?_
    refine xt_pure rfl rfl rfl rfl ?_
    refine xt_callV rfl rfl rfl rfl (xmS 0 rfl (ymm f1 0 rfl)) ⟨rfl, rfl, yle rfl, yle rfl, yle rfl, yle rfl⟩ (ck_answered hl d3) (c2 := 1) (s2 := 3) ⟨yle rfl, yle rfl⟩ ?_
    rintro _ _ (⟨rfl, ⟨P, hP⟩, rfl⟩ | ⟨rfl, hP, rfl⟩)
    rotate_left
    · skip
      refine xt_pure rfl rfl rfl rfl ?_
      refine xt_pure rfl rfl rfl (st1 := .int (-1) :: _) rfl ?_
      exact xt_iret rfl rfl rfl rfl (Or.inr (Or.inl ⟨r, F, hg, d2, hP, rfl, rfl⟩))
    · skip
      refine xt_pure rfl rfl rfl rfl ?_
      refine xt_pure rfl rfl rfl rfl ?_
      refine xt_getf rfl rfl (xmS 0 rfl (ymm d1 5 rfl)) ?_
      refine xt_pure rfl rfl rfl (st1 := .int (-9) :: _) rfl ?_
      refine yt_ic rfl rfl ?_ ?_
      rotate_left
      · intro (h8 : r.2.2.2.2.2.2.2.2.1 ≠ -9)
        refine xt_pure rfl rfl rfl (st1 := .int (-2) :: _) rfl ?_
        exact xt_iret rfl rfl rfl rfl (Or.inr (Or.inr (Or.inl ⟨r, F, P, hg, d2, hP, h8, rfl, rfl⟩)))
      · intro (h8 : r.2.2.2.2.2.2.2.2.1 = -9)
        refine xt_pure rfl rfl rfl rfl ?_
        refine xt_getf rfl rfl (xmS 0 rfl (List.mem_of_getElem? ej)) ?_
        refine xt_pure rfl rfl rfl (st1 := .int 400 :: _) rfl ?_
        refine yt_ic rfl rfl ?_ ?_
        rotate_left
        · intro (h9 : (400 : Int) ≤ Int32.toInt _)
          refine xt_pure rfl rfl rfl (st1 := .int (-3) :: _) rfl ?_
          exact xt_iret rfl rfl rfl rfl (Or.inr (Or.inr (Or.inr (Or.inl ⟨r, F, P, hg, d2, hP, h8, h9, rfl, rfl⟩))))
        · intro (h9 : Int32.toInt _ < (400 : Int))
          obtain ⟨q1, q2, q3, q4⟩ := askP_some hP
          obtain ⟨v0, hv0⟩ : ∃ v0, gI r.2.2.2.1 y = some v0 := gI_iff.mpr (by have := d4.1; omega)
          obtain ⟨g1, g2, g3, g4, g5⟩ := gI_some hv0
          obtain ⟨z0, hz0⟩ : ∃ z, r.2.2.2.2.2.2.1[y.toInt.toNat]? = some z := ⟨_, List.getElem?_eq_getElem (by have := d4.2.1; have := d4.1; omega)⟩
          have r0 := yVC_rf (d4.2.2 _ v0 z0 g3 hz0)
          have r1 := yCh_rf d5
          obtain ⟨i3, e3⟩ : ∃ i : Nat, D0[i]? = some ((r.1, .inl (1, 3, r.2.2.2.2.1)) : xE) := List.mem_iff_getElem?.mp (ymm d1 3 rfl)
          obtain ⟨i4, e4⟩ : ∃ i : Nat, D0[i]? = some ((r.1, .inl (1, 4, .int (Int32.ofNat r.2.2.2.2.2.2.2.1.length))) : xE) := List.mem_iff_getElem?.mp (ymm d1 4 rfl)
          obtain ⟨i7, e7⟩ : ∃ i : Nat, D0[i]? = some ((r.2.1, .inr (7, r.2.2.2.1)) : xE) := List.mem_iff_getElem?.mp (ymm d1 7 rfl)
          have a3 := ot_set (n := (78, .inl (11, 10, .int (g0 + 1)))) ej e3 (by simp)
          have a4 := ot_set (n := (78, .inl (11, 10, .int (g0 + 1)))) ej e4 (by simp)
          have a7 := ot_set (n := (78, .inl (11, 10, .int (g0 + 1)))) ej e7 (by simp)
          have ah := ot_set (n := (78, .inl (11, 10, .int (g0 + 1)))) ej eh (by simp)
          have a2 : ((r.1, .inl (1, 2, .ref r.2.1)) : xE) ∈ D0.set jg (78, .inl (11, 10, .int (g0 + 1))) := kp_set ej (ymm d1 2 rfl) (by simp)
          have av : obV (D0.set jg (78, .inl (11, 10, .int (g0 + 1)))) hv := by
            rcases hv' with h | ⟨a, w, h, ha⟩
            · exact Or.inl h
            · exact Or.inr ⟨a, w, h, kp_set ej ha (by simp)⟩
          refine xt_pure rfl rfl rfl rfl ?_
          refine xt_pure rfl rfl rfl rfl ?_
          refine xt_getf rfl rfl (xmS 0 rfl (List.mem_of_getElem? ej)) ?_
          refine xt_pure rfl rfl rfl (st1 := .int 1 :: _) rfl ?_
          refine xt_pure rfl rfl rfl rfl ?_
          refine xt_putf rfl rfl rfl rfl jg ej rfl ?_
          have cl : ((r.1, .inl (1, 2, .ref r.2.1)) : xE) ∈ D0.set jg (78, .inl (11, 10, .int (g0 + 1))) ++ xcon X := List.mem_append_left _ a2
          have hP3 := ck_put (X := X) r0 r1 av a2 a3 a4 a7 hv0
          refine xt_pure rfl rfl rfl rfl ?_
          refine xt_pure rfl rfl rfl rfl ?_
          refine xt_pure rfl rfl rfl rfl ?_
          refine xt_getf rfl rfl (xmS 0 rfl (List.mem_of_getElem? ah)) ?_
          refine xt_callV rfl rfl rfl rfl cl ⟨rfl, rfl, yle rfl, yle rfl, yle rfl, yle rfl⟩ hP3 (c2 := 0) (s2 := 0) ⟨yle rfl, yle rfl⟩ ?_
          rintro _ _ ⟨g, rfl, rfl⟩
          have b4 := ot_set (n := (r.1, .inl (1, 3, .ref g))) a3 a4 (by simp)
          have b7 := ot_set (n := (r.1, .inl (1, 3, .ref g))) a3 a7 (by simp)
          have bh := ot_set (n := (r.1, .inl (1, 3, .ref g))) a3 ah (by simp)
          have c4 := sat_set (n := (r.1, .inl (1, 4, .int (Int32.ofNat r.2.2.2.2.2.2.2.1.length + 1)))) b4
          have c7 := ot_set (n := (r.1, .inl (1, 4, .int (Int32.ofNat r.2.2.2.2.2.2.2.1.length + 1)))) b4 b7 (by simp)
          have ch := ot_set (n := (r.1, .inl (1, 4, .int (Int32.ofNat r.2.2.2.2.2.2.2.1.length + 1)))) b4 bh (by simp)
          have d4' := ot_set (n := (r.2.1, .inr (7, r.2.2.2.1.set y.toInt.toNat hv))) c7 c4 (by simp)
          have dh := ot_set (n := (r.2.1, .inr (7, r.2.2.2.1.set y.toInt.toNat hv))) c7 ch (by simp)
          have f4 := ot_set (n := (78, .inl (11, 6, .null))) dh d4' (by simp)
          refine xt_pure rfl rfl rfl rfl ?_
          refine xt_pure rfl rfl rfl rfl ?_
          refine xt_putf rfl rfl rfl rfl (jh + 3) dh rfl ?_
          refine xt_pure rfl rfl rfl rfl ?_
          refine xt_getf rfl rfl (xmS 3 rfl (List.mem_of_getElem? f4)) ?_
          exact xt_iret rfl rfl rfl rfl (Or.inr (Or.inr (Or.inr (Or.inr ⟨r, F, P, hg, d2, hP, h8, h9, rfl, v0, g, i3, i4, i7, hv0, e3, e4, e7, rfl⟩))))
end GIVE2
