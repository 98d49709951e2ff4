/-! GIVE: the class -/
section GIVE
variable {X : List Int32} {D0 : List xE} {Fs : List yF} {R : List yDR} {x y : Int32}
def rfV (v : Value) : Prop := v = .null ∨ ∃ a, v = .ref a
def obV (D : List xE) (v : Value) : Prop := v = .null ∨ ∃ a w, v = .ref a ∧ ((a, .inl (6, 0, w)) : xE) ∈ D
theorem asO {D : List xE} {v : Value} (h : obV D v) : xasE X D (.object "FormMill$Obj") v := by
  rcases h with rfl | ⟨a, w, rfl, ha⟩
  · rfl
  · exact Or.inl ⟨_, 6, 0, w, rfl, rfl, List.mem_append_left _ ha⟩
theorem ck_givInit {g : Nat} {v0 lt : Value} (h0 : rfV v0) (hlt : rfV lt) : yK X 1 100 113 [.ref g, .int x, v0, lt] ((g, .inl (3, 0, .int 0)) :: (g, .inl (3, 1, .null)) :: (g, .inl (3, 2, .null)) :: D0) 0 0 (fun a D => a = none ∧ D = (g, .inl (3, 0, .int x)) :: (g, .inl (3, 1, v0)) :: (g, .inl (3, 2, lt)) :: D0) := by
  rcases h0 with rfl | ⟨b, rfl⟩ <;> rcases hlt with rfl | ⟨c, rfl⟩
  all_goals
    refine yK.of rfl (yle rfl) (L := [_, _, _, _]) rfl ?_
    refine xt_pure rfl rfl rfl rfl ?_
    refine xt_obji rfl rfl rfl ⟨yle rfl, yle rfl, yle rfl⟩ ?_
    refine xt_pure rfl rfl rfl rfl ?_
    refine xt_pure rfl rfl rfl rfl ?_
    refine xt_putf rfl rfl rfl rfl 0 rfl rfl ?_
    refine xt_pure rfl rfl rfl rfl ?_
    refine xt_pure rfl rfl rfl rfl ?_
    refine xt_putf rfl rfl rfl rfl 1 rfl rfl ?_
    refine xt_pure rfl rfl rfl rfl ?_
    refine xt_pure rfl rfl rfl rfl ?_
    refine xt_putf rfl rfl rfl rfl 2 rfl rfl ?_
    exact xt_vret rfl rfl rfl ⟨rfl, rfl⟩
theorem ck_put {da aa i3 i4 i7 : Nat} {v0 lt hv : Value} {refs : List Value} {n0 : Int32} (h0 : rfV v0) (hlt : rfV lt) (hv' : obV D0 hv) (h2 : ((da, .inl (1, 2, .ref aa)) : xE) ∈ D0) (e3 : D0[i3]? = some (da, .inl (1, 3, lt))) (e4 : D0[i4]? = some (da, .inl (1, 4, .int n0))) (e7 : D0[i7]? = some (aa, .inr (7, refs))) (hx : gI refs x = some v0) : yK X 2 130 112 [.ref da, .int x, hv] D0 1 3 (fun a D => ∃ g, a = none ∧ D = (g, .inl (3, 0, .int x)) :: (g, .inl (3, 1, v0)) :: (g, .inl (3, 2, lt)) :: ((D0.set i3 (da, .inl (1, 3, .ref g))).set i4 (da, .inl (1, 4, .int (n0 + 1)))).set i7 (aa, .inr (7, refs.set x.toInt.toNat hv))) := by
  obtain ⟨g1, g2, g3, g4, g5⟩ := gI_some hx
  have h0' := h0
  have hlt' := hlt
  have hne : ∀ (w1 w2 : Value), ((da, .inl (1, 2, w1)) : xE) ≠ (da, .inl (1, 3, w2)) ∧ ((da, .inl (1, 2, w1)) : xE) ≠ (da, .inl (1, 4, w2)) := fun w1 w2 => ⟨by simp, by simp⟩
  rcases h0 with rfl | ⟨b, rfl⟩ <;> rcases hlt with rfl | ⟨c, rfl⟩ <;> rcases hv' with rfl | ⟨a, w, rfl, ha⟩
  all_goals
    refine yK.of rfl (yle rfl) (L := [_, _, _]) rfl ?_
    refine xt_pure rfl rfl rfl rfl ?_
    refine xt_new rfl rfl rfl (c1 := 0) (s1 := 0) (yle rfl) (yle rfl) ?_
    intro g
    show yT _ _ _ _ _ _ _ ((g, .inl (3, 0, .int 0)) :: (g, .inl (3, 1, .null)) :: (g, .inl (3, 2, .null)) :: D0) _ _ _
    refine xt_pure rfl rfl rfl rfl ?_
    refine xt_pure rfl rfl rfl rfl ?_
    refine xt_pure rfl rfl rfl rfl ?_
    refine xt_getf rfl rfl (xmS 3 rfl h2) ?_
    refine xt_pure rfl rfl rfl rfl ?_
    refine xt_aald rfl rfl ⟨by decide, rfl⟩ (xmS 3 rfl (List.mem_of_getElem? e7)) g5 (by rw [g4]; exact g3) ?_
    refine xt_pure rfl rfl rfl rfl ?_
    refine xt_getf rfl rfl (xmS 3 rfl (List.mem_of_getElem? e3)) ?_
    refine xt_callI rfl rfl (by decide) rfl rfl ⟨rfl, yle rfl, yle rfl, yle rfl, yle rfl⟩ (ck_givInit h0' hlt') (c2 := 0) (s2 := 0) ⟨yle rfl, yle rfl⟩ ?_
    rintro _ _ ⟨rfl, rfl⟩
    refine xt_putf rfl rfl rfl rfl (i3 + 3) e3 rfl ?_
    have f4 := ot_set (n := (da, .inl (1, 3, .ref g))) e3 e4 (by simp)
    have f7 := ot_set (n := (da, .inl (1, 3, .ref g))) e3 e7 (by simp)
    have k4 := sat_set (n := (da, .inl (1, 4, .int (n0 + 1)))) f4
    have k7 := ot_set (n := (da, .inl (1, 4, .int (n0 + 1)))) f4 f7 (by simp)
    have k2 := kp_set (n := (da, .inl (1, 4, .int (n0 + 1)))) f4 (kp_set (n := (da, .inl (1, 3, .ref g))) e3 h2 (hne _ _).1) (hne _ _).2
    refine xt_pure rfl rfl rfl rfl ?_
    refine xt_pure rfl rfl rfl rfl ?_
    refine xt_getf rfl rfl (xmS 3 rfl (List.mem_of_getElem? f4)) ?_
    refine xt_pure rfl rfl rfl (st1 := .int 1 :: _) rfl ?_
    refine xt_pure rfl rfl rfl rfl ?_
    refine xt_putf rfl rfl rfl rfl (i4 + 3) f4 rfl ?_
    refine xt_pure rfl rfl rfl rfl ?_
    refine xt_getf rfl rfl (xmS 3 rfl k2) ?_
    refine xt_pure rfl rfl rfl rfl ?_
    refine xt_pure rfl rfl rfl rfl ?_
    refine yt_ast rfl rfl (i7 + 3) k7 rfl (by decide) (asO (by first | exact Or.inl rfl | exact Or.inr ⟨a, w, rfl, List.mem_cons_of_mem _ (List.mem_cons_of_mem _ (List.mem_cons_of_mem _ (kp_set f4 (kp_set e3 ha (by simp)) (by simp))))⟩)) ⟨g1, g2⟩ rfl ?_
    exact xt_vret rfl rfl rfl ⟨g, rfl, rfl⟩
end GIVE
