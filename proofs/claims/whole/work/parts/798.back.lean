/-! TAKING BACK: the class -/
section BACK
variable {X : List Int32} {D0 : List xE} {Fs : List yF} {R : List yDR} {x : Int32}
theorem yVC_ob {D : List xE} {v : Value} {z : Option yO} (h : yVC D v z) : obV D v := by
  cases z with
  | none => exact Or.inl h
  | some o =>
    obtain ⟨a, h1, _, _, _, _, h2, _⟩ := h
    exact Or.inr ⟨a, _, h1, h2⟩
def QbC (r : yDR) (p : Nat) (D0 D : List xE) : Prop := ∃ g bv ev i3 i4 i7, r.2.2.2.2.1 = .ref g ∧ ((g, .inl (3, 1, bv)) : xE) ∈ D0 ∧ ((g, .inl (3, 2, ev)) : xE) ∈ D0 ∧ D0[i3]? = some (r.1, .inl (1, 3, r.2.2.2.2.1)) ∧ D0[i4]? = some (r.1, .inl (1, 4, .int (Int32.ofNat r.2.2.2.2.2.2.2.1.length))) ∧ D0[i7]? = some (r.2.1, .inr (7, r.2.2.2.1)) ∧ D = ((D0.set i7 (r.2.1, .inr (7, r.2.2.2.1.set p bv))).set i3 (r.1, .inl (1, 3, ev))).set i4 (r.1, .inl (1, 4, .int (Int32.ofNat r.2.2.2.2.2.2.2.1.length - 1)))
theorem ck_undo {r : yDR} {p : Nat} {z : Option yO} {rest : List (Nat × Option yO)} (hl : r.2.2.2.1.length = 20) (d1 : ∀ e ∈ dfR r, e ∈ D0) (hc : r.2.2.2.2.2.2.2.1 = (p, z) :: rest) (d5 : yCh D0 r.2.2.2.2.1 r.2.2.2.2.2.2.2.1) : yK X 0 0 115 [.ref r.1] D0 0 0 (fun a D => a = some (.int (Int32.ofNat p)) ∧ QbC r p D0 D) := by
  rw [hc] at d5
  obtain ⟨g, bv, ev, hlt, h0, h1, h2, h3, h4, h5⟩ := d5
  have tp := yi_nat (i := p) (by omega)
  have tn : (Int32.ofNat p).toInt.toNat = p := yi_toNat (by omega)
  have ob := yVC_ob h3
  obtain ⟨i3, e3⟩ : ∃ i : Nat, D0[i]? = some ((r.1, .inl (1, 3, r.2.2.2.2.1)) : xE) := List.mem_iff_getElem?.mp (ymm d1 3 rfl)
  obtain ⟨i4, e4⟩ : ∃ i : Nat, D0[i]? = some ((r.1, .inl (1, 4, .int (Int32.ofNat r.2.2.2.2.2.2.2.1.length))) : xE) := List.mem_iff_getElem?.mp (ymm d1 4 rfl)
  obtain ⟨i7, e7⟩ : ∃ i : Nat, D0[i]? = some ((r.2.1, .inr (7, r.2.2.2.1)) : xE) := List.mem_iff_getElem?.mp (ymm d1 7 rfl)
  have a3 := ot_set (n := (r.2.1, .inr (7, r.2.2.2.1.set p bv))) e7 e3 (by simp)
  have a4 := ot_set (n := (r.2.1, .inr (7, r.2.2.2.1.set p bv))) e7 e4 (by simp)
  have b4 := ot_set (n := (r.1, .inl (1, 3, ev))) a3 a4 (by simp)
  have m0 : ((g, .inl (3, 0, .int (Int32.ofNat p))) : xE) ∈ ((D0.set i7 (r.2.1, .inr (7, r.2.2.2.1.set p bv))).set i3 (r.1, .inl (1, 3, ev))).set i4 (r.1, .inl (1, 4, .int (Int32.ofNat r.2.2.2.2.2.2.2.1.length - 1))) := kp_set b4 (kp_set a3 (kp_set e7 h0 (by simp)) (by simp)) (by simp)
  have m2 : ((g, .inl (3, 2, ev)) : xE) ∈ D0.set i7 (r.2.1, .inr (7, r.2.2.2.1.set p bv)) := kp_set e7 h2 (by simp)
  have m3 : ((r.1, .inl (1, 3, .ref g)) : xE) ∈ D0 := hlt ▸ ymm d1 3 rfl
  have rf := yCh_rf h5
  refine yK.of rfl (yle rfl) (L := [_, _]) rfl ?_
  refine xt_pure rfl rfl rfl rfl ?_
  refine xt_getf rfl rfl (xmS 0 rfl m3) ?_
  refine xt_pure rfl rfl rfl (L1 := [_, _]) rfl ?_
  refine xt_pure rfl rfl rfl rfl ?_
  refine xt_getf rfl rfl (xmS 0 rfl (ymm d1 2 rfl)) ?_
  refine xt_pure rfl rfl rfl rfl ?_
  refine xt_getf rfl rfl (xmS 0 rfl h0) ?_
  refine xt_pure rfl rfl rfl rfl ?_
  refine xt_getf rfl rfl (xmS 0 rfl h1) ?_
  refine yt_ast rfl rfl i7 e7 rfl (by decide) (asO ob) ⟨by rw [tp]; omega, by rw [tp]; omega⟩ (D1 := D0.set i7 (r.2.1, .inr (7, r.2.2.2.1.set p bv))) (by rw [tn]) ?_
  refine xt_pure rfl rfl rfl rfl ?_
  refine xt_pure rfl rfl rfl rfl ?_
  refine xt_getf rfl rfl (xmS 0 rfl m2) ?_
  have fit : xfit (.object "FormMill$Giving") ev = true := by rcases rf with rfl | ⟨c, rfl⟩ <;> rfl
  refine xt_putf rfl rfl rfl fit i3 a3 rfl ?_
  refine xt_pure rfl rfl rfl rfl ?_
  refine xt_pure rfl rfl rfl rfl ?_
  refine xt_getf rfl rfl (xmS 0 rfl (List.mem_of_getElem? b4)) ?_
  refine xt_pure rfl rfl rfl (st1 := .int 1 :: _) rfl ?_
  refine xt_pure rfl rfl rfl rfl ?_
  refine xt_putf rfl rfl rfl rfl i4 b4 rfl ?_
  refine xt_pure rfl rfl rfl rfl ?_
  refine xt_getf rfl rfl (xmS 0 rfl m0) ?_
  exact xt_iret rfl rfl rfl rfl ⟨rfl, g, bv, ev, i3, i4, i7, hlt, h1, h2, e3, e4, e7, rfl⟩
theorem cK_takeBack (hDs : yDsC Fs R D0) : yK X 1 30 114 [.ref 78, .int x] D0 0 0 (fun a D => (gI R x = none ∧ a = some (.int (-1)) ∧ D = D0) ∨ (∃ r, gI R x = some r ∧ (r.2.2.2.2.2.2.2.2.1 ≠ -9 ∨ r.2.2.2.2.2.2.2.1 = []) ∧ a = some (.int (-2)) ∧ D = D0) ∨ ∃ r p z rest, gI R x = some r ∧ r.2.2.2.2.2.2.2.2.1 = -9 ∧ r.2.2.2.2.2.2.2.1 = (p, z) :: rest ∧ a = some (.int (Int32.ofNat p)) ∧ QbC r p D0 D) := by
  refine yK.of rfl (yle rfl) (L := [_, _, _]) rfl ?_
  refine xt_pure rfl rfl rfl rfl ?_
  refine xt_pure rfl rfl rfl rfl ?_
  refine xt_callV rfl rfl rfl rfl (xmC 115 rfl) ⟨rfl, rfl, yle rfl, yle rfl, yle rfl, yle rfl⟩ (ck_draftAt hDs.1) (c2 := 0) (s2 := 0) ⟨yle rfl, yle rfl⟩ ?_
  rintro _ _ (⟨rfl, hg, rfl⟩ | ⟨rfl, r, hg, rfl⟩)
  · skip
    refine xt_pure rfl rfl rfl (L1 := [_, _, _]) rfl ?_
    refine xt_pure rfl rfl rfl rfl ?_
    refine xt_pure rfl rfl rfl rfl ?_
    refine xt_pure rfl rfl rfl (st1 := .int (-1) :: _) rfl ?_
    exact xt_iret rfl rfl rfl rfl (Or.inl ⟨hg, rfl, rfl⟩)
  · obtain ⟨d1, F, d2, d3, d4, d5⟩ := hDs.2 r (dr_mem hg)
    refine xt_pure rfl rfl rfl (L1 := [_, _, _]) rfl ?_
    refine xt_pure rfl rfl rfl rfl ?_
    refine xt_pure rfl rfl rfl rfl ?_
    refine xt_pure rfl rfl rfl rfl ?_
    refine xt_getf rfl rfl (xmS 0 rfl (ymm d1 5 rfl)) ?_
    refine xt_pure rfl rfl rfl (st1 := .int (-9) :: _) rfl ?_
    refine yt_ic rfl rfl ?_ ?_
    · intro (h8 : r.2.2.2.2.2.2.2.2.1 ≠ -9)
      refine xt_pure rfl rfl rfl (st1 := .int (-2) :: _) rfl ?_
      refine xt_pure rfl rfl rfl rfl ?_
      exact xt_iret rfl rfl rfl rfl (Or.inr (Or.inl ⟨r, hg, Or.inl h8, rfl, rfl⟩))
    · intro (h8 : r.2.2.2.2.2.2.2.2.1 = -9)
      rcases hc : r.2.2.2.2.2.2.2.1 with _ | ⟨⟨p, z⟩, rest⟩
      · rw [hc] at d5
        have m3 : ((r.1, .inl (1, 3, .null)) : xE) ∈ D0 := (show r.2.2.2.2.1 = .null from d5) ▸ ymm d1 3 rfl
        refine xt_pure rfl rfl rfl rfl ?_
        refine xt_getf rfl rfl (xmS 0 rfl m3) ?_
        refine xt_pure rfl rfl rfl rfl ?_
        refine xt_pure rfl rfl rfl (st1 := .int (-2) :: _) rfl ?_
        refine xt_pure rfl rfl rfl rfl ?_
        exact xt_iret rfl rfl rfl rfl (Or.inr (Or.inl ⟨r, hg, Or.inr hc, rfl, rfl⟩))
      · have d6 := d5
        rw [hc] at d6
        obtain ⟨g, bv, ev, hlt, _⟩ := d6
        have m3 : ((r.1, .inl (1, 3, .ref g)) : xE) ∈ D0 := hlt ▸ ymm d1 3 rfl
        refine xt_pure rfl rfl rfl rfl ?_
        refine xt_getf rfl rfl (xmS 0 rfl m3) ?_
        refine xt_pure rfl rfl rfl rfl ?_
        refine xt_pure rfl rfl rfl rfl ?_
        refine xt_callV rfl rfl rfl rfl (xmS 0 rfl (ymm d1 0 rfl)) ⟨rfl, rfl, yle rfl, yle rfl, yle rfl, yle rfl⟩ (ck_undo d4.1 d1 hc d5) (c2 := 0) (s2 := 0) ⟨yle rfl, yle rfl⟩ ?_
        rintro _ _ ⟨rfl, hq⟩
        exact xt_iret rfl rfl rfl rfl (Or.inr (Or.inr ⟨r, p, z, rest, hg, h8, hc, rfl, hq⟩))
end BACK
