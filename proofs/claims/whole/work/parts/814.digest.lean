/-! DIGEST: the class -/
section DIGEST
variable {X : List Int32} {D0 : List xE} {Fs : List yF} {R : List yDR} {En : List (Int64 × Int32)} {Q S : zS} {bs : List Int32} {x : Int32}
theorem inK {S : zS} {D0 : List xE} : D0 ⊆ zD zTK zaK S D0 := fun _ he => List.mem_append_right _ he
theorem ck_layDraft {r : yDR} {F : yF} (d1 : ∀ e ∈ dfR r, e ∈ D0) (hH : HC D0 r.2.2.1 r.2.1 F r.2.2.2.2.2.2.1 En) (hK : KC Q S bs) : yK X 3 73 121 [.ref 206, .ref r.1] (zD zTK zaK S D0) 0 0 (fun a D => ∃ S', a = none ∧ D = zD zTK zaK S' D0 ∧ KC Q S' (drB r.2.2.2.2.2.2.1 F.1.length 0)) := by
  obtain ⟨q1, hok, ⟨refs, q3, q4⟩, q5, q6, q7, ja, q8⟩ := hH
  have hok' := hok
  obtain ⟨_, _, _, _, _, hl20, _⟩ := hok'
  obtain ⟨As, a1, a2⟩ := q4.han hl20 q5
  obtain ⟨pp, qq, f1, _⟩ := q1
  obtain ⟨S', e1, e2⟩ := c_layAll (N := 3300) (np := Int32.ofNat F.1.length) (by omega) rfl hl20 a2 q6 hK
  refine yK.mono (tcKd_lay (ymm d1 1 rfl) (ymm d1 2 rfl) (ymm f1 0 rfl) q3 a1 (N := 3300) (by omega) (by omega) e1) (Nat.le_refl _) (Nat.le_refl _) ?_
  rintro v D ⟨h1, h2⟩
  exact ⟨S', h1, h2, e2⟩
theorem drB_len {A : List (Option yO)} {As : List (Option zO)} {F : yF} (hA : aA En F A As) : ∀ (k p : Nat), p + k = F.1.length → (drB A k p).length ≤ 155 * k
  | 0, _, _ => by simp [drB]
  | k + 1, p, h => by
    obtain ⟨P, hP⟩ : ∃ P, F.1[p]? = some P := ⟨_, List.getElem?_eq_getElem (by omega)⟩
    obtain ⟨z, hz1, hz2⟩ := hA p P hP
    have ih := drB_len hA k (p + 1) (by omega)
    rw [drB, List.length_append]
    rcases hy : anR A (Int32.ofNat p) with _ | y
    · show ([] : List Int32).length + _ ≤ _
      rw [List.length_nil]; omega
    · rw [hy] at hz2
      rcases z with _ | o
      · exact absurd hz2 id
      · have := obB_len (p := p) hz2.2
        show (obB p y).length + _ ≤ _
        omega
theorem drB_le {A : List (Option yO)} {As : List (Option zO)} {F : yF} (hA : aA En F A As) (hl : F.1.length ≤ 20) : (drB A F.1.length 0).length ≤ 3200 := by
  have := drB_len hA F.1.length 0 (by omega)
  omega
theorem cK_digest (hR : DrC Fs R En D0) (hK : KC Q S bs) : yK X 10 200 120 [.ref 78, .int x] (zD zTK zaK S D0) 0 0 (fun a D => (gI R x = none ∧ a = some (.int 0) ∧ D = zD zTK zaK S D0) ∨ ∃ r F S', gI R x = some r ∧ Fs[r.2.2.2.2.2.1]? = some F ∧ a = some (.int (hsB 17 (drB r.2.2.2.2.2.2.1 F.1.length 0))) ∧ D = zD zTK zaK S' D0 ∧ KC Q S' (drB r.2.2.2.2.2.2.1 F.1.length 0)) := by
  refine yK.of rfl (yle rfl) (L := [_, _, _]) rfl ?_
  refine xt_pure rfl rfl rfl rfl ?_
  refine xt_pure rfl rfl rfl rfl ?_
  refine xt_callV rfl rfl rfl rfl (xmC 115 rfl) ⟨rfl, rfl, yle rfl, yle rfl, yle rfl, yle rfl⟩ (ck_draftAt (hR.1.mono inK)) (c2 := 0) (s2 := 0) ⟨yle rfl, yle rfl⟩ ?_
  rintro _ _ (⟨rfl, hg, rfl⟩ | ⟨rfl, r, hg, rfl⟩)
  · skip
    refine xt_pure rfl rfl rfl (L1 := [_, _, _]) rfl ?_
    refine xt_pure rfl rfl rfl rfl ?_
    refine xt_pure rfl rfl rfl rfl ?_
    refine xt_pure rfl rfl rfl (st1 := .int 0 :: _) rfl ?_
    exact xt_iret rfl rfl rfl rfl (Or.inl ⟨hg, rfl, rfl⟩)
  · obtain ⟨d1, F, d2, d3⟩ := hR.2 r (dr_mem hg)
    refine xt_pure rfl rfl rfl (L1 := [_, _, _]) rfl ?_
    refine xt_pure rfl rfl rfl rfl ?_
    refine xt_pure rfl rfl rfl rfl ?_
    refine xt_pure rfl rfl rfl rfl ?_
    refine xt_getf rfl rfl (xmC 126 rfl) ?_
    refine xt_pure rfl rfl rfl rfl ?_
    refine xt_callV rfl rfl rfl rfl (xmC 173 rfl) ⟨rfl, rfl, yle rfl, yle rfl, yle rfl, yle rfl⟩ (ck_layDraft d1 d3 hK) (c2 := 0) (s2 := 0) ⟨yle rfl, yle rfl⟩ ?_
    rintro _ _ ⟨S', rfl, rfl, e2⟩
    obtain ⟨q1, hok, ⟨refs, q3, q4⟩, q5, q6, q7, ja, q8⟩ := d3
    obtain ⟨_, _, _, _, _, hl20, _⟩ := hok
    obtain ⟨As, a1, a2⟩ := q4.han hl20 q5
    obtain ⟨pp, qq, f1, _⟩ := q1
    have hb : (drB r.2.2.2.2.2.2.1 F.1.length 0).length ≤ 3200 := drB_le a2 hl20
    have hh := c_hash (np := Int32.ofNat F.1.length) (As := As) (N := 3300) (by omega) hb e2
    refine xt_pure rfl rfl rfl rfl ?_
    refine xt_getf rfl rfl (xmC 126 rfl) ?_
    refine xt_callV rfl rfl rfl rfl (xmC 173 rfl) ⟨rfl, rfl, yle rfl, yle rfl, yle rfl, yle rfl⟩ (tcKd_hash (ymm d1 1 rfl) (ymm d1 2 rfl) (ymm f1 0 rfl) q3 a1 (N := 3300) (fr := 0) (lo := 0) (by omega) (by omega) hh) (c2 := 0) (s2 := 0) ⟨yle rfl, yle rfl⟩ ?_
    rintro _ _ ⟨rfl, rfl⟩
    exact xt_iret rfl rfl rfl rfl (Or.inr ⟨r, F, S', hg, d2, rfl, rfl, e2⟩)
end DIGEST
