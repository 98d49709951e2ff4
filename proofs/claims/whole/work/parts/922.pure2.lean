/-! WHAT HOLDS PURELY (2): draft, sign, submit, migrate, take -/
section PURE2
variable {Fs : List yF} {En : List (Int64 × Int32)} {Dr : List yD} {Mv : List yMv} {dk : List Int32} {K : Nat} {n0 ev x y : Int32}
theorem pu_draft (h : pDr Fs En Dr) (hr : pRc n0 Dr) : pDr Fs En (drfT Fs Dr x) ∧ pRc n0 (drfT Fs Dr x) := by
  rw [drfT]
  rcases hg : gI Fs x with _ | F
  · exact ⟨h, hr⟩
  · show pDr Fs En (if Dr.length < 30 then Dr ++ [nwD x] else Dr) ∧ pRc n0 (if Dr.length < 30 then Dr ++ [nwD x] else Dr)
    by_cases hl : Dr.length < 30
    · rw [if_pos hl]
      exact ⟨h.app hl (pD1.new hg), hr.app rfl⟩
    · rw [if_neg hl]
      exact ⟨h, hr⟩
theorem sgT_upd : sgT Fs Dr x y = Dr ∨ ∃ d, gI Dr x = some d ∧ sgT Fs Dr x y = updD Dr x (fun d => (d.1, d.2.1, d.2.2.1, d.2.2.2.1, y + 1)) := by
  by_cases hs : sgOk Fs Dr x y
  · obtain ⟨d, F, hs, k1, k2⟩ := hs
    obtain ⟨hd, -, -⟩ := sgR_inv hs
    refine .inr ⟨d, hd, ?_⟩
    rw [sgT_yes hs k1 k2, updD, hd]
  · exact .inl (sgT_no hs)
theorem pu_sign (h : pDr Fs En Dr) (hr : pRc n0 Dr) : pDr Fs En (sgT Fs Dr x y) ∧ pRc n0 (sgT Fs Dr x y) := by
  rcases sgT_upd (Fs := Fs) (Dr := Dr) (x := x) (y := y) with e | ⟨d, -, e⟩
  · rw [e]
    exact ⟨h, hr⟩
  · rw [e]
    exact ⟨h.upd (fun d _ hd => hd), hr.upd (fun _ => rfl)⟩
theorem pu_migrate (hE : En.length ≤ 100) (h : pDr Fs En Dr) (hr : pRc n0 Dr) : pDr Fs En (mgD y Dr (mgX Fs Dr En Mv ev x y)) ∧ pRc n0 (mgD y Dr (mgX Fs Dr En Mv ev x y)) := by
  rw [mgX]
  rcases hx : gI Dr x with _ | d
  · exact ⟨h, hr⟩
  · rcases hy : gI Fs y with _ | F
    · exact ⟨h, hr⟩
    · show pDr Fs En (mgD y Dr (if 10000 ≤ ev.toInt ∨ Dr.length = 30 then none else some (mgR En d.2.1 F (Int32.ofNat d.1) y Mv (List.replicate 20 none) [] ev))) ∧ pRc n0 (mgD y Dr (if 10000 ≤ ev.toInt ∨ Dr.length = 30 then none else some (mgR En d.2.1 F (Int32.ofNat d.1) y Mv (List.replicate 20 none) [] ev)))
      by_cases hc : 10000 ≤ ev.toInt ∨ Dr.length = 30
      · rw [if_pos hc]
        exact ⟨h, hr⟩
      · rw [if_neg hc]
        obtain ⟨x1, x2, x3, -, -⟩ := gI_some hx
        obtain ⟨y1, y2, y3, -, -⟩ := gI_some hy
        have hl := h.1
        obtain ⟨o1, o2, o3⟩ := mgR_ok (F := F) (f := Int32.ofNat d.1) (tf := y) hE (h.2 d (List.mem_of_getElem? x3)).2.2.1 Mv (List.replicate 20 none) [] ev (fun y hy => by
          have := (List.mem_replicate.mp hy).2
          cases this)
        exact ⟨h.app (by omega) ⟨⟨F, y3⟩, o1.trans List.length_replicate, o3, fun c hc => by cases hc⟩, hr.app rfl⟩
theorem pu_take (hF : pFs Fs) (hE : En.length ≤ 100) (hb : byR dk) (h : pDr Fs En Dr) (hr : pRc n0 Dr) : pDr Fs En (tkDr Fs Dr En dk x) ∧ pRc n0 (tkDr Fs Dr En dk x) := by
  rcases hx : gI Fs x with _ | F
  · rw [(tk_1 hx).2]
    exact ⟨h, hr⟩
  · have hl := h.1
    by_cases h30 : Dr.length = 30
    · rw [(tk_3 hx h30).2]
      exact ⟨h, hr⟩
    · rcases hq : rdAll En F 1200 0 dk (List.replicate 20 none) 0 with ⟨_ | A, j⟩
      · rw [(tk_no hx (by omega) hq).2]
        exact ⟨h, hr⟩
      · rw [(tk_ok hx (by omega) hq).2]
        obtain ⟨x1, x2, x3, -, -⟩ := gI_some hx
        obtain ⟨o1, o2⟩ := rdAll_ok hE (hF.l20 _ _ x3) 1200 0 dk (List.replicate 20 none) 0 A j hb (fun y hy => by
          have := (List.mem_replicate.mp hy).2
          cases this) hq
        exact ⟨h.app (by omega) ⟨⟨F, x3⟩, o1.trans List.length_replicate, o2, fun c hc => by cases hc⟩, hr.app rfl⟩
end PURE2
