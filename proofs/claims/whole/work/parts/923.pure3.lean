/-! WHAT HOLDS PURELY (3): form, submit, keep, give, the desk; blocks when there are more forms -/
section PURE3
variable {Fs Fs2 : List yF} {En : List (Int64 × Int32)} {Dr : List yD} {Mv : List yMv} {dk t : List Int32} {K gv : Nat} {n0 ev x y i j n e : Int32} {z : Option yO} {se : ySe} {N B : List xE}
theorem gI_app {α : Type} {l l2 : List α} {x : Int32} {a : α} (h : gI l x = some a) : gI (l ++ l2) x = some a := by
  obtain ⟨x1, x2, x3, -, -⟩ := gI_some h
  exact gI_in x1 (by rw [List.getElem?_append_left (List.getElem?_eq_some_iff.mp x3).1]; exact x3)
theorem mvA_form (h : mvA Fs x y = true) : mvA (Fs ++ Fs2) x y = true := by
  rw [mvA] at h ⊢
  rcases hg : gI Fs x with _ | F
  · rw [hg] at h
    cases h
  · rw [hg] at h
    rw [gI_app hg]
    exact h
theorem mvOk.form (h : mvOk Fs Mv) : mvOk (Fs ++ Fs2) Mv := ⟨h.1, fun m hm => ⟨mvA_form (h.2 m hm).1, mvA_form (h.2 m hm).2⟩⟩
theorem pFs.app (h : pFs Fs) (h2 : ∀ F ∈ Fs2, yFok F) : pFs (Fs ++ Fs2) := fun i F hF => by
  by_cases hi : i < Fs.length
  · rw [List.getElem?_append_left hi] at hF
    exact h i F hF
  · rw [List.getElem?_append_right (by omega)] at hF
    exact h2 F (List.mem_of_getElem? hF)
theorem rd_ok {G : zG} {s : zP} (h : rdForm t = .inr (G, s)) : yFok (fF G s) := by
  rw [rdForm] at h
  rcases hf : fForm (tkOf t) with ⟨G2, s2, b⟩ | q
  · rw [hf] at h
    dsimp only at h
    rcases hn : nFt G2 s2.2.2.2.2 with _ | p
    · rw [hn] at h
      dsimp only at h
      injection h with h
      injection h with h1 h2
      rw [← h1, ← h2]
      exact form_ok (vaOk_of tkOf_T) (plUp_of tkOf_T) hf hn
    · rw [hn] at h
      cases h
  · rw [hf] at h
    rcases q with _ | k
    · cases h
    · cases h
theorem foT_app : ∃ Fs2, foT Fs t = Fs ++ Fs2 ∧ ∀ F ∈ Fs2, yFok F := by
  rw [foT]
  by_cases hl : 10 ≤ Fs.length
  · rw [if_pos hl]
    exact ⟨[], (List.append_nil _).symm, fun F hF => by cases hF⟩
  · rw [if_neg hl]
    rcases hr : rdForm t with p | ⟨G, s⟩
    · exact ⟨[], (List.append_nil _).symm, fun F hF => by cases hF⟩
    · refine ⟨[fF G s], rfl, fun F hF => ?_⟩
      rw [List.mem_singleton.mp hF]
      exact rd_ok hr
theorem sb_go (h : (sbA Fs Dr En K ev n0 x y).2.2 = true) : ∃ d, gI Dr x = some d ∧ d.2.2.2.1 = -9 := by
  rw [sbA] at h
  rcases hw : wkD Fs Dr x with _ | ⟨d, F⟩
  · rw [hw] at h
    cases h
  · rw [hw] at h
    obtain ⟨d2, g1, g2⟩ := Option.bind_eq_some_iff.mp hw
    obtain ⟨F2, g3, g4⟩ := Option.map_eq_some_iff.mp g2
    injection g4 with g4 g5
    subst g4
    refine ⟨d2, g1, ?_⟩
    by_cases hr : d2.2.2.2.1 = -9
    · exact hr
    · exfalso
      dsimp only at h
      by_cases c1 : ¬ (0 ≤ y.toInt ∧ y.toInt ≤ 9999)
      · rw [if_pos c1] at h
        cases h
      · rw [if_neg c1] at h
        by_cases c2 : 10000 ≤ ev.toInt
        · rw [if_pos c2] at h
          cases h
        · rw [if_neg c2, if_pos (show d2.2.2.2.1 ≠ -9 from hr)] at h
          cases h
theorem pRc.submit {d : yD} (hd : gI Dr x = some d) (h9 : d.2.2.2.1 = -9) (hn9 : n0 + 1 ≠ -9) (hr : pRc n0 Dr) : pRc (n0 + 1) (updD Dr x (sbD n0)) := by
  rw [updD, hd]
  obtain ⟨x1, x2, x3, -, -⟩ := gI_some hd
  obtain ⟨e1, e2⟩ := ysplit x3
  have c1 : Dr.countP (fun d => d.2.2.2.1 != -9) = (Dr.take x.toInt.toNat).countP (fun d => d.2.2.2.1 != -9) + (Dr.drop (x.toInt.toNat + 1)).countP (fun d => d.2.2.2.1 != -9) := by
    conv => lhs; rw [e1]
    rw [List.countP_append, List.countP_cons_of_neg (by show ¬ (d.2.2.2.1 != -9) = true; rw [h9]; decide)]
  have c2 : (Dr.set x.toInt.toNat (sbD n0 d)).countP (fun d => d.2.2.2.1 != -9) = Dr.countP (fun d => d.2.2.2.1 != -9) + 1 := by
    rw [e2, List.countP_append, List.countP_cons_of_pos (by show (n0 + 1 != -9) = true; exact bne_iff_ne.mpr hn9)]
    omega
  show n0 + 1 = Int32.ofNat ((Dr.set x.toInt.toNat (sbD n0 d)).countP (fun d => d.2.2.2.1 != -9))
  rw [c2, Int32.ofNat_add]
  exact congrArg (· + 1) hr
theorem pu_submit (h : pDr Fs En Dr) (hr : pRc n0 Dr) : pDr Fs En (if (sbA Fs Dr En K ev n0 x y).2.2 then updD Dr x (sbD n0) else Dr) ∧ pRc (if (sbA Fs Dr En K ev n0 x y).2.2 then n0 + 1 else n0) (if (sbA Fs Dr En K ev n0 x y).2.2 then updD Dr x (sbD n0) else Dr) := by
  cases hs : (sbA Fs Dr En K ev n0 x y).2.2 with
  | false => exact ⟨h, hr⟩
  | true =>
    obtain ⟨d, g1, g2⟩ := sb_go hs
    rw [if_pos rfl, if_pos rfl]
    exact ⟨h.upd (f := sbD n0) (fun d _ hd => hd), hr.submit g1 g2 (hr.lt h.1)⟩
theorem keX_inv (hF : pFs Fs) (hs : cSe Fs se N B) : ∀ d, keX Fs Dr gv se = some d → pD1 Fs En d ∧ gv + d.2.2.1.length ≤ 400 ∧ Dr.length ≠ 30 ∧ d.2.2.2.1 = -9 := by
  intro d hd
  rw [keX] at hd
  cases hf : se.2.2.1 with
  | false =>
    rw [hf] at hd
    cases hd
  | true =>
    rw [hf] at hd
    obtain ⟨F, g1, g2, g3⟩ := hs.pu (En := En) hF (by rw [hf]; rfl)
    by_cases hc : Dr.length = 30 ∨ 400 < gv + se.2.2.2.1.length
    · rw [if_pos rfl, if_pos hc] at hd
      cases hd
    · rw [if_pos rfl, if_neg hc, g1] at hd
      obtain rfl := Option.some.inj hd
      refine ⟨g3, ?_, fun h => hc (.inl h), rfl⟩
      show gv + (chR F (plF F F.1.length 0) se.2.2.2.1 se.2.2.2.2.1).length ≤ 400
      rw [chR_len _ _ g2]
      omega
theorem pu_keep (hX : ∀ d, keX Fs Dr gv se = some d → pD1 Fs En d ∧ gv + d.2.2.1.length ≤ 400 ∧ Dr.length ≠ 30 ∧ d.2.2.2.1 = -9) (h : pDr Fs En Dr) (hr : pRc n0 Dr) (hg : gv ≤ 400) : pDr Fs En (keD Dr (keX Fs Dr gv se)) ∧ pRc n0 (keD Dr (keX Fs Dr gv se)) ∧ keG gv (keX Fs Dr gv se) ≤ 400 := by
  rcases hk : keX Fs Dr gv se with _ | d
  · exact ⟨h, hr, hg⟩
  · obtain ⟨i1, i2, i3, i4⟩ := hX d hk
    have hl := h.1
    exact ⟨h.app (by omega) i1, hr.app i4, i2⟩
theorem pu_give (hF : pFs Fs) (hz : pDk En z) (h : pDr Fs En Dr) (hr : pRc n0 Dr) (hg : gv ≤ 400) : pDk En (if gvG Fs Dr gv x y then none else z) ∧ pDr Fs En (if gvG Fs Dr gv x y then updD Dr x (gvD y z) else Dr) ∧ pRc n0 (if gvG Fs Dr gv x y then updD Dr x (gvD y z) else Dr) ∧ (if gvG Fs Dr gv x y then gv + 1 else gv) ≤ 400 := by
  cases hq : gvG Fs Dr gv x y with
  | false => exact ⟨hz, h, hr, hg⟩
  | true =>
    rw [gvG] at hq
    rcases ha : ansP Fs Dr x y with _ | ⟨d, F, P⟩
    · rw [ha] at hq
      cases hq
    · rw [ha] at hq
      have hq2 : (d.2.2.2.1 == -9 && decide (gv < 400)) = true := hq
      rw [Bool.and_eq_true, decide_eq_true_eq] at hq2
      obtain ⟨t1, t2, t3⟩ := ansP_inv ha
      obtain ⟨a1, a2, a3, a4⟩ := askP_some t3
      have hl := hF.l20 _ _ t2
      have hy : y.toInt.toNat < 20 := by omega
      rw [if_pos rfl, if_pos rfl, if_pos rfl]
      refine ⟨fun ob ho => ?_, h.upd (f := gvD y z) (fun d _ hd => hd.give hz hy), hr.upd (fun _ => rfl), ?_⟩
      · cases ho
      · omega
theorem entT_app {am : Int64} (hE : En.length ≤ 100) : ∃ En2, entT En x am y = En ++ En2 ∧ (En ++ En2).length ≤ 100 := by
  rw [entT]
  split
  · exact ⟨[(am, y)], rfl, by rw [List.length_append, List.length_singleton]; omega⟩
  · exact ⟨[], (List.append_nil _).symm, by rw [List.append_nil]; exact hE⟩
theorem pu_desk (hE : En.length ≤ 100) (h : pDk En z) : pDk En (if deV En ev x y = 0 then some (deO x y) else z) := by
  by_cases hc : deV En ev x y = 0
  · rw [if_pos hc]
    intro ob ho
    injection ho with ho
    rw [← ho]
    exact de_ok hE hc
  · rw [if_neg hc]
    exact h
theorem pu_write {v : Int64} (h : pDk En z) : pDk En (z.map fun o => wrO o (wrV z ev i) i v) := by
  cases z with
  | none => exact h
  | some ob =>
    intro o2 ho
    obtain rfl := Option.some.inj ho
    exact (wr_ok (h ob rfl)).1
theorem pu_seat (hE : En.length ≤ 100) (h : pDk En z) : pDk En (z.map fun o => seO o (seV z En ev i e) i e) := by
  cases z with
  | none => exact h
  | some ob =>
    intro o2 ho
    obtain rfl := Option.some.inj ho
    exact (se_ok hE (h ob rfl)).1
theorem pu_line (h : pDk En z) : pDk En (z.map fun o => liO o (liV z ev i n) i n) := by
  cases z with
  | none => exact h
  | some ob =>
    intro o2 ho
    obtain rfl := Option.some.inj ho
    exact (li_ok (h ob rfl)).1
theorem pu_cell {v : Int32} (h : pDk En z) : pDk En (z.map fun o => ceO o (ceV z ev i j) i j v) := by
  cases z with
  | none => exact h
  | some ob =>
    intro o2 ho
    obtain rfl := Option.some.inj ho
    exact (ce_ok (h ob rfl)).1
theorem pu_short (h : se.2.1 = true → se.2.2.1 = false) {o : Option yF} : (shS En K ev x y se o).2.1 = true → (shS En K ev x y se o).2.2.1 = false := by
  cases o with
  | none => exact h
  | some F => exact fun h2 => shT_go h2
theorem mLg.migrate {o : Option yMg} (h : mLg Dr gv N B) : mLg (mgD y Dr o) gv N B := by
  cases o with
  | none => exact h
  | some q => exact h.app rfl
theorem mLg.take (hl : Dr.length ≤ 30) (h : mLg Dr gv N B) : mLg (tkDr Fs Dr En dk x) gv N B := by
  rcases hx : gI Fs x with _ | F
  · rw [(tk_1 hx).2]
    exact h
  · by_cases h30 : Dr.length = 30
    · rw [(tk_3 hx h30).2]
      exact h
    · rcases hq : rdAll En F 1200 0 dk (List.replicate 20 none) 0 with ⟨_ | A, j⟩
      · rw [(tk_no hx (by omega) hq).2]
        exact h
      · rw [(tk_ok hx (by omega) hq).2]
        exact h.app rfl
theorem mLg.submit {b : Bool} (h : mLg Dr gv N B) : mLg (if b then updD Dr x (sbD n0) else Dr) gv N B := by
  cases b with
  | false => exact h
  | true =>
    rw [if_pos rfl]
    exact h.upd (f := sbD n0) (fun _ => rfl)
theorem cDr.form (h : cDr Fs Dr N B) : cDr (Fs ++ Fs2) Dr N B := by
  obtain ⟨R, h1, h2, h3⟩ := h
  refine ⟨R, h1, h2, fun r hr => ?_⟩
  obtain ⟨⟨F, q1, q2⟩, q3⟩ := h3 r hr
  exact ⟨⟨F, by rw [List.getElem?_append_left (List.getElem?_eq_some_iff.mp q1).1]; exact q1, q2⟩, q3⟩
theorem cSe.form (h : cSe Fs se N B) : cSe (Fs ++ Fs2) se N B := by
  obtain ⟨S, refs, sl, fv, h1, h2, h3, h4, h5, h6, h7, h8⟩ := h
  refine ⟨S, refs, sl, fv, h1, h2, h3, h4, h5, h6, fun hg => ?_, h8⟩
  obtain ⟨F, fa, q1, q2⟩ := h7 hg
  exact ⟨F, fa, gI_app q1, q2⟩
theorem mSe.form (h : mSe Fs se B) : mSe (Fs ++ Fs2) se B := by
  obtain ⟨St, h1, ⟨k1, k2, k3, k4, k5⟩, h3⟩ := h
  refine ⟨St, h1, ⟨k1, k2, k3, k4, ?_⟩, h3⟩
  rcases k5 with k5 | ⟨k5, F, k6, k7⟩
  · exact .inl k5
  · exact .inr ⟨k5, F, gI_app k6, k7⟩
theorem mDr.form (h : mDr Fs Dr N B) : mDr (Fs ++ Fs2) Dr N B := h
end PURE3
