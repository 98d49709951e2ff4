/-! WHAT HOLDS PURELY, behind each call -/
section PURE
variable {Fs Fs2 : List yF} {En En2 : List (Int64 × Int32)} {Dr : List yD} {d : yD} {z : Option yO} {n0 x y : Int32} {f : yD → yD}
theorem pDk.more (h : pDk En z) : pDk (En ++ En2) z := fun ob ho => (h ob ho).more
theorem pD1.more (h : pD1 Fs En d) : pD1 Fs (En ++ En2) d := ⟨h.1, h.2.1, fun y hy => (h.2.2.1 y hy).more, fun c hc => ⟨(h.2.2.2 c hc).1, fun y hy => ((h.2.2.2 c hc).2 y hy).more⟩⟩
theorem pDr.more (h : pDr Fs En Dr) : pDr Fs (En ++ En2) Dr := ⟨h.1, fun d hd => (h.2 d hd).more⟩
theorem pD1.form (h : pD1 Fs En d) : pD1 (Fs ++ Fs2) En d := by
  obtain ⟨⟨F, hF⟩, h2⟩ := h
  exact ⟨⟨F, by rw [List.getElem?_append_left (List.getElem?_eq_some_iff.mp hF).1]; exact hF⟩, h2⟩
theorem pDr.form (h : pDr Fs En Dr) : pDr (Fs ++ Fs2) En Dr := ⟨h.1, fun d hd => (h.2 d hd).form⟩
theorem pDr.app (h : pDr Fs En Dr) (hl : Dr.length < 30) (hd : pD1 Fs En d) : pDr Fs En (Dr ++ [d]) := by
  refine ⟨by rw [List.length_append, List.length_singleton]; omega, fun e he => ?_⟩
  rcases List.mem_append.mp he with he | he
  · exact h.2 e he
  · rw [List.mem_singleton.mp he]
    exact hd
theorem pDr.upd (h : pDr Fs En Dr) (hf : ∀ d, gI Dr x = some d → pD1 Fs En d → pD1 Fs En (f d)) : pDr Fs En (updD Dr x f) := by
  rw [updD]
  rcases hg : gI Dr x with _ | d
  · exact h
  · obtain ⟨x1, x2, x3, -, -⟩ := gI_some hg
    refine ⟨by show (Dr.set _ _).length ≤ 30; rw [List.length_set]; exact h.1, fun e he => ?_⟩
    rcases List.mem_or_eq_of_mem_set he with he | rfl
    · exact h.2 e he
    · exact hf d hg (h.2 d (List.mem_of_getElem? x3))
theorem pRc.app (h : pRc n0 Dr) (hd : d.2.2.2.1 = -9) : pRc n0 (Dr ++ [d]) := by
  rw [pRc, List.countP_append, List.countP_singleton, if_neg (by simp [hd])]
  exact h
theorem pRc.upd (h : pRc n0 Dr) (hf : ∀ d, (f d).2.2.2.1 = d.2.2.2.1) : pRc n0 (updD Dr x f) := by
  rw [updD]
  rcases hg : gI Dr x with _ | d
  · exact h
  · obtain ⟨x1, x2, x3, -, -⟩ := gI_some hg
    have hm : (Dr.set x.toInt.toNat (f d)).map (fun d => d.2.2.2.1) = Dr.map (fun d => d.2.2.2.1) := map_set1 x3 (hf d)
    rw [pRc] at h
    show n0 = _
    have e : ∀ l : List yD, l.countP (fun d => d.2.2.2.1 != -9) = (l.map (fun d => d.2.2.2.1)).countP (fun r => r != -9) := fun l => by rw [List.countP_map]; rfl
    rw [h, e, e, hm]
theorem pRc.lt (h : pRc n0 Dr) (hl : Dr.length ≤ 30) : n0 + 1 ≠ -9 := by
  have hc : Dr.countP (fun d => d.2.2.2.1 != -9) ≤ 30 := Nat.le_trans List.countP_le_length hl
  intro e
  have e2 : Int32.ofNat (Dr.countP (fun d => d.2.2.2.1 != -9) + 1) = -9 := by
    rw [Int32.ofNat_add, ← h]
    exact e
  have := congrArg Int32.toInt e2
  rw [yi_nat (by omega), show (-9 : Int32).toInt = -9 from rfl] at this
  omega
theorem pD1.back (h : pD1 Fs En d) : pD1 Fs En (bkD d) := by
  rw [bkD]
  by_cases hr : d.2.2.2.1 ≠ -9
  · rw [if_pos hr]
    exact h
  · rw [if_neg hr]
    obtain ⟨h1, h2, h3, h4⟩ := h
    rcases hc : d.2.2.1 with _ | ⟨⟨p, w⟩, r⟩
    · exact ⟨h1, h2, h3, h4⟩
    · rw [hc] at h4
      refine ⟨h1, by show (d.2.1.set _ _).length = 20; rw [List.length_set]; exact h2, fun y hy => ?_, fun c hc2 => h4 c (List.mem_cons_of_mem _ hc2)⟩
      rcases List.mem_or_eq_of_mem_set hy with hy | hy
      · exact h3 y hy
      · exact (h4 (p, w) List.mem_cons_self).2 y hy.symm
theorem pD1.give (h : pD1 Fs En d) (hz : pDk En z) (hy : y.toInt.toNat < 20) : pD1 Fs En (gvD y z d) := by
  obtain ⟨h1, h2, h3, h4⟩ := h
  refine ⟨h1, by show (d.2.1.set _ _).length = 20; rw [List.length_set]; exact h2, fun w hw => ?_, fun c hc => ?_⟩
  · rcases List.mem_or_eq_of_mem_set hw with hw | hw
    · exact h3 w hw
    · exact hz w hw.symm
  · rcases List.mem_cons.mp hc with rfl | hc
    · refine ⟨hy, fun w hw => ?_⟩
      have hw2 : (d.2.1[y.toInt.toNat]?).getD none = some w := hw
      rcases hg : d.2.1[y.toInt.toNat]? with _ | q
      · rw [hg] at hw2
        cases hw2
      · rw [hg] at hw2
        have hw3 : q = some w := hw2
        rw [hw3] at hg
        exact h3 w (List.mem_of_getElem? hg)
    · exact h4 c hc
theorem pD1.new {F : yF} (h : gI Fs x = some F) : pD1 Fs En (nwD x) := by
  obtain ⟨x1, x2, x3, -, -⟩ := gI_some h
  refine ⟨⟨F, x3⟩, List.length_replicate, fun y hy => ?_, fun c hc => by cases hc⟩
  have := (List.mem_replicate.mp hy).2
  cases this
end PURE
