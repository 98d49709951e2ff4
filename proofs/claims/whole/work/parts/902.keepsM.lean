/-! CALLS OVER BLOCKS: keep, the reference -/
section KEEPBM
variable {X : List Int32} {N B B2 B3 B4 B5 B6 D Rm : List xE} {Fs : List yF} {Dr : List yD} {En : List (Int64 × Int32)} {ev : Int32} {fd : List yFd} {to : Int32 × Int32 × Int32} {va : Int64} {gv : Nat} {se : ySe}
theorem chL_K {lg : List yLg} {n i : Nat} {ch : List (Nat × Option yO)} (h : ∀ e ∈ lg, e.1 < n) : chL (lg ++ lgK n ch) i = if i = n then ch else chL lg i := by
  rw [chL_eq, List.filter_append]
  by_cases hi : i = n
  · subst hi
    rw [if_pos rfl]
    have e1 : lg.filter (lgP i) = [] := by
      rw [List.filter_eq_nil_iff]
      intro e he
      have := h e he
      rw [lgP]
      simp
      omega
    have e2 : (lgK i ch).filter (lgP i) = lgK i ch := by
      rw [List.filter_eq_self]
      intro e he
      obtain ⟨q, -, rfl⟩ := List.mem_map.mp he
      simp [lgP]
    rw [e1, e2, List.nil_append, lgK, List.map_map, List.map_reverse, List.reverse_reverse]
    have : (lgF ∘ fun q : Nat × Option yO => ((i, q.1, q.2, false) : yLg)) = id := rfl
    rw [this, List.map_id]
  · rw [if_neg hi]
    have e2 : (lgK n ch).filter (lgP i) = [] := by
      rw [List.filter_eq_nil_iff]
      intro e he
      obtain ⟨q, -, rfl⟩ := List.mem_map.mp he
      rw [lgP]
      simp
      omega
    rw [e2, List.append_nil]
    rfl
theorem oM_keep (hF : pFs Fs) (hD : pDr Fs En Dr) (hg4 : gv ≤ 400) (hc20 : ∀ d, keX Fs Dr gv se = some d → ∀ c ∈ d.2.2.1, c.1 < 20) (hs : mSe Fs se B4) (hf : mFs Fs N B5) (hE : mLe En B6) (h : mDr Fs Dr N B) (h2 : mLg Dr gv N B2) (hW : mWk ev fd to va B3) (s4 : B4 ⊆ Rm) (s5 : B5 ⊆ Rm) (s6 : B6 ⊆ Rm) (sN : N ⊆ Rm) : yK X 40 1000 343 [.ref 209] (B ++ (B2 ++ (B3 ++ Rm))) 32 472 (fun w D => w = some (.int (keV Dr gv se)) ∧ ∃ B' B2' B3' G, D.Perm (B' ++ (B2' ++ (B3' ++ (G ++ Rm)))) ∧ mDr Fs (keD Dr (keX Fs Dr gv se)) (G ++ N) B' ∧ mLg (keD Dr (keX Fs Dr gv se)) (keG gv (keX Fs Dr gv se)) (G ++ N) B2' ∧ mWk ev fd to va B3') := by
  have h0 := h
  have h20 := h2
  have hW0 := hW
  obtain ⟨T, rfl, -⟩ := hW.fl
  obtain ⟨of, fi, rc, sg, mr, sp, ⟨l1, l2, l3, l4, l5⟩, ⟨p1, p2⟩, rfl, h4, h5⟩ := h
  obtain ⟨lg, gd, gp, gu, gw, rfl, hL, rfl, c1, c2⟩ := h2
  obtain ⟨lb, ja, js, e0, e1, e2, rfl⟩ := hE
  obtain ⟨fs, f1, f2, rfl, f4⟩ := hf
  obtain ⟨St, rfl, ⟨r1, r2, r3, r4, r5⟩, r6⟩ := hs
  have h30 := hD.1
  have pm : ∀ {of fi rc sg gd gp gu : List Int32} {gw mr : List Value} {n g : Nat} {G : List xE}, ((209, .inl (14, 24, .int ev)) :: (238, .inr (0, of.map Value.int)) :: (240, .inr (3, fi.map Value.int)) :: (241, .inr (0, rc.map Value.int)) :: (242, .inr (0, sg.map Value.int)) :: (239, .inr (10, mr)) :: (209, .inl (14, 26, .int (Int32.ofNat n))) :: (243, .inr (0, gd.map Value.int)) :: (244, .inr (0, gp.map Value.int)) :: (245, .inr (10, gw)) :: (246, .inr (3, gu.map Value.int)) :: (209, .inl (14, 32, .int (Int32.ofNat g))) :: (G ++ ((237, .inr (10, svl sp)) :: (sD sp ++ (T ++ Rm)))) : List xE).Perm (((209, .inl (14, 26, .int (Int32.ofNat n))) :: (238, .inr (0, of.map Value.int)) :: (240, .inr (3, fi.map Value.int)) :: (241, .inr (0, rc.map Value.int)) :: (242, .inr (0, sg.map Value.int)) :: (239, .inr (10, mr)) :: (237, .inr (10, svl sp)) :: sD sp) ++ ([(209, .inl (14, 32, .int (Int32.ofNat g))), (243, .inr (0, gd.map Value.int)), (244, .inr (0, gp.map Value.int)), (245, .inr (10, gw)), (246, .inr (3, gu.map Value.int))] ++ (((209, .inl (14, 24, .int ev)) :: T) ++ (G ++ Rm)))) := pq fun φ => by
    simp only [cn_c, cn_a, cn_n]
    omega
  have pm0 := pm (of := of) (fi := fi) (rc := rc) (sg := sg) (gd := gd) (gp := gp) (gu := gu) (gw := gw) (mr := mr) (n := Dr.length) (g := lg.length) (G := [])
  refine yK.perm pm0.symm ?_
  have u1 : Rm ⊆ (237, .inr (10, svl sp)) :: (sD sp ++ (T ++ Rm)) := fun e he => List.mem_cons_of_mem _ (List.mem_append_right _ (List.mem_append_right _ he))
  have hT : ∀ q ∈ zE zaT St 0 zTT, q ∈ (237, .inr (10, svl sp)) :: (sD sp ++ (T ++ Rm)) := fun q hq => u1 (s4 hq)
  cases hfd : se.2.2.1 with
  | false =>
    rw [hfd] at r4
    obtain ⟨e1, e2⟩ := ke_0 (Fs := Fs) (Dr := Dr) (gv := lg.length) hfd
    rw [e1, e2]
    refine (mK_keep (F := ([], [], [], (0, 0, 0), [], [])) (pl := []) (sr := []) (cr := []) (fa := 0) (fn := 0) (fd := false) (n := Dr.length) (lg := lg) (En := En) (js := js) (al := fs.map Value.ref ++ List.replicate (10 - Fs.length) Value.null) (St := St) (ev := ev) (M := N) h30 l1 l2 l3 l4 l5 (fun e he => u1 (sN he)) hL hT r4 (u1 (s5 (by simp))) (u1 (s6 (by simp))) (u1 (s6 (by simp))) (fun h => by cases h)).mono (Nat.le_refl _) (Nat.le_refl _) ?_
    rintro a D (⟨-, rfl, rfl⟩ | ⟨h, -⟩ | ⟨mr', gd', gp', gw', gu', N', h, -⟩)
    · exact ⟨rfl, _, _, _, [], pm0, h0, h20, hW0⟩
    · cases h
    · cases h
  | true =>
    rw [hfd] at r4 r5
    rcases r5 with ⟨-, -, h, -⟩ | ⟨-, F, q1, q2, q3, q4⟩
    · cases h
    have q4 := q4 rfl
    obtain ⟨x1, x2, x3, -, -⟩ := gI_some q1
    obtain ⟨fa, hfa⟩ : ∃ fa, fs[se.1.toInt.toNat]? = some fa := ⟨_, List.getElem?_eq_getElem (by have := (List.getElem?_eq_some_iff.mp x3).1; omega)⟩
    have hal : gI (fs.map Value.ref ++ List.replicate (10 - Fs.length) Value.null) se.1 = some (.ref fa) := by
      have hl := (List.getElem?_eq_some_iff.mp x3).1
      rw [← yi_id x1, gI_nat (by omega), List.getElem?_append_left (by rw [List.length_map]; omega), List.getElem?_map, hfa]
      rfl
    refine (mK_keep (F := F) (pl := plF F F.1.length 0) (sr := se.2.2.2.1) (cr := se.2.2.2.2.1) (fa := fa) (fn := se.1) (fd := true) (n := Dr.length) (lg := lg) (En := En) (js := js) (al := fs.map Value.ref ++ List.replicate (10 - Fs.length) Value.null) (St := St) (ev := ev) (M := N) h30 l1 l2 l3 l4 l5 (fun e he => u1 (sN he)) hL hT r4 (u1 (s5 (by simp))) (u1 (s6 (by simp))) (u1 (s6 (by simp))) (fun _ => ⟨r2, hal, (f4 _ _ _ x3 hfa).mono (fun e he => u1 (sN he)), hF _ _ x3, q4⟩)).mono (Nat.le_refl _) (Nat.le_refl _) ?_
    rintro a D (⟨h, -⟩ | ⟨-, g1, rfl, rfl⟩ | ⟨mr', gd', gp', gw', gu', N', -, g1, g2, rfl, rfl, g3, g4, g5, g6⟩)
    · cases h
    · obtain ⟨e1, e2⟩ := ke_3 (Fs := Fs) (Dr := Dr) (gv := lg.length) hfd g1
      rw [e1, e2]
      exact ⟨rfl, _, _, _, [], pm0, h0, h20, hW0⟩
    · obtain ⟨e1, e2⟩ := ke_ok (Dr := Dr) (gv := lg.length) hfd g1 g2 q1
      have hc := hc20 _ e2
      rw [e1, e2]
      have hcl : (chR F (plF F F.1.length 0) se.2.2.2.1 se.2.2.2.2.1).length = se.2.2.2.1.length := chR_len _ _ (by
        obtain ⟨-, -, -, -, -, -, -, -, q5⟩ := q4
        exact q5.2.len)
      refine ⟨rfl, _, _, _, N', pm (G := N'), mDr.new g1 hD x1 (layR_len _ _) l1 l2 l3 l4 p1 p2 h4 (fun q v hq1 hq2 hv => ?_) g4 g5 g6, ?_, hW0⟩
      · rw [g5 q (by omega)] at hv
        exact (h5 q v (by omega) hq2 hv).resolve_right (fun h => by omega)
      · refine ⟨lg ++ lgK Dr.length (chR F (plF F F.1.length 0) se.2.2.2.1 se.2.2.2.2.1), gd', gp', gu', gw', ?_, g3, ?_, fun i d hd => ?_, fun e he => ?_⟩
        · rw [List.length_append, lgK, List.length_map, List.length_reverse]
          rfl
        · rw [← hcl]
          rfl
        · rw [chL_K (fun e he => (c2 e he).1)]
          by_cases ei : Dr.length = i
          · subst ei
            have hd : (Dr ++ [_])[Dr.length]? = some d := hd
            rw [List.getElem?_append_right (Nat.le_refl _), Nat.sub_self] at hd
            injection hd with hd
            subst hd
            rw [if_pos rfl]
          · have hd : (Dr ++ [_])[i]? = some d := hd
            have := (List.getElem?_eq_some_iff.mp hd).1
            rw [List.length_append, List.length_singleton] at this
            rw [List.getElem?_append_left (by omega)] at hd
            rw [if_neg (fun h => ei h.symm)]
            exact c1 i d hd
        · show e.1 < (Dr ++ [_]).length ∧ _
          rw [List.length_append, List.length_singleton]
          rcases List.mem_append.mp he with he | he
          · exact ⟨by have := (c2 e he).1; omega, (c2 e he).2⟩
          · obtain ⟨q, hq, rfl⟩ := List.mem_map.mp he
            exact ⟨by show Dr.length < _; omega, hc q (List.mem_reverse.mp hq)⟩
end KEEPBM
