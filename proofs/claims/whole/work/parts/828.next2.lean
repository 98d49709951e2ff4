/-! SEARCH: fillings that may come; the class's search as a whole -/
def vlS (pc : Nat) : Nat → List Nat → Prop
  | _, [] => True
  | t, s :: ss => s ≤ pc - t - 1 ∧ t < pc ∧ vlS pc (t + 1) ss
def vlC (mn : Nat → Nat) : List Nat → List Nat → Prop
  | [], [] => True
  | s :: ss, c :: cs => c < mn s ∧ vlC mn ss cs
  | _, _ => False
theorem vlS.lt {pc : Nat} : ∀ {ss : List Nat} {t : Nat}, vlS pc t ss → ∀ s ∈ ss, s < pc
  | [], _, _, _, h => by cases h
  | a :: ss, t, ⟨h1, h2, h3⟩, s, h => by
    rcases List.mem_cons.mp h with rfl | h
    · omega
    · exact vlS.lt h3 s h
theorem vlS.le {pc : Nat} : ∀ {ss : List Nat} {t : Nat}, t ≤ pc → vlS pc t ss → ss.length + t ≤ pc
  | [], _, h, _ => by rw [List.length_nil]; omega
  | a :: ss, t, _, ⟨h1, h2, h3⟩ => by
    have := vlS.le (t := t + 1) (by omega) h3
    rw [List.length_cons]; omega
theorem extR_vl {pc : Nat} : ∀ (t : Nat) (l : List Nat), l ≠ [] → vlS pc t l → vlS pc 0 (extR l t)
  | 0, _, _, h => h
  | t + 1, l, hl, h => by
    rw [extR]
    refine extR_vl t _ (by simp) ?_
    cases l with
    | nil => exact absurd rfl hl
    | cons a l =>
      obtain ⟨h1, h2, h3⟩ := h
      refine ⟨?_, by omega, h1, h2, h3⟩
      show a + 1 ≤ _
      omega
theorem nxR_vl {pc : Nat} : ∀ (ss : List Nat) (t : Nat) (r : List Nat), vlS pc t ss → nxR pc t ss = some r → vlS pc 0 r
  | [], _, _, _, h => by cases h
  | s :: ss, t, r, ⟨h1, h2, h3⟩, h => by
    rw [nxR] at h
    split at h
    · injection h with h
      rw [← h]
      exact extR_vl t _ (by simp) ⟨by omega, h2, h3⟩
    · exact nxR_vl ss (t + 1) r h3 h
theorem rgR_vl {pc : Nat} : ∀ (n t : Nat), n + t ≤ pc → vlS pc t (rgR n)
  | 0, _, _ => trivial
  | n + 1, t, h => ⟨by omega, by omega, rgR_vl n (t + 1) (by omega)⟩
theorem vlC.len {mn : Nat → Nat} : ∀ {ss cs : List Nat}, vlC mn ss cs → ss.length = cs.length
  | [], [], _ => rfl
  | _ :: _, _ :: _, h => by rw [List.length_cons, List.length_cons, vlC.len h.2]
  | [], _ :: _, h => h.elim
  | _ :: _, [], h => h.elim
theorem zer_vl {mn : Nat → Nat} : ∀ (ss : List Nat) (n : Nat), ss.length = n → (∀ s ∈ ss, 0 < mn s) → vlC mn ss (List.replicate n 0)
  | [], 0, _, _ => trivial
  | s :: ss, n + 1, hl, h => ⟨h s List.mem_cons_self, zer_vl ss n (Nat.succ.inj hl) (fun s hs => h s (List.mem_cons_of_mem _ hs))⟩
theorem advR_vl {mn : Nat → Nat} : ∀ (ss cs r : List Nat), (∀ s ∈ ss, 0 < mn s) → vlC mn ss cs → advR mn ss cs = some r → vlC mn ss r
  | [], _, _, _, _, h => by cases h
  | _ :: _, [], _, _, _, h => by cases h
  | s :: ss, c :: cs, r, hp, ⟨h1, h2⟩, h => by
    rw [advR] at h
    split at h
    · rename_i hlt
      injection h with h
      rw [← h]
      exact ⟨hlt, h2⟩
    · rcases hr : advR mn ss cs with _ | q
      · rw [hr] at h; cases h
      · rw [hr] at h
        injection h with h
        rw [← h]
        exact ⟨hp s List.mem_cons_self, advR_vl ss cs q (fun s hs => hp s (List.mem_cons_of_mem _ hs)) h2 hr⟩
/-- a filling that may come -/
def vlF (mn : Nat → Nat) (pc : Nat) (sr cr : List Nat) : Prop := vlS pc 0 sr ∧ vlC mn sr cr
theorem vlF.adv {mn : Nat → Nat} {pc : Nat} {sr cr s' c' : List Nat} (hp : ∀ s, s < pc → 0 < mn s) (h : vlF mn pc sr cr) (e : advS mn pc sr cr = some (s', c')) : vlF mn pc s' c' := by
  unfold advS at e
  rcases h1 : advR mn sr cr with _ | c
  · rw [h1] at e
    rcases h2 : nxR pc 0 sr with _ | s
    · rw [h2] at e
      by_cases h3 : sr.length < pc
      · have e : (if sr.length < pc then some (rgR (sr.length + 1), List.replicate (sr.length + 1) 0) else none) = some (s', c') := e
        rw [if_pos h3] at e
        injection e with e
        injection e with e1 e2
        subst e1 e2
        have hv := rgR_vl (pc := pc) (sr.length + 1) 0 (by omega)
        exact ⟨hv, zer_vl _ _ (rgR_len _) (fun s hs => hp s (hv.lt s hs))⟩
      · have e : (if sr.length < pc then some (rgR (sr.length + 1), List.replicate (sr.length + 1) 0) else none) = some (s', c') := e
        rw [if_neg h3] at e
        cases e
    · rw [h2] at e
      have e : some (s, List.replicate sr.length 0) = some (s', c') := e
      injection e with e
      injection e with e1 e2
      subst e1 e2
      have hv := nxR_vl sr 0 s h.1 h2
      exact ⟨hv, zer_vl _ _ (nxR_len sr 0 s h2) (fun q hq => hp q (hv.lt q hq))⟩
  · rw [h1] at e
    have e : some (sr, c) = some (s', c') := e
    injection e with e
    injection e with e1 e2
    subst e1 e2
    exact ⟨h.1, advR_vl sr cr c (fun s hs => hp s (h.1.lt s hs)) h.2 h1⟩
theorem vlC.lt {mn : Nat → Nat} {b : Nat} (hb : ∀ s, mn s ≤ b) : ∀ {ss cs : List Nat}, vlC mn ss cs → ∀ c ∈ cs, c < b
  | [], [], _, _, h => by cases h
  | s :: ss, a :: cs, h, c, hc => by
    rcases List.mem_cons.mp hc with rfl | hc
    · exact Nat.lt_of_lt_of_le h.1 (hb s)
    · exact vlC.lt hb h.2 c hc
  | [], _ :: _, h, _, _ => h.elim
  | _ :: _, [], h, _, _ => h.elim
theorem mnP_le {F : yF} (hok : yFok F) {p : Nat} {P : yPt} (hP : F.1[p]? = some P) : mnP P ≤ 8 ∧ 1 ≤ mnP P := by
  obtain ⟨fe, _, _, _, _, hl20, _, _, _, hok9⟩ := hok
  obtain ⟨_, _, _, _, _, _, _, _, _, h4, _, hw, _⟩ := hok9 p P hP
  unfold mnP
  split
  · split <;> omega
  · split
    · rename_i h
      have := h4 h
      omega
    · omega
/-- parts with candidates -/
def plOk (F : yF) (pl : List Nat) : Prop := ∀ p ∈ pl, ∃ P, F.1[p]? = some P ∧ P.1.toInt ≤ 5
theorem mnF_le {F : yF} (hok : yFok F) (pl : List Nat) (s : Nat) : mnF F pl s ≤ 8 := by
  unfold mnF
  rcases h : pl[s]? with _ | p
  · exact Nat.zero_le _
  · rw [Option.bind_some]
    rcases hP : F.1[p]? with _ | P
    · exact Nat.zero_le _
    · exact (mnP_le hok hP).1
theorem mnF_pos {F : yF} (hok : yFok F) {pl : List Nat} (hpl : plOk F pl) {s : Nat} (hs : s < pl.length) : 0 < mnF F pl s := by
  obtain ⟨P, hP, _⟩ := hpl pl[s] (List.getElem_mem hs)
  unfold mnF
  rw [List.getElem?_eq_getElem hs, Option.bind_some, hP]
  exact (mnP_le hok hP).2
section SRC
variable {gi : Nat → Int32} {ga : Nat → List Int32} {N : Nat} {F : yF} {S : zS} {pl sr cr : List Nat}
/-- lengths of the class's rows -/
def lnS (S : zS) : Prop := (zA S 5).length = 8 ∧ (zA S 6).length = 8 ∧ (zA S 7).length = 8 ∧ (zA S 8).length = 9
/-- where the class's search stands -/
def stC2 (F : yF) (S : zS) (pl sr cr : List Nat) : Prop := zI S 3 = Int32.ofNat pl.length ∧ zI S 4 = Int32.ofNat sr.length ∧ pl.length ≤ 8 ∧ lnS S ∧ (∃ j5, zA S 5 = pl.map Int32.ofNat ++ j5) ∧ (∃ t6, zA S 6 = arr sr t6) ∧ (∃ t7, zA S 7 = arr cr t7) ∧ plOk F pl ∧ vlF (mnF F pl) pl.length sr cr
theorem C_advance (hF : fC2 F gi ga) (hok : yFok F) (hN : 9 < N) (h : stC2 F S pl sr cr) : match advS (mnF F pl) pl.length sr cr with
    | some q => ∃ S', cS_advance gi ga N S = some (1, S') ∧ stC2 F S' pl q.1 q.2 ∧ (∀ j, j ≠ 4 → zI S' j = zI S j) ∧ zA S' 8 = zA S 8
    | none => ∃ S', cS_advance gi ga N S = some (0, S') ∧ lnS S' ∧ (∀ j, zI S' j = zI S j) ∧ zA S' 8 = zA S 8 := by
  have hst := h
  obtain ⟨h3, h4, h8, ⟨l5, l6, l7, l8⟩, ⟨j5, h5⟩, ⟨t6, h6⟩, ⟨t7, h7⟩, hpk, hv⟩ := h
  have hlen := hv.2.len
  have hle := hv.1.le (Nat.zero_le _)
  have A := c_adv (N := N) hF hok h8 hpk sr cr N S t6 t7 hlen (by omega) (by omega) (hv.1.lt) (hv.2.lt (mnF_le hok pl)) h5 h6 h7
  have hadv := @vlF.adv (mnF F pl) pl.length sr cr
  have hpos : ∀ s, s < pl.length → 0 < mnF F pl s := fun s hs => mnF_pos hok hpk hs
  unfold advS at hadv ⊢
  have hst0 : cS_advance gi ga N S = cS_advance_5 gi ga N N (idx sr.length) S := by rw [cS_advance, h4]; rfl
  rw [hst0]
  rcases h1 : advR (mnF F pl) sr cr with _ | c
  · rw [h1] at A hadv
    obtain ⟨S1, n', hn', a1, a2, a3⟩ := A
    have l6b := l6
    rw [h6, arr_len] at l6b
    have l7b := l7
    rw [h7, arr_len] at l7b
    have B := c_next (gi := gi) (ga := ga) (N := N) (m := sr.length) (pc := pl.length) (by omega) h8 (by omega) sr 0 N S1 t6 (by omega) (by omega) (by omega) hv.1.lt ((a3.1 3).trans h3) ((a3.1 4).trans h4) ((a3.2 6 (by omega)).trans h6)
    have hst1 : cS_advance_5 gi ga N n' (idx 0) S1 = (zb (cS_nextSet_5 gi ga N N (idx sr.length) S1) fun x1 S2 => (if x1 ≠ (0 : Int32) then some (1, S2) else (zb (cS_firstSet gi ga N S2) fun x4 S5 => (if x4 = (0 : Int32) then some (0, S5) else some (1, S5))))) := by
      obtain ⟨k, rfl⟩ : ∃ k, n' = k + 1 := ⟨n' - 1, by omega⟩
      rw [cS_advance_5, if_pos (by rw [idx_0]; decide), cS_nextSet, show zI S1 4 - 1 = idx sr.length by rw [a3.1 4, h4]; rfl]
    rcases h2 : nxR pl.length 0 sr with _ | s
    · rw [h2] at B hadv
      show match (if sr.length < pl.length then some (rgR (sr.length + 1), List.replicate (sr.length + 1) 0) else none) with
        | some q => _
        | none => _
      have B : cS_nextSet_5 gi ga N N (idx sr.length) S1 = some (0, S1) := B
      rw [B, zb_s, if_neg (fun hh => hh rfl)] at hst1
      by_cases hlt : sr.length < pl.length
      · have hadv := hadv (s' := rgR (sr.length + 1)) (c' := List.replicate (sr.length + 1) 0) hpos hv (if_pos hlt)
        rw [if_pos hlt]
        have e6 : zA S1 6 = arr (rgR 0) (sr.reverse.map Int32.ofNat ++ t6) := by rw [a3.2 6 (by omega), h6]; rfl
        have e7 : zA S1 7 = arr (List.replicate 0 0) (zA S1 7) := rfl
        obtain ⟨S', b1, b2, b3, b4, b5⟩ := c_first (gi := gi) (ga := ga) (N := N) (m := sr.length + 1) (by omega) (sr.length + 1) 0 N (zsI S1 4 (zI S1 4 + 1)) (sr.reverse.map Int32.ofNat ++ t6) (zA S1 7) (by omega) (by omega) (by rw [List.length_append, List.length_map, List.length_reverse]; omega) (by rw [a2, arr_len, List.length_replicate]; omega) (by show zI S1 4 + 1 = _; rw [a3.1 4, h4, yi_add1]) e6 e7
        have hfs : cS_firstSet gi ga N S1 = some (1, S') := by
          rw [cS_firstSet, if_pos (by rw [a3.1 4, a3.1 3, h4, h3, yi_nat (by omega), yi_nat (by omega)]; omega)]
          exact b1
        refine ⟨S', ?_, ?_, ?_, ?_⟩
        · rw [a1, hst1, hfs, zb_s, if_neg (by decide)]
        · refine ⟨?_, ?_, h8, ⟨?_, ?_, ?_, ?_⟩, ⟨j5, ?_⟩, ⟨_, b2⟩, ⟨_, b3⟩, hpk, hadv⟩
          · rw [b4 3]; exact (a3.1 3).trans h3
          · rw [b4 4, rgR_len]
            show zI S1 4 + 1 = _
            rw [a3.1 4, h4, yi_add1]
          · rw [b5 5 (by omega) (by omega)]; exact (congrArg List.length (a3.2 5 (by omega))).trans l5
          · rw [b2, arr_len, rgR_len, List.length_drop, List.length_append, List.length_map, List.length_reverse]; omega
          · rw [b3, arr_len, List.length_replicate, List.length_drop, a2, arr_len, List.length_replicate]; omega
          · rw [b5 8 (by omega) (by omega)]; exact (congrArg List.length (a3.2 8 (by omega))).trans l8
          · rw [b5 5 (by omega) (by omega)]; exact (a3.2 5 (by omega)).trans h5
        · intro j hj
          rw [b4 j]
          show zup S1.1 4 _ j = S.1 j
          rw [zup_ne hj]
          exact a3.1 j
        · rw [b5 8 (by omega) (by omega)]; exact a3.2 8 (by omega)
      · rw [if_neg hlt]
        have hfs : cS_firstSet gi ga N S1 = some (0, S1) := by
          rw [cS_firstSet, if_neg (by rw [a3.1 4, a3.1 3, h4, h3, yi_nat (by omega), yi_nat (by omega)]; omega)]
        refine ⟨S1, ?_, ⟨?_, ?_, ?_, ?_⟩, a3.1, a3.2 8 (by omega)⟩
        · rw [a1, hst1, hfs, zb_s, if_pos rfl]
        · rw [a3.2 5 (by omega)]; exact l5
        · rw [a3.2 6 (by omega)]; exact l6
        · rw [a2, arr_len, List.length_replicate]; omega
        · rw [a3.2 8 (by omega)]; exact l8
    · rw [h2] at B hadv
      have hadv := hadv (s' := s) (c' := List.replicate sr.length 0) hpos hv rfl
      obtain ⟨S', b1, b2, b3⟩ := B
      rw [b1, zb_s, if_pos (by decide)] at hst1
      have hsl := nxR_len sr 0 s h2
      refine ⟨S', by rw [a1, hst1], ?_, fun j _ => (b3.1 j).trans (a3.1 j), (b3.2 8 (by omega)).trans (a3.2 8 (by omega))⟩
      refine ⟨?_, ?_, h8, ⟨?_, ?_, ?_, ?_⟩, ⟨j5, ?_⟩, ⟨_, b2⟩, ⟨t7, ?_⟩, hpk, hadv⟩
      · exact (b3.1 3).trans ((a3.1 3).trans h3)
      · show _ = Int32.ofNat s.length
        rw [b3.1 4, a3.1 4, h4, hsl]
        rfl
      · rw [b3.2 5 (by omega), a3.2 5 (by omega)]; exact l5
      · rw [b2, arr_len, List.length_drop, hsl]; omega
      · rw [b3.2 7 (by omega), a2, arr_len, List.length_replicate]; omega
      · rw [b3.2 8 (by omega), a3.2 8 (by omega)]; exact l8
      · rw [b3.2 5 (by omega), a3.2 5 (by omega)]; exact h5
      · rw [b3.2 7 (by omega), a2, hlen]
  · rw [h1] at A hadv
    obtain ⟨S', a1, a2, a3⟩ := A
    have hadv := hadv (s' := sr) (c' := c) hpos hv rfl
    have hcl := advR_len sr cr c h1
    have l7b := l7
    rw [h7, arr_len] at l7b
    refine ⟨S', a1, ?_, fun j _ => a3.1 j, a3.2 8 (by omega)⟩
    refine ⟨(a3.1 3).trans h3, (a3.1 4).trans h4, h8, ⟨?_, ?_, ?_, ?_⟩, ⟨j5, ?_⟩, ⟨t6, ?_⟩, ⟨t7, a2⟩, hpk, hadv⟩
    · rw [a3.2 5 (by omega)]; exact l5
    · rw [a3.2 6 (by omega)]; exact l6
    · rw [a2, arr_len, hcl]; omega
    · rw [a3.2 8 (by omega)]; exact l8
    · rw [a3.2 5 (by omega)]; exact h5
    · rw [a3.2 6 (by omega)]; exact h6
end SRC
