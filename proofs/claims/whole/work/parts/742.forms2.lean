/-! ALL EXPS OF A FORM THAT WAS READ -/
def GI (G : zG) (s : zP) (fe : Nat → Nat) : Prop := (∀ (i : Nat) p, G.1[i]? = some p → pCn s p.2.2.2.2.2.2.2.1 p.2.2.2.2.2.2.2.2) ∧ (∀ (i : Nat) f, G.2.1[i]? = some f → ∃ a, pEx s i f.2.1 f.2.2 a (fe i) ∧ ∀ j, j < i → fe j < a) ∧ (∀ (i : Nat) c, G.2.2.1[i]? = some c → ∃ j a e, j ≤ G.2.1.length ∧ pEx s j c.2.1 c.2.2 a e ∧ ∀ k, k < j → fe k < a) ∧ ∀ i, i < G.2.1.length → fe i < s.2.2.1.length
section FORMS2
variable {tk : List zK} {s s' : zP} {G : zG} {fe : Nat → Nat}
theorem GI.mv (x : Ext s s') (h : GI G s fe) : GI G s' fe := by
  obtain ⟨h1, h2, h3, h4⟩ := h
  refine ⟨fun i p hp => (h1 i p hp).mv x, fun i f hf => ?_, fun i c hc => ?_, fun i hi => Nat.lt_of_lt_of_le (h4 i hi) x.2.2.2.2.1⟩
  · obtain ⟨a, g1, g2⟩ := h2 i f hf
    exact ⟨a, g1.mv x, g2⟩
  · obtain ⟨j, a, e, g1, g2, g3⟩ := h3 i c hc
    exact ⟨j, a, e, g1, g2.mv x, g3⟩
theorem GI.add {p : Int64 × yPt} (h : GI G s fe) (hp : pCn s p.2.2.2.2.2.2.2.1 p.2.2.2.2.2.2.2.2) : GI (gAdd G p) s fe := by
  obtain ⟨h1, h2⟩ := h
  refine ⟨fun i q hq => ?_, h2⟩
  have hq : (G.1 ++ [p])[i]? = some q := hq
  by_cases hi : i < G.1.length
  · rw [List.getElem?_append_left hi] at hq
    exact h1 i q hq
  · have hil := (List.getElem?_eq_some_iff.mp hq).1
    rw [List.length_append, List.length_singleton] at hil
    obtain rfl : i = G.1.length := by omega
    rw [List.getElem?_append_right (Nat.le_refl _), Nat.sub_self] at hq
    cases hq
    exact hp
theorem GI.parts (hva : vaOk tk) : ∀ (m i : Nat) (g : Int32) (G : zG) (s : zP) (G' : zG) (s' : zP) (b : Unit), GI G s fe → fParts tk m i g G s = .inl (G', s', b) → s'.2.1 ≤ 250 → GI G' s' fe
  | 0, _, _, _, _, _, _, _, _, h, _ => by cases h
  | m + 1, i, g, G, s, G', s', b, hG, h, h250 => by
    have fin : ∀ (must : Int32) (s1 : zP), Ext s s1 → (pu (fPlain tk i g must G s1) fun s1 p => fParts tk m i g (gAdd G p) s1) = .inl (G', s', b) → GI G' s' fe := by
      intro must s1 x1 h
      rcases hp : fPlain tk i g must G s1 with ⟨s2, p⟩ | k
      · rw [hp] at h
        have h : fParts tk m i g (gAdd G p) s2 = .inl (G', s', b) := h
        have x2 := Xv.plain s2 p hp
        have x3 := Xv2.parts m _ _ _ _ _ _ _ h
        exact GI.parts hva m i g (gAdd G p) s2 G' s' b (((hG.mv x1).mv x2).add (cn_plain hva hp (by have := x3.1; omega))) h h250
      · rw [hp] at h; cases h
    rw [fParts] at h
    split at h
    · rcases hp : fGroup tk i g G s with ⟨s2, p⟩ | k
      · rw [hp] at h
        have h : pb2 (fParts tk m (i + 1) (Int32.ofNat G.1.length) (gAdd G p) s2) (fun G2 s2 _ => pu (pWant tk 125 s2) fun s3 _ => fParts tk m i g G2 s3) = .inl (G', s', b) := h
        have x2 := Xv.group s2 p hp
        rcases hp2 : fParts tk m (i + 1) (Int32.ofNat G.1.length) (gAdd G p) s2 with ⟨G3, s3, b3⟩ | k
        · rw [hp2] at h
          have h : pu (pWant tk 125 s3) (fun s3 _ => fParts tk m i g G3 s3) = .inl (G', s', b) := h
          have x3 := Xv2.parts m _ _ _ _ _ _ _ hp2
          rcases hp4 : pWant tk 125 s3 with ⟨s4, b4⟩ | k
          · rw [hp4] at h
            have h : fParts tk m i g G3 s4 = .inl (G', s', b) := h
            have x4 := Ext.refl.want hp4
            have x5 := Xv2.parts m _ _ _ _ _ _ _ h
            have y3 := x3.1
            have y4 := x4.1
            have y5 := x5.1
            have g2 : GI (gAdd G p) s2 fe := (hG.mv x2).add (cn_group hva hp (by omega))
            have g3 := GI.parts hva m (i + 1) (Int32.ofNat G.1.length) (gAdd G p) s2 G3 s3 b3 g2 hp2 (by omega)
            exact GI.parts hva m i g G3 s4 G' s' b (g3.mv x4) h h250
          · rw [hp4] at h; cases h
        · rw [hp2] at h; cases h
      · rw [hp] at h; cases h
    split at h
    · exact fin 1 (sNx s) Ext.refl.nx h
    split at h
    · exact fin 0 s Ext.refl h
    · cases h
      exact hG
end FORMS2
theorem GI.rules {tk : List zK} (hva : vaOk tk) : ∀ (m : Nat) (G : zG) (s : zP) (fe : Nat → Nat) (G' : zG) (s' : zP) (b : Unit), GI G s fe → fRules tk m G s = .inl (G', s', b) → s'.2.1 ≤ 250 → ∃ fe', GI G' s' fe'
  | 0, _, _, _, _, _, _, _, h, _ => by cases h
  | m + 1, G, s, fe, G', s', b, hG, h, h250 => by
    rw [fRules] at h
    split at h
    · rcases hp : fFig tk G s with ⟨s2, p⟩ | k
      · rw [hp] at h
        have h : fRules tk m (gFig G p) s2 = .inl (G', s', b) := h
        have x2 := Xv.fig s2 p hp
        have x3 := Xv2.rules m _ _ _ _ _ h
        obtain ⟨a, e, g1, g2, g3⟩ := ex_fig hva hp (by have := x3.1; omega)
        obtain ⟨h1, h2, h3, h4⟩ := hG.mv x2
        have h4' := hG.2.2.2
        refine GI.rules hva m (gFig G p) s2 (fun i => if i = G.2.1.length then e else fe i) G' s' b ⟨h1, fun i f hf => ?_, fun i c hc => ?_, fun i hi => ?_⟩ h h250
        · have hf : (G.2.1 ++ [p])[i]? = some f := hf
          by_cases hi : i < G.2.1.length
          · rw [List.getElem?_append_left hi] at hf
            obtain ⟨a', k1, k2⟩ := h2 i f hf
            refine ⟨a', ?_, fun j hj => ?_⟩
            · show pEx s2 i f.2.1 f.2.2 a' (if i = G.2.1.length then e else fe i)
              rw [if_neg (by omega)]; exact k1
            · show (if j = G.2.1.length then e else fe j) < a'
              rw [if_neg (by omega)]; exact k2 j hj
          · have hil := (List.getElem?_eq_some_iff.mp hf).1
            rw [List.length_append, List.length_singleton] at hil
            obtain rfl : i = G.2.1.length := by omega
            rw [List.getElem?_append_right (Nat.le_refl _), Nat.sub_self] at hf
            cases hf
            refine ⟨a, ?_, fun j hj => ?_⟩
            · show pEx s2 G.2.1.length p.2.1 p.2.2 a (if G.2.1.length = G.2.1.length then e else fe G.2.1.length)
              rw [if_pos rfl]; exact g1
            · show (if j = G.2.1.length then e else fe j) < a
              rw [if_neg (by omega)]
              have := h4' j hj
              omega
        · obtain ⟨j, a', e', k1, k2, k3⟩ := h3 i c hc
          refine ⟨j, a', e', ?_, k2, fun k hk => ?_⟩
          · show j ≤ (G.2.1 ++ [p]).length
            rw [List.length_append]; omega
          · show (if k = G.2.1.length then e else fe k) < a'
            rw [if_neg (by omega)]; exact k3 k hk
        · have hi : i < (G.2.1 ++ [p]).length := hi
          rw [List.length_append, List.length_singleton] at hi
          show (if i = G.2.1.length then e else fe i) < _
          by_cases hh : i = G.2.1.length
          · rw [if_pos hh]; exact g3
          · rw [if_neg hh]; exact h4 i (by omega)
      · rw [hp] at h; cases h
    split at h
    · rcases hp : fChk tk G s with ⟨s2, p⟩ | k
      · rw [hp] at h
        have h : fRules tk m (gChk G p) s2 = .inl (G', s', b) := h
        have x2 := Xv.chk s2 p hp
        have x3 := Xv2.rules m _ _ _ _ _ h
        obtain ⟨a, e, g1, g2, g3⟩ := ex_chk hva hp (by have := x3.1; omega)
        obtain ⟨h1, h2, h3, h4⟩ := hG.mv x2
        have h4' := hG.2.2.2
        refine GI.rules hva m (gChk G p) s2 fe G' s' b ⟨h1, h2, fun i c hc => ?_, h4⟩ h h250
        have hc : (G.2.2.1 ++ [p])[i]? = some c := hc
        by_cases hi : i < G.2.2.1.length
        · rw [List.getElem?_append_left hi] at hc
          exact h3 i c hc
        · have hil := (List.getElem?_eq_some_iff.mp hc).1
          rw [List.length_append, List.length_singleton] at hil
          obtain rfl : i = G.2.2.1.length := by omega
          rw [List.getElem?_append_right (Nat.le_refl _), Nat.sub_self] at hc
          cases hc
          exact ⟨G.2.1.length, a, e, Nat.le_refl _, g1, fun k hk => by have := h4' k hk; omega⟩
      · rw [hp] at h; cases h
    · cases h
      exact ⟨fe, hG⟩
