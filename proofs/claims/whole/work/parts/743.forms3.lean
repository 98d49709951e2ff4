/-! A FORM THAT WAS READ -/
theorem fForm_inl {tk : List zK} {G : zG} {s : zP} {b : Unit} (hva : vaOk tk) (hpl : plUp tk) (h : fForm tk = .inl (G, s, b)) : Uv tk s ∧ (∃ fe, GI G s fe) ∧ Bd ((G.1.length + G.2.1.length + G.2.2.1.length : Nat) : Int) 0 0 s ∧ G.1.length ≤ 20 ∧ G.2.1.length ≤ 12 ∧ G.2.2.1.length ≤ 12 := by
  have hO := fform_ok (tk := tk)
  have hU := Uv.form hpl G s b h
  rw [h] at hO
  refine ⟨hU, ?_, hO⟩
  have h250 : s.2.1 ≤ 250 := hO.1.1
  unfold fForm at h
  rcases hp : fHead tk (0, 0, [], [], []) with ⟨s1, v⟩ | k
  · rw [hp] at h
    have h : pb2 (fParts tk 21 0 (-9) ([], [], [], v.1, v.2) s1) (fun G s _ => pb2 (fRules tk 25 G s) fun G s _ => if kd tk s.1 = 0 then .inl (G, s, ()) else .inr (some s.1)) = .inl (G, s, b) := h
    rcases hp2 : fParts tk 21 0 (-9) ([], [], [], v.1, v.2) s1 with ⟨G2, s2, b2⟩ | k
    · rw [hp2] at h
      have h : pb2 (fRules tk 25 G2 s2) (fun G s _ => if kd tk s.1 = 0 then .inl (G, s, ()) else .inr (some s.1)) = .inl (G, s, b) := h
      rcases hp3 : fRules tk 25 G2 s2 with ⟨G3, s3, b3⟩ | k
      · rw [hp3] at h
        have h : (if kd tk s3.1 = 0 then .inl (G3, s3, ()) else .inr (some s3.1) : zF2 Unit) = .inl (G, s, b) := h
        split at h
        · cases h
          have x3 := Xv2.rules 25 _ _ _ _ _ hp3
          have g1 : GI ([], [], [], v.1, v.2) s1 (fun _ => 0) := ⟨fun i p hp => by simp at hp, fun i f hf => by simp at hf, fun i c hc => by simp at hc, fun i hi => by simp at hi⟩
          have g2 := GI.parts hva 21 0 (-9) _ s1 G2 s2 b2 g1 hp2 (by have := x3.1; omega)
          exact GI.rules hva 25 G2 s2 _ _ _ b3 g2 hp3 h250
        · cases h
      · rw [hp3] at h; cases h
    · rw [hp2] at h; cases h
  · rw [hp] at h; cases h
