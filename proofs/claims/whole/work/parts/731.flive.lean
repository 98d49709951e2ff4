/-! READING FORMS: what never comes, does not come -/
section FLIVE
variable {tk : List zK} {c m u : Int} {s : zP} {G : zG} {i : Nat}
theorem fnum_ok {lo hi : Int32} (h : Bd c m u s) : Ok c m u s.2.1 (fNum tk lo hi s) := by
  unfold fNum
  split
  · exact ⟨h.nx, Nat.le_refl _⟩
  · trivial
theorem fnew_ok {p : Prop} [Decidable p] (h : Bd c m u s) : Ok c m u s.2.1 (fNew tk G p s) := by
  unfold fNew
  split
  · exact ⟨h.nx, Nat.le_refl _⟩
  · trivial
theorem fbounds_ok {k : Int32} (h : Bd c m u s) : Ok c m u s.2.1 (fBounds tk k s) := by
  have one : ∀ {α : Type} {lo hi : Int32} {f : zP → Int32 → zF α} {s : zP}, Bd c m u s → (∀ s1 a, Bd c m u s1 → Ok c m u s1.2.1 (f s1 a)) → Ok c m u s.2.1 (pb (fNum tk lo hi s) f) := by
    intro α lo hi f s h hf
    exact Ok.bind (fnum_ok h) fun s1 a b1 n1 => (hf s1 a b1).mono (Int.le_refl _) (Int.le_refl _) (Int.le_refl _) n1
  have fin : ∀ {x : Int32 × Int32 × Int32} {s : zP}, Bd c m u s → Ok c m u s.2.1 (.inl (s, x)) := fun h => ⟨h, Nat.le_refl _⟩
  unfold fBounds
  split
  · exact one h fun s1 a b1 => one b1 fun s2 b b2 => fin b2
  split
  · exact one h fun s1 a b1 => fin b1
  split
  · exact one h fun s1 a b1 => one b1 fun s2 b b2 => fin b2
  split
  · exact one h fun s1 a b1 => fin b1
  split
  · exact one h fun s1 a b1 => one b1 fun s2 b b2 => one b2 fun s3 b b3 => fin b3
  split
  · exact one h fun s1 a b1 => fin b1
  split
  · exact one h fun s1 a b1 => one b1 fun s2 b b2 => fin b2
  split
  · exact one h fun s1 a b1 => fin b1
  split
  · exact one h fun s1 a b1 => fin b1
  · exact fin h
theorem fexp_ok {fg : Nat} (hi : i ≤ 10) (hc : c ≤ 57) (h : Bd c 0 0 s) : Ok (c + 1) 0 0 s.2.1 (fExp tk fg i s) := by
  unfold fExp
  exact Ok.bind ((ok_fix (tk := tk) (fg := fg) 92).1 0 i (by omega) hi (by omega) c 0 0 s (by omega) (by omega) (by omega) h) fun s1 n b1 n1 => Ok.bind (em_ok (by omega) b1) fun s2 _ b2 n2 => ⟨b2, by omega⟩
theorem Bd.up {c' : Int} (h : Bd c 0 0 s) (hc : c ≤ c') : Bd c' 0 0 s := by
  obtain ⟨h1, h2, h3, h4⟩ := h
  exact ⟨h1, by omega, h3, h4⟩
theorem fwhen_ok (hi : i ≤ 10) (hc : c ≤ 57) (h : Bd c 0 0 s) : Ok (c + 1) 0 0 s.2.1 (fWhen tk i s) := by
  unfold fWhen
  split
  · exact fexp_ok (s := sNx s) hi hc h.nx
  · exact ⟨h.up (by omega), Nat.le_refl _⟩
theorem fplain_ok {g must : Int32} (hi : i ≤ 10) (hc : c ≤ 57) (h : Bd c 0 0 s) : Ok (c + 1) 0 0 s.2.1 (fPlain tk i g must G s) := by
  unfold fPlain
  split
  · exact Ok.bind (fnew_ok h.nx) fun s1 nm b1 n1 => Ok.bind (fbounds_ok b1) fun s2 x b2 n2 => Ok.bind (fwhen_ok hi hc b2) fun s3 w b3 n3 => Ok.bind (want_ok b3) fun s4 _ b4 n4 => ⟨b4, by have n1 : s.2.1 ≤ s1.2.1 := n1; show s.2.1 ≤ s4.2.1; omega⟩
  · trivial
theorem fgroup_ok {g : Int32} (hc : c ≤ 57) (h : Bd c 0 0 s) : Ok (c + 1) 0 0 s.2.1 (fGroup tk i g G s) := by
  unfold fGroup pEnter
  split
  · rename_i h10
    show Ok (c + 1) 0 0 s.2.1 (pb (fNew tk G (G.1.length < 20) (sNx s)) _)
    exact Ok.bind (fnew_ok h.nx) fun s1 nm b1 n1 => Ok.bind (fwhen_ok (by omega) hc b1) fun s3 w b3 n3 => Ok.bind (want_ok b3) fun s4 _ b4 n4 => ⟨b4, by have n1 : s.2.1 ≤ s1.2.1 := n1; show s.2.1 ≤ s4.2.1; omega⟩
  · trivial
theorem fNew_lt {p : Prop} [Decidable p] {s1 : zP} {nm : Int64} (h : fNew tk G p s = .inl (s1, nm)) : p := by
  unfold fNew at h
  split at h
  · rename_i hh; exact hh.2.1
  · cases h
theorem fPlain_lt {g must : Int32} {s1 : zP} {p : Int64 × yPt} (h : fPlain tk i g must G s = .inl (s1, p)) : G.1.length < 20 := by
  unfold fPlain at h
  split at h
  · obtain ⟨s2, _, q1, _⟩ := pb_inl h
    exact fNew_lt q1
  · cases h
theorem fGroup_lt {g : Int32} {s1 : zP} {p : Int64 × yPt} (h : fGroup tk i g G s = .inl (s1, p)) : G.1.length < 20 := by
  obtain ⟨s2, _, q1, h⟩ := pb_inl h
  obtain ⟨s3, _, q2, _⟩ := pb_inl h
  exact fNew_lt q2
theorem gAdd_len {p : Int64 × yPt} : (gAdd G p).1.length = G.1.length + 1 := by show (G.1 ++ [p]).length = _; rw [List.length_append]; rfl
def OkP (G : zG) (r : zF2 Unit) : Prop := match r with
  | .inl (G', s', _) => Bd (G'.1.length : Int) 0 0 s' ∧ G.1.length ≤ G'.1.length ∧ G'.1.length ≤ 20 ∧ G'.2 = G.2
  | .inr none => False
  | .inr (some _) => True
theorem fparts_ok : ∀ (m i : Nat) (g : Int32) (G : zG) (s : zP), i ≤ 10 → 21 ≤ m + G.1.length → G.1.length ≤ 20 → Bd (G.1.length : Int) 0 0 s → OkP G (fParts tk m i g G s)
  | 0, _, _, G, _, _, h1, h2, _ => by omega
  | m + 1, i, g, G, s, hi, hm, h20, h => by
    rw [fParts]
    have fin : ∀ (must : Int32) (s1 : zP), Bd (G.1.length : Int) 0 0 s1 → OkP G (pu (fPlain tk i g must G s1) fun s1 p => fParts tk m i g (gAdd G p) s1) := by
      intro must s1 h1
      have hO := fplain_ok (tk := tk) (G := G) (g := g) (must := must) hi (by omega) h1
      rcases hp : fPlain tk i g must G s1 with ⟨s2, p⟩ | _ | q
      · rw [hp] at hO
        have h19 := fPlain_lt hp
        have hl := gAdd_len (G := G) (p := p)
        have ih := fparts_ok m i g (gAdd G p) s2 hi (by omega) (by omega) (by rw [hl]; exact hO.1)
        show OkP G (fParts tk m i g (gAdd G p) s2)
        rcases hp2 : fParts tk m i g (gAdd G p) s2 with ⟨G3, s3, _⟩ | _ | q
        · rw [hp2] at ih
          obtain ⟨y1, y2, y3, y4⟩ := ih
          exact ⟨y1, by omega, y3, y4⟩
        · rw [hp2] at ih; exact ih
        · trivial
      · rw [hp] at hO; exact hO
      · trivial
    by_cases k5 : kd tk s.1 = 205
    · rw [if_pos k5]
      have hO := fgroup_ok (tk := tk) (G := G) (g := g) (i := i) (by omega) h
      rcases hp : fGroup tk i g G s with ⟨s2, p⟩ | _ | q
      · rw [hp] at hO
        have h19 := fGroup_lt hp
        have hi10 := (fGroup_inl hp).1
        have hl := gAdd_len (G := G) (p := p)
        have ih := fparts_ok m (i + 1) (Int32.ofNat G.1.length) (gAdd G p) s2 (by omega) (by omega) (by omega) (by rw [hl]; exact hO.1)
        show OkP G (pb2 (fParts tk m (i + 1) (Int32.ofNat G.1.length) (gAdd G p) s2) fun G2 s2 _ => pu (pWant tk 125 s2) fun s3 _ => fParts tk m i g G2 s3)
        rcases hp2 : fParts tk m (i + 1) (Int32.ofNat G.1.length) (gAdd G p) s2 with ⟨G3, s3, _⟩ | _ | q
        · rw [hp2] at ih
          obtain ⟨y1, y2, y3, y4⟩ := ih
          show OkP G (pu (pWant tk 125 s3) fun s3 _ => fParts tk m i g G3 s3)
          unfold pWant
          by_cases k125 : kd tk s3.1 = 125
          · rw [if_pos k125]
            have ih2 := fparts_ok m i g G3 (sNx s3) hi (by omega) y3 y1.nx
            show OkP G (fParts tk m i g G3 (sNx s3))
            rcases hp3 : fParts tk m i g G3 (sNx s3) with ⟨G4, s4, _⟩ | _ | q
            · rw [hp3] at ih2
              obtain ⟨x1, x2, x3, x4⟩ := ih2
              exact ⟨x1, by omega, x3, x4.trans y4⟩
            · rw [hp3] at ih2; exact ih2
            · trivial
          · rw [if_neg k125]; trivial
        · rw [hp2] at ih; exact ih
        · trivial
      · rw [hp] at hO; exact hO
      · trivial
    · rw [if_neg k5]
      by_cases k3 : kd tk s.1 = 203
      · rw [if_pos k3]
        exact fin 1 (sNx s) h.nx
      · rw [if_neg k3]
        by_cases kk : 206 ≤ (kd tk s.1).toInt ∧ (kd tk s.1).toInt ≤ 216
        · rw [if_pos kk]
          exact fin 0 s h
        · rw [if_neg kk]
          exact ⟨h, Nat.le_refl _, h20, rfl⟩
theorem ffig_ok (hc : c ≤ 57) (h : Bd c 0 0 s) : Ok (c + 1) 0 0 s.2.1 (fFig tk G s) := by
  unfold fFig
  exact Ok.bind (fnew_ok h.nx) fun s1 nm b1 n1 => Ok.bind (want_ok b1) fun s2 _ b2 n2 => Ok.bind (fexp_ok (by omega) hc b2) fun s3 w b3 n3 => Ok.bind (want_ok b3) fun s4 _ b4 n4 => ⟨b4, by have n1 : s.2.1 ≤ s1.2.1 := n1; show s.2.1 ≤ s4.2.1; omega⟩
theorem fchk_ok (hc : c ≤ 57) (h : Bd c 0 0 s) : Ok (c + 1) 0 0 s.2.1 (fChk tk G s) := by
  unfold fChk
  split
  · exact Ok.bind (fnum_ok h.nx) fun s1 nm b1 n1 => Ok.bind (fexp_ok (by omega) hc b1) fun s3 w b3 n3 => Ok.bind (want_ok b3) fun s4 _ b4 n4 => ⟨b4, by have n1 : s.2.1 ≤ s1.2.1 := n1; show s.2.1 ≤ s4.2.1; omega⟩
  · trivial
def OkR (r : zF2 Unit) : Prop := match r with
  | .inl (G', s', _) => Bd ((G'.1.length + G'.2.1.length + G'.2.2.1.length : Nat) : Int) 0 0 s' ∧ G'.1.length ≤ 20 ∧ G'.2.1.length ≤ 12 ∧ G'.2.2.1.length ≤ 12
  | .inr none => False
  | .inr (some _) => True
theorem frules_ok : ∀ (m : Nat) (G : zG) (s : zP), 25 ≤ m + G.2.1.length + G.2.2.1.length → G.1.length ≤ 20 → G.2.1.length ≤ 12 → G.2.2.1.length ≤ 12 → Bd ((G.1.length + G.2.1.length + G.2.2.1.length : Nat) : Int) 0 0 s → OkR (fRules tk m G s)
  | 0, G, _, h1, _, h2, h3, _ => by omega
  | m + 1, G, s, hm, h20, hf, hc, h => by
    rw [fRules]
    by_cases k7 : kd tk s.1 = 217
    · rw [if_pos k7]
      have hO := ffig_ok (tk := tk) (G := G) (by omega) h
      rcases hp : fFig tk G s with ⟨s2, p⟩ | _ | q
      · rw [hp] at hO
        have h12 : G.2.1.length < 12 := by
          obtain ⟨s3, _, q1, _⟩ := pb_inl hp
          exact fNew_lt q1
        have hl : (gFig G p).2.1.length = G.2.1.length + 1 := by show (G.2.1 ++ [p]).length = _; rw [List.length_append]; rfl
        have l1 : (gFig G p).1.length = G.1.length := rfl
        have l2 : (gFig G p).2.2.1.length = G.2.2.1.length := rfl
        exact frules_ok m (gFig G p) s2 (by omega) (by omega) (by omega) (by omega) (hO.1.up (by rw [hl, l1, l2]; omega))
      · rw [hp] at hO; exact hO
      · trivial
    · rw [if_neg k7]
      by_cases k8 : kd tk s.1 = 218
      · rw [if_pos k8]
        have hO := fchk_ok (tk := tk) (G := G) (by omega) h
        rcases hp : fChk tk G s with ⟨s2, p⟩ | _ | q
        · rw [hp] at hO
          have h12 : G.2.2.1.length < 12 := by
            unfold fChk at hp
            split at hp
            · assumption
            · cases hp
          have hl : (gChk G p).2.2.1.length = G.2.2.1.length + 1 := by show (G.2.2.1 ++ [p]).length = _; rw [List.length_append]; rfl
          have l1 : (gChk G p).1.length = G.1.length := rfl
          have l2 : (gChk G p).2.1.length = G.2.1.length := rfl
          exact frules_ok m (gChk G p) s2 (by omega) (by omega) (by omega) (by omega) (hO.1.up (by rw [hl, l1, l2]; omega))
        · rw [hp] at hO; exact hO
        · trivial
      · rw [if_neg k8]
        exact ⟨h, h20, hf, hc⟩
theorem fhead_ok (h : Bd 0 0 0 s) : Ok 0 0 0 s.2.1 (fHead tk s) := by
  have hU : ∀ {s : zP}, Bd 0 0 0 s → Ok 0 0 0 s.2.1 (fUntil tk s) := by
    intro s h
    unfold fUntil
    split
    · exact Ok.bind (fnum_ok h.nx) fun s1 v b1 n1 => Ok.bind (want_ok b1) fun s2 _ b2 n2 => ⟨b2, by have n1 : s.2.1 ≤ s1.2.1 := n1; show s.2.1 ≤ s2.2.1; omega⟩
    · exact ⟨h, Nat.le_refl _⟩
  have hS : ∀ {s : zP}, Bd 0 0 0 s → Ok 0 0 0 s.2.1 (fSigners tk s) := by
    intro s h
    unfold fSigners
    split
    · exact Ok.bind (fnum_ok h.nx) fun s1 v b1 n1 => Ok.bind (want_ok b1) fun s2 _ b2 n2 => ⟨b2, by have n1 : s.2.1 ≤ s1.2.1 := n1; show s.2.1 ≤ s2.2.1; omega⟩
    · exact ⟨h, Nat.le_refl _⟩
  unfold fHead
  exact Ok.bind (want_ok h) fun s1 _ b1 n1 => Ok.bind (want_ok b1) fun s2 _ b2 n2 => Ok.bind (hU b2) fun s3 _ b3 n3 => Ok.bind (hS b3) fun s4 _ b4 n4 => ⟨b4, by show s.2.1 ≤ s4.2.1; omega⟩
theorem fform_ok : OkR (fForm tk) := by
  unfold fForm
  have hH := fhead_ok (tk := tk) (s := (0, 0, [], [], [])) ⟨by decide, by decide, by decide, by decide⟩
  rcases hp : fHead tk (0, 0, [], [], []) with ⟨s1, v⟩ | _ | q
  · rw [hp] at hH
    have hP := fparts_ok (tk := tk) 21 0 (-9) ([], [], [], v.1, v.2) s1 (by omega) (Nat.le_refl 21) (Nat.zero_le 20) hH.1
    show OkR (pb2 (fParts tk 21 0 (-9) ([], [], [], v.1, v.2) s1) fun G s _ => pb2 (fRules tk 25 G s) fun G s _ => if kd tk s.1 = 0 then .inl (G, s, ()) else .inr (some s.1))
    rcases hp2 : fParts tk 21 0 (-9) ([], [], [], v.1, v.2) s1 with ⟨G2, s2, _⟩ | _ | q
    · rw [hp2] at hP
      obtain ⟨y1, y2, y3, y4⟩ := hP
      have l1 : G2.2.1.length = 0 := by rw [y4]; rfl
      have l2 : G2.2.2.1.length = 0 := by rw [y4]; rfl
      have hR := frules_ok (tk := tk) 25 G2 s2 (by omega) y3 (by omega) (by omega) (by rw [l1, l2]; exact y1)
      show OkR (pb2 (fRules tk 25 G2 s2) fun G s _ => if kd tk s.1 = 0 then .inl (G, s, ()) else .inr (some s.1))
      rcases hp3 : fRules tk 25 G2 s2 with ⟨G3, s3, _⟩ | _ | q
      · rw [hp3] at hR
        show OkR (if kd tk s3.1 = 0 then .inl (G3, s3, ()) else .inr (some s3.1))
        split
        · exact hR
        · trivial
      · rw [hp3] at hR; exact hR
      · trivial
    · rw [hp2] at hP; exact hP
    · trivial
  · rw [hp] at hH; exact hH
  · trivial
end FLIVE
