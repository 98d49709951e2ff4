/-! THE EXPS OF A FORM THAT IS BEING READ -/
def pEx (s : zP) (j : Nat) (wn wc : Int32) (a e : Nat) : Prop := wc = Int32.ofNat a ∧ ∃ n, wn = Int32.ofNat n ∧ pRep j 0 0 s 300 a e n ∧ s.2.2.1[e]? = some (0, 0)
theorem pEx.mv {s s' : zP} {j : Nat} {wn wc : Int32} {a e : Nat} (x : Ext s s') (h : pEx s j wn wc a e) : pEx s' j wn wc a e := by
  obtain ⟨h1, n, h2, h3, h4⟩ := h
  obtain ⟨x1, x2, x3, x4, x5, x6, x7, x8⟩ := x
  have he := (List.getElem?_eq_some_iff.mp h4).1
  refine ⟨h1, n, h2, pRep.mv (Nat.le_refl _) (Nat.le_refl _) (Nat.le_refl _) (fun k _ k2 => x3 k k2) (fun k _ k2 => x4 k k2) _ _ _ _ _ (Nat.le_refl _) (fun k _ k2 => x2 k (by omega)) h3, by rw [x2 e he]; exact h4⟩
theorem pEx_of {tk : List zK} {s s' : zP} {fg i : Nat} {w : Int32 × Int32} (hva : vaOk tk) (h : fExp tk fg i s = .inl (s', w)) (h250 : s'.2.1 ≤ 250) : ∃ e, pEx s' fg w.1 w.2 s.2.2.1.length e ∧ e < s'.2.2.1.length := by
  obtain ⟨_, n, e, rfl, h2, h3, h4⟩ := rep_exp hva h
  exact ⟨e, ⟨rfl, n, rfl, pRep.mv (Nat.le_refl _) (Nat.zero_le _) (Nat.zero_le _) (fun _ _ _ => rfl) (fun _ _ _ => rfl) _ _ _ _ _ (by omega) (fun _ _ _ => rfl) h3, h4⟩, by omega⟩
/-- no condition, or one -/
def pCn (s : zP) (wn wc : Int32) : Prop := (wn = -9 ∧ wc = -9) ∨ ∃ a e, pEx s 0 wn wc a e
theorem pCn.mv {s s' : zP} {wn wc : Int32} (x : Ext s s') (h : pCn s wn wc) : pCn s' wn wc := by
  rcases h with h | ⟨a, e, h⟩
  · exact Or.inl h
  · exact Or.inr ⟨a, e, h.mv x⟩
section FORMS
variable {tk : List zK} {s s' : zP} {G : zG} {i : Nat}
theorem cn_when {w : Int32 × Int32} (hva : vaOk tk) (h : fWhen tk i s = .inl (s', w)) (h250 : s'.2.1 ≤ 250) : pCn s' w.1 w.2 := by
  unfold fWhen at h
  split at h
  · obtain ⟨e, h1, _⟩ := pEx_of hva h h250
    exact Or.inr ⟨_, e, h1⟩
  · cases h
    exact Or.inl ⟨rfl, rfl⟩
theorem cn_plain {g must : Int32} {p : Int64 × yPt} (hva : vaOk tk) (h : fPlain tk i g must G s = .inl (s', p)) (h250 : s'.2.1 ≤ 250) : pCn s' p.2.2.2.2.2.2.2.1 p.2.2.2.2.2.2.2.2 := by
  unfold fPlain at h
  split at h
  · obtain ⟨s1, nm, q1, h1⟩ := pb_inl h
    obtain ⟨s2, b, q2, h2⟩ := pb_inl h1
    obtain ⟨s3, w, q3, h3⟩ := pb_inl h2
    obtain ⟨s4, _, q4, h4⟩ := pb_inl h3
    clear h h1 h2 h3
    cases h4
    have x := Ext.refl.want q4
    exact (cn_when hva q3 (by have := x.1; omega)).mv x
  · cases h
theorem cn_group {g : Int32} {p : Int64 × yPt} (hva : vaOk tk) (h : fGroup tk i g G s = .inl (s', p)) (h250 : s'.2.1 ≤ 250) : pCn s' p.2.2.2.2.2.2.2.1 p.2.2.2.2.2.2.2.2 := by
  unfold fGroup at h
  obtain ⟨s0, _, q0, h0⟩ := pb_inl h
  obtain ⟨s1, nm, q1, h1⟩ := pb_inl h0
  obtain ⟨s3, w, q3, h3⟩ := pb_inl h1
  obtain ⟨s4, _, q4, h4⟩ := pb_inl h3
  clear h h0 h1 h3
  cases h4
  have x := Ext.refl.want q4
  exact (cn_when hva q3 (by have := x.1; omega)).mv x
theorem ex_fig {p : Int64 × Int32 × Int32} (hva : vaOk tk) (h : fFig tk G s = .inl (s', p)) (h250 : s'.2.1 ≤ 250) : ∃ a e, pEx s' G.2.1.length p.2.1 p.2.2 a e ∧ s.2.2.1.length ≤ a ∧ e < s'.2.2.1.length := by
  unfold fFig at h
  obtain ⟨s1, nm, q1, h1⟩ := pb_inl h
  obtain ⟨s2, _, q2, h2⟩ := pb_inl h1
  obtain ⟨s3, w, q3, h3⟩ := pb_inl h2
  obtain ⟨s4, _, q4, h4⟩ := pb_inl h3
  clear h h1 h2 h3
  cases h4
  have x := Ext.refl.want q4
  have x1 := (Xv.pre (s := s) (Xv.new (tk := tk) (G := G) (p := G.2.1.length < 12))) s1 nm q1
  have x2 := Ext.refl.want q2
  obtain ⟨e, h5, h6⟩ := pEx_of hva q3 (by have := x.1; omega)
  have l1 := x1.2.2.2.2.1
  have l2 := x2.2.2.2.2.1
  have l3 := x.2.2.2.2.1
  exact ⟨_, e, h5.mv x, by omega, by omega⟩
theorem ex_chk {p : Int32 × Int32 × Int32} (hva : vaOk tk) (h : fChk tk G s = .inl (s', p)) (h250 : s'.2.1 ≤ 250) : ∃ a e, pEx s' G.2.1.length p.2.1 p.2.2 a e ∧ s.2.2.1.length ≤ a ∧ e < s'.2.2.1.length := by
  unfold fChk at h
  split at h
  · obtain ⟨s1, nm, q1, h1⟩ := pb_inl h
    obtain ⟨s3, w, q3, h3⟩ := pb_inl h1
    obtain ⟨s4, _, q4, h4⟩ := pb_inl h3
    clear h h1 h3
    cases h4
    have x := Ext.refl.want q4
    have x1 := (Xv.pre (s := s) (Xv.num (tk := tk) (lo := 0) (hi := 999999))) s1 nm q1
    obtain ⟨e, h5, h6⟩ := pEx_of hva q3 (by have := x.1; omega)
    have l1 := x1.2.2.2.2.1
    have l3 := x.2.2.2.2.1
    exact ⟨_, e, h5.mv x, by omega, by omega⟩
  · cases h
end FORMS
