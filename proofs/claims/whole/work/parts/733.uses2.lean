/-! NAMES IN FORMS: their places rise, each has its own node and code -/
theorem plUp_of {t : List Int32} {tk : List zK} (hT : tkT t tk) : plUp tk := by
  intro k h0 h1
  rcases hk : tk[k]? with _ | τ
  · rw [kd, hk] at h1
    exact absurd rfl h1
  · have ek : kd tk k = τ.1 := by rw [kd, hk]; rfl
    have ep : pl tk k = τ.2.1 := by rw [pl, hk]; rfl
    rw [ek] at h0 h1
    obtain ⟨⟨g1, g2, g3, g4, g5⟩, d2, d3⟩ := hT k τ hk
    obtain ⟨τ', hτ'⟩ := d3 h0 h1
    have ep' : pl tk (k + 1) = τ'.2.1 := by rw [pl, hτ']; rfl
    have e := d2 τ' hτ'
    rw [ep, ep', e, g3]
    cases hd : t.drop τ.2.1 with
    | nil => rw [g2, kdAt, hd] at h0; exact absurd rfl h0
    | cons b r =>
      have := (lexK_len (b := b) (r := r)).1
      omega
def Pv2 {β : Type} (tk : List zK) (r : zF2 β) : Prop := ∀ G s b, r = .inl (G, s, b) → Uv tk s
section USES2
variable {α β : Type} {tk : List zK} {s : zP} {G : zG} {i : Nat}
theorem Pv2.pu {r : zF α} {f : zP → α → zF2 β} (h : Pv tk r) (g : ∀ s a, r = .inl (s, a) → Uv tk s → Pv2 tk (f s a)) : Pv2 tk (pu r f) := by
  intro G s b hb
  rcases r with ⟨s1, a⟩ | k
  · exact g s1 a rfl (h s1 a rfl) G s b hb
  · cases hb
theorem Pv2.pb {r : zF2 α} {f : zG → zP → α → zF2 β} (h : Pv2 tk r) (g : ∀ G s a, Uv tk s → Pv2 tk (f G s a)) : Pv2 tk (pb2 r f) := by
  intro G s b hb
  rcases r with ⟨G1, s1, a⟩ | k
  · exact g G1 s1 a (h G1 s1 a rfl) G s b hb
  · cases hb
theorem Pv2.ret {b : β} (h : Uv tk s) : Pv2 tk (.inl (G, s, b)) := by
  intro G1 s1 b1 hb
  cases hb; exact h
theorem Pv2.flt {k : Option Nat} : Pv2 tk (.inr k : zF2 β) := by
  intro G1 s1 b1 hb
  cases hb
theorem Uv.num (hpl : plUp tk) {lo hi : Int32} (h : Uv tk s) : Pv tk (fNum tk lo hi s) := by
  unfold fNum
  split
  · rename_i hk
    exact Pv.ret (h.nx hpl (by rw [hk.1]; decide) (by rw [hk.1]; decide))
  · exact Pv.flt
theorem Uv.new (hpl : plUp tk) {p : Prop} [Decidable p] (h : Uv tk s) : Pv tk (fNew tk G p s) := by
  unfold fNew
  split
  · rename_i hk
    exact Pv.ret (h.nx hpl (by rw [hk.1]; decide) (by rw [hk.1]; decide))
  · exact Pv.flt
theorem Uv.bounds (hpl : plUp tk) {k : Int32} (h : Uv tk s) : Pv tk (fBounds tk k s) := by
  unfold fBounds
  split
  · exact Pv.bind (h.num hpl) fun s1 _ _ u1 => Pv.bind (u1.num hpl) fun s2 _ _ u2 => Pv.ret u2
  split
  · exact Pv.bind (h.num hpl) fun s1 _ _ u1 => Pv.ret u1
  split
  · exact Pv.bind (h.num hpl) fun s1 _ _ u1 => Pv.bind (u1.num hpl) fun s2 _ _ u2 => Pv.ret u2
  split
  · exact Pv.bind (h.num hpl) fun s1 _ _ u1 => Pv.ret u1
  split
  · exact Pv.bind (h.num hpl) fun s1 _ _ u1 => Pv.bind (u1.num hpl) fun s2 _ _ u2 => Pv.bind (u2.num hpl) fun s3 _ _ u3 => Pv.ret u3
  split
  · exact Pv.bind (h.num hpl) fun s1 _ _ u1 => Pv.ret u1
  split
  · exact Pv.bind (h.num hpl) fun s1 _ _ u1 => Pv.bind (u1.num hpl) fun s2 _ _ u2 => Pv.ret u2
  split
  · exact Pv.bind (h.num hpl) fun s1 _ _ u1 => Pv.ret u1
  split
  · exact Pv.bind (h.num hpl) fun s1 _ _ u1 => Pv.ret u1
  · exact Pv.ret h
theorem Uv.exp (hpl : plUp tk) {fg : Nat} (h : Uv tk s) : Pv tk (fExp tk fg i s) := by
  unfold fExp
  exact Pv.bind ((Uv.fix hpl 92).1 _ _ _ h) fun s1 _ _ u1 => Pv.bind u1.em fun s2 _ _ u2 => Pv.ret u2
theorem Uv.when (hpl : plUp tk) (h : Uv tk s) : Pv tk (fWhen tk i s) := by
  unfold fWhen
  split
  · rename_i hk
    exact Uv.exp hpl (h.nx hpl (by rw [hk]; decide) (by rw [hk]; decide))
  · exact Pv.ret h
theorem kd_isKd {c : Int32} (h : 206 ≤ c.toInt ∧ c.toInt ≤ 216) : c ≠ 0 ∧ c ≠ 1 := by
  refine ⟨fun hh => ?_, fun hh => ?_⟩
  · rw [hh] at h; exact absurd h (by decide)
  · rw [hh] at h; exact absurd h (by decide)
theorem Uv.plain (hpl : plUp tk) {g must : Int32} (h : Uv tk s) : Pv tk (fPlain tk i g must G s) := by
  unfold fPlain
  split
  · rename_i hk
    exact Pv.bind (Uv.new hpl (h.nx hpl (kd_isKd hk).1 (kd_isKd hk).2)) fun s1 _ _ u1 => Pv.bind (u1.bounds hpl) fun s2 _ _ u2 => Pv.bind (u2.when hpl) fun s3 _ _ u3 => Pv.bind (u3.want hpl (by decide) (by decide)) fun s4 _ _ u4 => Pv.ret u4
  · exact Pv.flt
theorem Uv.group (hpl : plUp tk) {g : Int32} (h : Uv tk s) (hk : kd tk s.1 = 205) : Pv tk (fGroup tk i g G s) := by
  unfold fGroup
  intro s1 b hb
  obtain ⟨s2, a, q1, q2⟩ := pb_inl hb
  obtain ⟨_, rfl⟩ := pEnter_inl q1
  exact Pv.bind (Uv.new hpl (h.nx hpl (by rw [hk]; decide) (by rw [hk]; decide))) (fun s1 _ _ u1 => Pv.bind (u1.when hpl) fun s3 _ _ u3 => Pv.bind (u3.want hpl (by decide) (by decide)) fun s4 _ _ u4 => Pv.ret u4) s1 b q2
theorem Uv.parts (hpl : plUp tk) : ∀ (m i : Nat) (g : Int32) (G : zG) (s : zP), Uv tk s → Pv2 tk (fParts tk m i g G s)
  | 0, _, _, _, _, _ => Pv2.flt
  | m + 1, i, g, G, s, h => by
    rw [fParts]
    split
    · rename_i hk
      exact Pv2.pu (h.group hpl hk) fun s1 p _ u1 => Pv2.pb (Uv.parts hpl m _ _ _ _ u1) fun G2 s2 _ u2 => Pv2.pu (u2.want hpl (by decide) (by decide)) fun s3 _ _ u3 => Uv.parts hpl m _ _ _ _ u3
    split
    · rename_i hk
      exact Pv2.pu (Uv.plain hpl (h.nx hpl (by rw [hk]; decide) (by rw [hk]; decide))) fun s1 p _ u1 => Uv.parts hpl m _ _ _ _ u1
    split
    · exact Pv2.pu (h.plain hpl) fun s1 p _ u1 => Uv.parts hpl m _ _ _ _ u1
    · exact Pv2.ret h
theorem Uv.rules (hpl : plUp tk) : ∀ (m : Nat) (G : zG) (s : zP), Uv tk s → Pv2 tk (fRules tk m G s)
  | 0, _, _, _ => Pv2.flt
  | m + 1, G, s, h => by
    rw [fRules]
    split
    · rename_i hk
      refine Pv2.pu ?_ fun s1 p _ u1 => Uv.rules hpl m _ _ u1
      unfold fFig
      exact Pv.bind (Uv.new hpl (h.nx hpl (by rw [hk]; decide) (by rw [hk]; decide))) fun s1 _ _ u1 => Pv.bind (u1.want hpl (by decide) (by decide)) fun s2 _ _ u2 => Pv.bind (u2.exp hpl) fun s3 _ _ u3 => Pv.bind (u3.want hpl (by decide) (by decide)) fun s4 _ _ u4 => Pv.ret u4
    split
    · rename_i hk
      refine Pv2.pu ?_ fun s1 p _ u1 => Uv.rules hpl m _ _ u1
      unfold fChk
      split
      · exact Pv.bind (Uv.num hpl (h.nx hpl (by rw [hk]; decide) (by rw [hk]; decide))) fun s1 _ _ u1 => Pv.bind (u1.exp hpl) fun s3 _ _ u3 => Pv.bind (u3.want hpl (by decide) (by decide)) fun s4 _ _ u4 => Pv.ret u4
      · exact Pv.flt
    · exact Pv2.ret h
theorem Uv.form (hpl : plUp tk) : Pv2 tk (fForm tk) := by
  have h0 : Uv tk (0, 0, [], [], []) := ⟨fun i u hu => by simp at hu, fun i j u v _ hu => by simp at hu⟩
  unfold fForm
  refine Pv2.pu ?_ fun s1 v _ u1 => Pv2.pb (Uv.parts hpl _ _ _ _ _ u1) fun G2 s2 _ u2 => Pv2.pb (Uv.rules hpl _ _ _ u2) fun G3 s3 _ u3 => ?_
  · unfold fHead
    refine Pv.bind (h0.want hpl (by decide) (by decide)) fun s1 _ _ u1 => Pv.bind (u1.want hpl (by decide) (by decide)) fun s2 _ _ u2 => Pv.bind ?_ fun s3 _ _ u3 => Pv.bind ?_ fun s4 _ _ u4 => Pv.ret u4
    · unfold fUntil
      split
      · rename_i hk
        exact Pv.bind (Uv.num hpl (u2.nx hpl (by rw [hk]; decide) (by rw [hk]; decide))) fun s1 _ _ u1 => Pv.bind (u1.want hpl (by decide) (by decide)) fun s4 _ _ u4 => Pv.ret u4
      · exact Pv.ret u2
    · unfold fSigners
      split
      · rename_i hk
        exact Pv.bind (Uv.num hpl (u3.nx hpl (by rw [hk]; decide) (by rw [hk]; decide))) fun s1 _ _ u1 => Pv.bind (u1.want hpl (by decide) (by decide)) fun s4 _ _ u4 => Pv.ret u4
      · exact Pv.ret u3
  · split
    · exact Pv2.ret u3
    · exact Pv2.flt
end USES2
