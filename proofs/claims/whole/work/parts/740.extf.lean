/-! WHAT READING A FORM LEAVES AS IT WAS -/
def Xv {β : Type} (s : zP) (r : zF β) : Prop := ∀ s' b, r = .inl (s', b) → Ext s s'
def Xv2 {β : Type} (s : zP) (r : zF2 β) : Prop := ∀ G s' b, r = .inl (G, s', b) → Ext s s'
section EXTF
variable {α β : Type} {tk : List zK} {s : zP} {G : zG} {i : Nat}
theorem Xv.bind {r : zF α} {f : zP → α → zF β} (h : Xv s r) (g : ∀ s1 a, Xv s1 (f s1 a)) : Xv s (pb r f) := by
  intro s' b hb
  obtain ⟨s1, a, q1, q2⟩ := pb_inl hb
  exact (h s1 a q1).trans (g s1 a s' b q2)
theorem Xv.ret {b : β} : Xv s (.inl (s, b)) := by
  intro s1 b1 hb
  cases hb; exact Ext.refl
theorem Xv.rnx {b : β} : Xv s (.inl (sNx s, b)) := by
  intro s1 b1 hb
  cases hb; exact Ext.refl.nx
theorem Xv.flt {k : Option Nat} : Xv s (.inr k : zF β) := by
  intro s1 b1 hb
  cases hb
theorem Xv.want {c : Int32} : Xv s (pWant tk c s) := fun _ _ h => Ext.refl.want h
theorem Xv.pre {r : zF β} (h : Xv (sNx s) r) : Xv s r := fun s' b hb => (Ext.refl.nx).trans (h s' b hb)
theorem Xv.num {lo hi : Int32} : Xv s (fNum tk lo hi s) := by
  unfold fNum
  split
  · exact Xv.rnx
  · exact Xv.flt
theorem Xv.new {p : Prop} [Decidable p] : Xv s (fNew tk G p s) := by
  unfold fNew
  split
  · exact Xv.rnx
  · exact Xv.flt
theorem Xv.bounds {k : Int32} : Xv s (fBounds tk k s) := by
  unfold fBounds
  split
  · exact Xv.bind Xv.num fun s1 _ => Xv.bind Xv.num fun s2 _ => Xv.ret
  split
  · exact Xv.bind Xv.num fun s1 _ => Xv.ret
  split
  · exact Xv.bind Xv.num fun s1 _ => Xv.bind Xv.num fun s2 _ => Xv.ret
  split
  · exact Xv.bind Xv.num fun s1 _ => Xv.ret
  split
  · exact Xv.bind Xv.num fun s1 _ => Xv.bind Xv.num fun s2 _ => Xv.bind Xv.num fun s3 _ => Xv.ret
  split
  · exact Xv.bind Xv.num fun s1 _ => Xv.ret
  split
  · exact Xv.bind Xv.num fun s1 _ => Xv.bind Xv.num fun s2 _ => Xv.ret
  split
  · exact Xv.bind Xv.num fun s1 _ => Xv.ret
  split
  · exact Xv.bind Xv.num fun s1 _ => Xv.ret
  · exact Xv.ret
theorem Xv.exp {fg : Nat} : Xv s (fExp tk fg i s) := by
  unfold fExp
  refine Xv.bind (fun s' b hb => (E_fix (tk := tk) (fg := fg) 92).1 _ _ _ _ _ hb) fun s1 n => ?_
  exact Xv.bind (fun s' b hb => Ext.refl.em hb) fun s2 _ => Xv.ret
theorem Xv.when : Xv s (fWhen tk i s) := by
  unfold fWhen
  split
  · exact Xv.pre Xv.exp
  · exact Xv.ret
theorem Xv.plain {g must : Int32} : Xv s (fPlain tk i g must G s) := by
  unfold fPlain
  split
  · exact Xv.bind (Xv.pre Xv.new) fun s1 _ => Xv.bind Xv.bounds fun s2 _ => Xv.bind Xv.when fun s3 _ => Xv.bind Xv.want fun s4 _ => Xv.ret
  · exact Xv.flt
theorem Xv.group {g : Int32} : Xv s (fGroup tk i g G s) := by
  unfold fGroup
  refine Xv.bind (fun s' b hb => ?_) fun s0 _ => Xv.bind (Xv.pre Xv.new) fun s1 _ => Xv.bind Xv.when fun s3 _ => Xv.bind Xv.want fun s4 _ => Xv.ret
  obtain ⟨_, rfl⟩ := pEnter_inl hb
  exact Ext.refl
theorem Xv.fig : Xv s (fFig tk G s) := by
  unfold fFig
  exact Xv.bind (Xv.pre Xv.new) fun s1 _ => Xv.bind Xv.want fun s2 _ => Xv.bind Xv.exp fun s3 _ => Xv.bind Xv.want fun s4 _ => Xv.ret
theorem Xv.chk : Xv s (fChk tk G s) := by
  unfold fChk
  split
  · exact Xv.bind (Xv.pre Xv.num) fun s1 _ => Xv.bind Xv.exp fun s3 _ => Xv.bind Xv.want fun s4 _ => Xv.ret
  · exact Xv.flt
theorem Xv2.pu {r : zF α} {f : zP → α → zF2 β} (h : Xv s r) (g : ∀ s1 a, Xv2 s1 (f s1 a)) : Xv2 s (pu r f) := by
  intro G s' b hb
  rcases r with ⟨s1, a⟩ | k
  · exact (h s1 a rfl).trans (g s1 a G s' b hb)
  · cases hb
theorem Xv2.pb {r : zF2 α} {f : zG → zP → α → zF2 β} (h : Xv2 s r) (g : ∀ G s1 a, Xv2 s1 (f G s1 a)) : Xv2 s (pb2 r f) := by
  intro G s' b hb
  rcases r with ⟨G1, s1, a⟩ | k
  · exact (h G1 s1 a rfl).trans (g G1 s1 a G s' b hb)
  · cases hb
theorem Xv2.ret {b : β} : Xv2 s (.inl (G, s, b)) := by
  intro G1 s1 b1 hb
  cases hb; exact Ext.refl
theorem Xv2.flt {k : Option Nat} : Xv2 s (.inr k : zF2 β) := by
  intro G1 s1 b1 hb
  cases hb
theorem Xv2.parts : ∀ (m i : Nat) (g : Int32) (G : zG) (s : zP), Xv2 s (fParts tk m i g G s)
  | 0, _, _, _, _ => Xv2.flt
  | m + 1, i, g, G, s => by
    rw [fParts]
    split
    · exact Xv2.pu Xv.group fun s1 p => Xv2.pb (Xv2.parts m _ _ _ _) fun G2 s2 _ => Xv2.pu Xv.want fun s3 _ => Xv2.parts m _ _ _ _
    split
    · exact Xv2.pu (Xv.pre Xv.plain) fun s1 p => Xv2.parts m _ _ _ _
    split
    · exact Xv2.pu Xv.plain fun s1 p => Xv2.parts m _ _ _ _
    · exact Xv2.ret
theorem Xv2.rules : ∀ (m : Nat) (G : zG) (s : zP), Xv2 s (fRules tk m G s)
  | 0, _, _ => Xv2.flt
  | m + 1, G, s => by
    rw [fRules]
    split
    · exact Xv2.pu Xv.fig fun s1 p => Xv2.rules m _ _
    split
    · exact Xv2.pu Xv.chk fun s1 p => Xv2.rules m _ _
    · exact Xv2.ret
end EXTF
