/-! NAMES IN EXPS: each has its code at the end -/
def Nd (fg : Nat) (u : zU) : Prop := u.2.2.2.1 ≠ none ∧ u.2.2.1 ≤ fg
def Nu (fg : Nat) (a b : List zU) : Prop := ∃ c, b = a ++ c ∧ ∀ u ∈ c, Nd fg u
theorem Nu.refl {fg : Nat} {a : List zU} : Nu fg a a := ⟨[], by simp, fun u hu => by simp at hu⟩
theorem Nu.trans {fg : Nat} {a b c : List zU} (h : Nu fg a b) (g : Nu fg b c) : Nu fg a c := by
  obtain ⟨x, rfl, hx⟩ := h
  obtain ⟨y, rfl, hy⟩ := g
  refine ⟨x ++ y, by simp, fun u hu => ?_⟩
  rcases List.mem_append.mp hu with h | h
  · exact hx u h
  · exact hy u h
theorem Nu.mono {fg fg' : Nat} {a b : List zU} (hf : fg ≤ fg') (h : Nu fg a b) : Nu fg' a b := by
  obtain ⟨x, rfl, hx⟩ := h
  exact ⟨x, rfl, fun u hu => ⟨(hx u hu).1, by have := (hx u hu).2; omega⟩⟩
/-- one that was begun, and what came behind it -/
theorem Nu.fin {fg : Nat} {a b : List zU} {x y : zU} (h : Nu fg (a ++ [x]) b) (hy : Nd fg y) : Nu fg a (b.set a.length y) := by
  obtain ⟨c, rfl, hc⟩ := h
  refine ⟨y :: c, ?_, fun u hu => ?_⟩
  · rw [List.append_assoc, List.set_append_right _ _ (Nat.le_refl _), Nat.sub_self]
    rfl
  · rcases List.mem_cons.mp hu with rfl | h
    · exact hy
    · exact hc u h
def Nv {β : Type} (fg : Nat) (s : zP) (r : zF β) : Prop := ∀ s' b, r = .inl (s', b) → Nu fg s.2.2.2.2 s'.2.2.2.2
section DONE
variable {α β : Type} {tk : List zK} {s : zP} {fg : Nat} {rl : Nat → Nat → zP → zF Nat} {ro : Nat → zP → zF Nat} {i : Nat}
theorem Nv.bind {r : zF α} {f : zP → α → zF β} (h : Nv fg s r) (g : ∀ s1 a, Nv fg s1 (f s1 a)) : Nv fg s (pb r f) := by
  intro s' b hb
  obtain ⟨s1, a, q1, q2⟩ := pb_inl hb
  exact (h s1 a q1).trans (g s1 a s' b q2)
theorem Nv.ret {b : β} {s' : zP} (h : s'.2.2.2.2 = s.2.2.2.2) : Nv fg s (.inl (s', b)) := by
  intro s1 b1 hb
  cases hb
  rw [h]; exact Nu.refl
theorem Nv.flt {k : Option Nat} : Nv fg s (.inr k : zF β) := by
  intro s1 b1 hb
  cases hb
theorem Nv.pre {s0 : zP} {r : zF β} (h : s.2.2.2.2 = s0.2.2.2.2) (g : Nv fg s r) : Nv fg s0 r := by
  intro s1 b1 hb
  rw [← h]; exact g s1 b1 hb
theorem Nv.no : Nv fg s (sNo s) := by
  intro s1 b hb
  obtain ⟨_, rfl⟩ := sNo_inl hb
  exact Nu.refl
theorem Nv.em {d w : Int32} : Nv fg s (sEm s d w) := by
  intro s1 b hb
  obtain ⟨_, rfl, _⟩ := sEm_inl hb
  exact Nu.refl
theorem Nv.nd {x : yNd} : Nv fg s (sNd s x) := by
  intro s1 b hb
  obtain ⟨_, rfl, _⟩ := sNd_inl hb
  exact Nu.refl
theorem Nv.want {c : Int32} : Nv fg s (pWant tk c s) := by
  intro s1 b hb
  obtain ⟨_, rfl⟩ := pWant_inl hb
  exact Nu.refl
theorem Nv.enter : Nv fg s (pEnter i s) := by
  intro s1 b hb
  obtain ⟨_, rfl⟩ := pEnter_inl hb
  exact Nu.refl
def NL (fg : Nat) (rl : Nat → Nat → zP → zF Nat) : Prop := ∀ l i s, Nv fg s (rl l i s)
def NO (fg : Nat) (ro : Nat → zP → zF Nat) : Prop := ∀ i s, Nv fg s (ro i s)
theorem Nv.between (hl : NL fg rl) : Nv fg s (pBetween rl i s) := by
  unfold pBetween
  exact Nv.bind Nv.enter fun s1 _ => Nv.pre (s := sNx s1) rfl (hl _ _ _)
theorem Nv.try' (ho : NO fg ro) : Nv fg s (pTry tk ro i s) := by
  unfold pTry
  exact Nv.bind Nv.enter fun s1 _ => Nv.bind Nv.no fun s2 _ => Nv.bind (Nv.pre (s := sNx s2) rfl Nv.em) fun s3 _ => Nv.bind (ho _ _) fun s4 _ => Nv.bind Nv.em fun s5 _ => Nv.bind (Nv.pre (s := sCd s5 _ _) rfl Nv.want) fun s6 _ => Nv.bind (ho _ _) fun s7 _ => Nv.pre (s := sCd s7 _ _) rfl Nv.nd
/-- a name's code is told, in the end -/
theorem Nv.fin {d w : Int32} {a : List zU} {u : Nat} {x : zU} {x1 : Nat} {x2 : Int64} {t n m : Nat} (hu : u = a.length) (ht : t ≤ fg) (h : Nu fg (a ++ [x]) s.2.2.2.2) {s' : zP} {b : Nat} (hb : pEnd d w u (x1, x2, t, none, n) m s = .inl (s', b)) : Nu fg a s'.2.2.2.2 := by
  unfold pEnd at hb
  obtain ⟨s2, c, q1, q2⟩ := pb_inl hb
  obtain ⟨_, rfl, rfl⟩ := sEm_inl q1
  cases q2
  subst hu
  exact Nu.fin h ⟨(fun hh => by cases hh), ht⟩
theorem Nv.named (hl : NL fg rl) : Nv fg s (pNamed tk fg rl i s) := by
  unfold pNamed
  refine Nv.bind Nv.nd fun s1 n => Nv.bind Nv.no fun s2 _ => ?_
  intro s' b hb
  obtain ⟨s3, u, q3, h⟩ := pb_inl hb
  obtain ⟨_, _, rfl, rfl⟩ := pUse_inl q3
  split at h
  · obtain ⟨s4, a, q4, h⟩ := pb_inl h
    have e4 := Nv.between (i := i) hl _ _ q4
    have e4 : Nu fg (s2.2.2.2.2 ++ [(pl tk s2.1, va tk s2.1, 0, none, n)]) s4.2.2.2.2 := by
      have : ((s2.2.2.2.2 ++ [(pl tk s2.1, va tk s2.1, fg, none, n)] : List zU).set s2.2.2.2.2.length (pl tk s2.1, va tk s2.1, 0, none, n)) = s2.2.2.2.2 ++ [(pl tk s2.1, va tk s2.1, 0, none, n)] := by
        rw [List.set_append_right _ _ (Nat.le_refl _), Nat.sub_self]; rfl
      rw [← this]; exact e4
    split at h
    · obtain ⟨s5, b5, q5, h⟩ := pb_inl h
      obtain ⟨s6, _, q6, h⟩ := pb_inl h
      have e5 : Nu fg s4.2.2.2.2 s5.2.2.2.2 := hl _ _ (sNx (sSn s4 n (3, 0, Int32.ofNat a, 0))) _ _ q5
      obtain ⟨_, rfl⟩ := pWant_inl q6
      exact Nv.fin rfl (Nat.zero_le _) (s := sNx (sSn s5 n (4, 0, Int32.ofNat a, Int64.ofNat b5))) (e4.trans e5) h
    · obtain ⟨s6, _, q6, h⟩ := pb_inl h
      obtain ⟨_, rfl⟩ := pWant_inl q6
      exact Nv.fin rfl (Nat.zero_le _) (s := sNx (sSn s4 n (3, 0, Int32.ofNat a, 0))) e4 h
  · exact Nv.fin rfl (Nat.le_refl _) Nu.refl h
theorem Nv.asked2 (hl : NL fg rl) {d so n : Nat} : Nv fg s (pAsked2 tk rl d i so n s) := by
  unfold pAsked2
  refine Nv.bind Nv.no fun s2 _ => ?_
  intro s' b hb
  obtain ⟨s3, u, q3, h⟩ := pb_inl hb
  obtain ⟨_, _, rfl, rfl⟩ := pUse_inl q3
  split at h
  · obtain ⟨s4, a, q4, h⟩ := pb_inl h
    have e4 : Nu fg (s2.2.2.2.2 ++ [(pl tk s2.1, va tk s2.1, 0, none, n)]) s4.2.2.2.2 := Nv.between (i := i) hl _ _ q4
    obtain ⟨s6, _, q6, h⟩ := pb_inl h
    obtain ⟨_, rfl⟩ := pWant_inl q6
    exact Nv.fin rfl (Nat.zero_le _) (s := sNx (sSn s4 n (9, 0, Int32.ofNat a, 0))) e4 h
  · exact Nv.fin rfl (Nat.zero_le _) Nu.refl h
theorem Nv.asked (hl : NL fg rl) {d : Nat} : Nv fg s (pAsked tk rl d i s) := by
  unfold pAsked
  refine Nv.bind Nv.nd fun s1 n => Nv.bind Nv.no fun s2 _ => Nv.bind (Nv.pre (s := sNx s2) rfl ?_) fun s3 so => Nv.pre (s := sSn s3 _ _) rfl (Nv.asked2 hl)
  split
  · unfold pSort
    split
    · exact Nv.ret rfl
    · exact Nv.flt
  · exact Nv.ret rfl
theorem Nv.base (hl : NL fg rl) (ho : NO fg ro) : Nv fg s (pBase tk fg rl ro i s) := by
  unfold pBase
  split
  · exact Nv.bind Nv.no fun s1 _ => Nv.bind Nv.em fun s2 _ => Nv.bind Nv.nd fun s3 _ => Nv.ret rfl
  split
  · exact Nv.named hl
  split
  · exact Nv.bind (Nv.between hl) fun s1 _ => Nv.bind Nv.want fun s2 _ => Nv.ret rfl
  split
  · exact Nv.asked hl
  split
  · exact Nv.asked hl
  split
  · exact Nv.asked hl
  split
  · exact Nv.asked hl
  split
  · exact Nv.try' ho
  · exact Nv.flt
theorem Nv.one (hl : NL fg rl) (ho : NO fg ro) : NO fg (pOne tk fg rl ro) := by
  intro i s
  unfold pOne
  split
  · exact Nv.bind Nv.enter fun s1 _ => Nv.bind Nv.no fun s2 _ => Nv.bind (Nv.pre (s := sNx s2) rfl (ho _ _)) fun s3 _ => Nv.bind Nv.em fun s4 _ => Nv.nd
  · exact Nv.base hl ho
theorem Nv.loop (hl : NL fg rl) {l : Nat} : ∀ (f x : Nat) (s : zP), Nv fg s (pLoop tk rl f l i x s)
  | 0, _, _ => Nv.flt
  | f + 1, x, s => by
    rw [pLoop]
    split
    · refine Nv.bind Nv.no fun s1 _ => Nv.bind (Nv.pre (s := sNx s1) rfl ?_) fun s2 sk => Nv.bind (hl _ _ _) fun s3 _ => Nv.bind Nv.em fun s4 _ => Nv.bind ?_ fun s5 x5 => ?_
      · split
        · exact Nv.em
        · exact Nv.ret rfl
      · split
        · exact Nv.pre (s := sCd s4 _ _) rfl Nv.nd
        · exact Nv.nd
      · split
        · exact Nv.ret rfl
        · exact Nv.loop hl f x5 s5
    · exact Nv.ret rfl
theorem Nv.level (hl : NL fg rl) (ho : NO fg ro) : NL fg (pLevel tk rl ro) := by
  intro l i s
  unfold pLevel
  split
  · exact Nv.bind (hl _ _ _) fun s1 x => Nv.loop hl 251 x s1
  · exact ho _ _
end DONE
theorem Nv.fix {tk : List zK} {fg : Nat} : ∀ n : Nat, NL fg (pFix tk fg n).1 ∧ NO fg (pFix tk fg n).2
  | 0 => ⟨fun _ _ _ => Nv.flt, fun _ _ => Nv.flt⟩
  | n + 1 => by
    obtain ⟨h1, h2⟩ := Nv.fix (tk := tk) (fg := fg) n
    exact ⟨Nv.level h1 h2, Nv.one h1 h2⟩
section DONEF
variable {α β : Type} {tk : List zK} {s : zP} {G : zG} {i fg : Nat}
theorem Nv.num {lo hi : Int32} : Nv fg s (fNum tk lo hi s) := by
  unfold fNum
  split
  · exact Nv.ret rfl
  · exact Nv.flt
theorem Nv.new {p : Prop} [Decidable p] : Nv fg s (fNew tk G p s) := by
  unfold fNew
  split
  · exact Nv.ret rfl
  · exact Nv.flt
theorem Nv.bounds {k : Int32} : Nv fg s (fBounds tk k s) := by
  unfold fBounds
  split
  · exact Nv.bind Nv.num fun s1 _ => Nv.bind Nv.num fun s2 _ => Nv.ret rfl
  split
  · exact Nv.bind Nv.num fun s1 _ => Nv.ret rfl
  split
  · exact Nv.bind Nv.num fun s1 _ => Nv.bind Nv.num fun s2 _ => Nv.ret rfl
  split
  · exact Nv.bind Nv.num fun s1 _ => Nv.ret rfl
  split
  · exact Nv.bind Nv.num fun s1 _ => Nv.bind Nv.num fun s2 _ => Nv.bind Nv.num fun s3 _ => Nv.ret rfl
  split
  · exact Nv.bind Nv.num fun s1 _ => Nv.ret rfl
  split
  · exact Nv.bind Nv.num fun s1 _ => Nv.bind Nv.num fun s2 _ => Nv.ret rfl
  split
  · exact Nv.bind Nv.num fun s1 _ => Nv.ret rfl
  split
  · exact Nv.bind Nv.num fun s1 _ => Nv.ret rfl
  · exact Nv.ret rfl
theorem Nv.exp : Nv fg s (fExp tk fg i s) := by
  unfold fExp
  exact Nv.bind ((Nv.fix 92).1 _ _ _) fun s1 n => Nv.bind Nv.em fun s2 _ => Nv.ret rfl
theorem Nv.when : Nv 0 s (fWhen tk i s) := by
  unfold fWhen
  split
  · exact Nv.pre (s := sNx s) rfl Nv.exp
  · exact Nv.ret rfl
theorem Nv.plain {g must : Int32} : Nv 0 s (fPlain tk i g must G s) := by
  unfold fPlain
  split
  · exact Nv.bind (Nv.pre (s := sNx s) rfl Nv.new) fun s1 _ => Nv.bind Nv.bounds fun s2 _ => Nv.bind Nv.when fun s3 _ => Nv.bind Nv.want fun s4 _ => Nv.ret rfl
  · exact Nv.flt
theorem Nv.group {g : Int32} : Nv 0 s (fGroup tk i g G s) := by
  unfold fGroup
  exact Nv.bind Nv.enter fun s0 _ => Nv.bind (Nv.pre (s := sNx s0) rfl Nv.new) fun s1 _ => Nv.bind Nv.when fun s3 _ => Nv.bind Nv.want fun s4 _ => Nv.ret rfl
theorem Nv.fig : Nv G.2.1.length s (fFig tk G s) := by
  unfold fFig
  exact Nv.bind (Nv.pre (s := sNx s) rfl Nv.new) fun s1 _ => Nv.bind Nv.want fun s2 _ => Nv.bind Nv.exp fun s3 _ => Nv.bind Nv.want fun s4 _ => Nv.ret rfl
theorem Nv.chk : Nv G.2.1.length s (fChk tk G s) := by
  unfold fChk
  split
  · exact Nv.bind (Nv.pre (s := sNx s) rfl Nv.num) fun s1 _ => Nv.bind Nv.exp fun s3 _ => Nv.bind Nv.want fun s4 _ => Nv.ret rfl
  · exact Nv.flt
def Nv2 {β : Type} (G : zG) (s : zP) (r : zF2 β) : Prop := ∀ G' s' b, r = .inl (G', s', b) → Nu G'.2.1.length s.2.2.2.2 s'.2.2.2.2 ∧ G.2.1.length ≤ G'.2.1.length
theorem Nv2.pu {r : zF α} {f : zP → α → zF2 β} (h : Nv fg s r) (hf : fg ≤ G.2.1.length) (g : ∀ s1 a, Nv2 G s1 (f s1 a)) : Nv2 G s (pu r f) := by
  intro G' s' b hb
  rcases r with ⟨s1, a⟩ | k
  · have q := g s1 a G' s' b hb
    exact ⟨((h s1 a rfl).mono (by omega)).trans q.1, q.2⟩
  · cases hb
theorem Nv2.pb {r : zF2 α} {f : zG → zP → α → zF2 β} (h : Nv2 G s r) (g : ∀ G1 s1 a, Nv2 G1 s1 (f G1 s1 a)) : Nv2 G s (pb2 r f) := by
  intro G' s' b hb
  rcases r with ⟨G1, s1, a⟩ | k
  · have q := g G1 s1 a G' s' b hb
    have q1 := h G1 s1 a rfl
    exact ⟨(q1.1.mono q.2).trans q.1, by omega⟩
  · cases hb
theorem Nv2.ret {b : β} : Nv2 G s (.inl (G, s, b)) := by
  intro G1 s1 b1 hb
  cases hb; exact ⟨Nu.refl, Nat.le_refl _⟩
theorem Nv2.flt {k : Option Nat} : Nv2 G s (.inr k : zF2 β) := by
  intro G1 s1 b1 hb
  cases hb
theorem Nv2.grow {G1 : zG} {r : zF2 β} (hg : G.2.1.length ≤ G1.2.1.length) (h : Nv2 G1 s r) : Nv2 G s r := by
  intro G' s' b hb
  have q := h G' s' b hb
  exact ⟨q.1, by omega⟩
theorem Nv2.parts : ∀ (m i : Nat) (g : Int32) (G : zG) (s : zP), Nv2 G s (fParts tk m i g G s)
  | 0, _, _, _, _ => Nv2.flt
  | m + 1, i, g, G, s => by
    rw [fParts]
    split
    · exact Nv2.pu Nv.group (Nat.zero_le _) fun s1 p => Nv2.pb (Nv2.grow (G1 := gAdd G p) (Nat.le_refl _) (Nv2.parts m _ _ _ _)) fun G2 s2 _ => Nv2.pu (fg := 0) Nv.want (Nat.zero_le _) fun s3 _ => Nv2.parts m _ _ _ _
    split
    · exact Nv2.pu (Nv.pre (s := sNx s) rfl Nv.plain) (Nat.zero_le _) fun s1 p => Nv2.grow (G1 := gAdd G p) (Nat.le_refl _) (Nv2.parts m _ _ _ _)
    split
    · exact Nv2.pu Nv.plain (Nat.zero_le _) fun s1 p => Nv2.grow (G1 := gAdd G p) (Nat.le_refl _) (Nv2.parts m _ _ _ _)
    · exact Nv2.ret
theorem Nv2.rules : ∀ (m : Nat) (G : zG) (s : zP), Nv2 G s (fRules tk m G s)
  | 0, _, _ => Nv2.flt
  | m + 1, G, s => by
    rw [fRules]
    split
    · exact Nv2.pu Nv.fig (Nat.le_refl _) fun s1 p => Nv2.grow (G1 := gFig G p) (by show _ ≤ (G.2.1 ++ [p]).length; simp) (Nv2.rules m _ _)
    split
    · exact Nv2.pu Nv.chk (Nat.le_refl _) fun s1 p => Nv2.grow (G1 := gChk G p) (Nat.le_refl _) (Nv2.rules m _ _)
    · exact Nv2.ret
/-- all names of a form that was read have their code, and no more figures are told than there are -/
theorem Nv2.form {G : zG} {b : Unit} (h : fForm tk = .inl (G, s, b)) : ∀ u ∈ s.2.2.2.2, Nd G.2.1.length u := by
  unfold fForm at h
  rcases hp : fHead tk (0, 0, [], [], []) with ⟨s1, v⟩ | k
  · rw [hp] at h
    have h : pb2 (fParts tk 21 0 (-9) ([], [], [], v.1, v.2) s1) (fun G s _ => pb2 (fRules tk 25 G s) fun G s _ => if kd tk s.1 = 0 then .inl (G, s, ()) else .inr (some s.1)) = .inl (G, s, b) := h
    have h1 : Nv 0 (0, 0, [], [], []) (fHead tk (0, 0, [], [], [])) := by
      unfold fHead
      refine Nv.bind Nv.want fun s1 _ => Nv.bind Nv.want fun s2 _ => Nv.bind ?_ fun s3 _ => Nv.bind ?_ fun s4 _ => Nv.ret rfl
      · unfold fUntil
        split
        · exact Nv.bind (Nv.pre (s := sNx s2) rfl Nv.num) fun s1 _ => Nv.bind Nv.want fun s4 _ => Nv.ret rfl
        · exact Nv.ret rfl
      · unfold fSigners
        split
        · exact Nv.bind (Nv.pre (s := sNx s3) rfl Nv.num) fun s1 _ => Nv.bind Nv.want fun s4 _ => Nv.ret rfl
        · exact Nv.ret rfl
    have q1 := h1 s1 v hp
    have h2 : Nv2 ([], [], [], v.1, v.2) s1 (pb2 (fParts tk 21 0 (-9) ([], [], [], v.1, v.2) s1) (fun G s _ => pb2 (fRules tk 25 G s) fun G s _ => if kd tk s.1 = 0 then .inl (G, s, ()) else .inr (some s.1))) := by
      refine Nv2.pb (Nv2.parts _ _ _ _ _) fun G2 s2 _ => Nv2.pb (Nv2.rules _ _ _) fun G3 s3 _ => ?_
      split
      · exact Nv2.ret
      · exact Nv2.flt
    have q2 := (h2 G s b h).1
    obtain ⟨c, hc, hd⟩ := (q1.mono (Nat.zero_le G.2.1.length)).trans q2
    intro u hu
    rw [hc] at hu
    exact hd u hu
  · rw [hp] at h; cases h
end DONEF
