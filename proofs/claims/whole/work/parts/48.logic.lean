/-! A LOGIC OF ENTRIES: what is known of the heap is a list of entries; rows speak of their places in that list, so that no two addresses are ever compared -/
def xkey (e : xE) : Nat × Nat := match e with
  | (k, .inl (_, j, _)) => (k, j)
  | (k, .inr _) => (k, 0)
def xsat (h : xH) (e : xE) : Prop := match e with
  | (k, .inl (c, j, v)) => ∃ fs, h[k]? = some (.inl (c, fs)) ∧ fs[j]? = some v
  | (k, .inr (t, vs)) => h[k]? = some (.inr (t, vs))
def xHo (X : List Int32) (D : List xE) (h : xH) : Prop := ((D ++ xcon X).map xkey).Nodup ∧ (∀ e ∈ D ++ xcon X, xsat h e) ∧ ∀ e ∈ D, 78 ≤ e.1
theorem xsat_lt {h : xH} {e : xE} (s : xsat h e) : e.1 < h.length := by
  obtain ⟨k, (⟨c, j, v⟩ | ⟨t, vs⟩)⟩ := e
  · obtain ⟨fs, h1, _⟩ := s
    exact (List.getElem?_eq_some_iff.mp h1).1
  · have h1 : h[k]? = some (.inr (t, vs)) := s
    exact (List.getElem?_eq_some_iff.mp h1).1
theorem ysplit {α : Type} {D : List α} {i : Nat} {e : α} (hi : D[i]? = some e) : D = D.take i ++ e :: D.drop (i + 1) ∧ ∀ e', D.set i e' = D.take i ++ e' :: D.drop (i + 1) := by
  obtain ⟨hl, he⟩ := List.getElem?_eq_some_iff.mp hi
  refine ⟨?_, fun e' => ?_⟩
  · rw [← he, List.getElem_cons_drop, List.take_append_drop]
  · rw [List.set_eq_take_append_cons_drop, if_pos hl]
theorem xother {D C : List xE} {i : Nat} {e e' e2 : xE} (hn : ((D ++ C).map xkey).Nodup) (hi : D[i]? = some e) (hk : xkey e' = xkey e) (hm : e2 ∈ D.set i e' ++ C) : e2 = e' ∨ (e2 ∈ D ++ C ∧ xkey e2 ≠ xkey e) := by
  obtain ⟨h1, h2⟩ := ysplit hi
  rw [h2 e'] at hm
  generalize D.take i = A at h1 hm
  generalize D.drop (i + 1) = B at h1 hm
  subst h1
  have hp : ((A ++ e :: B) ++ C).Perm (e :: (A ++ (B ++ C))) := by
    rw [List.append_assoc, List.cons_append]
    exact List.perm_middle
  have hn2 := (hp.map xkey).nodup_iff.mp hn
  rw [List.map_cons, List.nodup_cons] at hn2
  simp only [List.mem_append, List.mem_cons] at hm
  have aux : e2 ∈ A ++ (B ++ C) → e2 ∈ (A ++ e :: B) ++ C ∧ xkey e2 ≠ xkey e := by
    intro hx
    refine ⟨?_, ?_⟩
    · simp only [List.mem_append, List.mem_cons] at hx ⊢
      rcases hx with hx | hx | hx
      · exact Or.inl (Or.inl hx)
      · exact Or.inl (Or.inr (Or.inr hx))
      · exact Or.inr hx
    · intro hq
      exact hn2.1 (hq ▸ List.mem_map_of_mem hx)
  rcases hm with (hm | hm | hm) | hm
  · exact Or.inr (aux (by simp [hm]))
  · exact Or.inl hm
  · exact Or.inr (aux (by simp [hm]))
  · exact Or.inr (aux (by simp [hm]))
theorem xkeys_set {D C : List xE} {i : Nat} {e e' : xE} (hi : D[i]? = some e) (hk : xkey e' = xkey e) : (D.set i e' ++ C).map xkey = (D ++ C).map xkey := by
  obtain ⟨h1, h2⟩ := ysplit hi
  rw [h2 e']
  conv => rhs; rw [h1]
  simp [hk]
theorem xset_ge {D : List xE} {i : Nat} {e e' : xE} (hi : D[i]? = some e) (hk : e'.1 = e.1) (hg : ∀ e ∈ D, 78 ≤ e.1) : ∀ e ∈ D.set i e', 78 ≤ e.1 := by
  intro e2 h2
  rcases List.mem_or_eq_of_mem_set h2 with h3 | h3
  · exact hg _ h3
  · rw [h3, hk]; exact hg _ (List.mem_of_getElem? hi)
theorem xHo.putf {X : List Int32} {D : List xE} {h : xH} {i k c j : Nat} {v0 v : Value} (H : xHo X D h) (hi : D[i]? = some (k, .inl (c, j, v0))) : ∃ h1, xputf 78 h k c j v = some h1 ∧ xHo X (D.set i (k, .inl (c, j, v))) h1 ∧ h1.length = h.length ∧ xsl h1 = xsl h := by
  obtain ⟨hn, hs, hg⟩ := H
  have hmem := List.mem_of_getElem? hi
  obtain ⟨fs, h1, h2⟩ := hs _ (List.mem_append_left _ hmem)
  have hk : 78 ≤ k := hg _ hmem
  have hj := (List.getElem?_eq_some_iff.mp h2).1
  have hkl := (List.getElem?_eq_some_iff.mp h1).1
  refine ⟨h.set k (.inl (c, fs.set j v)), ?_, ⟨?_, ?_, xset_ge hi rfl hg⟩, by simp, xsl_set h1 (by simp [xsz])⟩
  · unfold xputf
    rw [h1]
    exact if_pos ⟨rfl, hk, hj⟩
  · rw [xkeys_set hi (by rfl)]; exact hn
  · intro e2 hm
    rcases xother hn hi (by rfl) hm with rfl | ⟨hm2, hne⟩
    · exact ⟨fs.set j v, by rw [List.getElem?_set_self hkl], by rw [List.getElem?_set_self hj]⟩
    · have s2 := hs _ hm2
      obtain ⟨k2, (⟨c2, j2, v2⟩ | ⟨t2, vs2⟩)⟩ := e2
      · obtain ⟨fs2, q1, q2⟩ := s2
        by_cases hkk : k2 = k
        · subst hkk
          rw [h1] at q1
          cases q1
          have hjj : j2 ≠ j := fun hq => hne (by subst hq; rfl)
          exact ⟨fs.set j v, by rw [List.getElem?_set_self hkl], by rw [List.getElem?_set_ne (Ne.symm hjj)]; exact q2⟩
        · exact ⟨fs2, by rw [List.getElem?_set_ne (Ne.symm hkk)]; exact q1, q2⟩
      · have q1 : h[k2]? = some (.inr (t2, vs2)) := s2
        have hkk : k2 ≠ k := by
          rintro rfl
          rw [h1] at q1
          cases q1
        show (h.set k _)[k2]? = _
        rw [List.getElem?_set_ne (Ne.symm hkk)]; exact q1
theorem xHo.puta {X : List Int32} {D : List xE} {h : xH} {i k t : Nat} {vs ws : List Value} (H : xHo X D h) (hi : D[i]? = some (k, .inr (t, vs))) (hl : ws.length = vs.length) : 78 ≤ k ∧ h[k]? = some (.inr (t, vs)) ∧ xHo X (D.set i (k, .inr (t, ws))) (h.set k (.inr (t, ws))) ∧ (h.set k (.inr (t, ws))).length = h.length ∧ xsl (h.set k (.inr (t, ws))) = xsl h := by
  obtain ⟨hn, hs, hg⟩ := H
  have hmem := List.mem_of_getElem? hi
  have h1 : h[k]? = some (.inr (t, vs)) := hs _ (List.mem_append_left _ hmem)
  have hk : 78 ≤ k := hg _ hmem
  have hkl := (List.getElem?_eq_some_iff.mp h1).1
  refine ⟨hk, h1, ⟨?_, ?_, xset_ge hi rfl hg⟩, by simp, xsl_set h1 (by simp [xsz, hl])⟩
  · rw [xkeys_set hi (by rfl)]; exact hn
  · intro e2 hm
    rcases xother hn hi (by rfl) hm with rfl | ⟨hm2, hne⟩
    · show (h.set k _)[k]? = _
      rw [List.getElem?_set_self hkl]
    · have s2 := hs _ hm2
      obtain ⟨k2, (⟨c2, j2, v2⟩ | ⟨t2, vs2⟩)⟩ := e2
      · obtain ⟨fs2, q1, q2⟩ := s2
        have hkk : k2 ≠ k := by
          rintro rfl
          rw [h1] at q1
          cases q1
        exact ⟨fs2, by rw [List.getElem?_set_ne (Ne.symm hkk)]; exact q1, q2⟩
      · have q1 : h[k2]? = some (.inr (t2, vs2)) := s2
        have hkk : k2 ≠ k := by
          rintro rfl
          exact hne rfl
        show (h.set k _)[k2]? = _
        rw [List.getElem?_set_ne (Ne.symm hkk)]; exact q1
theorem xHo.puti {X : List Int32} {D : List xE} {h : xH} {i k t : Nat} {j : Int32} {vs : List Value} {v : Value} (H : xHo X D h) (hi : D[i]? = some (k, .inr (t, vs))) (hj : ¬ j < 0 ∧ j.toNatClampNeg < vs.length) : ∃ h1, xputi 78 h k j v = some (t, h1) ∧ xHo X (D.set i (k, .inr (t, vs.set j.toNatClampNeg v))) h1 ∧ h1.length = h.length ∧ xsl h1 = xsl h := by
  obtain ⟨hk, h1, a, b, c⟩ := H.puta hi (ws := vs.set j.toNatClampNeg v) (by simp)
  refine ⟨_, ?_, a, b, c⟩
  unfold xputi
  rw [h1]
  exact if_pos ⟨hj.1, hk, hj.2⟩
theorem xHo.perm {X : List Int32} {D D2 : List xE} {h : xH} (H : xHo X D h) (p : D.Perm D2) : xHo X D2 h := by
  obtain ⟨hn, hs, hg⟩ := H
  exact ⟨((p.append_right _).map xkey).nodup_iff.mp hn, fun e he => hs e ((p.append_right _).mem_iff.mpr he), fun e he => hg e (p.mem_iff.mpr he)⟩
theorem xHo.sub {X : List Int32} {D D2 : List xE} {h : xH} (H : xHo X D h) (p : D2.Sublist D) : xHo X D2 h := by
  obtain ⟨hn, hs, hg⟩ := H
  have q := (p.append_right (xcon X))
  exact ⟨hn.sublist (q.map xkey), fun e he => hs e (q.subset he), fun e he => hg e (p.subset he)⟩
/-- the entries of an object -/
def xobE (n c : Nat) : Nat → List Value → List xE
  | _, [] => []
  | j, v :: r => (n, .inl (c, j, v)) :: xobE n c (j + 1) r
theorem xobE_mem {n c : Nat} : ∀ {vs : List Value} {j : Nat} {e : xE}, e ∈ xobE n c j vs → ∃ i v, vs[i]? = some v ∧ e = (n, .inl (c, j + i, v))
  | [], j, e, h => by cases h
  | w :: r, j, e, h => by
    unfold xobE at h
    rcases List.mem_cons.mp h with h | h
    · exact ⟨0, w, rfl, h⟩
    · obtain ⟨i, v, h1, h2⟩ := xobE_mem h
      exact ⟨i + 1, v, h1, by rw [h2]; congr 4; omega⟩
theorem xobE_nd {n c : Nat} : ∀ (vs : List Value) (j : Nat), ((xobE n c j vs).map xkey).Nodup
  | [], _ => List.nodup_nil
  | w :: r, j => by
    unfold xobE
    rw [List.map_cons, List.nodup_cons]
    refine ⟨?_, xobE_nd r (j + 1)⟩
    intro hm
    obtain ⟨e, h1, h2⟩ := List.mem_map.mp hm
    obtain ⟨i, v, _, h3⟩ := xobE_mem h1
    rw [h3] at h2
    have h4 : j + 1 + i = j := congrArg Prod.snd h2
    omega
theorem xkey_fst (e : xE) : (xkey e).1 = e.1 := by
  obtain ⟨k, (⟨c, j, v⟩ | ⟨t, vs⟩)⟩ := e <;> rfl
theorem xsat_app {h g : xH} {e : xE} (s : xsat h e) : xsat (h ++ g) e := by
  have hl := xsat_lt s
  obtain ⟨k, (⟨c, j, v⟩ | ⟨t, vs⟩)⟩ := e
  · obtain ⟨fs, h1, h2⟩ := s
    exact ⟨fs, by rw [List.getElem?_append_left hl]; exact h1, h2⟩
  · have h1 : h[k]? = some (.inr (t, vs)) := s
    show (h ++ g)[k]? = _
    rw [List.getElem?_append_left hl]; exact h1
theorem xcon_209 (X : List Int32) : ((209, .inl (14, 0, .ref 210)) : xE) ∈ xcon X := List.mem_cons_of_mem _ (List.mem_of_getElem? (i := 176) (by rfl))
theorem xHo.ge {X : List Int32} {D : List xE} {h : xH} (H : xHo X D h) : 210 ≤ h.length := xsat_lt (H.2.1 _ (List.mem_append_right _ (xcon_209 X)))
theorem xHo.grow {X : List Int32} {D N : List xE} {h g : xH} (H : xHo X D h) (hn : (N.map xkey).Nodup) (hN : ∀ e ∈ N, e.1 = h.length ∧ xsat (h ++ g) e) : xHo X (N ++ D) (h ++ g) := by
  have hge := H.ge
  obtain ⟨hn0, hs, hg⟩ := H
  refine ⟨?_, ?_, ?_⟩
  · rw [List.append_assoc, List.map_append, List.nodup_append]
    refine ⟨hn, hn0, ?_⟩
    intro a ha b hb hab
    subst hab
    obtain ⟨e1, m1, q1⟩ := List.mem_map.mp ha
    obtain ⟨e2, m2, q2⟩ := List.mem_map.mp hb
    have l2 := xsat_lt (hs _ m2)
    have l1 := (hN _ m1).1
    have : e1.1 = e2.1 := by rw [← xkey_fst e1, ← xkey_fst e2, q1, q2]
    omega
  · intro e he
    rw [List.append_assoc] at he
    rcases List.mem_append.mp he with he | he
    · exact (hN _ he).2
    · exact xsat_app (hs _ he)
  · intro e he
    rcases List.mem_append.mp he with he | he
    · have := (hN _ he).1
      omega
    · exact hg _ he
theorem xHo.newo {X : List Int32} {D : List xE} {h : xH} (H : xHo X D h) (c : Nat) (fs : List Value) : xHo X (xobE h.length c 0 fs ++ D) (h ++ [.inl (c, fs)]) := by
  refine H.grow (xobE_nd _ _) ?_
  intro e he
  obtain ⟨i, v, h1, rfl⟩ := xobE_mem he
  exact ⟨rfl, fs, by simp, by rw [Nat.zero_add]; exact h1⟩
theorem xHo.newa {X : List Int32} {D : List xE} {h : xH} (H : xHo X D h) (t : Nat) (vs : List Value) : xHo X ((h.length, .inr (t, vs)) :: D) (h ++ [.inr (t, vs)]) := by
  refine H.grow (N := [(h.length, .inr (t, vs))]) (by simp) ?_
  intro e he
  rw [List.mem_singleton] at he
  subst he
  exact ⟨rfl, by show (h ++ _)[h.length]? = _; simp⟩
/-! runs from a place on, over entries; c cells, s slots at most are made -/
def yT (X : List Int32) (fr lo mi ip : Nat) (L : xL) (st : List Value) (D : List xE) (c s : Nat) (Q : Option Value → List xE → Prop) : Prop := ∀ h, xHo X D h → ∃ v h' D', xW fr lo mi ip L st h v h' ∧ xHo X D' h' ∧ h'.length ≤ h.length + c ∧ xsl h' ≤ xsl h + s ∧ Q v D'
/-- contracts -/
def yK (X : List Int32) (fr lo mi : Nat) (vs : List Value) (D : List xE) (c s : Nat) (Q : Option Value → List xE → Prop) : Prop := ∀ h, xHo X D h → ∃ v h' D', xR fr lo mi vs h v h' ∧ xHo X D' h' ∧ h'.length ≤ h.length + c ∧ xsl h' ≤ xsl h + s ∧ Q v D'
/-- the condition of a branch -/
def xcP (c : Jvm.ClassFile.Cond) (x y : Int32) : Prop := match c with
  | .eq => x = y
  | .ne => x ≠ y
  | .lt => x.toInt < y.toInt
  | .ge => y.toInt ≤ x.toInt
  | .gt => y.toInt < x.toInt
  | .le => x.toInt ≤ y.toInt
theorem xtest_iff {c : Jvm.ClassFile.Cond} {x y : Int32} : xtest c x y = true ↔ xcP c x y := by
  cases c <;> simp [xtest, xcP, Int32.lt_iff_toInt_lt, Int32.le_iff_toInt_le]
theorem xmD {X : List Int32} {D : List xE} {e : xE} (i : Nat) (h : D[i]? = some e) : e ∈ D ++ xcon X := List.mem_append_left _ (List.mem_of_getElem? h)
theorem xmC {X : List Int32} {D : List xE} {e : xE} (i : Nat) (h : xcon1[i]? = some e) : e ∈ D ++ xcon X := List.mem_append_right _ (List.mem_cons_of_mem _ (List.mem_of_getElem? h))
theorem xmX {X : List Int32} {D : List xE} : ((0, .inr (0, X.map Value.int)) : xE) ∈ D ++ xcon X := List.mem_append_right _ List.mem_cons_self
theorem xmS {X : List Int32} {D D0 : List xE} {e : xE} (n : Nat) (hd : D.drop n = D0) (h : e ∈ D0) : e ∈ D ++ xcon X := List.mem_append_left _ (List.mem_of_mem_drop (hd.symm ▸ h))
section TROWS
variable {X : List Int32} {fr lo mi ip pc a b q c s : Nat} {L L1 : xL} {st st1 r : List Value} {D D1 : List xE} {v : Value} {k t : Nat} {idx : Nat} {x y : Int32} {j : Int32} {M : xM} {Q : Option Value → List xE → Prop}
theorem yT.mono {c1 s1 : Nat} {Q1 : Option Value → List xE → Prop} (w : yT X fr lo mi ip L st D c1 s1 Q1) (hc : c1 ≤ c) (hs : s1 ≤ s) (hQ : ∀ v D', Q1 v D' → Q v D') : yT X fr lo mi ip L st D c s Q := by
  intro h H
  obtain ⟨v, h', D', w1, w2, w3, w4, w5⟩ := w h H
  exact ⟨v, h', D', w1, w2, by omega, by omega, hQ _ _ w5⟩
theorem yT.up {fr2 lo2 : Nat} (w : yT X fr lo mi ip L st D c s Q) (h1 : fr ≤ fr2) (h2 : lo ≤ lo2) : yT X fr2 lo2 mi ip L st D c s Q := by
  intro h H
  obtain ⟨v, h', D', w1, w2, w3, w4, w5⟩ := w h H
  exact ⟨v, h', D', w1.up h1 h2, w2, w3, w4, w5⟩
theorem yK.up {fr2 lo2 : Nat} {vs : List Value} (w : yK X fr lo mi vs D c s Q) (h1 : fr ≤ fr2) (h2 : lo ≤ lo2) : yK X fr2 lo2 mi vs D c s Q := by
  intro h H
  obtain ⟨v, h', D', w1, w2, w3, w4, w5⟩ := w h H
  exact ⟨v, h', D', w1.up h1 h2, w2, w3, w4, w5⟩
theorem yK.mono {vs : List Value} {c1 s1 : Nat} {Q1 : Option Value → List xE → Prop} (w : yK X fr lo mi vs D c1 s1 Q1) (hc : c1 ≤ c) (hs : s1 ≤ s) (hQ : ∀ v D', Q1 v D' → Q v D') : yK X fr lo mi vs D c s Q := by
  intro h H
  obtain ⟨v, h', D', w1, w2, w3, w4, w5⟩ := w h H
  exact ⟨v, h', D', w1, w2, by omega, by omega, hQ _ _ w5⟩
theorem yT.perm {D2 : List xE} (p : D.Perm D2) (w : yT X fr lo mi ip L st D2 c s Q) : yT X fr lo mi ip L st D c s Q := fun h H => w h (H.perm p)
theorem yK.perm {vs : List Value} {D2 : List xE} (p : D.Perm D2) (w : yK X fr lo mi vs D2 c s Q) : yK X fr lo mi vs D c s Q := fun h H => w h (H.perm p)
theorem yT.sub {D2 : List xE} (p : D2.Sublist D) (w : yT X fr lo mi ip L st D2 c s Q) : yT X fr lo mi ip L st D c s Q := fun h H => w h (H.sub p)
/-- the entry at a place comes to the front -/
theorem yT.mv (i : Nat) {e : xE} (hi : D[i]? = some e) (hD : D.eraseIdx i = D1) (w : yT X fr lo mi ip L st (e :: D1) c s Q) : yT X fr lo mi ip L st D c s Q := by
  refine yT.perm ?_ w
  obtain ⟨h1, h2⟩ := ysplit hi
  subst hD
  obtain ⟨hl, _⟩ := List.getElem?_eq_some_iff.mp hi
  rw [List.eraseIdx_eq_take_drop_succ]
  conv => lhs; rw [h1]
  exact List.perm_middle
/-- a contract from a run -/
theorem yK.of {vs : List Value} (hM : xpr.1[mi]? = some M) (hl : (xargs vs).length ≤ M.2.2.1) (hL : xargs vs ++ List.replicate (M.2.2.1 - (xargs vs).length) none = L) (w : yT X fr lo mi 0 L [] D c s Q) : yK X fr lo mi vs D c s Q := by
  intro h H
  obtain ⟨v, h', D', w1, w2, w3, w4, w5⟩ := w h H
  exact ⟨v, h', D', ⟨M, hM, hl, hL ▸ w1⟩, w2, w3, w4, w5⟩
theorem xt_pure {i : Instr} {ip1 : Nat} (hM : xpr.1[mi]? = some M) (hc : M.2.2.2.2.2.2[ip]? = some (i, pc, a, b, q)) (hi : xhp i = false) (hp : xpure M.2.2.2.2.2.2 xcts i pc a ip L st = some (ip1, L1, st1)) (kk : yT X fr lo mi ip1 L1 st1 D c s Q) : yT X fr lo mi ip L st D c s Q := by
  intro h H
  obtain ⟨v, h', D', w1, w2⟩ := kk h H
  exact ⟨v, h', D', xr_pure hM hc hi hp w1, w2⟩
theorem xt_ic {cd : Jvm.ClassFile.Cond} {o : Int} (hM : xpr.1[mi]? = some M) (hc : M.2.2.2.2.2.2[ip]? = some (.if_icmp cd o, pc, a, b, q)) (kT : xcP cd x y → yT X fr lo mi a L r D c s Q) (kF : ¬ xcP cd x y → yT X fr lo mi (ip + 1) L r D c s Q) : yT X fr lo mi ip L (.int y :: .int x :: r) D c s Q := by
  by_cases hb : xcP cd x y
  · exact xt_pure hM hc rfl (by show some (if xtest cd x y then a else ip + 1, L, r) = _; rw [if_pos (xtest_iff.mpr hb)]) (kT hb)
  · exact xt_pure hM hc rfl (by show some (if xtest cd x y then a else ip + 1, L, r) = _; rw [if_neg (fun h => hb (xtest_iff.mp h))]) (kF hb)
theorem xt_if {cd : Jvm.ClassFile.Cond} {o : Int} (hM : xpr.1[mi]? = some M) (hc : M.2.2.2.2.2.2[ip]? = some (.ifCond cd o, pc, a, b, q)) (kT : xcP cd x 0 → yT X fr lo mi a L r D c s Q) (kF : ¬ xcP cd x 0 → yT X fr lo mi (ip + 1) L r D c s Q) : yT X fr lo mi ip L (.int x :: r) D c s Q := by
  by_cases hb : xcP cd x 0
  · exact xt_pure hM hc rfl (by show some (if xtest cd x 0 then a else ip + 1, L, r) = _; rw [if_pos (xtest_iff.mpr hb)]) (kT hb)
  · exact xt_pure hM hc rfl (by show some (if xtest cd x 0 then a else ip + 1, L, r) = _; rw [if_neg (fun h => hb (xtest_iff.mp h))]) (kF hb)
theorem xt_getf (hM : xpr.1[mi]? = some M) (hc : M.2.2.2.2.2.2[ip]? = some (.getfield idx, pc, a, b, q)) (e1 : (k, .inl (a, b, v)) ∈ D ++ xcon X) (kk : yT X fr lo mi (ip + 1) L (v :: r) D c s Q) : yT X fr lo mi ip L (.ref k :: r) D c s Q := by
  intro h H
  obtain ⟨z, h', D', w1, w2⟩ := kk h H
  obtain ⟨fs, q1, q2⟩ := H.2.1 _ e1
  exact ⟨z, h', D', xr_getf hM hc (by unfold xgetf; rw [q1]; exact (if_pos rfl).trans q2) w1, w2⟩
theorem xt_putf {v0 : Value} {ty : FieldType} (hM : xpr.1[mi]? = some M) (hc : M.2.2.2.2.2.2[ip]? = some (.putfield idx, pc, a, b, q)) (e1 : (xfts[a]?).bind (fun tys => tys[b]?) = some ty) (e2 : xfit ty v = true) (i : Nat) (e3 : D[i]? = some (k, .inl (a, b, v0))) (e4 : D.set i (k, .inl (a, b, v)) = D1) (kk : yT X fr lo mi (ip + 1) L r D1 c s Q) : yT X fr lo mi ip L (v :: .ref k :: r) D c s Q := by
  intro h H
  obtain ⟨h1, p1, p2, p3, p4⟩ := H.putf e3 (v := v)
  subst e4
  obtain ⟨z, h', D', w1, w2, w3, w4, w5⟩ := kk h1 p2
  exact ⟨z, h', D', xr_putf hM hc e1 e2 p1 w1, w2, by omega, by omega, w5⟩
theorem xt_gets (hM : xpr.1[mi]? = some M) (hc : M.2.2.2.2.2.2[ip]? = some (.getstatic idx, pc, a, b, q)) (e1 : ([.ref 1, .int 1] : List Value)[a]? = some v) (kk : yT X fr lo mi (ip + 1) L (v :: st) D c s Q) : yT X fr lo mi ip L st D c s Q := by
  intro h H
  obtain ⟨z, h', D', w1, w2⟩ := kk h H
  exact ⟨z, h', D', xr_gets hM hc e1 w1, w2⟩
theorem yitem_ok {h : xH} {vs : List Value} (hk : h[k]? = some (.inr (t, vs))) (hj : ¬ j < 0) (hv : vs[j.toNatClampNeg]? = some v) : xitem h k j = some (t, v) := by
  unfold xitem
  rw [hk]
  show (if j < 0 then none else _) = _
  rw [if_neg hj, hv]
  rfl
theorem xt_iald {vs : List Value} (hM : xpr.1[mi]? = some M) (hc : M.2.2.2.2.2.2[ip]? = some (.iaload, pc, a, b, q)) (e1 : (k, .inr (0, vs)) ∈ D ++ xcon X) (e2 : ¬ j < 0) (e3 : vs[j.toNatClampNeg]? = some v) (kk : yT X fr lo mi (ip + 1) L (v :: r) D c s Q) : yT X fr lo mi ip L (.int j :: .ref k :: r) D c s Q := by
  intro h H
  obtain ⟨z, h', D', w1, w2⟩ := kk h H
  exact ⟨z, h', D', xr_iald hM hc (yitem_ok (H.2.1 _ e1) e2 e3) rfl w1, w2⟩
theorem xt_lald {vs : List Value} (hM : xpr.1[mi]? = some M) (hc : M.2.2.2.2.2.2[ip]? = some (.laload, pc, a, b, q)) (e1 : (k, .inr (1, vs)) ∈ D ++ xcon X) (e2 : ¬ j < 0) (e3 : vs[j.toNatClampNeg]? = some v) (kk : yT X fr lo mi (ip + 1) L (v :: r) D c s Q) : yT X fr lo mi ip L (.int j :: .ref k :: r) D c s Q := by
  intro h H
  obtain ⟨z, h', D', w1, w2⟩ := kk h H
  exact ⟨z, h', D', xr_lald hM hc (yitem_ok (H.2.1 _ e1) e2 e3) rfl w1, w2⟩
theorem xt_bald {vs : List Value} (hM : xpr.1[mi]? = some M) (hc : M.2.2.2.2.2.2[ip]? = some (.baload, pc, a, b, q)) (e0 : t = 2 ∨ t = 3) (e1 : (k, .inr (t, vs)) ∈ D ++ xcon X) (e2 : ¬ j < 0) (e3 : vs[j.toNatClampNeg]? = some v) (kk : yT X fr lo mi (ip + 1) L (v :: r) D c s Q) : yT X fr lo mi ip L (.int j :: .ref k :: r) D c s Q := by
  intro h H
  obtain ⟨z, h', D', w1, w2⟩ := kk h H
  exact ⟨z, h', D', xr_bald hM hc (yitem_ok (H.2.1 _ e1) e2 e3) e0 w1, w2⟩
theorem xt_aald {vs : List Value} (hM : xpr.1[mi]? = some M) (hc : M.2.2.2.2.2.2[ip]? = some (.aaload, pc, a, b, q)) (e0 : 4 ≤ t ∧ (xats[t]?).isSome = true) (e1 : (k, .inr (t, vs)) ∈ D ++ xcon X) (e2 : ¬ j < 0) (e3 : vs[j.toNatClampNeg]? = some v) (kk : yT X fr lo mi (ip + 1) L (v :: r) D c s Q) : yT X fr lo mi ip L (.int j :: .ref k :: r) D c s Q := by
  intro h H
  obtain ⟨z, h', D', w1, w2⟩ := kk h H
  exact ⟨z, h', D', xr_aald hM hc (yitem_ok (H.2.1 _ e1) e2 e3) e0 w1, w2⟩
theorem xt_iast {vs : List Value} (hM : xpr.1[mi]? = some M) (hc : M.2.2.2.2.2.2[ip]? = some (.iastore, pc, a, b, q)) (i : Nat) (e1 : D[i]? = some (k, .inr (0, vs))) (e2 : ¬ j < 0 ∧ j.toNatClampNeg < vs.length) (e4 : D.set i (k, .inr (0, vs.set j.toNatClampNeg (.int y))) = D1) (kk : yT X fr lo mi (ip + 1) L r D1 c s Q) : yT X fr lo mi ip L (.int y :: .int j :: .ref k :: r) D c s Q := by
  intro h H
  obtain ⟨h1, p1, p2, p3, p4⟩ := H.puti e1 e2 (v := .int y)
  subst e4
  obtain ⟨z, h', D', w1, w2, w3, w4, w5⟩ := kk h1 p2
  exact ⟨z, h', D', xr_iast hM hc p1 rfl w1, w2, by omega, by omega, w5⟩
theorem xt_last {vs : List Value} {y : Int64} (hM : xpr.1[mi]? = some M) (hc : M.2.2.2.2.2.2[ip]? = some (.lastore, pc, a, b, q)) (i : Nat) (e1 : D[i]? = some (k, .inr (1, vs))) (e2 : ¬ j < 0 ∧ j.toNatClampNeg < vs.length) (e4 : D.set i (k, .inr (1, vs.set j.toNatClampNeg (.long y))) = D1) (kk : yT X fr lo mi (ip + 1) L r D1 c s Q) : yT X fr lo mi ip L (.long y :: .int j :: .ref k :: r) D c s Q := by
  intro h H
  obtain ⟨h1, p1, p2, p3, p4⟩ := H.puti e1 e2 (v := .long y)
  subst e4
  obtain ⟨z, h', D', w1, w2, w3, w4, w5⟩ := kk h1 p2
  exact ⟨z, h', D', xr_last hM hc p1 rfl w1, w2, by omega, by omega, w5⟩
theorem xt_bast {vs : List Value} (hM : xpr.1[mi]? = some M) (hc : M.2.2.2.2.2.2[ip]? = some (.bastore, pc, a, b, q)) (i : Nat) (e1 : D[i]? = some (k, .inr (t, vs))) (e0 : (t = 2 ∧ xfit .byte (.int y)) ∨ (t = 3 ∧ xfit .boolean (.int y))) (e2 : ¬ j < 0 ∧ j.toNatClampNeg < vs.length) (e4 : D.set i (k, .inr (t, vs.set j.toNatClampNeg (.int y))) = D1) (kk : yT X fr lo mi (ip + 1) L r D1 c s Q) : yT X fr lo mi ip L (.int y :: .int j :: .ref k :: r) D c s Q := by
  intro h H
  obtain ⟨h1, p1, p2, p3, p4⟩ := H.puti e1 e2 (v := .int y)
  subst e4
  obtain ⟨z, h', D', w1, w2, w3, w4, w5⟩ := kk h1 p2
  exact ⟨z, h', D', xr_bast hM hc p1 e0 w1, w2, by omega, by omega, w5⟩
/-- what may be stored in an array of references -/
def xasE (X : List Int32) (D : List xE) (ty : FieldType) (v : Value) : Prop := match v with
  | .null => refKind ty = true
  | .ref k => (∃ n c j w, ty = .object n ∧ xcns[c]? = some n ∧ (k, .inl (c, j, w)) ∈ D ++ xcon X) ∨ (∃ e t vs, ty = .array e ∧ xats[t]? = some e ∧ (k, .inr (t, vs)) ∈ D)
  | _ => False
theorem xasE_ok {ty : FieldType} {h : xH} (H : xHo X D h) (e : xasE X D ty v) : xast 78 xcns ty xats h v = true := by
  cases v with
  | null => cases ty <;> first | rfl | (cases e; done)
  | ref k =>
    rcases e with ⟨n, c, j, w, rfl, h2, h3⟩ | ⟨e, t, vs, rfl, h2, h3⟩
    · obtain ⟨fs, q1, q2⟩ := H.2.1 _ h3
      unfold xast
      dsimp only
      rw [q1]
      dsimp only
      rw [h2]
      simp
    · have q1 : h[k]? = some (.inr (t, vs)) := H.2.1 _ (List.mem_append_left _ h3)
      have q2 : 78 ≤ k := H.2.2 _ h3
      unfold xast
      dsimp only
      rw [q1]
      dsimp only
      rw [h2]
      simp [q2]
  | int _ => cases e
  | long _ => cases e
  | float _ => cases e
  | double _ => cases e
  | retAddr _ => cases e
theorem xt_aast {vs : List Value} {ty : FieldType} (hM : xpr.1[mi]? = some M) (hc : M.2.2.2.2.2.2[ip]? = some (.aastore, pc, a, b, q)) (i : Nat) (e1 : D[i]? = some (k, .inr (t, vs))) (e0 : xats[t]? = some ty) (e3 : 4 ≤ t) (e5 : xasE X D ty v) (e2 : ¬ j < 0 ∧ j.toNatClampNeg < vs.length) (e4 : D.set i (k, .inr (t, vs.set j.toNatClampNeg v)) = D1) (kk : yT X fr lo mi (ip + 1) L r D1 c s Q) : yT X fr lo mi ip L (v :: .int j :: .ref k :: r) D c s Q := by
  intro h H
  obtain ⟨h1, p1, p2, p3, p4⟩ := H.puti e1 e2 (v := v)
  subst e4
  obtain ⟨z, h', D', w1, w2, w3, w4, w5⟩ := kk h1 p2
  exact ⟨z, h', D', xr_aast hM hc p1 e0 ⟨e3, xasE_ok H e5⟩ w1, w2, by omega, by omega, w5⟩
theorem xt_alen {vs : List Value} (hM : xpr.1[mi]? = some M) (hc : M.2.2.2.2.2.2[ip]? = some (.arraylength, pc, a, b, q)) (e1 : (k, .inr (t, vs)) ∈ D ++ xcon X) (e2 : (xats[t]?).isSome = true) (kk : yT X fr lo mi (ip + 1) L (.int (Int32.ofNat vs.length) :: r) D c s Q) : yT X fr lo mi ip L (.ref k :: r) D c s Q := by
  intro h H
  obtain ⟨z, h', D', w1, w2⟩ := kk h H
  exact ⟨z, h', D', xr_alen hM hc (H.2.1 _ e1) e2 w1, w2⟩
theorem xt_new {tys : List FieldType} {c1 s1 : Nat} (hM : xpr.1[mi]? = some M) (hc : M.2.2.2.2.2.2[ip]? = some (.new idx, pc, a, b, q)) (e1 : xfts[a]? = some tys) (hc1 : c1 + 1 ≤ c) (hs1 : s1 + tys.length ≤ s) (kk : ∀ n, yT X fr lo mi (ip + 1) L (.ref n :: st) (xobE n a 0 (tys.map defaultValue) ++ D) c1 s1 Q) : yT X fr lo mi ip L st D c s Q := by
  intro h H
  obtain ⟨z, h', D', w1, w2, w3, w4, w5⟩ := kk h.length _ (H.newo a (tys.map defaultValue))
  rw [List.length_append] at w3
  rw [xsl_app] at w4
  have : xsl [Sum.inl (a, tys.map defaultValue)] = tys.length := by simp [xsl, xsz]
  simp only [List.length_cons, List.length_nil] at w3
  exact ⟨z, h', D', xr_new hM hc e1 w1, w2, by omega, by omega, w5⟩
theorem xt_newa {n : Int32} {ty : FieldType} {at' : ArrayType} {c1 s1 : Nat} (hM : xpr.1[mi]? = some M) (hc : M.2.2.2.2.2.2[ip]? = some (.newarray at', pc, a, b, q)) (e1 : xats[a]? = some ty) (e2 : ¬ (n < 0 ∨ 65536 < n.toNatClampNeg)) (hc1 : c1 + 1 ≤ c) (hs1 : s1 + n.toNatClampNeg ≤ s) (kk : ∀ m, yT X fr lo mi (ip + 1) L (.ref m :: r) ((m, .inr (a, List.replicate n.toNatClampNeg (defaultValue ty))) :: D) c1 s1 Q) : yT X fr lo mi ip L (.int n :: r) D c s Q := by
  intro h H
  obtain ⟨z, h', D', w1, w2, w3, w4, w5⟩ := kk h.length _ (H.newa a (List.replicate n.toNatClampNeg (defaultValue ty)))
  rw [List.length_append] at w3
  rw [xsl_app] at w4
  have : xsl [Sum.inr (a, List.replicate n.toNatClampNeg (defaultValue ty))] = n.toNatClampNeg := by simp [xsl, xsz]
  simp only [List.length_cons, List.length_nil] at w3
  exact ⟨z, h', D', xr_newa hM hc e1 e2 w1, w2, by omega, by omega, w5⟩
theorem xt_anew {n : Int32} {c1 s1 : Nat} (hM : xpr.1[mi]? = some M) (hc : M.2.2.2.2.2.2[ip]? = some (.anewarray idx, pc, a, b, q)) (e2 : ¬ (n < 0 ∨ 65536 < n.toNatClampNeg)) (hc1 : c1 + 1 ≤ c) (hs1 : s1 + n.toNatClampNeg ≤ s) (kk : ∀ m, yT X fr lo mi (ip + 1) L (.ref m :: r) ((m, .inr (a, List.replicate n.toNatClampNeg .null)) :: D) c1 s1 Q) : yT X fr lo mi ip L (.int n :: r) D c s Q := by
  intro h H
  obtain ⟨z, h', D', w1, w2, w3, w4, w5⟩ := kk h.length _ (H.newa a (List.replicate n.toNatClampNeg .null))
  rw [List.length_append] at w3
  rw [xsl_app] at w4
  have : xsl [Sum.inr (a, List.replicate n.toNatClampNeg Value.null)] = n.toNatClampNeg := by simp [xsl, xsz]
  simp only [List.length_cons, List.length_nil] at w3
  exact ⟨z, h', D', xr_anew hM hc e2 w1, w2, by omega, by omega, w5⟩
theorem xt_obji (hM : xpr.1[mi]? = some M) (hc : M.2.2.2.2.2.2[ip]? = some (.invokespecial idx, pc, a, b, q)) (hb : b = 1) (e3 : xcats r ≤ 8 ∧ 1 ≤ fr ∧ 100 ≤ lo) (kk : yT X fr lo mi (ip + 1) L r D c s Q) : yT X fr lo mi ip L (.ref k :: r) D c s Q := by
  intro h H
  obtain ⟨z, h', D', w1, w2⟩ := kk h H
  exact ⟨z, h', D', xr_obji hM hc hb e3 w1, w2⟩
theorem xt_ci {n : Int32} (hM : xpr.1[mi]? = some M) (hc : M.2.2.2.2.2.2[ip]? = some (.invokestatic idx, pc, a, b, q)) (hb : b = 2) (e3 : ¬ j < 0 ∧ j < n ∧ xcats r ≤ 8 ∧ 2 ≤ fr ∧ 100 ≤ lo) (kk : yT X fr lo mi (ip + 1) L r D c s Q) : yT X fr lo mi ip L (.int n :: .int j :: r) D c s Q := by
  intro h H
  obtain ⟨z, h', D', w1, w2⟩ := kk h H
  exact ⟨z, h', D', xr_ci hM hc hb e3 w1, w2⟩
theorem xt_max (hM : xpr.1[mi]? = some M) (hc : M.2.2.2.2.2.2[ip]? = some (.invokestatic idx, pc, a, b, q)) (hb : b = 3) (e3 : xcats r ≤ 8 ∧ 1 ≤ fr ∧ 100 ≤ lo) (kk : yT X fr lo mi (ip + 1) L (.int (if x < y then y else x) :: r) D c s Q) : yT X fr lo mi ip L (.int y :: .int x :: r) D c s Q := by
  intro h H
  obtain ⟨z, h', D', w1, w2⟩ := kk h H
  exact ⟨z, h', D', xr_max hM hc hb e3 w1, w2⟩
theorem xt_min (hM : xpr.1[mi]? = some M) (hc : M.2.2.2.2.2.2[ip]? = some (.invokestatic idx, pc, a, b, q)) (hb : b = 4) (e3 : xcats r ≤ 8 ∧ 1 ≤ fr ∧ 100 ≤ lo) (kk : yT X fr lo mi (ip + 1) L (.int (if y < x then y else x) :: r) D c s Q) : yT X fr lo mi ip L (.int y :: .int x :: r) D c s Q := by
  intro h H
  obtain ⟨z, h', D', w1, w2⟩ := kk h H
  exact ⟨z, h', D', xr_min hM hc hb e3 w1, w2⟩
theorem xt_acpy {n dp sp : Int32} {sk dk : Nat} {vs ws : List Value} (hM : xpr.1[mi]? = some M) (hc : M.2.2.2.2.2.2[ip]? = some (.invokestatic idx, pc, a, b, q)) (hb : b = 1) (e0 : (sk, .inr (t, vs)) ∈ D) (i : Nat) (e1 : D[i]? = some (dk, .inr (t, ws))) (e2 : t < 2 ∧ ¬ sp < 0 ∧ ¬ dp < 0 ∧ ¬ n < 0 ∧ sp.toNatClampNeg + n.toNatClampNeg ≤ vs.length ∧ dp.toNatClampNeg + n.toNatClampNeg ≤ ws.length) (e5 : ∀ v ∈ vs, (if t = 0 then xisI v else xisJ v) = true) (e3 : xcats r ≤ 8 ∧ 1 ≤ fr ∧ 100 ≤ lo) (e4 : D.set i (dk, .inr (t, xcpy vs ws sp.toNatClampNeg dp.toNatClampNeg n.toNatClampNeg)) = D1) (kk : yT X fr lo mi (ip + 1) L r D1 c s Q) : yT X fr lo mi ip L (.int n :: .int dp :: .ref dk :: .int sp :: .ref sk :: r) D c s Q := by
  intro h H
  have hl : (xcpy vs ws sp.toNatClampNeg dp.toNatClampNeg n.toNatClampNeg).length = ws.length := by
    unfold xcpy
    simp only [List.length_append, List.length_take, List.length_drop]
    omega
  obtain ⟨p0, p1, p2, p3, p4⟩ := H.puta e1 hl
  subst e4
  obtain ⟨z, h', D', w1, w2, w3, w4, w5⟩ := kk _ p2
  have q0 : h[sk]? = some (.inr (t, vs)) := H.2.1 _ (List.mem_append_left _ e0)
  have q1 : 78 ≤ sk := H.2.2 _ e0
  refine ⟨z, h', D', xr_acpy hM hc hb (h1 := h.set dk (.inr (t, xcpy vs ws sp.toNatClampNeg dp.toNatClampNeg n.toNatClampNeg))) ?_ e3 w1, w2, by omega, by omega, w5⟩
  unfold xacopy
  rw [q0, p1]
  refine if_pos ?_
  unfold xacok
  rw [Bool.and_eq_true, decide_eq_true_eq, List.all_eq_true]
  exact ⟨⟨rfl, e2.1, p0, q1, e2.2⟩, fun v hv => e5 v (List.mem_of_mem_drop (List.mem_of_mem_take hv))⟩
theorem xt_callV {M1 : xM} {c0 c1 s1 c2 s2 fr1 lo1 : Nat} {ck : Nat × Value} {Q1 : Option Value → List xE → Prop} (hM : xpr.1[mi]? = some M) (hc : M.2.2.2.2.2.2[ip]? = some (.invokevirtual idx, pc, a, b, q)) (hM1 : xpr.1[a]? = some M1) (e1 : st.drop M1.2.2.2.2.1 = .ref k :: r) (e2 : (k, .inl (c0, ck)) ∈ D ++ xcon X) (e3 : M1.2.2.2.2.2.1 = 1 ∧ xcns[c0]? = some M1.1.cls ∧ M1.2.2.2.2.1 ≤ st.length ∧ xcats r ≤ 8 ∧ fr1 + 1 ≤ fr ∧ lo1 + (19 + M1.2.2.1) ≤ lo) (hR : yK X fr1 lo1 a (.ref k :: (st.take M1.2.2.2.2.1).reverse) D c1 s1 Q1) (hcs : c1 + c2 ≤ c ∧ s1 + s2 ≤ s) (kk : ∀ w D1, Q1 w D1 → yT X fr lo mi (ip + 1) L (w.toList ++ r) D1 c2 s2 Q) : yT X fr lo mi ip L st D c s Q := by
  intro h H
  obtain ⟨w, h1, D1, g1, g2, g3, g4, g5⟩ := hR h H
  obtain ⟨z, h', D', w1, w2, w3, w4, w5⟩ := kk w D1 g5 h1 g2
  obtain ⟨fs, q1, _⟩ := H.2.1 _ e2
  exact ⟨z, h', D', xr_callV hM hc hM1 e1 q1 ⟨e3.1, e3.2.1, e3.2.2.1, e3.2.2.2.1, by omega, by omega⟩ (g1.up (by omega) (by omega)) w1, w2, by omega, by omega, w5⟩
theorem xt_callI {M1 : xM} {c1 s1 c2 s2 fr1 lo1 : Nat} {Q1 : Option Value → List xE → Prop} (hM : xpr.1[mi]? = some M) (hc : M.2.2.2.2.2.2[ip]? = some (.invokespecial idx, pc, a, b, q)) (hb : ¬ b = 1) (hM1 : xpr.1[a]? = some M1) (e1 : st.drop M1.2.2.2.2.1 = .ref k :: r) (e3 : M1.2.2.2.2.2.1 = 2 ∧ M1.2.2.2.2.1 ≤ st.length ∧ xcats r ≤ 8 ∧ fr1 + 1 ≤ fr ∧ lo1 + (19 + M1.2.2.1) ≤ lo) (hR : yK X fr1 lo1 a (.ref k :: (st.take M1.2.2.2.2.1).reverse) D c1 s1 Q1) (hcs : c1 + c2 ≤ c ∧ s1 + s2 ≤ s) (kk : ∀ w D1, Q1 w D1 → yT X fr lo mi (ip + 1) L (w.toList ++ r) D1 c2 s2 Q) : yT X fr lo mi ip L st D c s Q := by
  intro h H
  obtain ⟨w, h1, D1, g1, g2, g3, g4, g5⟩ := hR h H
  obtain ⟨z, h', D', w1, w2, w3, w4, w5⟩ := kk w D1 g5 h1 g2
  exact ⟨z, h', D', xr_callI hM hc hb hM1 e1 ⟨e3.1, e3.2.1, e3.2.2.1, by omega, by omega⟩ (g1.up (by omega) (by omega)) w1, w2, by omega, by omega, w5⟩
theorem xt_callS {M1 : xM} {c1 s1 c2 s2 fr1 lo1 : Nat} {Q1 : Option Value → List xE → Prop} (hM : xpr.1[mi]? = some M) (hc : M.2.2.2.2.2.2[ip]? = some (.invokestatic idx, pc, a, b, q)) (hb : ¬ b = 1 ∧ ¬ b = 2 ∧ ¬ b = 3 ∧ ¬ b = 4) (hM1 : xpr.1[a]? = some M1) (e3 : M1.2.2.2.2.2.1 = 0 ∧ M1.2.2.2.2.1 ≤ st.length ∧ xcats (st.drop M1.2.2.2.2.1) ≤ 8 ∧ fr1 + 1 ≤ fr ∧ lo1 + (19 + M1.2.2.1) ≤ lo) (hR : yK X fr1 lo1 a (st.take M1.2.2.2.2.1).reverse D c1 s1 Q1) (hcs : c1 + c2 ≤ c ∧ s1 + s2 ≤ s) (kk : ∀ w D1, Q1 w D1 → yT X fr lo mi (ip + 1) L (w.toList ++ st.drop M1.2.2.2.2.1) D1 c2 s2 Q) : yT X fr lo mi ip L st D c s Q := by
  intro h H
  obtain ⟨w, h1, D1, g1, g2, g3, g4, g5⟩ := hR h H
  obtain ⟨z, h', D', w1, w2, w3, w4, w5⟩ := kk w D1 g5 h1 g2
  exact ⟨z, h', D', xr_callS hM hc hb hM1 ⟨e3.1, e3.2.1, e3.2.2.1, by omega, by omega⟩ (g1.up (by omega) (by omega)) w1, w2, by omega, by omega, w5⟩
theorem xt_iret {ty : FieldType} (hM : xpr.1[mi]? = some M) (hc : M.2.2.2.2.2.2[ip]? = some (.ireturn, pc, a, b, q)) (hr : M.2.2.2.1 = some ty) (hf : xfit ty (.int x) = true) (hQ : Q (some (.int x)) D) : yT X fr lo mi ip L [.int x] D c s Q := fun h H => ⟨_, h, D, xr_iret hM hc hr hf, H, by omega, by omega, hQ⟩
theorem xt_lret {y : Int64} (hM : xpr.1[mi]? = some M) (hc : M.2.2.2.2.2.2[ip]? = some (.lreturn, pc, a, b, q)) (hr : M.2.2.2.1 = some .long) (hQ : Q (some (.long y)) D) : yT X fr lo mi ip L [.long y] D c s Q := fun h H => ⟨_, h, D, xr_lret hM hc hr, H, by omega, by omega, hQ⟩
theorem xt_aret {ty : FieldType} (hM : xpr.1[mi]? = some M) (hc : M.2.2.2.2.2.2[ip]? = some (.areturn, pc, a, b, q)) (hr : M.2.2.2.1 = some ty) (ht : refKind ty = true) (hv : xisA v = true) (hQ : Q (some v) D) : yT X fr lo mi ip L [v] D c s Q := fun h H => ⟨_, h, D, xr_aret hM hc hr ht hv, H, by omega, by omega, hQ⟩
theorem xt_vret (hM : xpr.1[mi]? = some M) (hc : M.2.2.2.2.2.2[ip]? = some (.return_, pc, a, b, q)) (hr : M.2.2.2.1 = none) (hQ : Q none D) : yT X fr lo mi ip L [] D c s Q := fun h H => ⟨_, h, D, xr_vret hM hc hr, H, by omega, by omega, hQ⟩
end TROWS
