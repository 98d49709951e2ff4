/-! THE WHOLE STATE, IN BLOCKS OF ENTRIES: counting (permutations by arithmetic), and what each block holds; N: the entries that stay -/
def cn (φ : xE → Nat) : List xE → Nat
  | [] => 0
  | e :: l => φ e + cn φ l
section CNT
variable {φ : xE → Nat} {A B D : List xE} {e a b : xE}
theorem cn_n : cn φ [] = 0 := rfl
theorem cn_c : cn φ (e :: A) = φ e + cn φ A := rfl
theorem cn_a : ∀ {A B : List xE}, cn φ (A ++ B) = cn φ A + cn φ B
  | [], B => by rw [List.nil_append, cn_n, Nat.zero_add]
  | e :: A, B => by rw [List.cons_append, cn_c, cn_c, cn_a, Nat.add_assoc]
theorem cn_z {T : List (Nat × Nat × Nat)} {ad : Nat → Nat} {S : zS} : cn φ (zD T ad S A) = cn φ (zE ad S 0 T) + cn φ A := cn_a
theorem cn_p (h : A.Perm B) : cn φ A = cn φ B := by
  induction h with
  | nil => rfl
  | cons x h ih => rw [cn_c, cn_c, ih]
  | swap x y l =>
    rw [cn_c, cn_c, cn_c, cn_c]
    omega
  | trans h1 h2 i1 i2 => rw [i1, i2]
theorem cn_0 (h : a ∉ A) [DecidableEq xE] : cn (fun e => if e = a then 1 else 0) A = 0 := by
  induction A with
  | nil => rfl
  | cons e A ih =>
    rw [cn_c, ih (fun h2 => h (List.mem_cons_of_mem _ h2)), if_neg (fun h2 => h (by rw [h2]; exact List.mem_cons_self))]
theorem pq : ∀ {A B : List xE}, (∀ φ, cn φ A = cn φ B) → A.Perm B
  | [], B, h => by
    cases B with
    | nil => exact .refl _
    | cons e B =>
      have := h (fun _ => 1)
      rw [cn_n, cn_c] at this
      omega
  | a :: A, B, h => by
    classical
    have ha : a ∈ B := by
      rcases Classical.em (a ∈ B) with h2 | h2
      · exact h2
      · have := h (fun e => if e = a then 1 else 0)
        rw [cn_0 h2, cn_c, if_pos rfl] at this
        omega
    obtain ⟨B1, B2, rfl⟩ := List.append_of_mem ha
    have h3 : ∀ φ, cn φ A = cn φ (B1 ++ B2) := fun φ => by
      have := h φ
      rw [cn_c, cn_a, cn_c] at this
      rw [cn_a]
      omega
    exact ((pq h3).cons a).trans List.perm_middle.symm
theorem cn_s : ∀ {D : List xE} {i : Nat}, D[i]? = some a → cn φ (D.set i b) + φ a = cn φ D + φ b
  | [], _, h => by cases h
  | x :: D, 0, h => by
    injection h with h
    subst h
    rw [List.set_cons_zero, cn_c, cn_c]
    omega
  | x :: D, i + 1, h => by
    have := cn_s (D := D) (i := i) h
    rw [List.set_cons_succ, cn_c, cn_c]
    omega
end CNT
/-- the class's blocks -/
def cTp (t : List Int32) (B : List xE) : Prop := ∃ r : List Int32, t.length + r.length = 1400 ∧ B = [(79, .inl (9, 1, .int (Int32.ofNat t.length))), (80, .inr (0, (t ++ r).map Value.int))]
def cPs (N B : List xE) : Prop := ∃ (S : zS) (a : Nat) (p : Nat → Nat) (uu : Value), B = (85, .inl (7, 1, uu)) :: (78, .inl (11, 4, .ref a)) :: zE (zaP a p) S 2 (zTP.drop 2) ∧ WL S ∧ ∀ e ∈ zgP a p, e ∈ N
def cFs (Fs : List yF) (N B : List xE) : Prop := ∃ fa : List Nat, fa.length = Fs.length ∧ Fs.length ≤ 10 ∧ B = [(78, .inl (11, 3, .int (Int32.ofNat Fs.length))), (92, .inr (5, fa.map Value.ref ++ List.replicate (10 - Fs.length) Value.null))] ∧ ∀ (i : Nat) F a, Fs[i]? = some F → fa[i]? = some a → yFC N a F
def cLe (En : List (Int64 × Int32)) (B : List xE) : Prop := ∃ (ja : List Int64) (jb : List Int32), En.length + ja.length = 100 ∧ En.length + jb.length = 100 ∧ B = [(106, .inl (5, 2, .int (Int32.ofNat En.length))), (107, .inr (1, (En.map Prod.fst ++ ja).map Value.long)), (108, .inr (0, (En.map Prod.snd ++ jb).map Value.int))]
/-- rows of the object that lies on the class's desk: where each stands -/
abbrev yKr : Type := Option (Nat × List Int32)
def krV (o : yKr) : Value := match o with
  | none => .null
  | some x => .ref x.1
def krO (o : yKr) : Option (List Int32) := o.map Prod.snd
def krE (ks : List yKr) : List xE := ks.filterMap (fun o => o.map (fun x => ((x.1, .inr (0, x.2.map Value.int)) : xE)))
def cDk (z : Option yO) (N B : List xE) : Prop := match z with
  | none => B = [(78, .inl (11, 6, .null))]
  | some ob => ∃ (a ia ra : Nat) (ks : List yKr), ob.2.2 = ks.map krO ∧ B = (78, .inl (11, 6, .ref a)) :: (ia, .inr (1, (cit ob).map Value.long)) :: (ra, .inr (4, ks.map krV)) :: krE ks ∧ ((a, .inl (6, 0, .int (Int32.ofNat ob.1))) : xE) ∈ N ∧ ((a, .inl (6, 1, .int (Int32.ofNat (osz ob)))) : xE) ∈ N ∧ ((a, .inl (6, 2, .ref ia)) : xE) ∈ N ∧ ((a, .inl (6, 3, .ref ra)) : xE) ∈ N
def cDr (Fs : List yF) (Dr : List yD) (N B : List xE) : Prop := ∃ R : List yDR, R.map (fun r => r.2.2.2.2.2) = Dr ∧ B = (78, .inl (11, 8, .int (Int32.ofNat R.length))) :: (109, .inr (6, R.map (fun r => Value.ref r.1) ++ List.replicate (30 - R.length) Value.null)) :: R.flatMap dfR ∧ ∀ r ∈ R, (∃ F, Fs[r.2.2.2.2.2.1]? = some F ∧ yFC N r.2.2.1 F) ∧ yAnB N r.2.2.2.1 r.2.2.2.2.2.2.1 ∧ yCB N r.2.2.2.2.1 r.2.2.2.2.2.2.2.1
def cGv (gv : Nat) (B : List xE) : Prop := B = [(78, .inl (11, 10, .int (Int32.ofNat gv)))]
def cRc (n0 : Int32) (B : List xE) : Prop := B = [(78, .inl (11, 9, .int n0))]
def mvE : Nat → List yMv → List xE
  | _, [] => []
  | i, m :: r => (127 + i, .inr (0, ([m.1, m.2.1, m.2.2.1, m.2.2.2] : List Int32).map Value.int)) :: mvE (i + 1) r
def cMv (Mv : List yMv) (cm : List Int32) (B : List xE) : Prop := ∃ jk : List yMv, Mv.length + jk.length = 40 ∧ cm.length = Mv.length ∧ B = (78, .inl (11, 16, .int (Int32.ofNat Mv.length))) :: (167, .inr (0, (cm ++ List.replicate (40 - Mv.length) (-9)).map Value.int)) :: mvE 0 (Mv ++ jk)
def cWk (ev : Int32) (fd : List yFd) (B : List xE) : Prop := ∃ (S : zS) (w : yW) (u v : Value) (sh sh2 : List Bool) (fd2 : List yFd), B = zE zaE S 0 zTE ++ [(110, .inl (10, 2, u)), (110, .inl (10, 3, v))] ∧ W0 S w ∧ w.1 = ev ∧ insC118 S S sh fd ∧ insC175 S S sh2 fd2
def cTo (to : Int32 × Int32 × Int32) (B : List xE) : Prop := B = [(125, .inr (0, ([to.1, to.1, to.2.1, to.2.2] : List Int32).map Value.int))]
def cVa (va : Int64) (B : List xE) : Prop := B = [(78, .inl (11, 13, .long va))]
/-- a search: the form's number, whether it goes on, whether it has found, where it stands, what it tried -/
abbrev ySe : Type := Int32 × Bool × Bool × List Nat × List Nat × List Int32
def cSe (Fs : List yF) (se : ySe) (N B : List xE) : Prop := ∃ (S : zS) (refs : List Value) (sl : List ySl) (fv : Value), B = LY S refs sl [(168, .inl (8, 2, fv))] ∧ lnS S ∧ zI S 0 = se.1 ∧ zI S 1 = b32 se.2.1 ∧ zI S 2 = b32 se.2.2.1 ∧ zA S 8 = se.2.2.2.2.2 ∧ ((se.2.2.1 || se.2.1) = true → ∃ F fa, gI Fs se.1 = some F ∧ fv = .ref fa ∧ yFC N fa F ∧ stC2 F S (plF F F.1.length 0) se.2.2.2.1 se.2.2.2.2.1) ∧ refs.length = 20 ∧ sl.length = 8 ∧ (∀ x ∈ sl, x.2.2.length = 8) ∧ ∀ j, j < 8 → ∀ e ∈ slK j, e ∈ N
def cKd (dk : List Int32) (B : List xE) : Prop := ∃ (S : zS) (jk bs : List Int32), B = zE zaK S 0 zTK ∧ zI S 0 = Int32.ofNat dk.length ∧ zA S 4 = dk ++ jk ∧ dk.length + jk.length = 1200 ∧ byR (dk ++ jk) ∧ KC S S bs
/-- the reference's blocks -/
def mTp (t : List Int32) (B : List xE) : Prop := ∃ r : List Int32, t.length + r.length = 1400 ∧ B = [(209, .inl (14, 1, .int (Int32.ofNat t.length))), (210, .inr (2, (t.map sb ++ r).map Value.int))]
def mPs (N B : List xE) : Prop := (∃ (S : zS) (a : Nat) (p : Nat → Nat), B = (209, .inl (14, 9, .ref a)) :: (209, .inl (14, 10, .int 0)) :: zE (zaQ a p) S 2 (zTQ.drop 2) ∧ WM S ∧ ∀ e ∈ zgQ a p, e ∈ N) ∨ ∃ (S : zS) (a : Nat), B = (209, .inl (14, 9, .ref a)) :: (209, .inl (14, 10, .int 1)) :: zE zaQ0 S 2 ((zTQ.take 14).drop 2) ∧ (zB S 10).length = 252 ∧ (zA S 11).length = 252 ∧ (zA S 12).length = 252 ∧ (zA S 13).length = 252
def mFs (Fs : List yF) (N B : List xE) : Prop := ∃ fa : List Nat, fa.length = Fs.length ∧ Fs.length ≤ 10 ∧ B = [(209, .inl (14, 7, .int (Int32.ofNat Fs.length))), (211, .inr (8, fa.map Value.ref ++ List.replicate (10 - Fs.length) Value.null))] ∧ ∀ (i : Nat) F a, Fs[i]? = some F → fa[i]? = some a → yFM N a F
def mLe (En : List (Int64 × Int32)) (B : List xE) : Prop := ∃ (lb : List Int32) (ja : List Int64) (jb : List Int32), lb.length = 100 ∧ En.length + ja.length = 100 ∧ En.length + jb.length = 100 ∧ B = [(209, .inl (14, 19, .int (Int32.ofNat En.length))), (234, .inr (0, lb.map Value.int)), (235, .inr (1, (En.map Prod.fst ++ ja).map Value.long)), (236, .inr (0, (En.map Prod.snd ++ jb).map Value.int))]
def mDk (z : Option yO) (N B : List xE) : Prop := match z with
  | none => B = [(209, .inl (14, 23, .null))]
  | some ob => ∃ (b ia ra ca : Nat) (S : zS), B = (209, .inl (14, 23, .ref b)) :: zE (zad b ia ra ca) S 0 (zTd.take 5) ∧ thV S ob ∧ ((b, .inl (13, 2, .ref ia)) : xE) ∈ N ∧ ((b, .inl (13, 3, .ref ra)) : xE) ∈ N ∧ ((b, .inl (13, 4, .ref ca)) : xE) ∈ N
def mDr (Fs : List yF) (Dr : List yD) (N B : List xE) : Prop := ∃ (of fi rc sg : List Int32) (mr : List Value) (sp : List (Option yTg)), (of.length = 31 ∧ fi.length = 31 ∧ rc.length = 31 ∧ sg.length = 31 ∧ mr.length = 620) ∧ (sp.length = 20 ∧ ∀ x, some x ∈ sp → tgL x) ∧ B = (209, .inl (14, 26, .int (Int32.ofNat Dr.length))) :: (238, .inr (0, of.map Value.int)) :: (240, .inr (3, fi.map Value.int)) :: (241, .inr (0, rc.map Value.int)) :: (242, .inr (0, sg.map Value.int)) :: (239, .inr (10, mr)) :: (237, .inr (10, svl sp)) :: sD sp ∧ (∀ (i : Nat) (d : yD), Dr[i]? = some d → of[i]? = some (Int32.ofNat d.1) ∧ fi[i]? = some (if d.2.2.2.1 = -9 then 0 else 1) ∧ rc[i]? = some d.2.2.2.1 ∧ sg[i]? = some d.2.2.2.2 ∧ ∀ (p : Nat) z, d.2.1[p]? = some z → ∃ v, mr[20 * i + p]? = some v ∧ yVM N v z) ∧ ∀ (q : Nat) v, 20 * Dr.length ≤ q → q < 600 → mr[q]? = some v → v = .null ∨ (q < 20 * Dr.length + 20 ∧ ∃ (j : Nat) (x : yTg), sp[j]? = some (some x) ∧ v = .ref x.1)
/-- what was given to a draft and is not taken back, the latest first -/
def chL (lg : List yLg) (i : Nat) : List (Nat × Option yO) := ((lg.filter (fun e => e.1 == i && !e.2.2.2)).map (fun e => (e.2.1, e.2.2.1))).reverse
def mLg (Dr : List yD) (gv : Nat) (N B : List xE) : Prop := ∃ (lg : List yLg) (gd gp gu : List Int32) (gw : List Value), lg.length = gv ∧ lgA lg gd gp gu gw N ∧ B = [(209, .inl (14, 32, .int (Int32.ofNat gv))), (243, .inr (0, gd.map Value.int)), (244, .inr (0, gp.map Value.int)), (245, .inr (10, gw)), (246, .inr (3, gu.map Value.int))] ∧ (∀ (i : Nat) d, Dr[i]? = some d → chL lg i = d.2.2.1) ∧ ∀ e ∈ lg, e.1 < Dr.length ∧ e.2.1 < 20
def mRc (n0 : Int32) (B : List xE) : Prop := B = [(209, .inl (14, 65, .int n0))]
def mMv (Mv : List yMv) (cm : List Int32) (B : List xE) : Prop := ∃ m0 m1 m2 m3 jk : List Int32, (m0.length = 40 ∧ m1.length = 40 ∧ m2.length = 40 ∧ m3.length = 40) ∧ cm.length = Mv.length ∧ cm.length + jk.length = 40 ∧ (∀ (i : Nat) m, Mv[i]? = some m → m0[i]? = some m.1 ∧ m1[i]? = some m.2.1 ∧ m2[i]? = some m.2.2.1 ∧ m3[i]? = some m.2.2.2) ∧ B = [(209, .inl (14, 66, .int (Int32.ofNat Mv.length))), (256, .inr (0, m0.map Value.int)), (257, .inr (0, m1.map Value.int)), (258, .inr (0, m2.map Value.int)), (259, .inr (0, m3.map Value.int)), (260, .inr (0, (cm ++ jk).map Value.int))]
def mWk (ev : Int32) (fd : List yFd) (to : Int32 × Int32 × Int32) (va : Int64) (B : List xE) : Prop := ∃ (S : zS) (w : yW) (u : Value) (d0 : Int32) (sh : List Bool) (fd2 : List yFd), B = zE zaF S 0 zTF ++ [(209, .inl (14, 46, u))] ∧ R9 S w d0 ∧ w.1 = ev ∧ insM S S sh fd2 ∧ lsM S fd ∧ (zI S 7 = to.1 ∧ zI S 8 = to.2.1 ∧ zI S 9 = to.2.2) ∧ zJ S 10 = va
def mPl (B : List xE) : Prop := ∃ ps : List yTg, B = (266, .inr (10, pvl ps)) :: pD ps ∧ ps.length ≤ 9 ∧ ∀ x ∈ ps, tgL x
def mSe (Fs : List yF) (se : ySe) (B : List xE) : Prop := ∃ St : zS, B = zE zaT St 0 zTT ∧ srM Fs St se.1 se.2.1 se.2.2.1 se.2.2.2.1 se.2.2.2.2.1 se.2.2.2.2.2 ∧ (se.2.1 = true → se.2.2.1 = false)
def mKd (dk : List Int32) (B : List xE) : Prop := ∃ (S : zS) (jk : List Int32) (x y : Int32), B = (209, .inl (14, 43, .int x)) :: (209, .inl (14, 44, .int y)) :: zE zaL S 0 zTL ∧ zI S 0 = Int32.ofNat dk.length ∧ zA S 4 = dk ++ jk ∧ dk.length + jk.length = 1200 ∧ byR (dk ++ jk) ∧ (zA S 5).length = 1200
/-! more entries stay -/
section MONO
variable {N N2 B : List xE} {Fs : List yF} {Dr : List yD}
theorem cPs.mono (s : N ⊆ N2) (h : cPs N B) : cPs N2 B := by
  obtain ⟨S, a, p, uu, h1, h2, h3⟩ := h
  exact ⟨S, a, p, uu, h1, h2, fun e he => s (h3 e he)⟩
theorem cFs.mono (s : N ⊆ N2) (h : cFs Fs N B) : cFs Fs N2 B := by
  obtain ⟨fa, h1, h2, h3, h4⟩ := h
  exact ⟨fa, h1, h2, h3, fun i F a e1 e2 => (h4 i F a e1 e2).mono s⟩
theorem cDk.mono {z : Option yO} (s : N ⊆ N2) (h : cDk z N B) : cDk z N2 B := by
  cases z with
  | none => exact h
  | some ob =>
    obtain ⟨a, ia, ra, ks, h1, h2, h3, h4, h5, h6⟩ := h
    exact ⟨a, ia, ra, ks, h1, h2, s h3, s h4, s h5, s h6⟩
theorem cDr.mono (s : N ⊆ N2) (h : cDr Fs Dr N B) : cDr Fs Dr N2 B := by
  obtain ⟨R, h1, h2, h3⟩ := h
  refine ⟨R, h1, h2, fun r hr => ?_⟩
  obtain ⟨⟨F, q1, q2⟩, q3, q4⟩ := h3 r hr
  exact ⟨⟨F, q1, q2.mono s⟩, q3.mono s, q4.mono s⟩
theorem cSe.mono {se : ySe} (s : N ⊆ N2) (h : cSe Fs se N B) : cSe Fs se N2 B := by
  obtain ⟨S, refs, sl, fv, h1, h2, h3, h4, h5, h6, h7, h8, h9, h10, h11⟩ := h
  refine ⟨S, refs, sl, fv, h1, h2, h3, h4, h5, h6, fun hg => ?_, h8, h9, h10, fun j hj e he => s (h11 j hj e he)⟩
  obtain ⟨F, fa, q1, q2, q3, q4⟩ := h7 hg
  exact ⟨F, fa, q1, q2, q3.mono s, q4⟩
theorem mPs.mono (s : N ⊆ N2) (h : mPs N B) : mPs N2 B := by
  rcases h with ⟨S, a, p, h1, h2, h3⟩ | h
  · exact .inl ⟨S, a, p, h1, h2, fun e he => s (h3 e he)⟩
  · exact .inr h
theorem mFs.mono (s : N ⊆ N2) (h : mFs Fs N B) : mFs Fs N2 B := by
  obtain ⟨fa, h1, h2, h3, h4⟩ := h
  exact ⟨fa, h1, h2, h3, fun i F a e1 e2 => (h4 i F a e1 e2).mono s⟩
theorem mDk.mono {z : Option yO} (s : N ⊆ N2) (h : mDk z N B) : mDk z N2 B := by
  cases z with
  | none => exact h
  | some ob =>
    obtain ⟨b, ia, ra, ca, S, h1, h2, h3, h4, h5⟩ := h
    exact ⟨b, ia, ra, ca, S, h1, h2, s h3, s h4, s h5⟩
theorem mDr.mono (s : N ⊆ N2) (h : mDr Fs Dr N B) : mDr Fs Dr N2 B := by
  obtain ⟨of, fi, rc, sg, mr, sp, h1, h2, h3, h4, h5⟩ := h
  refine ⟨of, fi, rc, sg, mr, sp, h1, h2, h3, fun i d hd => ?_, h5⟩
  obtain ⟨q1, q2, q3, q4, q5⟩ := h4 i d hd
  refine ⟨q1, q2, q3, q4, fun p z hz => ?_⟩
  obtain ⟨v, w1, w2⟩ := q5 p z hz
  exact ⟨v, w1, w2.mono s⟩
theorem mLg.mono {gv : Nat} (s : N ⊆ N2) (h : mLg Dr gv N B) : mLg Dr gv N2 B := by
  obtain ⟨lg, gd, gp, gu, gw, h1, h2, h3, h4, h5⟩ := h
  exact ⟨lg, gd, gp, gu, gw, h1, h2.mono s, h3, h4, h5⟩
end MONO
/-- entries stand at different places -/
theorem yK.nd {X : List Int32} {fr lo mi c s : Nat} {vs : List Value} {D : List xE} {Q : Option Value → List xE → Prop} (w : (D.map xkey).Nodup → yK X fr lo mi vs D c s Q) : yK X fr lo mi vs D c s Q := by
  intro h H
  refine w ?_ h H
  have := H.1
  rw [List.map_append] at this
  exact this.sublist (List.sublist_append_left _ _)
theorem nd_eq {D : List xE} {a b : xE} (h : (D.map xkey).Nodup) (ha : a ∈ D) (hb : b ∈ D) (e : xkey a = xkey b) : a = b := by
  induction D with
  | nil => cases ha
  | cons x D ih =>
    rw [List.map_cons, List.nodup_cons] at h
    rcases List.mem_cons.mp ha with ha2 | ha2
    · rcases List.mem_cons.mp hb with hb2 | hb2
      · rw [ha2, hb2]
      · exact absurd (List.mem_map.mpr ⟨b, hb2, by rw [← e, ha2]⟩) h.1
    · rcases List.mem_cons.mp hb with hb2 | hb2
      · exact absurd (List.mem_map.mpr ⟨a, ha2, by rw [e, hb2]⟩) h.1
      · exact ih h.2 ha2 hb2
theorem cFs.fa {Fs : List yF} {N B D : List xE} {x : Int32} {fa : Nat} {F : yF} (h : cFs Fs N B) (s : B ⊆ D) (hn : (D.map xkey).Nodup) (hx : gI Fs x = some F) (ha : yFaC Fs D x fa) : yFC N fa F := by
  obtain ⟨fs, h1, h2, rfl, h4⟩ := h
  obtain ⟨fs2, q1, q2, q3⟩ := ha
  have e := nd_eq hn q2 (s (List.mem_cons_of_mem _ List.mem_cons_self)) rfl
  injection e with _ e
  injection e with e
  injection e with _ e
  obtain ⟨g1, g2, g3, -, -⟩ := gI_some hx
  refine h4 _ F fa g3 ?_
  have e2 : (_ : List Value)[x.toInt.toNat]? = (_ : List Value)[x.toInt.toNat]? := congrArg (fun l : List Value => l[x.toInt.toNat]?) e
  have hl := (List.getElem?_eq_some_iff.mp g3).1
  rw [List.getElem?_append_left (by rw [List.length_map]; omega), List.getElem?_append_left (by rw [List.length_map]; omega), List.getElem?_map, List.getElem?_map, q3] at e2
  rcases hf : fs[x.toInt.toNat]? with _ | b
  · rw [hf] at e2
    cases e2
  · rw [hf] at e2
    injection e2 with e2
    injection e2 with e2
    rw [e2]
