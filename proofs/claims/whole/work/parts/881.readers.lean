/-! CALLS THAT READ ALONE, over blocks: class, reference -/
def pFs (Fs : List yF) : Prop := ∀ (i : Nat) F, Fs[i]? = some F → yFok F
def pDk (En : List (Int64 × Int32)) (z : Option yO) : Prop := ∀ ob, z = some ob → yOk En ob
def pD1 (Fs : List yF) (En : List (Int64 × Int32)) (d : yD) : Prop := (∃ F, Fs[d.1]? = some F) ∧ d.2.1.length = 20 ∧ (∀ y, some y ∈ d.2.1 → yOk En y) ∧ ∀ c ∈ d.2.2.1, c.1 < 20 ∧ ∀ y, c.2 = some y → yOk En y
def pDr (Fs : List yF) (En : List (Int64 × Int32)) (Dr : List yD) : Prop := Dr.length ≤ 30 ∧ ∀ d ∈ Dr, pD1 Fs En d
section READ
variable {X : List Int32} {N B B2 B3 B4 B5 B6 B7 B8 B9 D : List xE} {Fs : List yF} {Dr : List yD} {En : List (Int64 × Int32)} {x y i j : Int32}
theorem pFs.l20 (h : pFs Fs) : ∀ (i : Nat) F, Fs[i]? = some F → F.1.length ≤ 20 := fun i F hF => by
  obtain ⟨fe, h1, h2, h3, h4, h5, h6⟩ := h i F hF
  exact h5
theorem pFs.l01 (h : pFs Fs) : ∀ (i : Nat) F, Fs[i]? = some F → ∀ P ∈ F.1, P.2.2.1 = 0 ∨ P.2.2.1 = 1 := fun i F hF P hP => by
  obtain ⟨fe, h1, h2, h3, h4, h5, h6, h7, h8, h9⟩ := h i F hF
  obtain ⟨k, hk⟩ := List.getElem?_of_mem hP
  exact (h9 k P hk).2.2.1
theorem cFs.use (h : cFs Fs N B) (s : B ⊆ D) (sN : N ⊆ D) : yFsC Fs D := by
  obtain ⟨fa, h1, h2, rfl, h4⟩ := h
  exact ⟨fa, h1, h2, s (by simp), s (by simp), fun i F a e1 e2 => (h4 i F a e1 e2).mono sN⟩
theorem mFs.use (h : mFs Fs N B) (s : B ⊆ D) (sN : N ⊆ D) : yFsM Fs D := by
  obtain ⟨fa, h1, h2, rfl, h4⟩ := h
  exact ⟨fa, h1, h2, s (by simp), s (by simp), fun i F a e1 e2 => (h4 i F a e1 e2).mono sN⟩
/-- the class's drafts, as the contracts want them -/
def cRs (Fs : List yF) (R : List yDR) (N : List xE) : Prop := ∀ r ∈ R, (∃ F, Fs[r.2.2.2.2.2.1]? = some F ∧ yFC N r.2.2.1 F) ∧ yAnB N r.2.2.2.1 r.2.2.2.2.2.2.1 ∧ yCB N r.2.2.2.2.1 r.2.2.2.2.2.2.2.1
def cRE (R : List yDR) : List xE := (78, .inl (11, 8, .int (Int32.ofNat R.length))) :: (109, .inr (6, R.map (fun r => Value.ref r.1) ++ List.replicate (30 - R.length) Value.null)) :: R.flatMap dfR
theorem cDr.R (h : cDr Fs Dr N B) : ∃ R : List yDR, R.map (fun r => r.2.2.2.2.2) = Dr ∧ B = cRE R ∧ cRs Fs R N := h
theorem ds_C {R : List yDR} (l : R.length ≤ 30) (h : cRs Fs R N) (s : cRE R ⊆ D) (sN : N ⊆ D) : yDsC Fs R D := by
  refine ⟨⟨l, s (by simp [cRE]), s (by simp [cRE])⟩, fun r hr => ⟨fun e he => s (List.mem_cons_of_mem _ (List.mem_cons_of_mem _ (List.mem_flatMap.mpr ⟨r, hr, he⟩))), ?_⟩⟩
  obtain ⟨⟨F, q1, q2⟩, q3, q4⟩ := h r hr
  exact ⟨F, q1, q2.mono sN, (q3.mono sN).oc, (q4.mono sN).ch⟩
theorem dr_C {R : List yDR} (hF : pFs Fs) (hD : pDr Fs En (R.map (fun r => r.2.2.2.2.2))) (hE : cLe En B2) (h : cRs Fs R N) (s : cRE R ⊆ D) (s2 : B2 ⊆ D) (sN : N ⊆ D) : DrC Fs R En D := by
  obtain ⟨ja, jb, e1, e2, rfl⟩ := hE
  have l : R.length ≤ 30 := by
    have := hD.1
    rwa [List.length_map] at this
  refine ⟨⟨l, s (by simp [cRE]), s (by simp [cRE])⟩, fun r hr => ⟨fun e he => s (List.mem_cons_of_mem _ (List.mem_cons_of_mem _ (List.mem_flatMap.mpr ⟨r, hr, he⟩))), ?_⟩⟩
  obtain ⟨⟨F, q1, q2⟩, q3, q4⟩ := h r hr
  obtain ⟨-, -, k3, -⟩ := hD.2 _ (List.mem_map.mpr ⟨r, hr, rfl⟩)
  refine ⟨F, q1, q2.mono sN, hF _ _ q1, ⟨r.2.2.2.1, ?_, q3.mono sN⟩, fun p y hp => k3 y (List.mem_of_getElem? hp), by omega, s2 (by simp), ja, s2 (by simp)⟩
  refine s (List.mem_cons_of_mem _ (List.mem_cons_of_mem _ (List.mem_flatMap.mpr ⟨r, hr, ?_⟩)))
  simp [dfR, dfE]
theorem pDr.ans (h : pDr Fs En Dr) : ∀ x y ob, answ Fs Dr x y = some (some ob) → yOk En ob := by
  intro x y ob ha
  obtain ⟨⟨d, F, P⟩, h1, h2⟩ := Option.bind_eq_some_iff.mp ha
  obtain ⟨t1, -, -⟩ := ansP_inv h1
  obtain ⟨-, -, c3, -, -⟩ := gI_some t1
  exact (h.2 d (List.mem_of_getElem? c3)).2.2.1 ob (List.mem_of_getElem? h2)
/-- the reference's drafts -/
theorem mDr.use (h : mDr Fs Dr N B) (hp : pDr Fs En Dr) (s : B ⊆ D) (sN : N ⊆ D) : yDsM Fs Dr D := by
  obtain ⟨of, fi, rc, sg, mr, sp, h1, h2, rfl, h4, h5⟩ := h
  refine ⟨of, fi, rc, sg, mr, hp.1, h1, s (by simp), s (by simp), s (by simp), s (by simp), s (by simp), s (by simp), fun i d hd => ?_⟩
  obtain ⟨q1, q2, q3, q4, q5⟩ := h4 i d hd
  obtain ⟨k1, k2, -, -⟩ := hp.2 d (List.mem_of_getElem? hd)
  refine ⟨q1, k1, q2, q3, q4, k2, fun p z hz => ?_⟩
  obtain ⟨v, w1, w2⟩ := q5 p z hz
  exact ⟨v, w1, w2.mono sN⟩
theorem dr_M (hF : pFs Fs) (h : mDr Fs Dr N B) (hp : pDr Fs En Dr) (hE : mLe En B2) (hM : mFs Fs N B3) (s : B ⊆ D) (s2 : B2 ⊆ D) (s3 : B3 ⊆ D) (sN : N ⊆ D) : DrM Fs Dr (Dr.map (fun d => d.2.1)) En D := by
  obtain ⟨of, fi, rc, sg, mr, sp, h1, h2, rfl, h4, h5⟩ := h
  obtain ⟨lb, ja, jb, e0, e1, e2, rfl⟩ := hE
  obtain ⟨fa, f1, f2, rfl, f4⟩ := hM
  refine ⟨hp.1, s (by simp), fun i d hd => ?_⟩
  obtain ⟨q1, q2, q3, q4, q5⟩ := h4 i d hd
  obtain ⟨⟨F, k1⟩, k2, k3, -⟩ := hp.2 d (List.mem_of_getElem? hd)
  have hdl := (List.getElem?_eq_some_iff.mp k1).1
  have hil := (List.getElem?_eq_some_iff.mp hd).1
  have h30 := hp.1
  obtain ⟨a, ha⟩ : ∃ a, fa[d.1]? = some a := ⟨_, List.getElem?_eq_getElem (by omega)⟩
  refine ⟨F, a, k1, ⟨of, Int32.ofNat d.1, fa.map Value.ref ++ List.replicate (10 - Fs.length) Value.null, s (by simp), by rw [gI_nat (by omega)]; exact q1, s3 (by simp), ?_⟩, (f4 _ _ _ k1 ha).mono sN, hF _ _ k1, by omega, ⟨ja, s2 (by simp)⟩, ⟨mr, s (by simp), by rw [List.length_map]; omega, fun i2 A hA => ?_, fun i2 A hA p z hz => ?_⟩, fun i2 A hA p y hz => ?_, by rw [List.getElem?_map, hd]; rfl⟩
  · rw [gI_nat (by omega), List.getElem?_append_left (by rw [List.length_map]; omega), List.getElem?_map, ha]
    rfl
  · rw [List.getElem?_map] at hA
    obtain ⟨d2, g1, g2⟩ := Option.map_eq_some_iff.mp hA
    rw [← g2]
    exact (hp.2 d2 (List.mem_of_getElem? g1)).2.1
  · rw [List.getElem?_map] at hA
    obtain ⟨d2, g1, g2⟩ := Option.map_eq_some_iff.mp hA
    rw [← g2] at hz
    obtain ⟨v, w1, w2⟩ := (h4 i2 d2 g1).2.2.2.2 p z hz
    exact ⟨v, w1, w2.mono sN⟩
  · rw [List.getElem?_map] at hA
    obtain ⟨d2, g1, g2⟩ := Option.map_eq_some_iff.mp hA
    rw [← g2] at hz
    exact (hp.2 d2 (List.mem_of_getElem? g1)).2.2.1 y (List.mem_of_getElem? hz)
/-- a row that begins with these -/
theorem l_pre {α β : Type} {l : List α} {f : β → α} {L : List β} (h : ∀ (i : Nat) b, L[i]? = some b → l[i]? = some (f b)) : l = L.map f ++ l.drop L.length := by
  have hlen : L.length ≤ l.length := by
    rcases Nat.lt_or_ge l.length L.length with hl | hl
    · obtain ⟨b, hb⟩ : ∃ b, L[l.length]? = some b := ⟨_, List.getElem?_eq_getElem hl⟩
      have := (List.getElem?_eq_some_iff.mp (h _ b hb)).1
      omega
    · exact hl
  have e : l.take L.length = L.map f := by
    apply List.ext_getElem?
    intro k
    rw [List.getElem?_map]
    by_cases hk : k < L.length
    · rw [List.getElem?_take_of_lt hk, List.getElem?_eq_getElem hk, h k _ (List.getElem?_eq_getElem hk)]
      rfl
    · rw [List.getElem?_eq_none (by rw [List.length_take]; omega), List.getElem?_eq_none (by omega)]
      rfl
  rw [← e, List.take_append_drop]
theorem l_pre_le {α β : Type} {l : List α} {f : β → α} {L : List β} (h : ∀ (i : Nat) b, L[i]? = some b → l[i]? = some (f b)) : L.length ≤ l.length := by
  rcases Nat.lt_or_ge l.length L.length with hl | hl
  · obtain ⟨b, hb⟩ : ∃ b, L[l.length]? = some b := ⟨_, List.getElem?_eq_getElem hl⟩
    have := (List.getElem?_eq_some_iff.mp (h _ b hb)).1
    omega
  · exact hl
theorem oC_about (h : cFs Fs N B) (s : B ⊆ D) (sN : N ⊆ D) : yK X 1 21 86 [.ref 78, .int x, .int y] D 0 0 (fun w D' => w = some (.int (aboutV Fs x y)) ∧ D' = D) := cA_about (h.use s sN)
theorem oM_about (h : mFs Fs N B) (s : B ⊆ D) (sN : N ⊆ D) : yK X 2 46 249 [.ref 209, .int x, .int y] D 0 0 (fun w D' => w = some (.int (aboutV Fs x y)) ∧ D' = D) := mA_about (h.use s sN)
theorem oC_part (hF : pFs Fs) (h : cFs Fs N B) (s : B ⊆ D) (sN : N ⊆ D) : yK X 1 30 88 [.ref 78, .int x, .int y, .int i] D 0 0 (fun w D' => w = some (.int (partV Fs x y i)) ∧ D' = D) := cA_part hF.l20 (h.use s sN)
theorem oM_part (hF : pFs Fs) (h : mFs Fs N B) (s : B ⊆ D) (sN : N ⊆ D) : yK X 4 100 252 [.ref 209, .int x, .int y, .int i] D 0 0 (fun w D' => w = some (.int (partV Fs x y i)) ∧ D' = D) := mA_part hF.l20 hF.l01 (h.use s sN)
theorem pDr.l30 {R : List yDR} (h : pDr Fs En (R.map (fun r => r.2.2.2.2.2))) : R.length ≤ 30 := by
  have := h.1
  rwa [List.length_map] at this
theorem oC_kindOf (hF : pFs Fs) (hD : pDr Fs En Dr) (h : cDr Fs Dr N B) (s : B ⊆ D) (sN : N ⊆ D) : yK X 1 21 116 [.ref 78, .int x, .int y] D 0 0 (fun w D' => w = some (.int (kindV Fs Dr x y)) ∧ D' = D) := by
  obtain ⟨R, rfl, rfl, h3⟩ := h.R
  exact cR_kindOf hF.l20 rfl (ds_C hD.l30 h3 s sN)
theorem oM_kindOf (hF : pFs Fs) (hD : pDr Fs En Dr) (h : mDr Fs Dr N B) (h2 : mFs Fs N B2) (s : B ⊆ D) (s2 : B2 ⊆ D) (sN : N ⊆ D) : yK X 3 68 275 [.ref 209, .int x, .int y] D 0 0 (fun w D' => w = some (.int (kindV Fs Dr x y)) ∧ D' = D) := mR_kindOf hF.l20 (h2.use s2 sN) (h.use hD s sN)
theorem oC_item (hF : pFs Fs) (hD : pDr Fs En Dr) (h : cDr Fs Dr N B) (s : B ⊆ D) (sN : N ⊆ D) : yK X 2 44 117 [.ref 78, .int x, .int y, .int i] D 0 0 (fun w D' => w = some (.long (itemV Fs Dr x y i)) ∧ D' = D) := by
  have ha := hD.ans
  obtain ⟨R, rfl, rfl, h3⟩ := h.R
  exact cR_item hF.l20 rfl (ds_C hD.l30 h3 s sN) ha
theorem oM_item (hE : En.length ≤ 100) (hF : pFs Fs) (hD : pDr Fs En Dr) (h : mDr Fs Dr N B) (h2 : mFs Fs N B2) (s : B ⊆ D) (s2 : B2 ⊆ D) (sN : N ⊆ D) : yK X 4 100 276 [.ref 209, .int x, .int y, .int i] D 0 0 (fun w D' => w = some (.long (itemV Fs Dr x y i)) ∧ D' = D) := mR_item hE hF.l20 (h2.use s2 sN) (h.use hD s sN) hD.ans
theorem oC_cellOf (hF : pFs Fs) (hD : pDr Fs En Dr) (h : cDr Fs Dr N B) (s : B ⊆ D) (sN : N ⊆ D) : yK X 3 100 119 [.ref 78, .int x, .int y, .int i, .int j] D 0 0 (fun w D' => w = some (.int (cellV Fs Dr x y i j)) ∧ D' = D) := by
  have ha := hD.ans
  obtain ⟨R, rfl, rfl, h3⟩ := h.R
  exact cR_cellOf hF.l20 rfl (ds_C hD.l30 h3 s sN) ha
theorem oM_cellOf (hF : pFs Fs) (hD : pDr Fs En Dr) (h : mDr Fs Dr N B) (h2 : mFs Fs N B2) (s : B ⊆ D) (s2 : B2 ⊆ D) (sN : N ⊆ D) : yK X 4 100 277 [.ref 209, .int x, .int y, .int i, .int j] D 0 0 (fun w D' => w = some (.int (cellV Fs Dr x y i j)) ∧ D' = D) := mR_cellOf hF.l20 (h2.use s2 sN) (h.use hD s sN) hD.ans
theorem oC_receipt (hF : pFs Fs) (hD : pDr Fs En Dr) (h : cDr Fs Dr N B) (s : B ⊆ D) (sN : N ⊆ D) : yK X 1 21 169 [.ref 78, .int x] D 0 0 (fun w D' => w = some (.int (rcV Dr x)) ∧ D' = D) := by
  obtain ⟨R, rfl, rfl, h3⟩ := h.R
  exact cR_receipt hF.l20 rfl (ds_C hD.l30 h3 s sN)
theorem oM_receipt (hF : pFs Fs) (hD : pDr Fs En Dr) (h : mDr Fs Dr N B) (h2 : mFs Fs N B2) (s : B ⊆ D) (s2 : B2 ⊆ D) (sN : N ⊆ D) : yK X 2 46 325 [.ref 209, .int x] D 0 0 (fun w D' => w = some (.int (rcV Dr x)) ∧ D' = D) := mR_receipt hF.l20 (h2.use s2 sN) (h.use hD s sN)
theorem oC_earlier (hF : pFs Fs) (hD : pDr Fs En Dr) (h : cDr Fs Dr N B) (s : B ⊆ D) (sN : N ⊆ D) : yK X 1 21 170 [.ref 78, .int x, .int y] D 0 0 (fun w D' => w = some (.int (earV Dr x y)) ∧ D' = D) := by
  obtain ⟨R, rfl, rfl, h3⟩ := h.R
  exact cR_earlier hF.l20 rfl (ds_C hD.l30 h3 s sN)
theorem oM_earlier (hF : pFs Fs) (hD : pDr Fs En Dr) (h : mDr Fs Dr N B) (h2 : mFs Fs N B2) (s : B ⊆ D) (s2 : B2 ⊆ D) (sN : N ⊆ D) : yK X 2 46 326 [.ref 209, .int x, .int y] D 0 0 (fun w D' => w = some (.int (earV Dr x y)) ∧ D' = D) := mR_earlier hF.l20 (h2.use s2 sN) (h.use hD s sN)
theorem oC_finding {ev : Int32} {fd : List yFd} (h : cWk ev fd B) (s : B ⊆ D) : yK X 0 0 161 [.ref 78, .int x, .int y] D 0 0 (fun w D' => w = some (.int (findV fd x y)) ∧ D' = D) := by
  obtain ⟨S, w, u, v, sh, sh2, fd2, rfl, h1, h2, ⟨k1, ⟨k2, k3, k4, k5, k6, k7⟩, k8, -, -⟩, -⟩ := h
  have l := l_pre_le (fun i f hf => (k8 i f hf).1)
  have m16 : ((118, .inl (4, 1, .int (zI S 16))) : xE) ∈ D := s (List.mem_append_left _ (List.mem_of_getElem? (i := 16) rfl))
  have m17 : ((119, .inr (0, (zA S 17).map Value.int)) : xE) ∈ D := s (List.mem_append_left _ (List.mem_of_getElem? (i := 17) rfl))
  have m18 : ((120, .inr (0, (zA S 18).map Value.int)) : xE) ∈ D := s (List.mem_append_left _ (List.mem_of_getElem? (i := 18) rfl))
  have m19 : ((121, .inr (0, (zA S 19).map Value.int)) : xE) ∈ D := s (List.mem_append_left _ (List.mem_of_getElem? (i := 19) rfl))
  have m20 : ((122, .inr (0, (zA S 20).map Value.int)) : xE) ∈ D := s (List.mem_append_left _ (List.mem_of_getElem? (i := 20) rfl))
  have m21 : ((123, .inr (0, (zA S 21).map Value.int)) : xE) ∈ D := s (List.mem_append_left _ (List.mem_of_getElem? (i := 21) rfl))
  rw [k1] at m16
  rw [l_pre (fun i f hf => (k8 i f hf).1)] at m17
  rw [l_pre (fun i f hf => (k8 i f hf).2.1)] at m18
  rw [l_pre (fun i f hf => (k8 i f hf).2.2.1)] at m19
  rw [l_pre (fun i f hf => (k8 i f hf).2.2.2.1)] at m20
  rw [l_pre (fun i f hf => (k8 i f hf).2.2.2.2)] at m21
  exact cI_finding (by omega) m16 m17 m18 m19 m20 m21
theorem l_pre5 {l : List Int32} : ∀ {L : List yFd}, (∀ (i : Nat) f, L[i]? = some f → l[5 * i]? = some f.1 ∧ l[5 * i + 1]? = some f.2.1 ∧ l[5 * i + 2]? = some f.2.2.1 ∧ l[5 * i + 3]? = some f.2.2.2.1 ∧ l[5 * i + 4]? = some f.2.2.2.2) → ∃ jk, l = L.flatMap find5 ++ jk := by
  intro L
  induction L generalizing l with
  | nil => exact fun _ => ⟨l, rfl⟩
  | cons f L ih =>
    intro h
    obtain ⟨q0, q1, q2, q3, q4⟩ := h 0 f rfl
    rcases l with _ | ⟨a0, _ | ⟨a1, _ | ⟨a2, _ | ⟨a3, _ | ⟨a4, l⟩⟩⟩⟩⟩
    · cases q0
    · cases q1
    · cases q2
    · cases q3
    · cases q4
    · injection q0 with q0
      injection q1 with q1
      injection q2 with q2
      injection q3 with q3
      injection q4 with q4
      obtain ⟨jk, hj⟩ := ih (l := l) (fun i g hg => by
        have := h (i + 1) g hg
        rw [show 5 * (i + 1) = 5 * i + 5 by omega] at this
        exact this)
      refine ⟨jk, ?_⟩
      rw [List.flatMap_cons, q0, q1, q2, q3, q4, hj, List.append_assoc]
      rfl
theorem oM_finding {ev : Int32} {fd : List yFd} {to : Int32 × Int32 × Int32} {va : Int64} (h : mWk ev fd to va B) (s : B ⊆ D) : yK X 1 25 318 [.ref 209, .int x, .int y] D 0 0 (fun w D' => w = some (.int (findV fd x y)) ∧ D' = D) := by
  obtain ⟨S, w, u, d0, sh, fd2, rfl, h1, h2, h3, ⟨k1, k2, k3, k4⟩, -⟩ := h
  have m12 : ((209, .inl (14, 62, .int (zI S 12))) : xE) ∈ D := s (List.mem_append_left _ (List.mem_of_getElem? (i := 12) rfl))
  have m18 : ((254, .inr (0, (zA S 18).map Value.int)) : xE) ∈ D := s (List.mem_append_left _ (List.mem_of_getElem? (i := 18) rfl))
  obtain ⟨jk, hj⟩ := l_pre5 k4
  rw [k1] at m12
  rw [hj] at k2 m18
  have e5 : (fd.flatMap find5).length = 5 * fd.length := by
    clear k1 k3 k4 hj k2 m12 m18
    induction fd with
    | nil => rfl
    | cons f r ih =>
      rw [List.flatMap_cons, List.length_append, ih, List.length_cons]
      show 5 + _ = _
      omega
  rw [List.length_append, e5] at k2
  exact mI_finding k3 k2 m12 m18
theorem oC_value {va : Int64} (h : cVa va B) (s : B ⊆ D) : yK X 0 0 166 [.ref 78] D 0 0 (fun w D' => w = some (.long va) ∧ D' = D) := by
  obtain rfl : B = _ := h
  exact cV_value (s (by simp))
theorem oM_value {ev : Int32} {fd : List yFd} {to : Int32 × Int32 × Int32} {va : Int64} (h : mWk ev fd to va B) (s : B ⊆ D) : yK X 0 0 322 [.ref 209] D 0 0 (fun w D' => w = some (.long va) ∧ D' = D) := by
  obtain ⟨S, w, u, d0, sh, fd2, rfl, h1, h2, h3, h4, h5, rfl⟩ := h
  exact mV_value (s (List.mem_append_left _ (List.mem_of_getElem? (i := 10) rfl)))
theorem oC_told {to : Int32 × Int32 × Int32} (h : cTo to B) (s : B ⊆ D) : yK X 0 0 167 [.ref 78, .int x] D 0 0 (fun w D' => w = some (.int (toldV to.1 to.2.1 to.2.2 x)) ∧ D' = D) := by
  obtain rfl : B = _ := h
  exact cV_told (s (by simp))
theorem oM_told {ev : Int32} {fd : List yFd} {to : Int32 × Int32 × Int32} {va : Int64} (h : mWk ev fd to va B) (s : B ⊆ D) : yK X 0 0 323 [.ref 209, .int x] D 0 0 (fun w D' => w = some (.int (toldV to.1 to.2.1 to.2.2 x)) ∧ D' = D) := by
  obtain ⟨S, w, u, d0, sh, fd2, rfl, h1, h2, h3, h4, ⟨k1, k2, k3⟩, h6⟩ := h
  rw [← k1, ← k2, ← k3]
  exact mV_told (s (List.mem_append_left _ (List.mem_of_getElem? (i := 7) rfl))) (s (List.mem_append_left _ (List.mem_of_getElem? (i := 8) rfl))) (s (List.mem_append_left _ (List.mem_of_getElem? (i := 9) rfl)))
theorem oC_came {Mv : List yMv} {cm : List Int32} (h : cMv Mv cm B) (s : B ⊆ D) : yK X 0 0 179 [.ref 78, .int x] D 0 0 (fun w D' => w = some (.int (itV cm x (-1))) ∧ D' = D) := by
  obtain ⟨jk, h1, h2, rfl⟩ := h
  exact cV_came (jk := List.replicate (40 - Mv.length) (-9)) (by rw [List.length_replicate]; omega) (by rw [h2]; exact s (by simp)) (s (by simp))
theorem oM_came {Mv : List yMv} {cm : List Int32} (h : mMv Mv cm B) (s : B ⊆ D) : yK X 1 25 334 [.ref 209, .int x] D 0 0 (fun w D' => w = some (.int (itV cm x (-1))) ∧ D' = D) := by
  obtain ⟨m0, m1, m2, m3, jk, h1, h2, h3, h4, rfl⟩ := h
  exact mV_came h3 (by rw [h2]; exact s (by simp)) (s (by simp))
theorem oC_proof {se : ySe} (h : cSe Fs se N B) (s : B ⊆ D) : yK X 0 0 192 [.ref 78, .int x] D 0 0 (fun w D' => w = some (.int (itV se.2.2.2.2.2 x (-1))) ∧ D' = D) := by
  obtain ⟨S, refs, sl, fv, rfl, h2, h3, h4, h5, h6, h7⟩ := h
  rw [← h6]
  exact cV_proof h2.2.2.2 (s (List.mem_append_left _ (List.mem_of_getElem? (i := 8) rfl)))
theorem oM_proof {se : ySe} (h : mSe Fs se B) (s : B ⊆ D) : yK X 1 25 342 [.ref 209, .int x] D 0 0 (fun w D' => w = some (.int (itV se.2.2.2.2.2 x (-1))) ∧ D' = D) := by
  obtain ⟨St, rfl, ⟨h1, h2, h3, h4⟩, h5⟩ := h
  rw [← h3]
  exact mV_proof h1.2.2.2.2 (s (List.mem_of_getElem? (i := 9) rfl))
theorem oC_disk {dk : List Int32} (h : cKd dk B) (s : B ⊆ D) : yK X 0 0 197 [.ref 78, .int x] D 0 0 (fun w D' => w = some (.int (itV dk x (-1))) ∧ D' = D) := by
  obtain ⟨S, jk, bs, rfl, h1, h2, h3, h4⟩ := h
  exact cK_disk h3 (by rw [← h1]; exact s (List.mem_of_getElem? (i := 0) rfl)) (by rw [← h2]; exact s (List.mem_of_getElem? (i := 4) rfl))
theorem oM_disk {dk : List Int32} (h : mKd dk B) (s : B ⊆ D) : yK X 1 25 284 [.ref 209, .int x] D 0 0 (fun w D' => w = some (.int (itV dk x (-1))) ∧ D' = D) := by
  obtain ⟨S, jk, a, b, rfl, h1, h2, h3, h4⟩ := h
  exact mK_disk h3 (by rw [← h1]; exact s (List.mem_of_getElem? (i := 2) rfl)) (by rw [← h2]; exact s (List.mem_of_getElem? (i := 6) rfl))
theorem oC_sort {z : Option yO} (hk : pDk En z) (h : cDk z N B) (s : B ⊆ D) (sN : N ⊆ D) : yK X 0 0 106 [.ref 78] D 0 0 (fun w D' => w = some (.int (sortV z)) ∧ D' = D) := by
  cases z with
  | none =>
    obtain rfl : B = _ := h
    exact cD_sort0 (s (by simp))
  | some ob =>
    have k := hk ob rfl
    obtain ⟨a, ia, ra, ks, h1, rfl, h3, h4, h5, h6⟩ := h
    exact cD_sort1 k.1 (osz_le k.1 k.2.1 k.2.2.1) (s (by simp)) (sN h3) (sN h4) (sN h5) (sN h6)
theorem oM_sort {z : Option yO} (hk : pDk En z) (h : mDk z N B) (s : B ⊆ D) (sN : N ⊆ D) : yK X 0 0 266 [.ref 209] D 0 0 (fun w D' => w = some (.int (sortV z)) ∧ D' = D) := by
  cases z with
  | none =>
    obtain rfl : B = _ := h
    exact mD_sort0 (s (by simp))
  | some ob =>
    have k := hk ob rfl
    obtain ⟨b, ia, ra, ca, S, rfl, h2, h3, h4, h5⟩ := h
    exact mD_sort1 k.1 (osz_le k.1 k.2.1 k.2.2.1) (s (by simp)) (by rw [← h2.1]; exact s (List.mem_of_getElem? (i := 1) rfl)) (by rw [← h2.2.1]; exact s (List.mem_of_getElem? (i := 2) rfl)) (sN h3) (sN h4) (sN h5)
theorem oC_count {t dk cm : List Int32} {gv : Nat} {n0 ev : Int32} {Mv : List yMv} {fd : List yFd} (h1 : cTp t B) (h2 : cFs Fs N B2) (h3 : cLe En B3) (h4 : cDr Fs Dr N B4) (h5 : cGv gv B5) (h6 : cRc n0 B6) (h7 : cMv Mv cm B7) (h8 : cWk ev fd B8) (h9 : cKd dk B9) (s1 : B ⊆ D) (s2 : B2 ⊆ D) (s3 : B3 ⊆ D) (s4 : B4 ⊆ D) (s5 : B5 ⊆ D) (s6 : B6 ⊆ D) (s7 : B7 ⊆ D) (s8 : B8 ⊆ D) (s9 : B9 ⊆ D) : yK X 0 0 206 [.ref 78, .int x] D 0 0 (fun w D' => w = some (.int (countV [Int32.ofNat Fs.length, Int32.ofNat En.length, Int32.ofNat Dr.length, n0, Int32.ofNat Mv.length, Int32.ofNat t.length, Int32.ofNat dk.length, ev, Int32.ofNat gv] x)) ∧ D' = D) := by
  obtain ⟨r, -, rfl⟩ := h1
  obtain ⟨fa, -, -, rfl, -⟩ := h2
  obtain ⟨ja, jb, -, -, rfl⟩ := h3
  obtain ⟨R, rfl, rfl, -⟩ := h4.R
  obtain rfl : B5 = _ := h5
  obtain rfl : B6 = _ := h6
  obtain ⟨jk, -, -, rfl⟩ := h7
  obtain ⟨S, w, u, v, sh, sh2, fd2, rfl, ⟨R0, ⟨e0, -⟩, -⟩, rfl, -⟩ := h8
  obtain ⟨Sk, jk2, bs, rfl, e1, -⟩ := h9
  rw [List.length_map, ← e1, ← e0]
  exact cN_count (s2 (by simp)) (s3 (by simp)) (s4 (by simp [cRE])) (s6 (by simp)) (s7 (by simp)) (s1 (by simp)) (s9 (List.mem_of_getElem? (i := 0) rfl)) (s8 (List.mem_append_left _ (List.mem_of_getElem? (i := 0) rfl))) (s5 (by simp))
theorem oM_count {t dk cm : List Int32} {gv : Nat} {n0 ev : Int32} {Mv : List yMv} {fd : List yFd} {to : Int32 × Int32 × Int32} {va : Int64} (h1 : mTp t B) (h2 : mFs Fs N B2) (h3 : mLe En B3) (h4 : mDr Fs Dr N B4) (h5 : mLg Dr gv N B5) (h6 : mRc n0 B6) (h7 : mMv Mv cm B7) (h8 : mWk ev fd to va B8) (h9 : mKd dk B9) (s1 : B ⊆ D) (s2 : B2 ⊆ D) (s3 : B3 ⊆ D) (s4 : B4 ⊆ D) (s5 : B5 ⊆ D) (s6 : B6 ⊆ D) (s7 : B7 ⊆ D) (s8 : B8 ⊆ D) (s9 : B9 ⊆ D) : yK X 0 0 344 [.ref 209, .int x] D 0 0 (fun w D' => w = some (.int (countV [Int32.ofNat Fs.length, Int32.ofNat En.length, Int32.ofNat Dr.length, n0, Int32.ofNat Mv.length, Int32.ofNat t.length, Int32.ofNat dk.length, ev, Int32.ofNat gv] x)) ∧ D' = D) := by
  obtain ⟨r, -, rfl⟩ := h1
  obtain ⟨fa, -, -, rfl, -⟩ := h2
  obtain ⟨lb, ja, jb, -, -, -, rfl⟩ := h3
  obtain ⟨of, fi, rc, sg, mr, sp, -, -, rfl, -⟩ := h4
  obtain ⟨lg, gd, gp, gu, gw, -, -, rfl, -⟩ := h5
  obtain rfl : B6 = _ := h6
  obtain ⟨m0, m1, m2, m3, jk, -, -, -, -, rfl⟩ := h7
  obtain ⟨S, w, u, d0, sh, fd2, rfl, ⟨R0, ⟨e0, -⟩, -⟩, rfl, -⟩ := h8
  obtain ⟨Sk, jk2, a, b, rfl, e1, -⟩ := h9
  rw [← e1, ← e0]
  exact mN_count (s2 (by simp)) (s3 (by simp)) (s4 (by simp)) (s6 (by simp)) (s7 (by simp)) (s1 (by simp)) (s9 (List.mem_of_getElem? (i := 2) rfl)) (s8 (List.mem_append_left _ (List.mem_of_getElem? (i := 0) rfl))) (s5 (by simp))
end READ
