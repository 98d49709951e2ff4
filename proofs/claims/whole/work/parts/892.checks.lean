/-! CALLS OVER BLOCKS: check, submit -/
abbrev yIn : Type := yW × List Bool × List yFd
def wkD (Fs : List yF) (Dr : List yD) (x : Int32) : Option (yD × yF) := (gI Dr x).bind fun d => (Fs[d.1]?).map fun F => (d, F)
def ckA (Fs : List yF) (Dr : List yD) (En : List (Int64 × Int32)) (K : Nat) (ev x : Int32) : Int32 × Option yIn := match wkD Fs Dr x with
  | none => (-1, none)
  | some (d, F) => if 10000 ≤ ev.toInt then (-3, none) else (Int32.ofNat (inspR F d.2.1 En K ev).2.2.length, some (inspR F d.2.1 En K ev))
def sbA (Fs : List yF) (Dr : List yD) (En : List (Int64 × Int32)) (K : Nat) (ev n0 x y : Int32) : Int32 × Option yIn × Bool := match wkD Fs Dr x with
  | none => (-1, none, false)
  | some (d, F) => if ¬ (0 ≤ y.toInt ∧ y.toInt ≤ 9999) then (-1, none, false) else if 10000 ≤ ev.toInt then (-3, none, false) else if d.2.2.2.1 ≠ -9 then (-2, none, false) else if F.2.2.2.1.2.1 ≠ -9 ∧ F.2.2.2.1.2.1.toInt < y.toInt then (-4, none, false) else if (inspR F d.2.1 En K ev).2.2 ≠ [] then (-10 - Int32.ofNat (inspR F d.2.1 En K ev).2.2.length, some (inspR F d.2.1 En K ev), false) else (n0 + 1, some (inspR F d.2.1 En K ev), true)
def wkE (ev : Int32) (o : Option yIn) : Int32 := match o with
  | none => ev
  | some r => r.1.1
def wkF (fd : List yFd) (o : Option yIn) : List yFd := match o with
  | none => fd
  | some r => r.2.2
def wkT (to : Int32 × Int32 × Int32) (o : Option yIn) : Int32 × Int32 × Int32 := match o with
  | none => to
  | some r => (r.1.2.1, r.1.2.2.1, -9)
def sbD (n0 : Int32) (d : yD) : yD := (d.1, d.2.1, d.2.2.1, n0 + 1, d.2.2.2.2)
section CHK
variable {X : List Int32} {N B B2 B3 B4 B5 B6 Rm : List xE} {Fs : List yF} {Dr : List yD} {En : List (Int64 × Int32)} {K : Nat} {ev n0 x y : Int32} {fd : List yFd} {to : Int32 × Int32 × Int32} {va : Int64} {gv : Nat}
theorem wkD_no (h : gI Dr x = none) : wkD Fs Dr x = none := by rw [wkD, h]; rfl
theorem wkD_yes {d : yD} {F : yF} (h : gI Dr x = some d) (h2 : Fs[d.1]? = some F) : wkD Fs Dr x = some (d, F) := by rw [wkD, h, Option.bind_some, h2]; rfl
theorem pDr.fo (h : pDr Fs En Dr) {d : yD} (hd : gI Dr x = some d) : ∃ F, Fs[d.1]? = some F := (h.2 d (List.mem_of_getElem? (gI_some hd).2.2.1)).1
theorem ec_perm0 {S : zS} {u v : Value} {t : List Int32} : List.Perm (α := xE) ((zE zaE S 0 zTE ++ [(110, .inl (10, 2, u)), (110, .inl (10, 3, v))]) ++ ([(125, .inr (0, t.map Value.int))] ++ Rm)) (EC S u v t Rm) := pq fun φ => by
  simp only [cn_c, cn_a, cn_n, cn_z]
  omega
theorem em_perm0 {S : zS} {u : Value} : List.Perm (α := xE) ((zE zaF S 0 zTF ++ [(209, .inl (14, 46, u))]) ++ Rm) (EM S u Rm) := pq fun φ => by
  simp only [cn_c, cn_a, cn_n, cn_z]
  omega
theorem insC118.self {Q S : zS} {sh : List Bool} {fd : List yFd} (h : insC118 Q S sh fd) : insC118 S S sh fd := ⟨h.1, h.2.1, h.2.2.1, h.2.2.2.1, rfl, rfl, rfl, rfl, rfl, rfl, rfl⟩
theorem insC175.self {Q S : zS} {sh : List Bool} {fd : List yFd} (h : insC175 Q S sh fd) : insC175 S S sh fd := ⟨h.1, h.2.1, h.2.2.1, h.2.2.2.1, rfl, rfl, rfl, rfl, rfl, rfl, rfl⟩
/-- the other inspector keeps what it has -/
theorem ins_175 {Q S : zS} {sh sh2 : List Bool} {fd fd2 : List yFd} (h : insC118 Q S sh fd) (h2 : insC175 Q Q sh2 fd2) : insC175 S S sh2 fd2 := by
  obtain ⟨-, -, -, -, e1, e2, e3, e4, e5, e6, e7⟩ := h
  obtain ⟨q1, ⟨a1, a2, a3, a4, a5, a6⟩, q3, q4, -⟩ := h2
  exact ⟨e1.trans q1, ⟨by rw [e2]; exact a1, by rw [e3]; exact a2, by rw [e4]; exact a3, by rw [e5]; exact a4, by rw [e6]; exact a5, by rw [e7]; exact a6⟩, by rw [e2, e3, e4, e5, e6]; exact q3, by rw [e7]; exact q4, rfl, rfl, rfl, rfl, rfl, rfl, rfl⟩
theorem ins_118 {Q S : zS} {sh sh2 : List Bool} {fd fd2 : List yFd} (h : insC175 Q S sh fd) (h2 : insC118 Q Q sh2 fd2) : insC118 S S sh2 fd2 := by
  obtain ⟨-, -, -, -, e1, e2, e3, e4, e5, e6, e7⟩ := h
  obtain ⟨q1, ⟨a1, a2, a3, a4, a5, a6⟩, q3, q4, -⟩ := h2
  exact ⟨e1.trans q1, ⟨by rw [e2]; exact a1, by rw [e3]; exact a2, by rw [e4]; exact a3, by rw [e5]; exact a4, by rw [e6]; exact a5, by rw [e7]; exact a6⟩, by rw [e2, e3, e4, e5, e6]; exact q3, by rw [e7]; exact q4, rfl, rfl, rfl, rfl, rfl, rfl, rfl⟩
theorem ins_fr {Q S : zS} {sh sh2 : List Bool} {fd fd2 : List yFd} (h : frC Q S) (h1 : insC118 Q Q sh fd) (h2 : insC175 Q Q sh2 fd2) : insC118 S S sh fd ∧ insC175 S S sh2 fd2 := by
  obtain ⟨⟨e1, e2⟩, ⟨a1, a2, a3, a4, a5, a6⟩, b1, b2, b3, b4, b5, b6⟩ := h
  constructor
  · obtain ⟨q1, ⟨c1, c2, c3, c4, c5, c6⟩, q3, q4, -⟩ := h1
    exact ⟨e1.trans q1, ⟨by rw [a1]; exact c1, by rw [a2]; exact c2, by rw [a3]; exact c3, by rw [a4]; exact c4, by rw [a5]; exact c5, by rw [a6]; exact c6⟩, by rw [a1, a2, a3, a4, a5]; exact q3, by rw [a6]; exact q4, rfl, rfl, rfl, rfl, rfl, rfl, rfl⟩
  · obtain ⟨q1, ⟨c1, c2, c3, c4, c5, c6⟩, q3, q4, -⟩ := h2
    exact ⟨e2.trans q1, ⟨by rw [b1]; exact c1, by rw [b2]; exact c2, by rw [b3]; exact c3, by rw [b4]; exact c4, by rw [b5]; exact c5, by rw [b6]; exact c6⟩, by rw [b1, b2, b3, b4, b5]; exact q3, by rw [b6]; exact q4, rfl, rfl, rfl, rfl, rfl, rfl, rfl⟩
theorem oC_check (hKe : K = 300) (hF : pFs Fs) (hD : pDr Fs En Dr) (hE : cLe En B3) (h : cDr Fs Dr N B4) (hW : cWk ev fd B) (hT : cTo to B2) (s3 : B3 ⊆ Rm) (s4 : B4 ⊆ Rm) (sN : N ⊆ Rm) : yK X 200 5000 129 [.ref 78, .int x] (B ++ (B2 ++ Rm)) 0 0 (fun w D => w = some (.int (ckA Fs Dr En K ev x).1) ∧ ∃ B' B2', D.Perm (B' ++ (B2' ++ Rm)) ∧ cWk (wkE ev (ckA Fs Dr En K ev x).2) (wkF fd (ckA Fs Dr En K ev x).2) B' ∧ cTo (wkT to (ckA Fs Dr En K ev x).2) B2') := by
  have hW0 := hW
  obtain ⟨R, rfl, rfl, h3⟩ := h.R
  obtain ⟨S, w, u, v, sh, sh2, fd2, rfl, w1, rfl, w3, w4⟩ := hW
  obtain rfl : B2 = _ := hT
  refine yK.perm ec_perm0 ?_
  refine (cK_check hKe (dr_C hF hD hE h3 s4 s3 sN) w1 w3).mono (Nat.le_refl _) (Nat.le_refl _) ?_
  rintro a D (⟨g1, rfl, rfl⟩ | ⟨r, g1, g2, rfl, rfl⟩ | ⟨r, F, S', g1, g2, g3, rfl, rfl, q1, q2, q3⟩)
  · rw [ckA, wkD_no (gI_R0 g1)]
    exact ⟨rfl, _, _, ec_perm0.symm, hW0, rfl⟩
  · obtain ⟨F, hf⟩ := hD.fo (gI_R g1)
    rw [ckA, wkD_yes (gI_R g1) hf]
    show _ = some (Value.int (if 10000 ≤ w.1.toInt then _ else _ : Int32 × Option yIn).1) ∧ ∃ B' B2', _ ∧ cWk (wkE w.1 (if 10000 ≤ w.1.toInt then _ else _ : Int32 × Option yIn).2) (wkF fd (if 10000 ≤ w.1.toInt then _ else _ : Int32 × Option yIn).2) B' ∧ cTo (wkT to (if 10000 ≤ w.1.toInt then _ else _ : Int32 × Option yIn).2) B2'
    rw [if_pos g2]
    exact ⟨rfl, _, _, ec_perm0.symm, hW0, rfl⟩
  · rw [ckA, wkD_yes (gI_R g1) g3]
    show _ = some (Value.int (if 10000 ≤ w.1.toInt then _ else _ : Int32 × Option yIn).1) ∧ ∃ B' B2', _ ∧ cWk (wkE w.1 (if 10000 ≤ w.1.toInt then _ else _ : Int32 × Option yIn).2) (wkF fd (if 10000 ≤ w.1.toInt then _ else _ : Int32 × Option yIn).2) B' ∧ cTo (wkT to (if 10000 ≤ w.1.toInt then _ else _ : Int32 × Option yIn).2) B2'
    rw [if_neg g2]
    exact ⟨rfl, _, _, ec_perm0.symm, ⟨S', _, _, _, _, sh2, fd2, rfl, q1, rfl, q2.self, ins_175 q2 w4⟩, rfl⟩
theorem oM_check (hKe : K = 300) (hF : pFs Fs) (hD : pDr Fs En Dr) (hE : mLe En B3) (h : mDr Fs Dr N B4) (hM : mFs Fs N B5) (hW : mWk ev fd to va B) (s3 : B3 ⊆ Rm) (s4 : B4 ⊆ Rm) (s5 : B5 ⊆ Rm) (sN : N ⊆ Rm) : yK X 1200 33000 293 [.ref 209, .int x] (B ++ Rm) 0 0 (fun w D => w = some (.int (ckA Fs Dr En K ev x).1) ∧ ∃ B', D.Perm (B' ++ Rm) ∧ mWk (wkE ev (ckA Fs Dr En K ev x).2) (wkF fd (ckA Fs Dr En K ev x).2) (wkT to (ckA Fs Dr En K ev x).2) va B') := by
  have hW0 := hW
  obtain ⟨S, w, u, d0, sh, fd2, rfl, w1, rfl, w3, w4, w5, rfl⟩ := hW
  refine yK.perm em_perm0 ?_
  refine (mK_check hKe (dr_M hF h hD hE hM s4 s3 s5 sN) w1 w3 w4.2.1).mono (Nat.le_refl _) (Nat.le_refl _) ?_
  rintro a D (⟨g1, rfl, rfl⟩ | ⟨d, g1, g2, rfl, rfl⟩ | ⟨d, F, fa, S', g1, g2, g3, rfl, rfl, q1, q2, q3, q4, q5⟩)
  · rw [ckA, wkD_no g1]
    exact ⟨rfl, _, em_perm0.symm, hW0⟩
  · obtain ⟨F, hf⟩ := hD.fo g1
    rw [ckA, wkD_yes g1 hf]
    show _ = some (Value.int (if 10000 ≤ w.1.toInt then _ else _ : Int32 × Option yIn).1) ∧ ∃ B', _ ∧ mWk (wkE w.1 (if 10000 ≤ w.1.toInt then _ else _ : Int32 × Option yIn).2) (wkF fd (if 10000 ≤ w.1.toInt then _ else _ : Int32 × Option yIn).2) (wkT to (if 10000 ≤ w.1.toInt then _ else _ : Int32 × Option yIn).2) _ B'
    rw [if_pos g2]
    exact ⟨rfl, _, em_perm0.symm, hW0⟩
  · rw [ckA, wkD_yes g1 g3]
    show _ = some (Value.int (if 10000 ≤ w.1.toInt then _ else _ : Int32 × Option yIn).1) ∧ ∃ B', _ ∧ mWk (wkE w.1 (if 10000 ≤ w.1.toInt then _ else _ : Int32 × Option yIn).2) (wkF fd (if 10000 ≤ w.1.toInt then _ else _ : Int32 × Option yIn).2) (wkT to (if 10000 ≤ w.1.toInt then _ else _ : Int32 × Option yIn).2) _ B'
    rw [if_neg g2]
    exact ⟨rfl, _, em_perm0.symm, S', _, _, x, _, _, rfl, q1.out, rfl, q2, q3, q4, q5⟩
end CHK
