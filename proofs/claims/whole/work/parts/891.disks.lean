/-! CALLS OVER BLOCKS: digest, export; bytes -/
section DISKB
variable {X : List Int32} {N B B2 B3 B4 B5 Rm : List xE} {Fs : List yF} {Dr : List yD} {En : List (Int64 × Int32)} {dk : List Int32} {x : Int32}
theorem and255 {a : Int32} : 0 ≤ (a &&& 255).toInt ∧ (a &&& 255).toInt ≤ 255 := by
  have e : (a &&& 255).toInt = (a.toBitVec &&& 255#32).toInt := rfl
  have hle : (a.toBitVec &&& 255#32).toNat ≤ 255 := by
    rw [BitVec.toNat_and]
    exact Nat.and_le_right
  rw [e, BitVec.toInt_eq_toNat_of_lt (by omega)]
  omega
theorem byR.app {a b : List Int32} (h : byR a) (h2 : byR b) : byR (a ++ b) := fun c hc => (List.mem_append.mp hc).elim (h c) (h2 c)
theorem byR.flat {α : Type} {l : List α} {f : α → List Int32} (h : ∀ c, byR (f c)) : byR (l.flatMap f) := fun c hc => by
  obtain ⟨a, -, ha⟩ := List.mem_flatMap.mp hc
  exact h a c ha
theorem bts_by {v : Int64} : ∀ w, byR (bts v w)
  | 0 => fun b hb => by cases hb
  | w + 1 => fun b hb => by
    rcases List.mem_cons.mp hb with rfl | hb
    · exact and255
    · exact bts_by w b hb
theorem obB_by {p : Nat} {y : yO} : byR (obB p y) := by
  have hI : byR (obI y) := by
    unfold obI
    split
    · refine byR.flat fun r => ?_
      cases r with
      | none => exact bts_by _
      | some l => exact (bts_by _).app (byR.flat fun c => bts_by _)
    · refine byR.flat fun v => ?_
      unfold itB
      split
      · exact bts_by _
      · exact bts_by _
  exact ((((bts_by _).app (bts_by _)).app (bts_by _)).app hI).app (bts_by _)
theorem drB_by {A : List (Option yO)} : ∀ k p, byR (drB A k p)
  | 0, _ => fun b hb => by cases hb
  | k + 1, p => by
    rw [drB]
    refine byR.app ?_ (drB_by k (p + 1))
    cases anR A (Int32.ofNat p) with
    | none => exact fun b hb => by cases hb
    | some y => exact obB_by
def bytD (Fs : List yF) (d : yD) : List Int32 := drB d.2.1 (((Fs[d.1]?).map fun F => F.1.length).getD 0) 0
def digV (Fs : List yF) (Dr : List yD) (x : Int32) : Int32 := match gI Dr x with
  | none => 0
  | some d => hsB 17 (bytD Fs d)
def expV (Fs : List yF) (Dr : List yD) (x : Int32) : Int32 := match gI Dr x with
  | none => -1
  | some d => if (bytD Fs d).length ≤ 1200 then Int32.ofNat (bytD Fs d).length else -3
def expT (Fs : List yF) (Dr : List yD) (dk : List Int32) (x : Int32) : List Int32 := match gI Dr x with
  | none => dk
  | some d => if (bytD Fs d).length ≤ 1200 then bytD Fs d else dk
theorem bytD_eq {d : yD} {F : yF} (h : Fs[d.1]? = some F) : drB d.2.1 F.1.length 0 = bytD Fs d := by rw [bytD, h]; rfl
theorem bytD_by {d : yD} : byR (bytD Fs d) := drB_by _ _
theorem oC_digest (hF : pFs Fs) (hD : pDr Fs En Dr) (hE : cLe En B2) (h : cDr Fs Dr N B3) (hk : cKd dk B) (s2 : B2 ⊆ Rm) (s3 : B3 ⊆ Rm) (sN : N ⊆ Rm) : yK X 10 200 120 [.ref 78, .int x] (B ++ Rm) 0 0 (fun w D => w = some (.int (digV Fs Dr x)) ∧ ∃ B', D.Perm (B' ++ Rm) ∧ cKd dk B') := by
  obtain ⟨R, rfl, rfl, h3⟩ := h.R
  obtain ⟨S, jk, bs, rfl, k1, k2, k3, k4, k5⟩ := hk
  refine (cK_digest (dr_C hF hD hE h3 s3 s2 sN) k5).mono (Nat.le_refl _) (Nat.le_refl _) ?_
  rintro w D (⟨g1, rfl, rfl⟩ | ⟨r, F, S', g1, g2, rfl, rfl, q1, q2, q3, q4, q5, q6, q7⟩)
  · rw [digV, gI_R0 g1]
    exact ⟨rfl, _, .refl _, S, jk, bs, rfl, k1, k2, k3, k4, k5⟩
  · rw [digV, gI_R g1]
    rw [bytD_eq g2] at q1 q3 ⊢
    exact ⟨rfl, _, .refl _, S', jk, _, rfl, q4.trans k1, q7.trans k2, k3, k4, q1, q2, q3, rfl, rfl, rfl, rfl⟩
theorem oM_digest (hF : pFs Fs) (hD : pDr Fs En Dr) (hE : mLe En B2) (h : mDr Fs Dr N B3) (hM : mFs Fs N B4) (hk : mKd dk B) (s2 : B2 ⊆ Rm) (s3 : B3 ⊆ Rm) (s4 : B4 ⊆ Rm) (sN : N ⊆ Rm) : yK X 10 300 278 [.ref 209, .int x] (B ++ Rm) 0 0 (fun w D => w = some (.int (digV Fs Dr x)) ∧ ∃ B', D.Perm (B' ++ Rm) ∧ mKd dk B') := by
  obtain ⟨S, jk, a, b, rfl, k1, k2, k3, k4, k5⟩ := hk
  have up : Rm ⊆ (209, .inl (14, 43, .int a)) :: (209, .inl (14, 44, .int b)) :: Rm := fun e he => List.mem_cons_of_mem _ (List.mem_cons_of_mem _ he)
  refine yK.perm (D2 := zD zTL zaL S ((209, .inl (14, 43, .int a)) :: (209, .inl (14, 44, .int b)) :: Rm)) (pq fun φ => by simp only [cn_c, cn_a, cn_n, cn_z]; omega) ?_
  refine (mK_digest (dr_M hF h hD hE hM (fun e he => up (s3 he)) (fun e he => up (s2 he)) (fun e he => up (s4 he)) (fun e he => up (sN he))) k5).mono (Nat.le_refl _) (Nat.le_refl _) ?_
  rintro w D (⟨g1, rfl, rfl⟩ | ⟨d, F, S', c', g1, g2, rfl, rfl, q1, q2, q3, q4, q5, q6, q7⟩)
  · rw [digV, g1]
    exact ⟨rfl, _, pq fun φ => by simp only [cn_c, cn_a, cn_n, cn_z]; omega, S, jk, a, b, rfl, k1, k2, k3, k4, k5⟩
  · rw [digV, g1]
    rw [bytD_eq g2]
    exact ⟨rfl, _, pq fun φ => by simp only [cn_c, cn_a, cn_n, cn_z]; omega, S', jk, a, b, rfl, q6.trans k1, q7.trans k2, k3, k4, q2⟩
theorem exD_cut {bs : List Int32} {jk : List Int32} (hl : bs.length ≤ 1200) (h : dk.length + jk.length = 1200) (hb : byR (dk ++ jk)) (hb2 : byR bs) : ∃ j2, exD bs (dk ++ jk) = bs ++ j2 ∧ bs.length + j2.length = 1200 ∧ byR (bs ++ j2) := by
  refine ⟨(dk ++ jk).drop bs.length, rfl, ?_, hb2.app (hb.drop _)⟩
  rw [List.length_drop, List.length_append]
  omega
theorem oC_export (hF : pFs Fs) (hD : pDr Fs En Dr) (hE : cLe En B2) (h : cDr Fs Dr N B3) (hk : cKd dk B) (s2 : B2 ⊆ Rm) (s3 : B3 ⊆ Rm) (sN : N ⊆ Rm) : yK X 10 300 195 [.ref 78, .int x] (B ++ Rm) 0 0 (fun w D => w = some (.int (expV Fs Dr x)) ∧ ∃ B', D.Perm (B' ++ Rm) ∧ cKd (expT Fs Dr dk x) B') := by
  obtain ⟨R, rfl, rfl, h3⟩ := h.R
  obtain ⟨S, jk, bs, rfl, k1, k2, k3, k4, k5⟩ := hk
  refine (cK_export (dr_C hF hD hE h3 s3 s2 sN) k5 (by rw [k2, List.length_append]; exact k3)).mono (Nat.le_refl _) (Nat.le_refl _) ?_
  rintro w D (⟨g1, rfl, rfl⟩ | ⟨r, F, S', g1, g2, gl, rfl, rfl, q1, q2, q3, q4, q5, q6, q7⟩ | ⟨r, F, S', g1, g2, gl, rfl, rfl, ⟨q1, q2, q3, q4⟩, q5, q6⟩)
  · rw [expV, expT, gI_R0 g1]
    exact ⟨rfl, _, .refl _, S, jk, bs, rfl, k1, k2, k3, k4, k5⟩
  · rw [expV, expT, gI_R g1]
    rw [bytD_eq g2] at gl q1 q3
    show _ = some (Value.int (if (bytD Fs r.2.2.2.2.2).length ≤ 1200 then _ else -3)) ∧ ∃ B', _ ∧ cKd (if (bytD Fs r.2.2.2.2.2).length ≤ 1200 then _ else dk) B'
    rw [if_neg (by omega), if_neg (by omega)]
    exact ⟨rfl, _, .refl _, S', jk, _, rfl, q4.trans k1, q7.trans k2, k3, k4, q1, q2, q3, rfl, rfl, rfl, rfl⟩
  · rw [expV, expT, gI_R g1]
    rw [bytD_eq g2] at gl q1 q3 q5 q6 ⊢
    show _ = some (Value.int (if (bytD Fs r.2.2.2.2.2).length ≤ 1200 then _ else -3)) ∧ ∃ B', _ ∧ cKd (if (bytD Fs r.2.2.2.2.2).length ≤ 1200 then _ else dk) B'
    rw [if_pos gl, if_pos gl]
    rw [k2] at q6
    obtain ⟨j2, e1, e2, e3⟩ := exD_cut gl k3 k4 bytD_by
    exact ⟨rfl, _, .refl _, S', j2, _, rfl, q5, q6.trans e1, e2, e3, q1, q2, q3, rfl, rfl, rfl, rfl⟩
theorem oM_export (hF : pFs Fs) (hD : pDr Fs En Dr) (hE : mLe En B2) (h : mDr Fs Dr N B3) (hM : mFs Fs N B4) (hk : mKd dk B) (s2 : B2 ⊆ Rm) (s3 : B3 ⊆ Rm) (s4 : B4 ⊆ Rm) (sN : N ⊆ Rm) : yK X 10 300 283 [.ref 209, .int x] (B ++ Rm) 0 0 (fun w D => w = some (.int (expV Fs Dr x)) ∧ ∃ B', D.Perm (B' ++ Rm) ∧ mKd (expT Fs Dr dk x) B') := by
  obtain ⟨S, jk, a, b, rfl, k1, k2, k3, k4, k5⟩ := hk
  have up : Rm ⊆ (209, .inl (14, 43, .int a)) :: (209, .inl (14, 44, .int b)) :: Rm := fun e he => List.mem_cons_of_mem _ (List.mem_cons_of_mem _ he)
  refine yK.perm (D2 := zD zTL zaL S ((209, .inl (14, 43, .int a)) :: (209, .inl (14, 44, .int b)) :: Rm)) (pq fun φ => by simp only [cn_c, cn_a, cn_n, cn_z]; omega) ?_
  refine (mK_export (dr_M hF h hD hE hM (fun e he => up (s3 he)) (fun e he => up (s2 he)) (fun e he => up (s4 he)) (fun e he => up (sN he))) (by rw [k2, List.length_append]; exact k3) k5).mono (Nat.le_refl _) (Nat.le_refl _) ?_
  rintro w D (⟨g1, rfl, rfl⟩ | ⟨d, F, S', c', g1, g2, gl, rfl, rfl, q1, q2, q3, q4, q5, q6, q7⟩ | ⟨d, F, S', c', g1, g2, gl, rfl, rfl, ⟨q1, q2, q3, q4⟩, q5, q6⟩)
  · rw [expV, expT, g1]
    exact ⟨rfl, _, pq fun φ => by simp only [cn_c, cn_a, cn_n, cn_z]; omega, S, jk, a, b, rfl, k1, k2, k3, k4, k5⟩
  · rw [expV, expT, g1]
    rw [bytD_eq g2] at gl
    show _ = some (Value.int (if (bytD Fs d).length ≤ 1200 then _ else -3)) ∧ ∃ B', _ ∧ mKd (if (bytD Fs d).length ≤ 1200 then _ else dk) B'
    rw [if_neg (by omega), if_neg (by omega)]
    exact ⟨rfl, _, pq fun φ => by simp only [cn_c, cn_a, cn_n, cn_z]; omega, S', jk, a, b, rfl, q6.trans k1, q7.trans k2, k3, k4, q2⟩
  · rw [expV, expT, g1]
    rw [bytD_eq g2] at gl q5 q6 ⊢
    show _ = some (Value.int (if (bytD Fs d).length ≤ 1200 then _ else -3)) ∧ ∃ B', _ ∧ mKd (if (bytD Fs d).length ≤ 1200 then _ else dk) B'
    rw [if_pos gl, if_pos gl]
    rw [k2] at q6
    obtain ⟨j2, e1, e2, e3⟩ := exD_cut gl k3 k4 bytD_by
    exact ⟨rfl, _, pq fun φ => by simp only [cn_c, cn_a, cn_n, cn_z]; omega, S', j2, a, b, rfl, q5, q6.trans e1, e2, e3, q2⟩
theorem feed_by {t : List Int32} {n : Int32} {fed : Int64} (h : byR t) : byR (feedT t n fed) := by
  have hf : ∀ m k, byR (fbs fed k m) := by
    intro m
    induction m with
    | zero => exact fun k b hb => by cases hb
    | succ m ih =>
      intro k b hb
      rcases List.mem_cons.mp hb with rfl | hb
      · exact and255
      · exact ih _ b hb
  rw [feedT]
  split
  · exact h
  · exact h.app (hf _ _)
end DISKB
