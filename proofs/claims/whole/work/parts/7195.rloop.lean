/-! THE REFERENCE READS EXPS: levels -/
theorem lvO_0 {c : Int32} : lvO c = Int32.ofNat 0 ↔ c = 219 := by
  constructor
  · intro h
    unfold lvO at h
    repeat' split at h
    all_goals first | assumption | exact absurd h (by decide)
  · rintro rfl; decide
theorem lvO_1 {c : Int32} : lvO c = Int32.ofNat 1 ↔ c = 220 := by
  constructor
  · intro h
    unfold lvO at h
    repeat' split at h
    all_goals first | assumption | exact absurd h (by decide)
  · rintro rfl; decide
theorem lvO_2 {c : Int32} : lvO c = Int32.ofNat 2 ↔ (c = 61 ∨ c = 60 ∨ c = 62) := by
  constructor
  · intro h
    unfold lvO at h
    repeat' split at h
    all_goals first | (left; assumption) | (right; left; assumption) | (right; right; assumption) | exact absurd h (by decide)
  · rintro (rfl | rfl | rfl) <;> decide
theorem lvO_3 {c : Int32} : lvO c = Int32.ofNat 3 ↔ (c = 43 ∨ c = 45) := by
  constructor
  · intro h
    unfold lvO at h
    repeat' split at h
    all_goals first | (left; assumption) | (right; assumption) | exact absurd h (by decide)
  · rintro (rfl | rfl) <;> decide
theorem lvO_4 {c : Int32} : lvO c = Int32.ofNat 4 ↔ (c = 42 ∨ c = 47 ∨ c = 37) := by
  constructor
  · intro h
    unfold lvO at h
    repeat' split at h
    all_goals first | (left; assumption) | (right; left; assumption) | (right; right; assumption) | exact absurd h (by decide)
  · rintro (rfl | rfl | rfl) <;> decide
def bodyQ (N : Nat) (op l1 : Int32) (g : zS → Option (Int32 × zS)) (k : Int32 → zS → Option (Int32 × zS)) (S : zS) : Option (Int32 × zS) := zb (rQ_counts N S) fun _ S1 => zb (rQ_step N S1) fun _ S2 => zb (g S2) fun x S3 => zb (rQ_node N op l1 x S3) fun y S4 => k y S4
section RLOOP
variable {N : Nat} {t : List Int32} {tk : List zK} {fg : Nat} {i : Nat} {rl : Nat → Nat → zP → zF Nat} {r1 r2 g : zS → Option (Int32 × zS)} {s : zP} {S : zS}
theorem Q_body {l f m : Nat} {op : Int32} {k : Int32 → zS → Option (Int32 × zS)} (hN : 1400 < N) (hT : tkT t tk) (hg : ∀ s S, RQ t tk i s S → zI S 23 = Int32.ofNat fg → Rq t tk i S VN T1 (rl (l + 1) i s) (g S)) (fG : FQ g) (hl4 : l ≤ 4) (hlv : lvO (kd tk s.1) = Int32.ofNat l) (hop : opO (kd tk s.1) = op) (hk : ∀ s5 n2 S5, RQ t tk i s5 S5 → zI S5 23 = Int32.ofNat fg → n2 < 300 → Rq t tk i S5 VN T1 (if l = 2 then .inl (s5, n2) else pLoop tk rl f l i n2 s5) (k (Int32.ofNat n2) S5)) (fk : ∀ x, FQ (k x)) (h : RQ t tk i s S) (h23 : zI S 23 = Int32.ofNat fg) : Rq t tk i S VN T1 (pLoop tk rl (f + 1) l i m s) (bodyQ N op (Int32.ofNat m) g k S) := by
  obtain ⟨k0, k1, _, _⟩ := lvO_kd hl4 hlv
  rw [pLoop, if_pos hlv, hop]
  have nF : ∀ (x : Int32) (q : Nat) (S3 : zS), QF q S3 → ∃ (c : Int32) (S4 : zS), (zb (rQ_node N op (Int32.ofNat m) x S3) fun y S4 => k y S4) = some (c, S4) ∧ QF q S4 ∧ eqY S3 S4 ∧ T1 c := by
    intro x q S3 hq
    obtain ⟨n, S4, _, w1, w2, w3⟩ := node_FQ (N := N) (op := op) (a := Int32.ofNat m) (b := x) hq
    obtain ⟨c, S5, y1, y2, y3⟩ := fk (Int32.ofNat n) _ _ w2
    rw [w1, zbs, y1]
    exact ⟨c, S5, rfl, y2, w3.trans y3, trivial⟩
  unfold bodyQ
  refine Rq.bind (Q_counts hT h) ?_ ?_
  · intro s1 _ _ S1 hp1 h1 x1 _
    have hs1 : s1.1 = s.1 := by obtain ⟨_, rfl⟩ := sNo_inl hp1; rfl
    obtain ⟨S2, y1, y2, y3⟩ := step_Q hN hT h1 (by rw [hs1]; exact k0) (by rw [hs1]; exact k1)
    rw [y1, zbs]
    refine Rq.base y3 ?_
    have g2 := (x1.trans y3).fg h23
    have rest : ∀ (s2 : zP) (sk : Nat), RQ t tk i s2 S2 → Rq t tk i S2 VN T1 (pb (rl (l + 1) i s2) fun s3 m' => pb (sEm s3 (doO (kd tk s.1)) 0) fun s4 _ => pb (sNd (if l < 2 then sCd s4 sk (if kd tk s.1 = 219 then 3 else 4, Int32.ofNat s4.2.2.1.length) else s4) (op, Int32.ofNat m, Int32.ofNat m', 0)) fun s5 n2 => if l = 2 then .inl (s5, n2) else pLoop tk rl f l i n2 s5) (zb (g S2) fun x S3 => zb (rQ_node N op (Int32.ofNat m) x S3) fun y S4 => k y S4) := by
      intro s2 sk h2
      refine Rq.bind (hg s2 S2 h2 g2) ?_ ?_
      · rintro s3 a xa S3 hp3 h3 x3 ⟨rfl, ha⟩
        refine Rq.em ?_
        intro en s4 _ hs4
        have h4 : RQ t tk i (if l < 2 then sCd s4 sk (if kd tk s.1 = 219 then 3 else 4, Int32.ofNat s4.2.2.1.length) else s4) S3 := by
          rw [hs4]
          split
          · exact h3
          · exact h3
        refine Rq.bind (Q_node h4) ?_ ?_
        · rintro s5 n2 xn S5 _ h5 x5 ⟨rfl, hn2⟩
          exact hk s5 n2 S5 h5 ((x3.trans x5).fg g2) hn2
        · intro _ hF; exact absurd hF id
      · intro x _ q S3 hq
        exact nF x q S3 hq
    by_cases hl2 : l < 2
    · rw [if_pos hl2]
      refine Rq.em ?_
      intro sk s2 _ hs2
      exact rest s2 sk (by rw [hs2]; exact y2)
    · rw [if_neg hl2]
      exact rest (sNx s1) 0 y2
  · intro _ _ q S1 hq
    obtain ⟨x, S2, w1, w2, w3⟩ := fG _ _ hq
    obtain ⟨c, S3, y1, y2, y3, y4⟩ := nF x q S2 w2
    rw [step_F hq, zbs, w1, zbs, y1]
    exact ⟨c, S3, rfl, y2, w3.trans y3, y4⟩
theorem Q_exp3 (hN : 1400 < N) (hT : tkT t tk) (hg : ∀ s S, RQ t tk i s S → zI S 23 = Int32.ofNat fg → Rq t tk i S VN T1 (rl (0 + 1) i s) (rQ_every r1 r2 N S)) (fG : FQ (rQ_every r1 r2 N)) : ∀ (f n m : Nat) (s : zP) (S : zS), f < n → m < 300 → RQ t tk i s S → zI S 23 = Int32.ofNat fg → Rq t tk i S VN T1 (pLoop tk rl f 0 i m s) (rQ_exp_3 r1 r2 N n (Int32.ofNat m) S)
  | 0, _, _, _, _, _, _, _, _ => trivial
  | f + 1, 0, _, _, _, h, _, _, _ => by omega
  | f + 1, n + 1, m, s, S, hf, hm, h, h23 => by
    rw [rQ_exp_3, good_G h, zbs, if_neg i10, isWord_G (j := 19) hN hT rfl h, zbs]
    by_cases hc : kd tk s.1 = 219
    · rw [if_pos (show kd tk s.1 = Int32.ofNat (200 + 19) from hc), if_neg i10]
      exact Q_body (k := rQ_exp_3 r1 r2 N n) hN hT hg fG (by omega) (lvO_0.mpr hc) (by rw [hc]; rfl) (fun s5 n2 S5 h5 g5 hn2 => Q_exp3 hN hT hg fG f n n2 s5 S5 (by omega) hn2 h5 g5) (fun x => FQ_exp3 (by omega)) h h23
    · rw [if_neg (show ¬ kd tk s.1 = Int32.ofNat (200 + 19) from hc), if_pos rfl, pLoop, if_neg (fun hh => hc (lvO_0.mp hh))]
      exact ⟨_, S, rfl, h, eqY.refl, rfl, hm⟩
theorem Q_every3 (hN : 1400 < N) (hT : tkT t tk) (hg : ∀ s S, RQ t tk i s S → zI S 23 = Int32.ofNat fg → Rq t tk i S VN T1 (rl (1 + 1) i s) (rQ_comp r1 r2 N S)) (fG : FQ (rQ_comp r1 r2 N)) : ∀ (f n m : Nat) (s : zP) (S : zS), f < n → m < 300 → RQ t tk i s S → zI S 23 = Int32.ofNat fg → Rq t tk i S VN T1 (pLoop tk rl f 1 i m s) (rQ_every_3 r1 r2 N n (Int32.ofNat m) S)
  | 0, _, _, _, _, _, _, _, _ => trivial
  | f + 1, 0, _, _, _, h, _, _, _ => by omega
  | f + 1, n + 1, m, s, S, hf, hm, h, h23 => by
    rw [rQ_every_3, good_G h, zbs, if_neg i10, isWord_G (j := 20) hN hT rfl h, zbs]
    by_cases hc : kd tk s.1 = 220
    · rw [if_pos (show kd tk s.1 = Int32.ofNat (200 + 20) from hc), if_neg i10]
      exact Q_body (k := rQ_every_3 r1 r2 N n) hN hT hg fG (by omega) (lvO_1.mpr hc) (by rw [hc]; rfl) (fun s5 n2 S5 h5 g5 hn2 => Q_every3 hN hT hg fG f n n2 s5 S5 (by omega) hn2 h5 g5) (fun x => FQ_every3 (by omega)) h h23
    · rw [if_neg (show ¬ kd tk s.1 = Int32.ofNat (200 + 20) from hc), if_pos rfl, pLoop, if_neg (fun hh => hc (lvO_1.mp hh))]
      exact ⟨_, S, rfl, h, eqY.refl, rfl, hm⟩
theorem Q_sum3 (hN : 1400 < N) (hT : tkT t tk) (hg : ∀ s S, RQ t tk i s S → zI S 23 = Int32.ofNat fg → Rq t tk i S VN T1 (rl (3 + 1) i s) (rQ_prod r1 r2 N S)) (fG : FQ (rQ_prod r1 r2 N)) : ∀ (f n m : Nat) (s : zP) (S : zS), f < n → m < 300 → RQ t tk i s S → zI S 23 = Int32.ofNat fg → Rq t tk i S VN T1 (pLoop tk rl f 3 i m s) (rQ_sum_3 r1 r2 N n (Int32.ofNat m) S)
  | 0, _, _, _, _, _, _, _, _ => trivial
  | f + 1, 0, _, _, _, h, _, _, _ => by omega
  | f + 1, n + 1, m, s, S, hf, hm, h, h23 => by
    rw [rQ_sum_3, good_G h, zbs, if_neg i10, isSign_G hT (by decide) h, zbs, isSign_G hT (by decide) h, zbs, isSign_G hT (by decide) h, zbs, isSign_G hT (by decide) h, zbs]
    have B : ∀ op, lvO (kd tk s.1) = Int32.ofNat 3 → opO (kd tk s.1) = op → Rq t tk i S VN T1 (pLoop tk rl (f + 1) 3 i m s) (rQ_sum_21 r1 r2 N (rQ_sum_3 r1 r2 N n) (Int32.ofNat m) op S) := fun op h1 h2 => Q_body (k := rQ_sum_3 r1 r2 N n) hN hT hg fG (by omega) h1 h2 (fun s5 n2 S5 h5 g5 hn2 => Q_sum3 hN hT hg fG f n n2 s5 S5 (by omega) hn2 h5 g5) (fun x => FQ_sum3 (by omega)) h h23
    by_cases hc : kd tk s.1 = 43
    · simp only [if_pos hc]
      rw [if_pos i11, if_neg i10]
      exact B 15 (lvO_3.mpr (Or.inl hc)) (by rw [hc]; rfl)
    · simp only [if_neg hc]
      by_cases hd : kd tk s.1 = 45
      · rw [if_neg i00, if_pos hd, if_neg i10, if_pos trivial]
        exact B 16 (lvO_3.mpr (Or.inr hd)) (by rw [hd]; rfl)
      · rw [if_neg i00, if_neg hd, if_pos rfl, pLoop, if_neg (fun hh => (lvO_3.mp hh).elim hc hd)]
        exact ⟨_, S, rfl, h, eqY.refl, rfl, hm⟩
theorem Q_prod3 (hN : 1400 < N) (hT : tkT t tk) (hg : ∀ s S, RQ t tk i s S → zI S 23 = Int32.ofNat fg → Rq t tk i S VN T1 (rl (4 + 1) i s) (r2 S)) (fG : FQ r2) : ∀ (f n m : Nat) (s : zP) (S : zS), f < n → m < 300 → RQ t tk i s S → zI S 23 = Int32.ofNat fg → Rq t tk i S VN T1 (pLoop tk rl f 4 i m s) (rQ_prod_3 r1 r2 N n (Int32.ofNat m) S)
  | 0, _, _, _, _, _, _, _, _ => trivial
  | f + 1, 0, _, _, _, h, _, _, _ => by omega
  | f + 1, n + 1, m, s, S, hf, hm, h, h23 => by
    have B : ∀ op, lvO (kd tk s.1) = Int32.ofNat 4 → opO (kd tk s.1) = op → Rq t tk i S VN T1 (pLoop tk rl (f + 1) 4 i m s) (rQ_prod_31 r1 r2 N (rQ_prod_3 r1 r2 N n) (Int32.ofNat m) op S) := fun op h1 h2 => Q_body (k := rQ_prod_3 r1 r2 N n) hN hT hg fG (by omega) h1 h2 (fun s5 n2 S5 h5 g5 hn2 => Q_prod3 hN hT hg fG f n n2 s5 S5 (by omega) hn2 h5 g5) (fun x => FQ_prod3 (by omega)) h h23
    have B2 : lvO (kd tk s.1) = Int32.ofNat 4 → Rq t tk i S VN T1 (pLoop tk rl (f + 1) 4 i m s) (rQ_prod_18 r1 r2 N (rQ_prod_3 r1 r2 N n) (Int32.ofNat m) S) := by
      intro hlv
      rw [rQ_prod_18, isSign_G hT (by decide) h, zbs, isSign_G hT (by decide) h, zbs]
      rcases lvO_4.mp hlv with hc | hc | hc
      · rw [if_pos hc, if_neg i10]
        exact B 17 hlv (by rw [hc]; rfl)
      · rw [if_neg (show ¬ kd tk s.1 = 42 by rw [hc]; decide), if_pos rfl, if_pos hc, if_neg i10]
        exact B 18 hlv (by rw [hc]; rfl)
      · rw [if_neg (show ¬ kd tk s.1 = 42 by rw [hc]; decide), if_pos rfl, if_neg (show ¬ kd tk s.1 = 47 by rw [hc]; decide), if_pos rfl]
        exact B 19 hlv (by rw [hc]; rfl)
    rw [rQ_prod_3, good_G h, zbs, if_neg i10, isSign_G hT (by decide) h, zbs, isSign_G hT (by decide) h, zbs, isSign_G hT (by decide) h, zbs]
    by_cases hc : kd tk s.1 = 42
    · rw [if_pos hc, if_pos i11]
      exact B2 (lvO_4.mpr (Or.inl hc))
    · rw [if_neg hc, if_neg i00]
      by_cases hd : kd tk s.1 = 47
      · rw [if_pos hd, if_pos i11]
        exact B2 (lvO_4.mpr (Or.inr (Or.inl hd)))
      · rw [if_neg hd, if_neg i00]
        by_cases he : kd tk s.1 = 37
        · rw [if_pos he, if_neg i10]
          exact B2 (lvO_4.mpr (Or.inr (Or.inr he)))
        · rw [if_neg he, if_pos rfl, pLoop, if_neg (fun hh => (lvO_4.mp hh).elim hc (fun h => h.elim hd he))]
          exact ⟨_, S, rfl, h, eqY.refl, rfl, hm⟩
theorem Q_compR (hN : 1400 < N) (hT : tkT t tk) (hg : ∀ s S, RQ t tk i s S → zI S 23 = Int32.ofNat fg → Rq t tk i S VN T1 (rl (2 + 1) i s) (rQ_sum r1 r2 N S)) (fG : FQ (rQ_sum r1 r2 N)) {f m : Nat} (hm : m < 300) (h : RQ t tk i s S) (h23 : zI S 23 = Int32.ofNat fg) : Rq t tk i S VN T1 (pLoop tk rl (f + 1) 2 i m s) (zb (rQ_good N  S) fun x4 S5 => (if x4 = (0 : Int32) then some (Int32.ofNat m, S5) else (zb (rQ_isSign N 61 S5) fun x7 S8 => (if x7 ≠ (0 : Int32) then rQ_comp_18 r1 r2 N (Int32.ofNat m) S8 else (zb (rQ_isSign N 60 S8) fun x28 S29 => (if x28 ≠ (0 : Int32) then rQ_comp_18 r1 r2 N (Int32.ofNat m) S29 else (zb (rQ_isSign N 62 S29) fun x31 S32 => (if x31 = (0 : Int32) then some (Int32.ofNat m, S32) else rQ_comp_18 r1 r2 N (Int32.ofNat m) S32)))))))) := by
  have B : ∀ op, lvO (kd tk s.1) = Int32.ofNat 2 → opO (kd tk s.1) = op → Rq t tk i S VN T1 (pLoop tk rl (f + 1) 2 i m s) (rQ_comp_31 r1 r2 N (Int32.ofNat m) op S) := fun op h1 h2 => Q_body (k := fun x S => some (x, S)) hN hT hg fG (by omega) h1 h2 (fun s5 n2 S5 h5 g5 hn2 => by
      rw [if_pos rfl]
      exact ⟨_, S5, rfl, h5, eqY.refl, rfl, hn2⟩) (fun x q S hq => ⟨x, S, rfl, hq, eqY.refl⟩) h h23
  have B2 : lvO (kd tk s.1) = Int32.ofNat 2 → Rq t tk i S VN T1 (pLoop tk rl (f + 1) 2 i m s) (rQ_comp_18 r1 r2 N (Int32.ofNat m) S) := by
    intro hlv
    rw [rQ_comp_18, isSign_G hT (by decide) h, zbs, isSign_G hT (by decide) h, zbs]
    rcases lvO_2.mp hlv with hc | hc | hc
    · rw [if_pos hc, if_neg i10]
      exact B 20 hlv (by rw [hc]; rfl)
    · rw [if_neg (show ¬ kd tk s.1 = 61 by rw [hc]; decide), if_pos rfl, if_pos hc, if_neg i10]
      exact B 21 hlv (by rw [hc]; rfl)
    · rw [if_neg (show ¬ kd tk s.1 = 61 by rw [hc]; decide), if_pos rfl, if_neg (show ¬ kd tk s.1 = 60 by rw [hc]; decide), if_pos rfl]
      exact B 22 hlv (by rw [hc]; rfl)
  rw [good_G h, zbs, if_neg i10, isSign_G hT (by decide) h, zbs, isSign_G hT (by decide) h, zbs, isSign_G hT (by decide) h, zbs]
  by_cases hc : kd tk s.1 = 61
  · rw [if_pos hc, if_pos i11]
    exact B2 (lvO_2.mpr (Or.inl hc))
  · rw [if_neg hc, if_neg i00]
    by_cases hd : kd tk s.1 = 60
    · rw [if_pos hd, if_pos i11]
      exact B2 (lvO_2.mpr (Or.inr (Or.inl hd)))
    · rw [if_neg hd, if_neg i00]
      by_cases he : kd tk s.1 = 62
      · rw [if_pos he, if_neg i10]
        exact B2 (lvO_2.mpr (Or.inr (Or.inr he)))
      · rw [if_neg he, if_pos rfl, pLoop, if_neg (fun hh => (lvO_2.mp hh).elim hc (fun h => h.elim hd he))]
        exact ⟨_, S, rfl, h, eqY.refl, rfl, hm⟩
end RLOOP
def Lv (r1 r2 : zS → Option (Int32 × zS)) (N : Nat) : Nat → zS → Option (Int32 × zS)
  | 0 => rQ_exp r1 r2 N
  | 1 => rQ_every r1 r2 N
  | 2 => rQ_comp r1 r2 N
  | 3 => rQ_sum r1 r2 N
  | 4 => rQ_prod r1 r2 N
  | _ => r2
theorem Q_fix {N : Nat} {t : List Int32} {tk : List zK} {fg : Nat} (hN : 1400 < N) (hT : tkT t tk) : ∀ d : Nat, (∀ l i n s S, l ≤ 5 → i ≤ 10 → 23 ≤ n + 2 * i → RQ t tk i s S → zI S 23 = Int32.ofNat fg → Rq t tk i S VN T1 ((pFix tk fg d).1 l i s) (Lv (rQ_fix N n).1 (rQ_fix N n).2 N l S)) ∧ (∀ i n s S, i ≤ 10 → 23 ≤ n + 2 * i → RQ t tk i s S → zI S 23 = Int32.ofNat fg → Rq t tk i S VN T1 ((pFix tk fg d).2 i s) ((rQ_fix N n).2 S))
  | 0 => ⟨fun _ _ _ _ _ _ _ _ _ _ => trivial, fun _ _ _ _ _ _ _ _ => trivial⟩
  | d + 1 => by
    obtain ⟨h1, h2⟩ := Q_fix (fg := fg) hN hT d
    obtain ⟨e1, e2⟩ := E_fix (tk := tk) (fg := fg) d
    refine ⟨?_, ?_⟩
    · intro l i n s S hl hi hn h h23
      have f2 : FQ (rQ_fix N n).2 := (FQ_fix (by omega) n).2 (by omega)
      show Rq t tk i S VN T1 (pLevel tk (pFix tk fg d).1 (pFix tk fg d).2 l i s) _
      unfold pLevel
      match l, hl with
      | 0, _ =>
        rw [if_pos (by omega)]
        show Rq t tk i S VN T1 _ (rQ_exp (rQ_fix N n).1 (rQ_fix N n).2 N S)
        unfold rQ_exp
        refine Rq.bind (h1 1 i n s S (by omega) hi hn h h23) ?_ ?_
        · rintro s2 m x S2 _ g2 x2 ⟨rfl, hm⟩
          exact Q_exp3 hN hT (fun s S hs hh => h1 1 i n s S (by omega) hi hn hs hh) (FQ_every (by omega) f2) 251 N m s2 S2 (by omega) hm g2 (x2.fg h23)
        · intro x _ q S2 hq
          obtain ⟨c, S3, k1, k2, k3⟩ := FQ_exp3 (r1 := (rQ_fix N n).1) (r2 := (rQ_fix N n).2) (N := N) (n := N) (by omega) (x := x) q S2 hq
          exact ⟨c, S3, k1, k2, k3, trivial⟩
      | 1, _ =>
        rw [if_pos (by omega)]
        show Rq t tk i S VN T1 _ (rQ_every (rQ_fix N n).1 (rQ_fix N n).2 N S)
        unfold rQ_every
        refine Rq.bind (h1 2 i n s S (by omega) hi hn h h23) ?_ ?_
        · rintro s2 m x S2 _ g2 x2 ⟨rfl, hm⟩
          exact Q_every3 hN hT (fun s S hs hh => h1 2 i n s S (by omega) hi hn hs hh) (FQ_comp (by omega) f2) 251 N m s2 S2 (by omega) hm g2 (x2.fg h23)
        · intro x _ q S2 hq
          obtain ⟨c, S3, k1, k2, k3⟩ := FQ_every3 (r1 := (rQ_fix N n).1) (r2 := (rQ_fix N n).2) (N := N) (n := N) (by omega) (x := x) q S2 hq
          exact ⟨c, S3, k1, k2, k3, trivial⟩
      | 2, _ =>
        rw [if_pos (by omega)]
        show Rq t tk i S VN T1 _ (rQ_comp (rQ_fix N n).1 (rQ_fix N n).2 N S)
        unfold rQ_comp
        refine Rq.bind (h1 3 i n s S (by omega) hi hn h h23) ?_ ?_
        · rintro s2 m x S2 _ g2 x2 ⟨rfl, hm⟩
          exact Q_compR hN hT (fun s S hs hh => h1 3 i n s S (by omega) hi hn hs hh) (FQ_sum (by omega) f2) hm g2 (x2.fg h23)
        · intro x _ q S2 hq
          rw [good_F hq, zbs, if_pos rfl]
          exact ⟨x, S2, rfl, hq, eqY.refl, trivial⟩
      | 3, _ =>
        rw [if_pos (by omega)]
        show Rq t tk i S VN T1 _ (rQ_sum (rQ_fix N n).1 (rQ_fix N n).2 N S)
        unfold rQ_sum
        refine Rq.bind (h1 4 i n s S (by omega) hi hn h h23) ?_ ?_
        · rintro s2 m x S2 _ g2 x2 ⟨rfl, hm⟩
          exact Q_sum3 hN hT (fun s S hs hh => h1 4 i n s S (by omega) hi hn hs hh) (FQ_prod (by omega) f2) 251 N m s2 S2 (by omega) hm g2 (x2.fg h23)
        · intro x _ q S2 hq
          obtain ⟨c, S3, k1, k2, k3⟩ := FQ_sum3 (r1 := (rQ_fix N n).1) (r2 := (rQ_fix N n).2) (N := N) (n := N) (by omega) (x := x) q S2 hq
          exact ⟨c, S3, k1, k2, k3, trivial⟩
      | 4, _ =>
        rw [if_pos (by omega)]
        show Rq t tk i S VN T1 _ (rQ_prod (rQ_fix N n).1 (rQ_fix N n).2 N S)
        unfold rQ_prod
        refine Rq.bind (h1 5 i n s S (by omega) hi hn h h23) ?_ ?_
        · rintro s2 m x S2 _ g2 x2 ⟨rfl, hm⟩
          exact Q_prod3 hN hT (fun s S hs hh => h1 5 i n s S (by omega) hi hn hs hh) f2 251 N m s2 S2 (by omega) hm g2 (x2.fg h23)
        · intro x _ q S2 hq
          obtain ⟨c, S3, k1, k2, k3⟩ := FQ_prod3 (r1 := (rQ_fix N n).1) (r2 := (rQ_fix N n).2) (N := N) (n := N) (by omega) (x := x) q S2 hq
          exact ⟨c, S3, k1, k2, k3, trivial⟩
      | 5, _ =>
        rw [if_neg (by omega)]
        exact h2 i n s S hi hn h h23
    · intro i n s S hi hn h h23
      obtain ⟨n, rfl⟩ : ∃ k, n = k + 1 := ⟨n - 1, by omega⟩
      refine Q_one hN hT hi ?_ ?_ e1 ((FQ_fix (by omega) n).1 (by omega)) ((FQ_fix (by omega) n).2 (by omega)) h h23
      · intro hi10 s S hs hh
        obtain ⟨n, rfl⟩ : ∃ k, n = k + 1 := ⟨n - 1, by omega⟩
        exact h1 0 (i + 1) n s S (by omega) (by omega) (by omega) hs hh
      · intro hi10 s S hs hh
        exact h2 (i + 1) n s S (by omega) (by omega) hs hh
