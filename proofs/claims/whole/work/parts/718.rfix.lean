/-! THE REFERENCE READS EXPS: the knot -/
theorem sSn_same {s : zP} {n : Nat} {x : yNd} (h : s.2.2.2.1[n]? = some x) : sSn s n x = s := by
  unfold sSn
  rw [set_same h]
theorem sEm_or {s : zP} {d w : Int32} : sEm s d w = .inr none ∨ ∃ c, sEm s d w = .inl ((s.1, s.2.1, s.2.2.1 ++ [(d, w)], s.2.2.2), c) := by
  unfold sEm
  split
  · exact Or.inr ⟨_, rfl⟩
  · exact Or.inl rfl
section RFIX
variable {N : Nat} {t : List Int32} {tk : List zK} {fg : Nat} {i : Nat} {rl : Nat → Nat → zP → zF Nat} {ro : Nat → zP → zF Nat} {r1 r2 : zS → Option (Int32 × zS)} {s : zP} {S : zS}
theorem Rq.cd {γ δ : Type} {W : γ → δ → Prop} {G : γ → Prop} {i' : Nat} {f : zP → Unit → zF δ} {g : Unit → zS → Option (γ × zS)} (hT : tkT t tk) (hi : i ≤ 10) (h : RQ t tk i s S) (hg : i < 10 → ∀ S1, RQ t tk (i + 1) (s.1, s.2.1 + 1, s.2.2) S1 → eqY S S1 → Rq t tk i' S1 W G (f (s.1, s.2.1 + 1, s.2.2) ()) (g () S1)) (hf : ∀ q S1, QF q S1 → ∃ c S2, g () S1 = some (c, S2) ∧ QF q S2 ∧ eqY S1 S2 ∧ G c) : Rq t tk i' S W G (pb (pEnter i s) fun s _ => pb (sNo s) f) (zb (rQ_counts N S) fun _ S1 => zb (rQ_deeper N S1) g) := by
  have hC := Q_counts (N := N) hT h
  unfold sNo at hC
  by_cases hn : s.2.1 < 250
  · rw [if_pos hn] at hC
    obtain ⟨_, S1, q1, q2, q3, _⟩ := hC
    have hD := Q_deeper (N := N) hT hi q2
    rw [q1, zbs]
    unfold pEnter at hD ⊢
    by_cases h10 : i < 10
    · rw [if_pos h10] at hD ⊢
      obtain ⟨_, S2, w1, w2, w3, _⟩ := hD
      rw [w1, zbs]
      show Rq t tk i' S W G (pb (sNo s) f) _
      unfold sNo
      rw [if_pos hn]
      exact Rq.base (q3.trans w3) (hg h10 S2 w2 (q3.trans w3))
    · rw [if_neg h10] at hD ⊢
      obtain ⟨_, S2, w1, w2, w3, _⟩ := hD
      obtain ⟨c, S3, k1, k2, k3, k4⟩ := hf _ _ w2
      rw [w1, zbs, k1]
      exact ⟨c, S3, rfl, k2, (q3.trans w3).trans k3, k4⟩
  · rw [if_neg hn] at hC
    obtain ⟨_, S1, q1, q2, q3, _⟩ := hC
    obtain ⟨S2, w1, w2, w3⟩ := deeper_F (N := N) q2
    obtain ⟨c, S3, k1, k2, k3, k4⟩ := hf _ _ w2
    have hp : (pb (pEnter i s) fun s _ => pb (sNo s) f) = .inr (some s.1) := by
      unfold pEnter
      split
      · show pb (sNo s) f = _
        unfold sNo
        rw [if_neg hn]; rfl
      · rfl
    rw [hp, q1, zbs, w1, zbs, k1]
    exact ⟨c, S3, rfl, k2, (q3.trans w3).trans k3, k4⟩
/-- len, has, is, total: from the NODE of the word on -/
theorem Q_asked2 (hN : 1400 < N) (hT : tkT t tk) {d so n : Nat} (hd : d ≠ 11) (hn : n < 300) (h : RQ t tk i s S) (hg : zI S 23 = Int32.ofNat fg) : Rq t tk i S VN T1 (pAsked2 tk rl d i so n s) (zb (rQ_refer N (Int32.ofNat n) 0 S) fun _ S26 => some (Int32.ofNat n, S26)) := by
  unfold pAsked2
  have e : (pb (sNo s) fun s_1 _ => pb (pUse tk 0 n s_1) fun s1 u => if d = 11 ∧ kd tk s1.1 = 91 then pb (pBetween rl i s1) fun s2 a => pb (pWant tk 93 (sSn s2 n (9, 0, Int32.ofNat a, 0))) fun s3 _ => pEnd 14 0 u (pl tk s_1.1, va tk s_1.1, 0, none, n) n s3 else pEnd (Int32.ofNat d) (Int32.ofNat so) u (pl tk s_1.1, va tk s_1.1, 0, none, n) n s1) = pb (pb (sNo s) fun s _ => pUse tk 0 n s) fun s1 u => pEnd (Int32.ofNat d) (Int32.ofNat so) u (pl tk s.1, va tk s.1, 0, none, n) n s1 := by
    rw [pb_assoc]
    unfold sNo
    split
    · show pb (pUse tk 0 n _) _ = pb (pUse tk 0 n _) _
      congr 1
      funext s1 u
      rw [if_neg (fun hh => hd hh.1)]
    · rfl
  rw [e]
  refine Rq.bind (Q_refer (n := n) (told := 0) (al := 0) hN hT (Or.inl ⟨rfl, rfl⟩) h hg) ?_ ?_
  · intro s3 u _ S3 hp3 h3 x3 _
    have hu3 : s3.2.2.2.2[u]? = some (pl tk s.1, va tk s.1, 0, none, n) := by
      obtain ⟨s2, _, q1, q2⟩ := pb_inl hp3
      obtain ⟨_, rfl⟩ := sNo_inl q1
      obtain ⟨_, _, rfl, rfl⟩ := pUse_inl q2
      simp [sNx]
    exact Q_end (o' := none) hn h3 hu3
  · intro _ _ q S3 hq
    exact ⟨_, S3, rfl, hq, eqY.refl, trivial⟩
theorem Q_asked89 (hN : 1400 < N) (hT : tkT t tk) {d : Nat} {op : Int32} (hd : d = 8 ∧ op = 5 ∨ d = 9 ∧ op = 6) (hk : kd tk s.1 ≠ 0 ∧ kd tk s.1 ≠ 1) (h : RQ t tk i s S) (hg : zI S 23 = Int32.ofNat fg) : Rq t tk i S VN T1 (pAsked tk rl d i s) (zb (rQ_node N op 0 0 S) fun x16 S17 => (zb (rQ_counts N S17) fun _ S20 => (zb (rQ_step N S20) fun _ S23 => (zb (rQ_refer N x16 0 S23) fun _ S26 => some (x16, S26))))) := by
  have hop : Int32.ofNat (d - 3) = op ∧ d ≠ 10 ∧ d ≠ 11 := by rcases hd with ⟨rfl, rfl⟩ | ⟨rfl, rfl⟩ <;> decide
  unfold pAsked
  rw [hop.1]
  refine Rq.bind (Q_node h) ?_ ?_
  · rintro s1 n x S1 hp1 h1 x1 ⟨rfl, hn⟩
    have hs1 : s1.1 = s.1 ∧ s1.2.2.2.1[n]? = some (op, 0, 0, 0) := by
      obtain ⟨_, rfl, rfl⟩ := sNd_inl hp1
      exact ⟨rfl, by simp⟩
    refine Rq.bind (Q_counts hT h1) ?_ ?_
    · intro s2 _ _ S2 hp2 h2 x2 _
      obtain ⟨_, rfl⟩ := sNo_inl hp2
      obtain ⟨S3, q1, q2, q3⟩ := step_Q hN hT h2 (by show kd tk s1.1 ≠ 0; rw [hs1.1]; exact hk.1) (by show kd tk s1.1 ≠ 1; rw [hs1.1]; exact hk.2)
      rw [if_neg hop.2.1, q1, zbs]
      show Rq t tk i S2 VN T1 (pAsked2 tk rl d i 0 n (sSn (sNx (s1.1, s1.2.1 + 1, s1.2.2)) n (op, 0, Int32.ofNat 0, 0))) _
      rw [sSn_same (show (sNx (s1.1, s1.2.1 + 1, s1.2.2)).2.2.2.1[n]? = some (op, 0, Int32.ofNat 0, 0) from hs1.2)]
      exact Rq.base q3 (Q_asked2 hN hT hop.2.2 hn q2 (((x1.trans x2).trans q3).fg hg))
    · intro _ _ q S2 hq
      obtain ⟨S3, w1, w2, w3⟩ := refer_F (N := N) (n := Int32.ofNat n) (a := 0) hq
      rw [step_F hq, zbs, w1, zbs]
      exact ⟨_, S3, rfl, w2, w3, trivial⟩
  · intro _ hF; exact absurd hF id
/-- what follows when the sort is known -/
def srtE (N : Nat) (x v : Int32) (S : zS) : Option (Int32 × zS) := (if v ≠ ((-9) : Int32) then (if zok (zA S 36) x then (zb (rQ_step N (zsA S 36 (zs (zA S 36) x v))) fun _ S11 => (zb (rQ_refer N x 0 S11) fun _ S14 => some (x, S14))) else none) else (zb (rQ_wrong N S) fun _ S17 => (if zok (zA S17 36) x then (zb (rQ_step N (zsA S17 36 (zs (zA S17 36) x v))) fun _ S20 => (zb (rQ_refer N x 0 S20) fun _ S23 => some (x, S23))) else none)))
theorem Q_sort14 {q : Nat} (hN : 1400 < N) (hTp : refTape t S) (hK : refTok t S q) {x : Int32} : ∀ (m f k : Nat) (l2 : Int32), k + m = 8 → m < f → (l2 = if 228 ≤ (kdAt t q).toInt ∧ (kdAt t q).toInt < 228 + k then kdAt t q - 228 else -9) → rQ_sorted_14 N f x l2 (Int32.ofNat k) S = srtE N x (if 228 ≤ (kdAt t q).toInt ∧ (kdAt t q).toInt ≤ 235 then kdAt t q - 228 else -9) S
  | m, 0, _, _, _, h, _ => by omega
  | 0, f + 1, k, l2, hk, _, h2 => by
    obtain rfl : k = 8 := by omega
    have hl : l2 = if 228 ≤ (kdAt t q).toInt ∧ (kdAt t q).toInt ≤ 235 then kdAt t q - 228 else -9 := by
      rw [h2]
      by_cases hc : 228 ≤ (kdAt t q).toInt ∧ (kdAt t q).toInt ≤ 235
      · rw [if_pos (by omega), if_pos hc]
      · rw [if_neg (by omega), if_neg hc]
    rw [← hl, rQ_sorted_14, if_pos (by decide)]
    rfl
  | m + 1, f + 1, k, l2, hk, hf, h2 => by
    have hj : ∃ bs, zwords[28 + k]? = some bs := ⟨_, List.getElem?_eq_getElem (show 28 + k < 36 by omega)⟩
    obtain ⟨bs, hbs⟩ := hj
    have hlt := (kdAt t q).toInt_lt
    rw [rQ_sorted_14, if_neg (by rw [yi_nat (by omega)]; omega), show (28 : Int32) = Int32.ofNat 28 from rfl, yi_add, gI_nat (by omega), hbs, zgs, rS_isWord_ok hN hTp hK hbs, zbs, yi_add1]
    by_cases hkd : kdAt t q = Int32.ofNat (200 + (28 + k))
    · have hki : (kdAt t q).toInt = 228 + k := by rw [hkd, yi_nat (by omega)]; omega
      rw [if_pos hkd, if_neg i10, Q_sort14 hN hTp hK m f (k + 1) _ (by omega) (by omega)]
      rw [if_pos (by omega), xi32_eq, yi_sub (by rw [show (228 : Int32).toInt = 228 by decide]; omega) (by rw [show (228 : Int32).toInt = 228 by decide]; omega), yi_nat (by omega), show (228 : Int32).toInt = 228 by decide]
      omega
    · have hki : ¬ (kdAt t q).toInt = 228 + k := fun hh => hkd (by rw [xi32_eq, hh, yi_nat (by omega)]; omega)
      rw [if_neg hkd, if_pos rfl, Q_sort14 hN hTp hK m f (k + 1) _ (by omega) (by omega)]
      rw [h2]
      by_cases hc : 228 ≤ (kdAt t q).toInt ∧ (kdAt t q).toInt < 228 + k
      · rw [if_pos hc, if_pos (by omega)]
      · rw [if_neg hc, if_neg (by omega)]
theorem srtE_F {n q : Nat} {v : Int32} (hn : n < 300) (hq : QF q S) : ∃ (c : Int32) (S3 : zS), srtE N (Int32.ofNat n) v S = some (c, S3) ∧ QF q S3 ∧ eqY S S3 ∧ T1 c := by
  obtain ⟨y1, y2, y3⟩ := two_W (S := S) (n := n) (x := v) hq.1 hn
  have hq2 : QF q (zsA S 36 (zs (zA S 36) (Int32.ofNat n) v)) := ⟨y2, hq.2.1, hq.2.2⟩
  obtain ⟨S5, k1, k2, k3⟩ := refer_F (N := N) (n := Int32.ofNat n) (a := 0) hq2
  unfold srtE
  rw [wrong_F hq, zbs, if_pos y1, step_F hq2, zbs, k1, zbs, ite_self]
  exact ⟨_, S5, rfl, k2, y3.trans k3, trivial⟩
theorem counts_K (hT : tkT t tk) (h : RQ t tk i s S) (hn : ¬ s.2.1 < 250) : ∃ S', rQ_counts N S = some ((), S') ∧ QF (pl tk s.1) S' ∧ eqY S S' ∧ ∀ q, refTok t S q → refTok t S' q := by
  obtain ⟨τ, g1, g2, g3, g4, g5⟩ := h.kdp hT
  have h5 := h.2.2.2.2.2.1.2
  have hs : s.2.1 = 250 := by omega
  have e31 := h.2.2.2.2.2.1.1
  have hq : QF (pl tk s.1) (zsI S 6 (zI S 3)) := ⟨h.1, by rw [g3]; exact g5, by rw [zi_I, if_pos rfl, g4.2.1, g3]⟩
  rw [rQ_counts, good_G h, zbs, if_neg (by decide), e31, hs, if_neg (by decide), rQ_wrong, if_neg (by rw [h.2.1]; decide), zbs, rQ_counts_10, good_F hq, zbs, if_pos rfl]
  exact ⟨_, rfl, hq, ⟨fun j _ _ _ _ h6 _ _ h31 _ => by rw [zi_I, if_neg h31, zi_I, if_neg h6], fun _ _ _ _ _ _ _ => rfl, fun _ _ _ => rfl⟩, fun q hk => hk⟩
theorem Q_sorted (hN : 1400 < N) (hT : tkT t tk) (hk : kd tk s.1 = 224) (h : RQ t tk i s S) (hg : zI S 23 = Int32.ofNat fg) : Rq t tk i S VN T1 (pAsked tk rl 10 i s) (rQ_sorted N S) := by
  unfold pAsked rQ_sorted
  rw [show Int32.ofNat (10 - 3) = 7 from rfl]
  refine Rq.bind (Q_node h) ?_ ?_
  · rintro s1 n x S1 hp1 h1 x1 ⟨rfl, hn⟩
    have hs1 : s1.1 = s.1 ∧ s1.2.2.2.1[n]? = some (7, 0, 0, 0) := by
      obtain ⟨_, rfl, rfl⟩ := sNd_inl hp1
      exact ⟨rfl, by simp⟩
    by_cases hnn : s1.2.1 < 250
    · have hC := Q_counts (N := N) hT h1
      unfold sNo at hC ⊢
      rw [if_pos hnn] at hC ⊢
      obtain ⟨_, S2, c1, h2, x2, _⟩ := hC
      rw [c1, zbs]
      refine Rq.base x2 ?_
      show Rq t tk i S2 VN T1 (pb (if 10 = 10 then pSort tk (sNx (s1.1, s1.2.1 + 1, s1.2.2)) else .inl (sNx (s1.1, s1.2.1 + 1, s1.2.2), 0)) _) _
      · skip
        obtain ⟨S3, q1, q2, q3⟩ := step_Q hN hT h2 (by show kd tk s1.1 ≠ 0; rw [hs1.1, hk]; decide) (by show kd tk s1.1 ≠ 1; rw [hs1.1, hk]; decide)
        obtain ⟨τ, g1, g2, g3, g4, _⟩ := q2.kdp hT
        rw [if_pos rfl, q1, zbs, show rQ_sorted_14 N N (Int32.ofNat n) (-9) 0 S3 = _ from Q_sort14 hN q2.2.2.1 g4 8 N 0 (-9) (by omega) (by omega) (by rw [if_neg (by omega)]), ← g2]
        refine Rq.base q3 ?_
        generalize hsx : sNx (s1.1, s1.2.1 + 1, s1.2.2) = sx at q2 ⊢
        have hnx : sx.2.2.2.1[n]? = some (7, 0, 0, 0) := by rw [← hsx]; exact hs1.2
        have hlt := (kd tk sx.1).toInt_lt
        unfold pSort
        by_cases hc : 228 ≤ (kd tk sx.1).toInt ∧ (kd tk sx.1).toInt ≤ 235
        · have e28 := yi_sub (x := kd tk sx.1) (y := 228) (by rw [show (228 : Int32).toInt = 228 by decide]; omega) (by rw [show (228 : Int32).toInt = 228 by decide]; omega)
          rw [show (228 : Int32).toInt = 228 by decide] at e28
          have hof : kd tk sx.1 - 228 = Int32.ofNat ((kd tk sx.1).toInt - 228).toNat := by rw [xi32_eq, e28, yi_nat (by omega)]; omega
          obtain ⟨t1, t2, t3⟩ := two_Q (x := kd tk sx.1 - 228) q2 hnx
          obtain ⟨S4, w1, w2, w3⟩ := step_Q hN hT t2 (fun hh => by rw [show kd tk sx.1 = 0 from hh] at hc; exact absurd hc (by decide)) (fun hh => by rw [show kd tk sx.1 = 1 from hh] at hc; exact absurd hc (by decide))
          rw [if_pos hc, if_pos hc, srtE, if_pos (by rw [Ne, xi32_eq, e28, y_m9]; omega), if_pos t1, w1, zbs]
          refine Rq.base (t3.trans w3) ?_
          show Rq t tk i S4 VN T1 (pAsked2 tk rl 10 i ((kd tk sx.1).toInt - 228).toNat n (sSn (sNx sx) n (7, 0, Int32.ofNat ((kd tk sx.1).toInt - 228).toNat, 0))) _
          rw [hof] at w2
          exact Q_asked2 hN hT (by decide) hn w2 (((((x1.trans x2).trans q3).trans t3).trans w3).fg hg)
        · obtain ⟨S4, w1, w2, w3⟩ := wrong_Q (N := N) hT q2
          obtain ⟨y1, y2, y3⟩ := two_W (S := S4) (n := n) (x := -9) w2.1 hn
          have hq2 : QF (pl tk sx.1) (zsA S4 36 (zs (zA S4 36) (Int32.ofNat n) (-9))) := ⟨y2, w2.2.1, w2.2.2⟩
          obtain ⟨S5, k1, k2, k3⟩ := refer_F (N := N) (n := Int32.ofNat n) (a := 0) hq2
          rw [if_neg hc, if_neg hc, srtE, if_neg (by decide), w1, zbs, if_pos y1, step_F hq2, zbs, k1, zbs]
          exact ⟨_, S5, rfl, k2, (w3.trans y3).trans k3, trivial⟩
    · obtain ⟨S2, c1, c2, c3, c4⟩ := counts_K (N := N) hT h1 hnn
      obtain ⟨τ, g1, g2, g3, g4, _⟩ := h1.kdp hT
      rw [c1, zbs, step_F c2, zbs, show rQ_sorted_14 N N (Int32.ofNat n) (-9) 0 S2 = _ from Q_sort14 hN (c3.tape h1.2.2.1) (c4 _ g4) 8 N 0 (-9) (by omega) (by omega) (by rw [if_neg (by omega)])]
      unfold sNo
      rw [if_neg hnn]
      obtain ⟨c, S3, k1, k2, k3, k4⟩ := srtE_F (N := N) (v := (if 228 ≤ (kdAt t τ.2.1).toInt ∧ (kdAt t τ.2.1).toInt ≤ 235 then kdAt t τ.2.1 - 228 else -9)) hn c2
      exact ⟨c, S3, k1, k2, c3.trans k3, k4⟩
  · intro _ hF; exact absurd hF id
end RFIX
