/-! THE CLASS READS EXPS: the knot -/
theorem nn {p : Prop} (h : p) : ¬ ¬ p := fun f => f h
section CFIX
variable {N : Nat} {tk : List zK} {fg : Nat} {rl : Nat → Nat → zP → zF Nat} {ro : Nat → zP → zF Nat} {r1 : Int32 → Int32 → zS → Option (Unit × zS)} {r2 : Int32 → zS → Option (Unit × zS)} {s : zP} {S : zS}
theorem R_base (ok : tkOK tk) (hl : RL tk fg rl r1) (ho : RO tk fg ro r2) (el : ExtL rl) (eo : ExtO ro) (f1 : F1 r1) (f2 : F2 r2) {i : Nat} (hi : i ≤ 10) (h : CP tk s S) (hg : zI S 22 = Int32.ofNat fg) : Rs tk S TT T1 (pBase tk fg rl ro i s) (cP_readBase r1 r2 N (Int32.ofNat i) S) := by
  unfold cP_readBase pBase
  rw [sees_G ok h, zbs]
  by_cases h2 : kd tk s.1 = 2
  · rw [if_pos h2, if_pos h2]
    refine Rs.bind (R_node ok h) ?_ ?_
    · intro s1 _ _ S1 hp1 h1 x1 _
      have hs1 : s1.1 = s.1 := by obtain ⟨_, rfl⟩ := sNo_inl hp1; rfl
      obtain ⟨τ, g1, g2, g2', g3⟩ := h1.kdp
      obtain ⟨v, hv⟩ := (ok.2 _ _ g1).2.2.2 (Or.inl (by rw [← g2, hs1]; exact h2))
      have hva : va tk s1.1 = v := by rw [va, g1]; show (τ.2.2.2).getD 0 = v; rw [hv]; rfl
      rw [h1.2.2.1.1, gI_nat (by have := h1.2.2.1.2; have := ok.1; omega), g3.2.2 v hv, zgs, hva]
      refine Rs.bind (R_emit h1) ?_ ?_
      · rintro s3 c x S3 hp3 h3 x3 ⟨rfl, _⟩
        have hs3 : s3.1 = s.1 := by obtain ⟨_, rfl, _⟩ := sEm_inl hp3; exact hs1
        have hva3 : va tk s3.1 = v := by rw [hs3, ← hs1]; exact hva
        obtain ⟨n1, n2, n3⟩ := next_G (N := N) ok h3 (by rw [hs3, h2]; decide) (by rw [hs3, h2]; decide)
        rw [n1, zbs]
        rcases sNd_or (s := s3) (n := (0, 0, 0, va tk s3.1)) with hnd | ⟨s4, n, hnd⟩
        · rw [hnd]; trivial
        · rw [hnd]
          obtain ⟨_, rfl, _⟩ := sNd_inl hnd
          exact ⟨(), _, rfl, n2, n3, trivial⟩
      · intro _ hF; exact absurd hF id
    · intro _ _ q S1 hq
      obtain ⟨k, hk, hk5⟩ := hq.1.2.2.2.1
      obtain ⟨v, hv⟩ : ∃ v, gI (zB S1 4) (zI S1 5) = some v := by
        rw [hk5, gI_nat (by omega)]
        exact ⟨_, List.getElem?_eq_getElem (by rw [hq.1.1.2.2]; exact hk)⟩
      obtain ⟨c, S2, _, q1, q2, q3⟩ := emit_F (N := N) (d := 1) (w := v.toInt32) hq
      rw [hv, zgs, q1, zbs, next_F q2, zbs]
      exact ⟨(), S2, rfl, q2, q3, trivial⟩
  rw [if_neg h2, if_neg h2]
  by_cases h3 : kd tk s.1 = 3
  · rw [if_pos h3, if_pos h3, zb_un]
    exact R_named ok hl el f1 hi h3 h hg
  rw [if_neg h3, if_neg h3]
  by_cases h40 : kd tk s.1 = 40
  · rw [if_pos h40, if_pos h40]
    refine Rs.bind (R_between (r2 := r2) ok hl f1 hi (kd_nx h40 (by decide) (by decide)) h hg) ?_ ?_
    · intro s1 n _ S1 hp1 h1 x1 _
      rw [zb_un]
      rcases hw : pWant tk 41 s1 with ⟨s2, b⟩ | _ | k
      · have hR := R_want (N := N) (c := 41) ok (by decide) (by decide) h1
        rw [hw] at hR
        obtain ⟨a, S', q1, q2, q3, _⟩ := hR
        exact ⟨a, S', q1, q2, q3, trivial⟩
      · trivial
      · have hR := R_want (N := N) (c := 41) ok (by decide) (by decide) h1
        rw [hw] at hR
        obtain ⟨a, S', q1, q2, q3, _⟩ := hR
        exact ⟨a, S', q1, q2, q3, trivial⟩
    · intro _ _ q S1 hq
      rw [want_F (by decide) hq, zbs]
      exact ⟨(), S1, rfl, hq, eqX.refl, trivial⟩
  rw [if_neg h40, if_neg h40]
  by_cases a1 : kd tk s.1 = 222
  · rw [if_pos a1, if_pos a1, zb_un]
    exact R_asked (d := 8) ok hl el f1 (by omega) hi (kd_nx a1 (by decide) (by decide)) h hg
  rw [if_neg a1, if_neg a1]
  by_cases a2 : kd tk s.1 = 223
  · rw [if_pos a2, if_pos a2, zb_un]
    exact R_asked (d := 9) ok hl el f1 (by omega) hi (kd_nx a2 (by decide) (by decide)) h hg
  rw [if_neg a2, if_neg a2]
  by_cases a3 : kd tk s.1 = 224
  · rw [if_pos a3, if_pos a3, zb_un]
    exact R_asked (d := 10) ok hl el f1 (by omega) hi (kd_nx a3 (by decide) (by decide)) h hg
  rw [if_neg a3, if_neg a3]
  by_cases a4 : kd tk s.1 = 225
  · rw [if_pos a4, if_pos a4, zb_un]
    exact R_asked (d := 11) ok hl el f1 (by omega) hi (kd_nx a4 (by decide) (by decide)) h hg
  rw [if_neg a4, if_neg a4]
  by_cases a5 : kd tk s.1 = 226
  · rw [if_pos a5, if_pos a5, zb_un]
    exact R_try ok ho eo f2 hi a5 h hg
  rw [if_neg a5, if_neg a5, zb_un]
  obtain ⟨S', n1, n2, n3⟩ := refuse_G (N := N) ok h
  exact ⟨(), S', n1, n2, n3, trivial⟩
theorem R_one29 {l : Int32} {d : Int32} {n : yNd} (hd : d = if l = 45 then 16 else 17) (h : CP tk s S) : Rs tk S TT T1 (pb (sEm s d 0) fun s3 _ => sNd s3 n) (cP_readOne_29 r1 r2 N l S) := by
  unfold cP_readOne_29
  by_cases hl : l = 45
  · rw [if_neg (nn hl), hd, if_pos hl]
    refine Rs.bind (R_emit h) ?_ ?_
    · rintro s3 c x S3 _ h3 _ ⟨rfl, _⟩
      exact R_nd h3
    · intro _ hF; exact absurd hF id
  · rw [if_pos hl, hd, if_neg hl]
    refine Rs.bind (R_emit h) ?_ ?_
    · rintro s3 c x S3 _ h3 _ ⟨rfl, _⟩
      exact R_nd h3
    · intro _ hF; exact absurd hF id
theorem F_one29 {l : Int32} {q : Nat} (hq : CF q S) : ∃ (c : Unit) (S2 : zS), cP_readOne_29 r1 r2 N l S = some (c, S2) ∧ CF q S2 ∧ eqX S S2 ∧ T1 c := by
  unfold cP_readOne_29
  split
  · obtain ⟨c, S2, _, q1, q2, q3⟩ := emit_F (N := N) (d := 17) (w := 0) hq
    rw [q1, zbs]
    exact ⟨(), S2, rfl, q2, q3, trivial⟩
  · obtain ⟨c, S2, _, q1, q2, q3⟩ := emit_F (N := N) (d := 16) (w := 0) hq
    rw [q1, zbs]
    exact ⟨(), S2, rfl, q2, q3, trivial⟩
theorem R_one13 (ok : tkOK tk) (ho : RO tk fg ro r2) (f2 : F2 r2) {i : Nat} (hi : i ≤ 10) {l : Int32} (hk : kd tk s.1 = l) (h0 : l ≠ 0) (h1 : l ≠ 1) (h : CP tk s S) (hg : zI S 22 = Int32.ofNat fg) : Rs tk S TT T1 (pb (pEnter i s) fun s1 _ => pb (sNo s1) fun s1 _ => pb (ro (i + 1) (sNx s1)) fun s2 n => pb (sEm s2 (if l = 45 then 16 else 17) 0) fun s3 _ => sNd s3 (if l = 45 then 14 else 13, Int32.ofNat n, 0, 0)) (cP_readOne_13 r1 r2 N (Int32.ofNat i) l S) := by
  unfold cP_readOne_13
  refine Rs.bind (R_enter ok (by omega) h) ?_ ?_
  · intro s1 _ _ S1 hp h1' x1 _
    obtain ⟨hi10, rfl⟩ := pEnter_inl hp
    refine Rs.bind (R_node ok h1') ?_ ?_
    · intro s2 _ _ S2 hp2 h2 x2 _
      obtain ⟨_, rfl⟩ := sNo_inl hp2
      obtain ⟨n1, n2, n3⟩ := next_G (N := N) ok h2 (by show kd tk s1.1 ≠ 0; rw [hk]; exact h0) (by show kd tk s1.1 ≠ 1; rw [hk]; exact h1)
      rw [n1, zbs, if_neg (nn n2.2.1), yi_add1]
      refine Rs.base n3 (Rs.bind (ho (i + 1) _ _ (by omega) n2 (((x1.trans x2).trans n3).fg hg)) ?_ ?_)
      · intro s3 n _ S3 _ h3 _ _
        exact R_one29 rfl h3
      · intro _ _ q S3 hq
        exact F_one29 hq
    · intro _ _ q S2 hq
      rw [next_F hq, zbs, if_pos hq.ne]
      exact F_one29 hq
  · intro _ _ q S1 hq
    obtain ⟨S2, g1, g2, g3⟩ := node_F (N := N) hq
    rw [g1, zbs, next_F g2, zbs, if_pos g2.ne]
    obtain ⟨c, S3, k1, k2, k3, k4⟩ := F_one29 (r1 := r1) (r2 := r2) (N := N) (l := l) g2
    exact ⟨c, S3, k1, k2, g3.trans k3, k4⟩
theorem R_one (ok : tkOK tk) (hl : RL tk fg rl r1) (ho : RO tk fg ro r2) (el : ExtL rl) (eo : ExtO ro) (f1 : F1 r1) (f2 : F2 r2) : RO tk fg (pOne tk fg rl ro) (cP_readOne r1 r2 N) := by
  intro i s S hi h hg
  have hp : ∀ l : Int32, kd tk s.1 = l → (l = 45 ∨ l = 221) → pOne tk fg rl ro i s = pb (pEnter i s) fun s1 _ => pb (sNo s1) fun s1 _ => pb (ro (i + 1) (sNx s1)) fun s2 n => pb (sEm s2 (if l = 45 then 16 else 17) 0) fun s3 _ => sNd s3 (if l = 45 then 14 else 13, Int32.ofNat n, 0, 0) := by
    intro l hk hl
    subst hk
    unfold pOne
    rw [if_pos hl]
  by_cases h45 : kd tk s.1 = 45
  · rw [hp 45 h45 (Or.inl rfl)]
    have hc : cP_readOne r1 r2 N (Int32.ofNat i) S = cP_readOne_13 r1 r2 N (Int32.ofNat i) 45 S := by
      unfold cP_readOne
      rw [sees_G ok h, zbs, h45, if_pos rfl]
    rw [hc]
    exact R_one13 ok ho f2 hi h45 (by decide) (by decide) h hg
  · by_cases h221 : kd tk s.1 = 221
    · rw [hp 221 h221 (Or.inr rfl)]
      have hc : cP_readOne r1 r2 N (Int32.ofNat i) S = cP_readOne_13 r1 r2 N (Int32.ofNat i) 221 S := by
        unfold cP_readOne
        rw [sees_G ok h, zbs, h221, if_neg (by decide), if_pos rfl]
      rw [hc]
      exact R_one13 ok ho f2 hi h221 (by decide) (by decide) h hg
    · unfold cP_readOne pOne
      rw [sees_G ok h, zbs, if_neg (show ¬ (kd tk s.1 = 45 ∨ kd tk s.1 = 221) by rw [not_or]; exact ⟨h45, h221⟩), if_neg h45, if_neg h221, zb_un]
      exact R_base ok hl ho el eo f1 f2 hi h hg
theorem lvO_kd {c : Int32} {l : Nat} (hl : l ≤ 4) (h : lvO c = Int32.ofNat l) : c ≠ 0 ∧ c ≠ 1 ∧ (l < 2 → (c = 219 ∨ c = 220)) ∧ (2 ≤ l → c ≠ 219 ∧ c ≠ 220) := by
  have el := yi_nat (i := l) (by omega)
  have h2 := congrArg Int32.toInt h
  rw [el] at h2
  refine ⟨?_, ?_, ?_, ?_⟩
  · rintro rfl
    rw [show (lvO 0).toInt = -9 by decide] at h2; omega
  · rintro rfl
    rw [show (lvO 1).toInt = -9 by decide] at h2; omega
  · intro hlt
    unfold lvO at h2
    repeat' split at h2
    all_goals first | (left; assumption) | (right; assumption) | (exfalso; revert h2; simp only [Int32.reduceToInt]; intro h2; omega)
  · intro hge
    refine ⟨?_, ?_⟩
    · rintro rfl
      rw [show (lvO 219).toInt = 0 by decide] at h2; omega
    · rintro rfl
      rw [show (lvO 220).toInt = 1 by decide] at h2; omega
theorem F_52 (f1 : F1 r1) {n l i : Nat} {most c tok skv : Int32} (hn : 0 < n) (hl : l ≤ 4) (hsk : skv = -9 ∨ ∃ sk, sk < 560 ∧ skv = Int32.ofNat sk) {q : Nat} (hq : CF q S) : ∃ (b : Unit) (S2 : zS), cP_readLevel_52 r1 r2 N (cP_readLevel_22 r1 r2 N n) (Int32.ofNat l) (Int32.ofNat i) most c tok skv S = some (b, S2) ∧ CF q S2 ∧ eqX S S2 ∧ T1 b := by
  have hl9 : Int32.ofNat l ≠ -9 := by rw [Ne, xi32_eq, yi_nat (by omega), y_m9]; omega
  obtain ⟨_, S3, g1, g2, g3⟩ := f1 (l + 1) i (by omega) q S hq
  obtain ⟨cc, S4, hc, q1, q2, q3⟩ := emit_F (N := N) (d := doO tok) (w := 0) g2
  unfold cP_readLevel_52
  rw [yi_add1, g1, zbs, doO_eq, zbs, q1, zbs]
  rcases hsk with rfl | ⟨sk, hsk, rfl⟩
  · rw [if_pos rfl]
    obtain ⟨b, S5, w1, w2, w3⟩ := F_loop (r1 := r1) (r2 := r2) (N := N) (n := n) (i := Int32.ofNat i) (most := most) (c := c + 1) hn hl9 q S4 q2
    exact ⟨b, S5, w1, w2, (g3.trans q3).trans w3, trivial⟩
  · rw [if_neg (by rw [xi32_eq, yi_nat (by omega), y_m9]; omega)]
    obtain ⟨z1, z2, z3⟩ := with_W (S := S4) (i := sk) (x := zI S4 32) q2.1 hsk
    rw [if_pos z1]
    obtain ⟨b, S5, w1, w2, w3⟩ := F_loop (r1 := r1) (r2 := r2) (N := N) (n := n) (i := Int32.ofNat i) (most := most) (c := c + 1) hn hl9 q _ ⟨z2, q2.2.1, q2.2.2⟩
    exact ⟨b, S5, w1, w2, ((g3.trans q3).trans z3).trans w3, trivial⟩
theorem R_loop (ok : tkOK tk) (hl : RL tk fg rl r1) (el : ExtL rl) (f1 : F1 r1) {l i : Nat} (hl4 : l ≤ 4) (hi : i ≤ 10) : ∀ (f n m : Nat) (s : zP) (S : zS), f ≤ 251 → f < n → CP tk s S → zI S 22 = Int32.ofNat fg → (l = 2 → f = 251) → Rs tk S TT T1 (pLoop tk rl f l i m s) (cP_readLevel_22 r1 r2 N n (Int32.ofNat l) (Int32.ofNat i) (if l = 2 then 1 else 251) (Int32.ofNat (251 - f)) S)
  | 0, _, _, _, _, _, _, _, _, _ => trivial
  | f + 1, 0, _, _, _, _, h, _, _, _ => by omega
  | f + 1, n + 1, m, s, S, hf, hn, h, hg, h2f => by
    have ell := yi_nat (i := l) (by omega)
    have hl9 : Int32.ofNat l ≠ -9 := by rw [Ne, xi32_eq, ell, y_m9]; omega
    rw [cP_readLevel_22, if_neg (by
      rw [yi_nat (by omega)]
      split
      · rw [show (1 : Int32).toInt = 1 by decide]; have := h2f (by assumption); omega
      · rw [show (251 : Int32).toInt = 251 by decide]; omega), sees_G ok h, zbs, lvO_eq, zbs, pLoop]
    by_cases hlv : lvO (kd tk s.1) = Int32.ofNat l
    · obtain ⟨k0, k1, k2, k3⟩ := lvO_kd hl4 hlv
      rw [if_pos hlv, if_neg (nn hlv), sees_G ok h, zbs]
      -- the rest behind the skip
      have rest : ∀ (s2 : zP) (S2 : zS) (sk : Nat) (skv : Int32), CP tk s2 S2 → zI S2 22 = Int32.ofNat fg → (l < 2 → skv = Int32.ofNat sk ∧ ∃ y, s2.2.2.1[sk]? = some ((if kd tk s.1 = 219 then 3 else 4 : Int32), y)) → (2 ≤ l → skv = -9) → Rs tk S2 TT T1 (pb (rl (l + 1) i s2) fun s3 m' => pb (sEm s3 (doO (kd tk s.1)) 0) fun s4 _ => pb (sNd (if l < 2 then sCd s4 sk (if kd tk s.1 = 219 then 3 else 4, Int32.ofNat s4.2.2.1.length) else s4) (opO (kd tk s.1), Int32.ofNat m, Int32.ofNat m', 0)) fun s5 n2 => if l = 2 then .inl (s5, n2) else pLoop tk rl f l i n2 s5) (cP_readLevel_52 r1 r2 N (cP_readLevel_22 r1 r2 N n) (Int32.ofNat l) (Int32.ofNat i) (if l = 2 then 1 else 251) (Int32.ofNat (251 - (f + 1))) (kd tk s.1) skv S2) := by
        intro s2 S2 sk skv h2 g2 hlt hge
        unfold cP_readLevel_52
        rw [yi_add1]
        refine Rs.bind (hl (l + 1) i s2 S2 (by omega) hi h2 g2) ?_ ?_
        · intro s3 m' _ S3 hp3 h3 x3 _
          rw [doO_eq, zbs]
          refine Rs.bind (R_emit h3) ?_ ?_
          · rintro s4 c x S4 hp4 h4 x4 ⟨rfl, _⟩
            rw [yi_add1, show 251 - (f + 1) + 1 = 251 - f by omega]
            have g4 : zI S4 22 = Int32.ofNat fg := (x3.trans x4).fg g2
            by_cases hl2 : l < 2
            · obtain ⟨rfl, y, hy⟩ := hlt hl2
              have hy4 : s4.2.2.1[sk]? = some ((if kd tk s.1 = 219 then 3 else 4 : Int32), y) := by
                have e3 := el _ _ _ _ _ hp3
                have e4 := Ext.refl.em hp4
                rw [(e3.trans e4).2.1 sk (List.getElem?_eq_some_iff.mp hy).1]; exact hy
              obtain ⟨z1, z2, z3⟩ := with_G (x := Int32.ofNat s4.2.2.1.length) h4 hy4
              have hsk : Int32.ofNat sk ≠ -9 := by
                have := (List.getElem?_eq_some_iff.mp hy4).1
                have := h4.2.2.2.2.2.1.2.1
                rw [Ne, xi32_eq, yi_nat (by omega), y_m9]; omega
              rw [if_neg hsk, if_pos z1, h4.2.2.2.2.2.1.1, if_pos hl2]
              refine Rs.base z3 ?_
              rcases sNd_or (s := sCd s4 sk ((if kd tk s.1 = 219 then 3 else 4 : Int32), Int32.ofNat s4.2.2.1.length)) (n := (opO (kd tk s.1), Int32.ofNat m, Int32.ofNat m', 0)) with hnd | ⟨s5, n2, hnd⟩
              · rw [hnd]; trivial
              · rw [hnd]
                have h5 : CP tk s5 (zsA S4 31 (zs (zA S4 31) (Int32.ofNat sk) (Int32.ofNat s4.2.2.1.length))) := by obtain ⟨_, rfl, _⟩ := sNd_inl hnd; exact z2
                show Rs tk _ TT T1 (if l = 2 then .inl (s5, n2) else pLoop tk rl f l i n2 s5) _
                rw [if_neg (by omega)]
                exact R_loop ok hl el f1 hl4 hi f n n2 s5 _ (by omega) (by omega) h5 (z3.fg g4) (fun hh => by omega)
            · obtain rfl := hge (by omega)
              rw [if_pos rfl, if_neg hl2]
              rcases sNd_or (s := s4) (n := (opO (kd tk s.1), Int32.ofNat m, Int32.ofNat m', 0)) with hnd | ⟨s5, n2, hnd⟩
              · rw [hnd]; trivial
              · rw [hnd]
                have h5 : CP tk s5 S4 := by obtain ⟨_, rfl, _⟩ := sNd_inl hnd; exact h4
                show Rs tk _ TT T1 (if l = 2 then .inl (s5, n2) else pLoop tk rl f l i n2 s5) _
                by_cases h2 : l = 2
                · rw [if_pos h2, if_pos h2]
                  have hff := h2f h2
                  obtain ⟨n, rfl⟩ : ∃ k, n = k + 1 := ⟨n - 1, by omega⟩
                  rw [cP_readLevel_22, if_pos (by rw [yi_nat (by omega), show (1 : Int32).toInt = 1 by decide]; omega)]
                  exact ⟨(), S4, rfl, h5, eqX.refl, trivial⟩
                · rw [if_neg h2]
                  exact R_loop ok hl el f1 hl4 hi f n n2 s5 S4 (by omega) (by omega) h5 g4 (fun hh => absurd hh h2)
          · intro _ hF; exact absurd hF id
        · intro _ _ q S3 hq
          obtain ⟨c, S4, hc, q1, q2, q3⟩ := emit_F (N := N) (d := doO (kd tk s.1)) (w := 0) hq
          rw [doO_eq, zbs, q1, zbs]
          split
          · obtain ⟨b, S5, w1, w2, w3⟩ := F_loop (r1 := r1) (r2 := r2) (N := N) (n := n) (i := Int32.ofNat i) (most := if l = 2 then 1 else 251) (c := Int32.ofNat (251 - (f + 1)) + 1) (by omega) hl9 q S4 q2
            exact ⟨b, S5, w1, w2, q3.trans w3, trivial⟩
          · rename_i hsk
            by_cases hl2 : l < 2
            · obtain ⟨rfl, y, hy⟩ := hlt hl2
              have hskl := (List.getElem?_eq_some_iff.mp hy).1
              have := h2.2.2.2.2.2.1.2.1
              obtain ⟨z1, z2, z3⟩ := with_W (S := S4) (i := sk) (x := zI S4 32) q2.1 (by omega)
              rw [if_pos z1]
              obtain ⟨b, S5, w1, w2, w3⟩ := F_loop (r1 := r1) (r2 := r2) (N := N) (n := n) (i := Int32.ofNat i) (most := if l = 2 then 1 else 251) (c := Int32.ofNat (251 - (f + 1)) + 1) (by omega) hl9 q _ ⟨z2, q2.2.1, q2.2.2⟩
              exact ⟨b, S5, w1, w2, (q3.trans z3).trans w3, trivial⟩
            · exact absurd (hge (by omega)) hsk
      refine Rs.bind (R_node ok h) ?_ ?_
      · intro s1 _ _ S1 hp1 h1 x1 _
        have hs1 : s1.1 = s.1 := by obtain ⟨_, rfl⟩ := sNo_inl hp1; rfl
        obtain ⟨n1, n2, n3⟩ := next_G (N := N) ok h1 (by rw [hs1]; exact k0) (by rw [hs1]; exact k1)
        rw [n1, zbs]
        refine Rs.base n3 ?_
        have gg := (x1.trans n3).fg hg
        by_cases hl2 : l < 2
        · rw [if_pos hl2, if_neg (show ¬ (2 ≤ (Int32.ofNat l).toInt) by rw [ell]; omega)]
          by_cases h219 : kd tk s.1 = 219
          · rw [if_neg (nn h219)]
            simp only [if_pos h219]
            refine Rs.bind (R_emit n2) ?_ ?_
            · rintro s3 sk x S3 hp3 h3 x3 ⟨rfl, _⟩
              have := rest s3 S3 sk (Int32.ofNat sk) h3 (x3.fg gg) (fun _ => ⟨rfl, 0, by obtain ⟨_, rfl, rfl⟩ := sEm_inl hp3; rw [if_pos h219]; simp⟩) (fun hh => by omega)
              simp only [if_pos h219] at this
              exact this
            · intro _ hF; exact absurd hF id
          · rw [if_pos (show kd tk s.1 ≠ 219 from h219)]
            simp only [if_neg h219]
            refine Rs.bind (R_emit n2) ?_ ?_
            · rintro s3 sk x S3 hp3 h3 x3 ⟨rfl, _⟩
              have := rest s3 S3 sk (Int32.ofNat sk) h3 (x3.fg gg) (fun _ => ⟨rfl, 0, by obtain ⟨_, rfl, rfl⟩ := sEm_inl hp3; rw [if_neg h219]; simp⟩) (fun hh => by omega)
              simp only [if_neg h219] at this
              exact this
            · intro _ hF; exact absurd hF id
        · rw [if_neg hl2, if_pos (show 2 ≤ (Int32.ofNat l).toInt by rw [ell]; omega)]
          exact rest (sNx s1) _ 0 (-9) n2 gg (fun hh => absurd hh hl2) (fun _ => rfl)
      · intro _ _ q S1 hq
        rw [next_F hq, zbs]
        by_cases hl2 : l < 2
        · rw [if_neg (show ¬ (2 ≤ (Int32.ofNat l).toInt) by rw [ell]; omega)]
          split
          · obtain ⟨c, S2, hc, q1, q2, q3⟩ := emit_F (N := N) (d := 4) (w := 0) hq
            rw [q1, zbs]
            obtain ⟨b, S3, w1, w2, w3, w4⟩ := F_52 (r1 := r1) (r2 := r2) (N := N) (n := n) (l := l) (i := i) (most := if l = 2 then 1 else 251) (c := Int32.ofNat (251 - (f + 1))) (tok := kd tk s.1) f1 (by omega) hl4 (Or.inr ⟨c, hc, rfl⟩) q2
            exact ⟨b, S3, w1, w2, q3.trans w3, w4⟩
          · obtain ⟨c, S2, hc, q1, q2, q3⟩ := emit_F (N := N) (d := 3) (w := 0) hq
            rw [q1, zbs]
            obtain ⟨b, S3, w1, w2, w3, w4⟩ := F_52 (r1 := r1) (r2 := r2) (N := N) (n := n) (l := l) (i := i) (most := if l = 2 then 1 else 251) (c := Int32.ofNat (251 - (f + 1))) (tok := kd tk s.1) f1 (by omega) hl4 (Or.inr ⟨c, hc, rfl⟩) q2
            exact ⟨b, S3, w1, w2, q3.trans w3, w4⟩
        · rw [if_pos (show 2 ≤ (Int32.ofNat l).toInt by rw [ell]; omega)]
          exact F_52 f1 (by omega) hl4 (Or.inl rfl) hq
    · rw [if_neg hlv, if_pos hlv]
      exact ⟨(), S, rfl, h, eqX.refl, trivial⟩
theorem R_level (hN : 1400 < N) (ok : tkOK tk) (hl : RL tk fg rl r1) (ho : RO tk fg ro r2) (el : ExtL rl) (f1 : F1 r1) : RL tk fg (pLevel tk rl ro) (cP_readLevel r1 r2 N) := by
  intro l i s S hl5 hi h hg
  have ell := yi_nat (i := l) (by omega)
  unfold cP_readLevel pLevel
  by_cases h4 : l ≤ 4
  · rw [if_pos h4, if_pos (by rw [ell]; omega), yi_add1]
    have e2 : Int32.ofNat l ≠ 2 ↔ l ≠ 2 := by rw [Ne, xi32_eq, ell, show (2 : Int32).toInt = 2 by decide]; omega
    have hl9 : Int32.ofNat l ≠ -9 := by rw [Ne, xi32_eq, ell, y_m9]; omega
    refine Rs.bind (hl (l + 1) i s S (by omega) hi h hg) ?_ ?_
    · intro s1 n _ S1 _ h1 x1 _
      have hR := R_loop (r2 := r2) (N := N) (l := l) (i := i) ok hl el f1 h4 hi 251 N n s1 S1 (by omega) (by omega) h1 (x1.fg hg) (fun _ => rfl)
      by_cases h2 : l = 2
      · rw [if_neg (fun hh => e2.mp hh h2)]
        rw [if_pos h2] at hR
        exact hR
      · rw [if_pos (e2.mpr h2)]
        rw [if_neg h2] at hR
        exact hR
    · intro _ _ q S1 hq
      split
      · obtain ⟨b, S2, w1, w2, w3⟩ := F_loop (r1 := r1) (r2 := r2) (N := N) (n := N) (i := Int32.ofNat i) (most := 251) (c := 0) (by omega) hl9 q S1 hq
        exact ⟨b, S2, w1, w2, w3, trivial⟩
      · obtain ⟨b, S2, w1, w2, w3⟩ := F_loop (r1 := r1) (r2 := r2) (N := N) (n := N) (i := Int32.ofNat i) (most := 1) (c := 0) (by omega) hl9 q S1 hq
        exact ⟨b, S2, w1, w2, w3, trivial⟩
  · rw [if_neg h4, if_neg (by rw [ell]; omega), zb_un]
    exact ho i s S hi h hg
end CFIX
theorem R_fix {N : Nat} {tk : List zK} {fg : Nat} (hN : 1400 < N) (ok : tkOK tk) : ∀ n : Nat, RL tk fg (pFix tk fg n).1 (cP_fix N (n + 8)).1 ∧ RO tk fg (pFix tk fg n).2 (cP_fix N (n + 8)).2
  | 0 => by
    refine ⟨?_, ?_⟩
    · intro l i s S _ _ _ _; trivial
    · intro i s S _ _ _; trivial
  | n + 1 => by
    obtain ⟨h1, h2⟩ := R_fix (fg := fg) hN ok n
    obtain ⟨e1, e2⟩ := E_fix (tk := tk) (fg := fg) n
    have f := F_fix hN (n + 8)
    have f1 : F1 (cP_fix N (n + 8)).1 := fun l i hl => f.1 l _ hl (by omega)
    have f2 : F2 (cP_fix N (n + 8)).2 := fun i => f.2 _ (by omega)
    refine ⟨?_, ?_⟩
    · exact R_level hN ok h1 h2 e1 f1
    · exact R_one ok h1 h2 e1 e2 f1 f2

