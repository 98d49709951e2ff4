/-! WHAT AN EXP LEFT: levels, the knot -/
theorem op_lo {c : Int32} {l : Nat} (hl : l < 2) (h : lvO c = Int32.ofNat l) : (opO c = 11 ∨ opO c = 12) ∧ doO c = 15 ∧ (if c = 219 then (3 : Int32) else 4) = opO c - 8 := by
  rcases (lvO_kd (by omega) h).2.2.1 hl with rfl | rfl <;> decide
theorem op_hi {c : Int32} {l : Nat} (hl : 2 ≤ l) (hl4 : l ≤ 4) (h : lvO c = Int32.ofNat l) : 15 ≤ (opO c).toInt ∧ (opO c).toInt ≤ 22 ∧ doO c = (if (opO c).toInt < 20 then opO c + 6 else opO c - 2) := by
  have : l = 2 ∨ l = 3 ∨ l = 4 := by omega
  rcases this with rfl | rfl | rfl
  · rcases lvO_2.mp h with rfl | rfl | rfl <;> decide
  · rcases lvO_3.mp h with rfl | rfl <;> decide
  · rcases lvO_4.mp h with rfl | rfl | rfl <;> decide
section REP5
variable {tk : List zK} {s s' : zP} {fg : Nat} {rl : Nat → Nat → zP → zF Nat} {ro : Nat → zP → zF Nat} {i n : Nat}
theorem rep_loop (hl : RepL fg rl) (el : ExtL rl) {l : Nat} (hl4 : l ≤ 4) : ∀ (f m : Nat) (s0 s s' : zP) (n : Nat), Ext s0 s → Rp fg s0 s m → pLoop tk rl f l i m s = .inl (s', n) → Rp fg s0 s' n
  | 0, _, _, _, _, _, _, _, h => by cases h
  | f + 1, m, s0, s, s', n, hE, hm, h => by
    rw [pLoop] at h
    by_cases hlv : lvO (kd tk s.1) = Int32.ofNat l
    · rw [if_pos hlv] at h
      obtain ⟨s1, _, q1, h1⟩ := pb_inl h
      obtain ⟨s2, sk, q2, h2⟩ := pb_inl h1
      obtain ⟨s3, m', q3, h3⟩ := pb_inl h2
      obtain ⟨s4, c4, q4, h4⟩ := pb_inl h3
      obtain ⟨s5, n2, q5, h5⟩ := pb_inl h4
      clear h h1 h2 h3 h4
      obtain ⟨_, e1⟩ := sNo_inl q1
      obtain ⟨_, e4, _⟩ := sEm_inl q4
      obtain ⟨_, e5, t5⟩ := sNd_inl q5
      have hr := hl _ _ _ _ _ q3
      have xr := el _ _ _ _ _ q3
      obtain ⟨x1, x2, x3, x4, x5, x6, x7, x8⟩ := xr
      obtain ⟨z1, z2, z3, z4, z5, z6, z7, z8⟩ := hE
      have key : Ext s0 s5 ∧ Rp fg s0 s5 n2 := by
        by_cases hl2 : l < 2
        · rw [if_pos hl2] at q2
          rw [if_pos hl2] at e5 t5
          obtain ⟨_, e2, t2⟩ := sEm_inl q2
          obtain ⟨hop, hdo, hD⟩ := op_lo hl2 hlv
          have t2 : sk = s.2.2.1.length := by rw [t2, e1]; rfl
          have c2 : s2.2.2.1.length = s.2.2.1.length + 1 := by rw [e2, e1]; show (s.2.2.1 ++ [_]).length = _; rw [List.length_append]; rfl
          have c2g : ∀ k, k < s.2.2.1.length → s2.2.2.1[k]? = s.2.2.1[k]? := by intro k hk; rw [e2, e1]; show (s.2.2.1 ++ [_])[k]? = _; rw [List.getElem?_append_left hk]
          have n2' : s2.2.2.2.1 = s.2.2.2.1 := by rw [e2, e1]; rfl
          have u2 : s2.2.2.2.2 = s.2.2.2.2 := by rw [e2, e1]; rfl
          have o2 : s2.2.1 = s.2.1 + 1 := by rw [e2, e1]; rfl
          have a2 : s2.1 = s.1 + 1 := by rw [e2, e1]; rfl
          have c5 : s5.2.2.1 = (s3.2.2.1 ++ [(doO (kd tk s.1), 0)]).set sk (opO (kd tk s.1) - 8, Int32.ofNat (s3.2.2.1.length + 1)) := by
            rw [e5, e4, ← hD]
            show (s3.2.2.1 ++ [(doO (kd tk s.1), 0)]).set sk (_, Int32.ofNat (s3.2.2.1 ++ [(doO (kd tk s.1), 0)]).length) = _
            rw [List.length_append]; rfl
          have n5 : s5.2.2.2.1 = s3.2.2.2.1 ++ [(opO (kd tk s.1), Int32.ofNat m, Int32.ofNat m', 0)] := by rw [e5, e4]; rfl
          have u5 : s5.2.2.2.2 = s3.2.2.2.2 := by rw [e5, e4]; rfl
          have o5 : s5.2.1 = s3.2.1 := by rw [e5, e4]; rfl
          have a5 : s5.1 = s3.1 := by rw [e5, e4]; rfl
          have t5 : n2 = s3.2.2.2.1.length := by rw [t5, e4]; rfl
          have l5 : s5.2.2.1.length = s3.2.2.1.length + 1 := by rw [c5, List.length_set, List.length_append]; rfl
          have ln5 : s5.2.2.2.1.length = s3.2.2.2.1.length + 1 := by rw [n5, List.length_append]; rfl
          rw [n2'] at x6; rw [u2] at x7
          have cc : ∀ k, k < s.2.2.1.length → s5.2.2.1[k]? = s.2.2.1[k]? := by
            intro k hk
            rw [c5, List.getElem?_set_ne (by omega), List.getElem?_append_left (by omega), x2 k (by omega), c2g k hk]
          have cn : ∀ k, k < s.2.2.2.1.length → s5.2.2.2.1[k]? = s.2.2.2.1[k]? := by
            intro k hk
            rw [n5, List.getElem?_append_left (by omega), x3 k (by rw [n2']; omega), n2']
          have cu : ∀ k, k < s.2.2.2.2.length → s5.2.2.2.2[k]? = s.2.2.2.2[k]? := by
            intro k hk
            rw [u5, x4 k (by rw [u2]; omega), u2]
          refine ⟨⟨by omega, fun k hk => by rw [cc k (by omega), z2 k hk], fun k hk => by rw [cn k (by omega), z3 k hk], fun k hk => by rw [cu k (by omega), z4 k hk], by omega, by omega, by rw [u5]; omega, by omega⟩, ?_⟩
          have hL : pRep fg s0.2.2.2.1.length s0.2.2.2.2.length s5 (s3.2.1 - s0.2.1 - 1) s0.2.2.1.length s.2.2.1.length m := by
            have hx := hm
            unfold Rp at hx
            exact pRep.mv (Nat.le_refl _) (Nat.le_refl _) (Nat.le_refl _) (fun k _ k2 => cn k k2) (fun k _ k2 => cu k k2) _ _ _ _ _ (by omega) (fun k _ k2 => cc k k2) hx
          have hR : pRep fg s0.2.2.2.1.length s0.2.2.2.2.length s5 (s3.2.1 - s0.2.1 - 1) (s.2.2.1.length + 1) s3.2.2.1.length m' := by
            have hx := hr
            unfold Rp at hx
            rw [c2, n2', u2] at hx
            refine pRep.mv (Nat.le_refl _) (by omega) (by omega) ?_ ?_ _ _ _ _ _ (by omega) ?_ hx
            · intro k k1 k2
              rw [n5, List.getElem?_append_left k2]
            · intro k k1 k2
              rw [u5]
            · intro k k1 k2
              rw [c5, List.getElem?_set_ne (by omega), List.getElem?_append_left k2]
          have la := hL.lt
          have lb := hR.lt
          unfold Rp
          rw [show s5.2.1 - s0.2.1 = (s3.2.1 - s0.2.1 - 1) + 1 by rw [o5]; omega, l5, t5]
          refine ⟨by omega, by omega, opO (kd tk s.1), Int32.ofNat m, Int32.ofNat m', 0, by rw [n5]; simp, Or.inr (Or.inr (Or.inr (Or.inr (Or.inr (Or.inr (Or.inr (Or.inr (Or.inr (Or.inr (Or.inl ⟨hop, s.2.2.1.length, m, m', rfl, rfl, hL, ?_, hR, ?_⟩))))))))))⟩
          · rw [c5, t2, List.getElem?_set_self (by rw [List.length_append]; omega)]
          · show s5.2.2.1[s3.2.2.1.length]? = _
            rw [c5, List.getElem?_set_ne (by omega), hdo]; simp
        · rw [if_neg hl2] at q2
          rw [if_neg hl2] at e5 t5
          cases q2
          obtain ⟨hop, hop2, hdo⟩ := op_hi (by omega) hl4 hlv
          have c2 : (sNx s1).2.2.1 = s.2.2.1 := by rw [e1]; rfl
          have n2' : (sNx s1).2.2.2.1 = s.2.2.2.1 := by rw [e1]; rfl
          have u2 : (sNx s1).2.2.2.2 = s.2.2.2.2 := by rw [e1]; rfl
          have o2 : (sNx s1).2.1 = s.2.1 + 1 := by rw [e1]; rfl
          have a2 : (sNx s1).1 = s.1 + 1 := by rw [e1]; rfl
          have c5 : s5.2.2.1 = s3.2.2.1 ++ [(doO (kd tk s.1), 0)] := by rw [e5, e4]
          have n5 : s5.2.2.2.1 = s3.2.2.2.1 ++ [(opO (kd tk s.1), Int32.ofNat m, Int32.ofNat m', 0)] := by rw [e5, e4]
          have u5 : s5.2.2.2.2 = s3.2.2.2.2 := by rw [e5, e4]
          have o5 : s5.2.1 = s3.2.1 := by rw [e5, e4]
          have a5 : s5.1 = s3.1 := by rw [e5, e4]
          have t5 : n2 = s3.2.2.2.1.length := by rw [t5, e4]
          have l5 : s5.2.2.1.length = s3.2.2.1.length + 1 := by rw [c5, List.length_append]; rfl
          have ln5 : s5.2.2.2.1.length = s3.2.2.2.1.length + 1 := by rw [n5, List.length_append]; rfl
          rw [c2] at x5; rw [n2'] at x6; rw [u2] at x7; rw [o2] at x1; rw [a2] at x8
          have cc : ∀ k, k < s.2.2.1.length → s5.2.2.1[k]? = s.2.2.1[k]? := by
            intro k hk
            rw [c5, List.getElem?_append_left (by omega), x2 k (by rw [c2]; exact hk), c2]
          have cn : ∀ k, k < s.2.2.2.1.length → s5.2.2.2.1[k]? = s.2.2.2.1[k]? := by
            intro k hk
            rw [n5, List.getElem?_append_left (by omega), x3 k (by rw [n2']; omega), n2']
          have cu : ∀ k, k < s.2.2.2.2.length → s5.2.2.2.2[k]? = s.2.2.2.2[k]? := by
            intro k hk
            rw [u5, x4 k (by rw [u2]; omega), u2]
          refine ⟨⟨by omega, fun k hk => by rw [cc k (by omega), z2 k hk], fun k hk => by rw [cn k (by omega), z3 k hk], fun k hk => by rw [cu k (by omega), z4 k hk], by omega, by omega, by rw [u5]; omega, by omega⟩, ?_⟩
          have hL : pRep fg s0.2.2.2.1.length s0.2.2.2.2.length s5 (s3.2.1 - s0.2.1 - 1) s0.2.2.1.length s.2.2.1.length m := by
            have hx := hm
            unfold Rp at hx
            exact pRep.mv (Nat.le_refl _) (Nat.le_refl _) (Nat.le_refl _) (fun k _ k2 => cn k k2) (fun k _ k2 => cu k k2) _ _ _ _ _ (by omega) (fun k _ k2 => cc k k2) hx
          have hR : pRep fg s0.2.2.2.1.length s0.2.2.2.2.length s5 (s3.2.1 - s0.2.1 - 1) s.2.2.1.length s3.2.2.1.length m' := by
            have hx := hr
            unfold Rp at hx
            rw [c2, n2', u2, o2] at hx
            refine pRep.mv (Nat.le_refl _) (by omega) (by omega) ?_ ?_ _ _ _ _ _ (by omega) ?_ hx
            · intro k k1 k2
              rw [n5, List.getElem?_append_left k2]
            · intro k k1 k2
              rw [u5]
            · intro k k1 k2
              rw [c5, List.getElem?_append_left k2]
          have la := hL.lt
          have lb := hR.lt
          unfold Rp
          rw [show s5.2.1 - s0.2.1 = (s3.2.1 - s0.2.1 - 1) + 1 by rw [o5]; omega, l5, t5]
          refine ⟨by omega, by omega, opO (kd tk s.1), Int32.ofNat m, Int32.ofNat m', 0, by rw [n5]; simp, Or.inr (Or.inr (Or.inr (Or.inr (Or.inr (Or.inr (Or.inr (Or.inr (Or.inr (Or.inr (Or.inr (Or.inr ⟨hop, hop2, s.2.2.1.length, m, m', rfl, rfl, hL, hR, ?_⟩)))))))))))⟩
          show s5.2.2.1[s3.2.2.1.length]? = _
          rw [c5, ← hdo]; simp
      by_cases h2 : l = 2
      · rw [if_pos h2] at h5
        cases h5
        exact key.2
      · rw [if_neg h2] at h5
        exact rep_loop hl el hl4 f n2 s0 s5 s' n key.1 key.2 h5
    · rw [if_neg hlv] at h
      cases h
      exact hm
theorem rep_base (hva : vaOk tk) (hl : RepL fg rl) (ho : RepO fg ro) (el : ExtL rl) (eo : ExtO ro) (h : pBase tk fg rl ro i s = .inl (s', n)) : Rp fg s s' n := by
  unfold pBase at h
  split at h
  · rename_i hk
    exact rep_num hva hk h
  split at h
  · exact rep_named hl el h
  split at h
  · obtain ⟨s1, a, q1, h1⟩ := pb_inl h
    obtain ⟨s2, _, q2, h2⟩ := pb_inl h1
    clear h h1
    cases h2
    unfold pBetween at q1
    obtain ⟨s3, _, q3, q4⟩ := pb_inl q1
    obtain ⟨_, e3⟩ := pEnter_inl q3
    obtain ⟨_, e2⟩ := pWant_inl q2
    rw [e3] at q4
    have := hl _ _ _ _ _ q4
    rw [e2]
    exact pRep.mv (s := s1) (s' := sNx s1) (Nat.le_refl _) (Nat.le_refl _) (Nat.le_refl _) (fun _ _ _ => rfl) (fun _ _ _ => rfl) _ _ _ _ _ (Nat.le_refl _) (fun _ _ _ => rfl) this
  split at h
  · exact rep_asked hl el (by omega) h
  split at h
  · exact rep_asked hl el (by omega) h
  split at h
  · exact rep_asked hl el (by omega) h
  split at h
  · exact rep_asked hl el (by omega) h
  split at h
  · exact rep_try ho eo h
  · cases h
theorem rep_one (hva : vaOk tk) (hl : RepL fg rl) (ho : RepO fg ro) (el : ExtL rl) (eo : ExtO ro) : RepO fg (pOne tk fg rl ro) := by
  intro i s s' n h
  unfold pOne at h
  by_cases hk : kd tk s.1 = 45 ∨ kd tk s.1 = 221
  · rw [if_pos hk] at h
    by_cases h45 : kd tk s.1 = 45
    · simp only [if_pos h45] at h
      exact rep_one1 ho eo (Or.inl ⟨rfl, rfl⟩) h
    · simp only [if_neg h45] at h
      exact rep_one1 ho eo (Or.inr ⟨rfl, rfl⟩) h
  · rw [if_neg hk] at h
    exact rep_base hva hl ho el eo h
theorem rep_level (hl : RepL fg rl) (ho : RepO fg ro) (el : ExtL rl) : RepL fg (pLevel tk rl ro) := by
  intro l i s s' n h
  unfold pLevel at h
  split at h
  · rename_i h4
    obtain ⟨s1, m, q1, h1⟩ := pb_inl h
    exact rep_loop hl el h4 251 m s s1 s' n (el _ _ _ _ _ q1) (hl _ _ _ _ _ q1) h1
  · exact ho _ _ _ _ h
end REP5
theorem rep_fix {tk : List zK} {fg : Nat} (hva : vaOk tk) : ∀ d : Nat, RepL fg (pFix tk fg d).1 ∧ RepO fg (pFix tk fg d).2
  | 0 => by
    refine ⟨?_, ?_⟩
    · intro _ _ _ _ _ h
      cases h
    · intro _ _ _ _ h
      cases h
  | d + 1 => by
    obtain ⟨h1, h2⟩ := rep_fix (tk := tk) (fg := fg) hva d
    obtain ⟨e1, e2⟩ := E_fix (tk := tk) (fg := fg) d
    exact ⟨rep_level h1 h2 e1, rep_one hva h1 h2 e1 e2⟩
