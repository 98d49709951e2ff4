/-! TAKE: rows read; the class -/
/-- a row: a part behind those before, its answer, the right sum -/
def rdRow (En : List (Int64 × Int32)) (F : yF) (lst : Nat) (l : List Int32) : Option (Nat × yO × List Int32) := (rdN 1 0 l).bind fun a => if (lst : Int) ≤ a.1.toInt ∧ (askP F a.1).isSome then (rdOb En a.2).bind fun o => (rdN 2 0 o.2).bind fun c => if c.1 = smB 0 (l.take (l.length - o.2.length)) then some (a.1.toInt.toNat, o.1, c.2) else none else none
/-- all rows: the answers, or none, and how many rows are right -/
def rdAll (En : List (Int64 × Int32)) (F : yF) : Nat → Nat → List Int32 → List (Option yO) → Nat → Option (List (Option yO)) × Nat
  | 0, _, _, A, r => (some A, r)
  | k + 1, lst, l, A, r => if l = [] then (some A, r) else match rdRow En F lst l with
    | none => (none, r)
    | some q => rdAll En F k (q.1 + 1) q.2.2 (A.set q.1 (some q.2.1)) (r + 1)
theorem rdI_le {En : List (Int64 × Int32)} {s : Nat} {l : List Int32} {q : Int64 × List Int32} (h : rdI En s l = some q) : q.2.length ≤ l.length := by
  rw [rdI] at h
  split at h
  · rcases h1 : rdN 4 0 l with _ | a
    · rw [h1] at h; cases h
    · rw [h1, Option.bind_some] at h
      rcases h2 : rdN 4 0 a.2 with _ | b
      · rw [h2] at h; cases h
      · rw [h2] at h
        injection h with h
        rw [← h]
        show b.2.length ≤ _
        rw [(rdN_drop _ _ _ _ h2).1, (rdN_drop _ _ _ _ h1).1, List.length_drop, List.length_drop]; omega
  · rcases h1 : rdN (bOf s) 0 l with _ | a
    · rw [h1] at h; cases h
    · rw [h1, Option.bind_some] at h
      rcases h2 : itmK En s a.1 with _ | b
      · rw [h2] at h; cases h
      · rw [h2] at h
        injection h with h
        rw [← h]
        show a.2.length ≤ _
        rw [(rdN_drop _ _ _ _ h1).1, List.length_drop]; omega
theorem rdC_le : ∀ (k : Nat) (l : List Int32) (q : List Int32 × List Int32), rdC k l = some q → q.2.length ≤ l.length
  | 0, l, q, h => by
    injection h with h
    rw [← h]; exact Nat.le_refl _
  | k + 1, l, q, h => by
    rw [rdC] at h
    rcases h1 : rdN 4 0 l with _ | a
    · rw [h1] at h; cases h
    · rw [h1, Option.bind_some] at h
      rcases h2 : rdC k a.2 with _ | b
      · rw [h2] at h; cases h
      · rw [h2] at h
        injection h with h
        rw [← h]
        have := rdC_le k a.2 b h2
        rw [(rdN_drop _ _ _ _ h1).1, List.length_drop] at this
        show b.2.length ≤ _
        omega
theorem rdR_le {l : List Int32} {q : Option (List Int32) × List Int32} (h : rdR l = some q) : q.2.length ≤ l.length := by
  rw [rdR] at h
  rcases h1 : rdN 1 0 l with _ | a
  · rw [h1] at h; cases h
  · have hl : a.2.length ≤ l.length := by rw [(rdN_drop _ _ _ _ h1).1, List.length_drop]; omega
    rw [h1, Option.bind_some] at h
    split at h
    · injection h with h
      rw [← h]; exact hl
    · split at h
      · cases h
      · rcases h2 : rdC a.1.toInt.toNat a.2 with _ | b
        · rw [h2] at h; cases h
        · rw [h2] at h
          injection h with h
          rw [← h]
          exact Nat.le_trans (rdC_le _ _ _ h2) hl
theorem rdIs_le {En : List (Int64 × Int32)} {s : Nat} : ∀ (k : Nat) (l : List Int32) (q : List Int64 × List Int32), rdIs En s k l = some q → q.2.length ≤ l.length
  | 0, l, q, h => by
    injection h with h
    rw [← h]; exact Nat.le_refl _
  | k + 1, l, q, h => by
    rw [rdIs] at h
    rcases h1 : rdI En s l with _ | a
    · rw [h1] at h; cases h
    · rw [h1, Option.bind_some] at h
      rcases h2 : rdIs En s k a.2 with _ | b
      · rw [h2] at h; cases h
      · rw [h2] at h
        injection h with h
        rw [← h]
        exact Nat.le_trans (rdIs_le k a.2 b h2) (rdI_le h1)
theorem rdRs_le : ∀ (k : Nat) (l : List Int32) (q : List (Option (List Int32)) × List Int32), rdRs k l = some q → q.2.length ≤ l.length
  | 0, l, q, h => by
    injection h with h
    rw [← h]; exact Nat.le_refl _
  | k + 1, l, q, h => by
    rw [rdRs] at h
    rcases h1 : rdR l with _ | a
    · rw [h1] at h; cases h
    · rw [h1, Option.bind_some] at h
      rcases h2 : rdRs k a.2 with _ | b
      · rw [h2] at h; cases h
      · rw [h2] at h
        injection h with h
        rw [← h]
        exact Nat.le_trans (rdRs_le k a.2 b h2) (rdR_le h1)
theorem rdOb_le {En : List (Int64 × Int32)} {l : List Int32} {q : yO × List Int32} (h : rdOb En l = some q) : q.2.length ≤ l.length := by
  rw [rdOb] at h
  rcases h1 : rdN 1 0 l with _ | a
  · rw [h1] at h; cases h
  · rw [h1, Option.bind_some] at h
    have hl : a.2.length ≤ l.length := by rw [(rdN_drop _ _ _ _ h1).1, List.length_drop]; omega
    rcases h2 : rdN 1 0 a.2 with _ | b
    · rw [h2] at h; cases h
    · rw [h2, Option.bind_some] at h
      have hl2 : b.2.length ≤ a.2.length := by rw [(rdN_drop _ _ _ _ h2).1, List.length_drop]; omega
      by_cases hc : a.1.toInt ≤ 7 ∧ b.1.toInt ≤ (if a.1 = 4 then 6 else 12) ∧ (a.1 = 7 → b.1 = 1)
      · rw [if_pos hc, rdO] at h
        by_cases e4 : a.1.toInt.toNat = 4
        · rw [if_pos e4] at h
          rcases h3 : rdRs b.1.toInt.toNat b.2 with _ | c
          · rw [h3] at h; cases h
          · rw [h3] at h
            injection h with h
            rw [← h]
            have := rdRs_le _ _ _ h3
            show c.2.length ≤ _
            omega
        · rw [if_neg e4] at h
          rcases h3 : rdIs En a.1.toInt.toNat b.1.toInt.toNat b.2 with _ | c
          · rw [h3] at h; cases h
          · rw [h3] at h
            injection h with h
            rw [← h]
            have := rdIs_le _ _ _ h3
            show c.2.length ≤ _
            omega
      · rw [if_neg hc] at h; cases h
section LOADC
variable {X : List Int32} {D1 : List xE} {En : List (Int64 × Int32)} {js : List Int32} {F : yF}
theorem c_sum {N : Nat} {S : zS} (l3 : (zA S 3).length = 1200) : ∀ (m i n : Nat) (e : Nat) (c : Int32), e = i + m → e ≤ 1200 → m < n → cZ_sum_4 N n (Int32.ofNat e) c (Int32.ofNat i) S = some (smB c (((zA S 3).drop i).take m), S)
  | _, _, 0, _, _, _, _, hn => by omega
  | 0, i, n + 1, e, c, he, hl, _ => by
    rw [cZ_sum_4, if_pos (by rw [yi_nat (by omega), yi_nat (by omega)]; omega), List.take_zero]
    rfl
  | m + 1, i, n + 1, e, c, he, hl, hn => by
    obtain ⟨b, hb⟩ : ∃ b, (zA S 3)[i]? = some b := ⟨_, List.getElem?_eq_getElem (by omega)⟩
    have hd : (zA S 3).drop i = b :: (zA S 3).drop (i + 1) := by
      rw [List.drop_eq_getElem_cons (by omega)]
      congr 1
      rw [List.getElem?_eq_getElem (by omega)] at hb
      injection hb
    rw [cZ_sum_4, if_neg (by rw [yi_nat (by omega), yi_nat (by omega)]; omega), if_neg (by rw [l3, yi_nat (by omega), yi_nat (by omega)]; omega), gI_nat (by omega), hb, zg_s, yi_add1, c_sum l3 m (i + 1) n e _ (by omega) hl (by omega), hd]
    rfl
theorem c_sum2 {S : zS} {a e : Nat} (l3 : (zA S 3).length = 1200) (he : e ≤ 1200) (ha : a ≤ 1200) : ∃ v, cZ_sum 1300 (Int32.ofNat a) (Int32.ofNat e) S = some (v, S) ∧ (a ≤ e → v = smB 0 (((zA S 3).drop a).take (e - a))) := by
  rcases Nat.lt_or_ge a e with h | h
  · exact ⟨_, c_sum (N := 1300) l3 (e - a) a 1300 e 0 (by omega) he (by omega), fun _ => rfl⟩
  · refine ⟨0, ?_, fun h2 => ?_⟩
    · rw [cZ_sum, cZ_sum_4, if_pos (by rw [yi_nat (by omega), yi_nat (by omega)]; omega)]
    · rw [show e - a = 0 by omega, List.take_zero]
      rfl
theorem load_loop {da aa fa : Nat} (hE : En.length ≤ 100) (hc0 : ((106, .inl (5, 2, .int (Int32.ofNat En.length))) : xE) ∈ D1) (hc1 : ((108, .inr (0, (En.map Prod.snd ++ js).map Value.int)) : xE) ∈ D1) (hd1 : ((da, .inl (1, 1, .ref fa)) : xE) ∈ D1) (hd2 : ((da, .inl (1, 2, .ref aa)) : xE) ∈ D1) (hC : yFC D1 fa F) (hl20 : F.1.length ≤ 20) : ∀ (k row lst : Nat) (S : zS) (l : List Int32) (refs : List Value) (A : List (Option yO)) (N : List xE) (l4 l5 l6 l7 : Option Value), row + k = 1200 → lst ≤ 20 → RD 0 1 3 S l → byR (zA S 3) → zI S 2 = 0 → yAnB N refs A → yT X 20 500 201 10 [some (.ref 206), some (.ref da), some (.int (Int32.ofNat lst - 1)), some (.int (Int32.ofNat row)), l4, l5, l6, l7] [] ((aa, .inr (7, refs)) :: zD zTZ zaZ S (N ++ D1)) (9 * (20 - lst)) (64 * (20 - lst)) (fun r D => ∃ S' refs' N', D = (aa, .inr (7, refs')) :: zD zTZ zaZ S' (N' ++ D1) ∧ frZ S S' ∧ (match rdAll En F k lst l A row with
    | (some A', _) => r = some (.int (-9)) ∧ yAnB N' refs' A'
    | (none, j) => r = some (.int (Int32.ofNat j)) ∧ j < 1200))
  | 0, row, lst, S, l, refs, A, N, l4, l5, l6, l7, hk, hls, hR, hb, hf, hA => by
    refine xt_pure rfl rfl rfl rfl ?_
    refine xt_pure rfl rfl rfl (st1 := .int 1200 :: _) rfl ?_
    refine yt_ic rfl rfl (fun _ => ?_) (fun (h : Int32.toInt _ < (1200 : Int)) => ?_)
    · skip
      refine xt_pure rfl rfl rfl (st1 := .int (-9) :: _) rfl ?_
      exact xt_iret rfl rfl rfl rfl ⟨S, refs, N, rfl, ⟨rfl, rfl⟩, rfl, hA⟩
    · rw [yi_nat (by omega)] at h
      omega
  | k + 1, row, lst, S, l, refs, A, N, l4, l5, l6, l7, hk, hls, hR, hb, hf, hA => by
    obtain ⟨n, a, r1, r2, r3, r4, r5, r6⟩ := id hR
    have hbz := hb
    have hb : byR l := by
      intro b h
      rw [r6] at h
      exact hbz b (List.mem_of_mem_take (List.mem_of_mem_drop h))
    have inD : D1 ⊆ ((aa, .inr (7, refs)) :: zD zTZ zaZ S (N ++ D1)) := fun _ he => List.mem_cons_of_mem _ (List.mem_append_right _ (List.mem_append_right _ he))
    have trow := yi_nat (i := row) (by omega)
    refine xt_pure rfl rfl rfl rfl ?_
    refine xt_pure rfl rfl rfl (st1 := .int 1200 :: _) rfl ?_
    refine yt_ic rfl rfl (fun (h : (1200 : Int) ≤ Int32.toInt _) => ?_) (fun _ => ?_)
    · rw [trow] at h
      omega
    · skip
      refine xt_pure rfl rfl rfl rfl ?_
      refine xt_getf rfl rfl (xmD 2 rfl) ?_
      refine xt_pure rfl rfl rfl rfl ?_
      refine xt_getf rfl rfl (xmD 1 rfl) ?_
      rw [show zI S 1 = _ from r2, show zI S 0 = _ from r1]
      refine yt_ic rfl rfl (fun (h : Int32.toInt _ ≤ Int32.toInt _) => ?_) (fun (h : Int32.toInt _ < Int32.toInt _) => ?_)
      · rw [yi_nat (by omega), yi_nat (by omega)] at h
        have hnil : l = [] := by rw [r6]; exact List.drop_eq_nil_iff.mpr (by rw [List.length_take]; omega)
        refine xt_pure rfl rfl rfl (st1 := .int (-9) :: _) rfl ?_
        rw [rdAll, if_pos hnil]
        exact xt_iret rfl rfl rfl rfl ⟨S, refs, N, rfl, ⟨rfl, rfl⟩, rfl, hA⟩
      · rw [yi_nat (by omega), yi_nat (by omega)] at h
        have hnn : l ≠ [] := by
          intro e
          rw [e] at r6
          have := List.drop_eq_nil_iff.mp r6.symm
          rw [List.length_take] at this
          omega
        have hst0 : rdAll En F (k + 1) lst l A row = match rdRow En F lst l with
            | none => (none, row)
            | some q => rdAll En F k (q.1 + 1) q.2.2 (A.set q.1 (some q.2.1)) (row + 1) := by rw [rdAll, if_neg hnn]
        rw [hst0]
        refine xt_pure rfl rfl rfl rfl ?_
        refine xt_getf rfl rfl (xmD 2 rfl) ?_
        rw [show zI S 1 = _ from r2]
        obtain ⟨vp, S1, c1, c2, c3⟩ := ck_num (X := X) (D0 := (aa, .inr (7, refs)) :: (N ++ D1)) (fr := 0) (lo := 0) (k := 1) (by omega) hR
        obtain ⟨b0, l1, hbl⟩ : ∃ b0 l1, l = b0 :: l1 := by
          cases l with
          | nil => exact absurd rfl hnn
          | cons b0 l1 => exact ⟨b0, l1, rfl⟩
        have hq1 : rdN 1 0 l = some (b0, l1) := by rw [hbl, rdN, rdN, sh0]
        rw [hq1] at c3
        obtain ⟨rfl, hR1, hf1⟩ := c3
        have hvb := hb vp (by rw [hbl]; exact List.mem_cons_self)
        have hb1 : byR l1 := fun b h => hb b (by rw [hbl]; exact List.mem_cons_of_mem _ h)
        have pmS : ∀ (Sx : zS) (Nx : List xE), ((aa, .inr (7, refs)) :: zD zTZ zaZ Sx (Nx ++ D1)).Perm (zD zTZ zaZ Sx ((aa, .inr (7, refs)) :: (Nx ++ D1))) := fun Sx Nx => (List.perm_middle (l₁ := zE zaZ Sx 0 zTZ)).symm
        refine xt_pure rfl rfl rfl (L1 := [_, _, _, _, _, _, _, _]) rfl ?_
        refine xt_pure rfl rfl rfl rfl ?_
        refine xt_pure rfl rfl rfl (st1 := .int 1 :: _) rfl ?_
        refine yT.perm (pmS S N) ?_
        refine xt_callV rfl rfl rfl rfl (xmC 173 rfl) ⟨rfl, rfl, yle rfl, yle rfl, yle rfl, yle rfl⟩ c1 (c2 := 9 * (20 - lst)) (s2 := 64 * (20 - lst)) ⟨yle2, yle2⟩ ?_
        rintro _ _ ⟨rfl, rfl⟩
        refine yT.perm (pmS S1 N).symm ?_
        refine xt_pure rfl rfl rfl (L1 := [_, _, _, _, _, _, _, _]) rfl ?_
        refine xt_pure rfl rfl rfl rfl ?_
        refine xt_pure rfl rfl rfl rfl ?_
        have tl : (Int32.ofNat lst - 1).toInt = (lst : Int) - 1 := by
          cases lst with
          | zero => decide
          | succ q =>
            rw [yi_s1, yi_nat (by omega)]
            omega
        have wrong : rdRow En F lst l = none → ∀ (S2 : zS) (N2 : List xE) (x4 x5 x6 x7 : Option Value) (c sl : Nat), frZ S S2 → yT X 20 500 201 33 [some (.ref 206), some (.ref da), some (.int (Int32.ofNat lst - 1)), some (.int (Int32.ofNat row)), x4, x5, x6, x7] [] ((aa, .inr (7, refs)) :: zD zTZ zaZ S2 (N2 ++ D1)) c sl (fun r D => ∃ S' refs' N', D = (aa, .inr (7, refs')) :: zD zTZ zaZ S' (N' ++ D1) ∧ frZ S S' ∧ (match (match rdRow En F lst l with
            | none => (none, row)
            | some q => rdAll En F k (q.1 + 1) q.2.2 (A.set q.1 (some q.2.1)) (row + 1)) with
            | (some A', _) => r = some (.int (-9)) ∧ yAnB N' refs' A'
            | (none, j) => r = some (.int (Int32.ofNat j)) ∧ j < 1200)) := by
          intro hno S2 N2 x4 x5 x6 x7 c sl hfr
          refine xt_pure rfl rfl rfl rfl ?_
          refine xt_iret rfl rfl rfl rfl ⟨S2, refs, N2, rfl, hfr, ?_⟩
          rw [hno]
          exact ⟨rfl, by omega⟩
        refine yt_ic rfl rfl (fun (hp : vp.toInt ≤ Int32.toInt _) => ?_) (fun (hp : Int32.toInt _ < vp.toInt) => ?_)
        · rw [tl] at hp
          exact wrong (by rw [rdRow, hq1, Option.bind_some, if_neg (fun g => by have g1 : (lst : Int) ≤ vp.toInt := g.1; omega)]) S1 N _ _ _ _ _ _ c2
        · rw [tl] at hp
          obtain ⟨pp, qq, f1, _⟩ := id hC
          have inD1 : D1 ⊆ ((aa, .inr (7, refs)) :: zD zTZ zaZ S1 (N ++ D1)) := fun _ he => List.mem_cons_of_mem _ (List.mem_append_right _ (List.mem_append_right _ he))
          refine xt_pure rfl rfl rfl rfl ?_
          refine xt_getf rfl rfl (xmS 0 rfl (inD1 hd1)) ?_
          refine xt_pure rfl rfl rfl rfl ?_
          refine xt_callV rfl rfl rfl rfl (xmS 0 rfl (inD1 (ymm f1 0 rfl))) ⟨rfl, rfl, yle rfl, yle rfl, yle rfl, yle rfl⟩ (ck_answered hl20 (hC.mono inD1)) (c2 := 9 * (20 - lst)) (s2 := 64 * (20 - lst)) ⟨yle2, yle2⟩ ?_
          rintro _ _ (⟨rfl, ⟨P, hP⟩, rfl⟩ | ⟨rfl, hP, rfl⟩)
          rotate_left
          · refine xt_pure rfl rfl rfl rfl ?_
            exact wrong (by rw [rdRow, hq1, Option.bind_some, if_neg (fun g => by rw [hP] at g; cases g.2)]) S1 N _ _ _ _ _ _ c2
          · refine xt_pure rfl rfl rfl rfl ?_
            obtain ⟨p1, p2, p3, p4⟩ := askP_some hP
            have hgo : rdRow En F lst l = (rdOb En l1).bind fun o => (rdN 2 0 o.2).bind fun c => if c.1 = smB 0 (l.take (l.length - o.2.length)) then some (vp.toInt.toNat, o.1, c.2) else none := by
              rw [rdRow, hq1, Option.bind_some, if_pos ⟨by show (lst : Int) ≤ vp.toInt; omega, by rw [hP]; rfl⟩]
            have hbud : 20 - lst = (20 - (vp.toInt.toNat + 1)) + 1 + (vp.toInt.toNat - lst) := by omega
            refine xt_pure rfl rfl rfl rfl ?_
            refine yT.perm (pmS S1 N) ?_
            refine xt_callV rfl rfl rfl rfl (xmC 173 rfl) ⟨rfl, rfl, yle rfl, yle rfl, yle rfl, yle rfl⟩ (ck_loadObject (D0 := (aa, .inr (7, refs)) :: (N ++ D1)) hE (List.mem_cons_of_mem _ (List.mem_append_right _ hc0)) (List.mem_cons_of_mem _ (List.mem_append_right _ hc1)) hR1 hb1 (hf1.trans hf)) (c2 := 9 * (20 - (vp.toInt.toNat + 1))) (s2 := 64 * (20 - (vp.toInt.toNat + 1))) ⟨by omega, by omega⟩ ?_
            rintro _ _ ⟨S2, v, N1, l2, rfl, rfl, hR2, d2, d3, d4⟩
            have pm2 : (zD zTZ zaZ S2 (N1 ++ ((aa, .inr (7, refs)) :: (N ++ D1)))).Perm ((aa, .inr (7, refs)) :: zD zTZ zaZ S2 ((N1 ++ N) ++ D1)) := by
              refine List.Perm.trans ?_ (List.perm_middle (l₁ := zE zaZ S2 0 zTZ))
              refine List.Perm.append_left _ ?_
              rw [List.append_assoc]
              exact List.perm_middle
            refine yT.perm pm2 ?_
            have hfr2 : frZ S S2 := ⟨d2.1.trans c2.1, d2.2.trans c2.2⟩
            obtain ⟨n2, a2, u1, u2, u3, u4, u5, u6⟩ := id hR2
            have hn2 : n2 = n := by
              have := hfr2.1
              rw [u1, r1] at this
              exact yi_inj (by omega) (by omega) this
            subst hn2
            obtain ⟨sm, sm1, sm2⟩ := c_sum2 (S := S2) (a := a) (e := a2) u5 (by omega) (by omega)
            have pm3 : ∀ (Sx : zS), ((aa, .inr (7, refs)) :: zD zTZ zaZ Sx ((N1 ++ N) ++ D1)).Perm (zD zTZ zaZ Sx ((aa, .inr (7, refs)) :: ((N1 ++ N) ++ D1))) := fun Sx => (List.perm_middle (l₁ := zE zaZ Sx 0 zTZ)).symm
            have rf : ∀ {c sl : Nat} {Q : Option Value → List xE → Prop} {x6 x7 : Option Value}, yT X 20 500 201 38 [some (.ref 206), some (.ref da), some (.int (Int32.ofNat lst - 1)), some (.int (Int32.ofNat row)), some (.int (Int32.ofNat a)), some (.int vp), some v, x7] [] ((aa, .inr (7, refs)) :: zD zTZ zaZ S2 ((N1 ++ N) ++ D1)) c sl Q → yT X 20 500 201 37 [some (.ref 206), some (.ref da), some (.int (Int32.ofNat lst - 1)), some (.int (Int32.ofNat row)), some (.int (Int32.ofNat a)), some (.int vp), x6, x7] [v] ((aa, .inr (7, refs)) :: zD zTZ zaZ S2 ((N1 ++ N) ++ D1)) c sl Q := by
              intro c sl Q x6 x7 w
              rcases d3 with rfl | ⟨ab, rfl⟩
              · exact xt_pure rfl rfl rfl (L1 := [_, _, _, _, _, _, _, _]) rfl w
              · exact xt_pure rfl rfl rfl (L1 := [_, _, _, _, _, _, _, _]) rfl w
            have rf7 : ∀ {c sl : Nat} {Q : Option Value → List xE → Prop} {x7 : Option Value}, yT X 20 500 201 45 [some (.ref 206), some (.ref da), some (.int (Int32.ofNat lst - 1)), some (.int (Int32.ofNat row)), some (.int (Int32.ofNat a)), some (.int vp), some v, some (.int sm)] [] ((aa, .inr (7, refs)) :: zD zTZ zaZ S2 ((N1 ++ N) ++ D1)) c sl Q → yT X 20 500 201 44 [some (.ref 206), some (.ref da), some (.int (Int32.ofNat lst - 1)), some (.int (Int32.ofNat row)), some (.int (Int32.ofNat a)), some (.int vp), some v, x7] [.int sm] ((aa, .inr (7, refs)) :: zD zTZ zaZ S2 ((N1 ++ N) ++ D1)) c sl Q := by
              intro c sl Q x7 w
              rcases d3 with rfl | ⟨ab, rfl⟩
              · exact xt_pure rfl rfl rfl (L1 := [_, _, _, _, _, _, _, _]) rfl w
              · exact xt_pure rfl rfl rfl (L1 := [_, _, _, _, _, _, _, _]) rfl w
            refine rf ?_
            have wrong6 : rdRow En F lst l = none → ∀ (S3 : zS) (x4 x5 x6 x7 : Option Value) (c sl : Nat), frZ S S3 → yT X 20 500 201 56 [some (.ref 206), some (.ref da), some (.int (Int32.ofNat lst - 1)), some (.int (Int32.ofNat row)), x4, x5, x6, x7] [] ((aa, .inr (7, refs)) :: zD zTZ zaZ S3 ((N1 ++ N) ++ D1)) c sl (fun r D => ∃ S' refs' N', D = (aa, .inr (7, refs')) :: zD zTZ zaZ S' (N' ++ D1) ∧ frZ S S' ∧ (match (match rdRow En F lst l with
                | none => (none, row)
                | some q => rdAll En F k (q.1 + 1) q.2.2 (A.set q.1 (some q.2.1)) (row + 1)) with
                | (some A', _) => r = some (.int (-9)) ∧ yAnB N' refs' A'
                | (none, j) => r = some (.int (Int32.ofNat j)) ∧ j < 1200)) := by
              intro hno S3 x4 x5 x6 x7 c sl hfr
              refine xt_pure rfl rfl rfl rfl ?_
              refine xt_iret rfl rfl rfl rfl ⟨S3, refs, N1 ++ N, rfl, hfr, ?_⟩
              rw [hno]
              exact ⟨rfl, by omega⟩
            refine xt_pure rfl rfl rfl rfl ?_
            refine xt_getf rfl rfl (xmC 174 rfl) ?_
            refine xt_pure rfl rfl rfl rfl ?_
            refine xt_pure rfl rfl rfl rfl ?_
            refine xt_getf rfl rfl (xmD 2 rfl) ?_
            rw [show zI S2 1 = _ from u2]
            refine yT.perm (pm3 S2) ?_
            refine xt_callS rfl rfl (by decide) rfl ⟨rfl, yle rfl, yle rfl, yle rfl, yle rfl⟩ (tcZ_sum (N := 1300) (fr := 0) (lo := 0) (by omega) (by omega) sm1) (c2 := 9 * (20 - (vp.toInt.toNat + 1))) (s2 := 64 * (20 - (vp.toInt.toNat + 1))) ⟨yle2, yle2⟩ ?_
            rintro _ _ ⟨rfl, rfl⟩
            refine yT.perm (pm3 S2).symm ?_
            refine rf7 ?_
            refine xt_pure rfl rfl rfl rfl ?_
            refine xt_getf rfl rfl (xmD 3 rfl) ?_
            rcases hob : rdOb En l1 with _ | q
            · rw [hob] at d4
              rw [show zI S2 2 = 1 from d4]
              refine xt_pure rfl rfl rfl rfl ?_
              exact wrong6 (by rw [hgo, hob]; rfl) S2 _ _ _ _ _ _ hfr2
            · rw [hob] at d4
              obtain ⟨d4, rfl, ob, rfl, hOB⟩ := d4
              rw [show zI S2 2 = 0 from d4]
              refine xt_pure rfl rfl rfl rfl ?_
              have hle := rdOb_le hob
              have hll : l.length = n2 - a := by rw [r6, List.length_drop, List.length_take, r5]; omega
              have hl1l : l1.length + 1 = l.length := by rw [hbl, List.length_cons]
              have hl2l : q.2.length = n2 - a2 := by rw [u6, List.length_drop, List.length_take, u5]; omega
              have hsm : sm = smB 0 (l.take (l.length - q.2.length)) := by
                rw [sm2 (by omega), hfr2.2]
                congr 1
                rw [show l.length - q.2.length = a2 - a by omega, r6, List.drop_take, List.take_take, show min (a2 - a) (n2 - a) = a2 - a by omega]
              obtain ⟨vs, S3, g1, g2, g3⟩ := ck_num (X := X) (D0 := (aa, .inr (7, refs)) :: ((N1 ++ N) ++ D1)) (fr := 0) (lo := 0) (k := 2) (by omega) hR2
              have hfr3 : frZ S S3 := ⟨g2.1.trans hfr2.1, g2.2.trans hfr2.2⟩
              refine xt_pure rfl rfl rfl rfl ?_
              refine xt_pure rfl rfl rfl (st1 := .int 2 :: _) rfl ?_
              refine yT.perm (pm3 S2) ?_
              refine xt_callV rfl rfl rfl rfl (xmC 173 rfl) ⟨rfl, rfl, yle rfl, yle rfl, yle rfl, yle rfl⟩ g1 (c2 := 9 * (20 - (vp.toInt.toNat + 1))) (s2 := 64 * (20 - (vp.toInt.toNat + 1))) ⟨yle2, yle2⟩ ?_
              rintro _ _ ⟨rfl, rfl⟩
              refine yT.perm (pm3 S3).symm ?_
              refine xt_pure rfl rfl rfl rfl ?_
              rcases hq2 : rdN 2 0 q.2 with _ | c
              · rw [hq2] at g3
                have hno : rdRow En F lst l = none := by rw [hgo, hob, Option.bind_some, hq2]; rfl
                refine yt_ic rfl rfl (fun _ => wrong6 hno S3 _ _ _ _ _ _ hfr3) (fun _ => ?_)
                refine xt_pure rfl rfl rfl rfl ?_
                refine xt_getf rfl rfl (xmD 3 rfl) ?_
                rw [show zI S3 2 = 1 from g3.2.2]
                refine xt_pure rfl rfl rfl rfl ?_
                exact wrong6 hno S3 _ _ _ _ _ _ hfr3
              · rw [hq2] at g3
                obtain ⟨rfl, hR3, hf3⟩ := g3
                refine yt_ic rfl rfl (fun (hne : c.1 ≠ sm) => ?_) (fun (heq : c.1 = sm) => ?_)
                · exact wrong6 (by rw [hgo, hob, Option.bind_some, hq2, Option.bind_some, if_neg (by rw [← hsm]; exact hne)]) S3 _ _ _ _ _ _ hfr3
                · have hyes : rdRow En F lst l = some (vp.toInt.toNat, q.1, c.2) := by rw [hgo, hob, Option.bind_some, hq2, Option.bind_some, if_pos (by rw [← hsm]; exact heq)]
                  refine xt_pure rfl rfl rfl rfl ?_
                  refine xt_getf rfl rfl (xmD 3 rfl) ?_
                  rw [show zI S3 2 = 0 from hf3.trans d4]
                  refine xt_pure rfl rfl rfl rfl ?_
                  have inD3 : D1 ⊆ ((aa, .inr (7, refs)) :: zD zTZ zaZ S3 ((N1 ++ N) ++ D1)) := fun _ he => List.mem_cons_of_mem _ (List.mem_append_right _ (List.mem_append_right _ he))
                  refine xt_pure rfl rfl rfl rfl ?_
                  refine xt_getf rfl rfl (xmS 0 rfl (inD3 hd2)) ?_
                  refine xt_pure rfl rfl rfl rfl ?_
                  refine xt_pure rfl rfl rfl rfl ?_
                  obtain ⟨_, _, _, _, o1, _⟩ := id hOB
                  refine yt_ast rfl rfl 0 rfl rfl (by decide) (Or.inl ⟨_, 6, 0, _, rfl, rfl, List.mem_append_left _ (List.mem_cons_of_mem _ (List.mem_append_right _ (List.mem_append_left _ (List.mem_append_left _ o1))))⟩) ⟨p1, by rw [hA.1]; omega⟩ (D1 := (aa, .inr (7, refs.set vp.toInt.toNat (.ref ob))) :: zD zTZ zaZ S3 ((N1 ++ N) ++ D1)) rfl ?_
                  refine xt_pure rfl rfl rfl rfl ?_
                  refine xt_pure rfl rfl rfl (L1 := [_, _, _, _, _, _, _, _]) rfl ?_
                  refine xt_pure rfl rfl rfl (L1 := [_, _, _, some (.int (_ + 1)), _, _, _, _]) rfl ?_
                  refine xt_pure rfl rfl rfl rfl ?_
                  rw [yi_add1, hyes]
                  have hvp : vp = Int32.ofNat (vp.toInt.toNat + 1) - 1 := by rw [yi_s1, yi_id p1]
                  have hput : yAnB (N1 ++ N) (refs.set vp.toInt.toNat (.ref ob)) (A.set vp.toInt.toNat (some q.1)) := yAnB.put (hA.mono (fun _ he => List.mem_append_right _ he)) ⟨ob, rfl, hOB.mono (fun _ he => List.mem_append_left _ he)⟩
                  have REC := load_loop hE hc0 hc1 hd1 hd2 hC hl20 k (row + 1) (vp.toInt.toNat + 1) S3 c.2 (refs.set vp.toInt.toNat (.ref ob)) (A.set vp.toInt.toNat (some q.1)) (N1 ++ N) (some (.int (Int32.ofNat a))) (some (.int vp)) (some (.ref ob)) (some (.int sm)) (by omega) (by omega) hR3 (by rw [hfr3.2]; exact hbz) (hf3.trans d4) hput
                  rw [← hvp] at REC
                  refine REC.mono (Nat.le_refl _) (Nat.le_refl _) ?_
                  rintro r D ⟨S', refs', N', w1, w2, w3⟩
                  exact ⟨S', refs', N', w1, ⟨w2.1.trans hfr3.1, w2.2.trans hfr3.2⟩, w3⟩
end LOADC
