/-! TAKE: an object read with its sort and size; the class -/
theorem rdIs_len {En : List (Int64 × Int32)} {s : Nat} : ∀ (k : Nat) (l : List Int32) (q : List Int64 × List Int32), rdIs En s k l = some q → q.1.length = k
  | 0, l, q, h => by
    injection h with h
    rw [← h]; rfl
  | k + 1, l, q, h => by
    rw [rdIs] at h
    rcases h1 : rdI En s l with _ | a
    · rw [h1] at h; cases h
    · rw [h1, Option.bind_some] at h
      rcases h2 : rdIs En s k a.2 with _ | b
      · rw [h2] at h; cases h
      · rw [h2] at h
        injection h with h
        rw [← h, List.length_cons, rdIs_len k a.2 b h2]
theorem rdRs_len : ∀ (k : Nat) (l : List Int32) (q : List (Option (List Int32)) × List Int32), rdRs k l = some q → q.1.length = k
  | 0, l, q, h => by
    injection h with h
    rw [← h]; rfl
  | k + 1, l, q, h => by
    rw [rdRs] at h
    rcases h1 : rdR l with _ | a
    · rw [h1] at h; cases h
    · rw [h1, Option.bind_some] at h
      rcases h2 : rdRs k a.2 with _ | b
      · rw [h2] at h; cases h
      · rw [h2] at h
        injection h with h
        rw [← h, List.length_cons, rdRs_len k a.2 b h2]
section OBJC2
variable {X : List Int32} {D0 : List xE} {En : List (Int64 × Int32)} {js : List Int32}
theorem cvI_cit {s : Nat} {vs : List Int64} : vs.map (cvI s) = cit (s, vs, []) := by
  unfold cit
  show vs.map (cvI s) = if s = 5 ∨ s = 6 then vs.map cnv else vs
  by_cases h : s = 5 ∨ s = 6
  · rw [if_pos h]
    congr 1
    funext v
    unfold cvI
    rw [if_pos h]
  · rw [if_neg h]
    have : cvI s = id := by
      funext v
      unfold cvI
      rw [if_neg h]
      rfl
    rw [this, List.map_id]
theorem ob_perm1 {a b c d e f : xE} {S : zS} : (f :: c :: a :: b :: d :: e :: zD zTZ zaZ S D0).Perm (a :: b :: c :: zD zTZ zaZ S (d :: e :: f :: D0)) := by
  refine kp_perm1.trans (List.Perm.cons _ (List.Perm.cons _ (List.Perm.cons _ ?_)))
  have h : ∀ (A B : List xE), ([d, e, f] ++ (A ++ B)).Perm (A ++ ([d, e, f] ++ B)) := fun A B => by
    rw [← List.append_assoc, ← List.append_assoc]
    exact List.Perm.append_right _ List.perm_append_comm
  exact h (zE zaZ S 0 zTZ) D0
theorem ob_perm2 {a b c d e f : xE} {S : zS} : (a :: b :: c :: zD zTZ zaZ S (d :: e :: f :: D0)).Perm (zD zTZ zaZ S ([a, b, c, d, e, f] ++ D0)) := by
  have h : ∀ (A B : List xE), ([a, b, c] ++ (A ++ B)).Perm (A ++ ([a, b, c] ++ B)) := fun A B => by
    rw [← List.append_assoc, ← List.append_assoc]
    exact List.Perm.append_right _ List.perm_append_comm
  exact h (zE zaZ S 0 zTZ) (d :: e :: f :: D0)
theorem ob_perm3 {a b c d e f : xE} {S : zS} : (f :: c :: a :: b :: d :: e :: zD zTZ zaZ S D0).Perm (f :: zD zTZ zaZ S ([] ++ (a :: b :: d :: e :: c :: D0))) := by
  refine List.Perm.cons _ ?_
  have h : ∀ (A B : List xE), ([a, b, d, e, c] ++ (A ++ B)).Perm (A ++ ([a, b, d, e, c] ++ B)) := fun A B => by
    rw [← List.append_assoc, ← List.append_assoc]
    exact List.Perm.append_right _ List.perm_append_comm
  refine List.Perm.trans ?_ (h (zE zaZ S 0 zTZ) D0)
  exact (List.perm_middle (a := c) (l₁ := [a, b, d, e])).symm
theorem ob_perm4 {f : xE} {N : List xE} {S : zS} {a b d e c : xE} : (f :: zD zTZ zaZ S (N ++ (a :: b :: d :: e :: c :: D0))).Perm (zD zTZ zaZ S ((f :: (N ++ [a, b, d, e, c])) ++ D0)) := by
  have e0 : (f :: (N ++ [a, b, d, e, c])) ++ D0 = f :: (N ++ (a :: b :: d :: e :: c :: D0)) := by
    show f :: ((N ++ [a, b, d, e, c]) ++ D0) = _
    rw [List.append_assoc]
    rfl
  rw [e0]
  exact (List.perm_middle (l₁ := zE zaZ S 0 zTZ)).symm
theorem ck_loadObject {S : zS} {l : List Int32} (hE : En.length ≤ 100) (hc0 : ((106, .inl (5, 2, .int (Int32.ofNat En.length))) : xE) ∈ D0) (hc1 : ((108, .inr (0, (En.map Prod.snd ++ js).map Value.int)) : xE) ∈ D0) (hR : RD 0 1 3 S l) (hb : byR l) (hf : zI S 2 = 0) : yK X 10 300 203 [.ref 206] (zD zTZ zaZ S D0) 9 64 (fun r D => ∃ S' v N l', r = some v ∧ D = zD zTZ zaZ S' (N ++ D0) ∧ RD 0 1 3 S' l' ∧ frZ S S' ∧ rfV v ∧ (match rdOb En l with
    | some q => zI S' 2 = 0 ∧ l' = q.2 ∧ ∃ ob, v = .ref ob ∧ yOB N ob q.1
    | none => zI S' 2 = 1)) := by
  obtain ⟨va, S1, c1, c2, c3⟩ := ck_num (X := X) (D0 := D0) (fr := 0) (lo := 0) (k := 1) (by omega) hR
  have hR1 : ∃ l1, RD 0 1 3 S1 l1 ∧ byR l1 ∧ ∀ q, rdN 1 0 l = some q → l1 = q.2 := by
    rcases hq : rdN 1 0 l with _ | q
    · rw [hq] at c3; exact ⟨[], c3.2.1, (fun b h => by cases h), fun q h => by cases h⟩
    · rw [hq] at c3; exact ⟨q.2, c3.2.1, by rw [(rdN_drop _ _ _ _ hq).1]; exact hb.drop 1, fun q' h => by injection h with h; rw [h]⟩
  obtain ⟨l1, hR1, hb1, hl1⟩ := hR1
  obtain ⟨vb, S2, d1, d2, d3⟩ := ck_num (X := X) (D0 := D0) (fr := 0) (lo := 0) (k := 1) (by omega) hR1
  have hR2 : ∃ l2, RD 0 1 3 S2 l2 ∧ byR l2 ∧ ∀ q, rdN 1 0 l1 = some q → l2 = q.2 := by
    rcases hq : rdN 1 0 l1 with _ | q
    · rw [hq] at d3; exact ⟨[], d3.2.1, (fun b h => by cases h), fun q h => by cases h⟩
    · rw [hq] at d3; exact ⟨q.2, d3.2.1, by rw [(rdN_drop _ _ _ _ hq).1]; exact hb1.drop 1, fun q' h => by injection h with h; rw [h]⟩
  obtain ⟨l2, hR2, hb2, hl2⟩ := hR2
  have hfr : frZ S S2 := ⟨d2.1.trans c2.1, d2.2.trans c2.2⟩
  have bad : rdOb En l = none → ∀ (l3 l4 : Option Value), yT X 10 300 203 28 [some (.ref 206), some (.int va), some (.int vb), l3, l4] [] (zD zTZ zaZ S2 D0) 9 64 (fun r D => ∃ S' v N l', r = some v ∧ D = zD zTZ zaZ S' (N ++ D0) ∧ RD 0 1 3 S' l' ∧ frZ S S' ∧ rfV v ∧ (match rdOb En l with
    | some q => zI S' 2 = 0 ∧ l' = q.2 ∧ ∃ ob, v = .ref ob ∧ yOB N ob q.1
    | none => zI S' 2 = 1)) := by
    intro hno l3 l4
    refine xt_pure rfl rfl rfl rfl ?_
    refine xt_pure rfl rfl rfl (st1 := .int 1 :: _) rfl ?_
    refine xt_putf rfl rfl rfl rfl 2 rfl (D1 := zD zTZ zaZ (zsI S2 2 1) D0) rfl ?_
    refine xt_pure rfl rfl rfl rfl ?_
    refine xt_aret rfl rfl rfl rfl rfl ⟨zsI S2 2 1, .null, [], l2, rfl, rfl, ?_, hfr, Or.inl rfl, ?_⟩
    · obtain ⟨n, a, q1, q2, q3⟩ := hR2
      exact ⟨n, a, q1, q2, q3⟩
    · rw [hno]
      rfl
  refine yK.of rfl (yle rfl) (L := [_, _, _, _, _]) rfl ?_
  refine xt_pure rfl rfl rfl rfl ?_
  refine xt_pure rfl rfl rfl (st1 := .int 1 :: _) rfl ?_
  refine xt_callV rfl rfl rfl rfl (xmC 173 rfl) ⟨rfl, rfl, yle rfl, yle rfl, yle rfl, yle rfl⟩ c1 (c2 := 9) (s2 := 64) ⟨yle rfl, yle rfl⟩ ?_
  rintro _ _ ⟨rfl, rfl⟩
  refine xt_pure rfl rfl rfl (L1 := [_, _, _, _, _]) rfl ?_
  refine xt_pure rfl rfl rfl rfl ?_
  refine xt_pure rfl rfl rfl (st1 := .int 1 :: _) rfl ?_
  refine xt_callV rfl rfl rfl rfl (xmC 173 rfl) ⟨rfl, rfl, yle rfl, yle rfl, yle rfl, yle rfl⟩ d1 (c2 := 9) (s2 := 64) ⟨yle rfl, yle rfl⟩ ?_
  rintro _ _ ⟨rfl, rfl⟩
  refine xt_pure rfl rfl rfl (L1 := [_, _, _, _, _]) rfl ?_
  refine xt_pure rfl rfl rfl rfl ?_
  refine xt_getf rfl rfl (xmD 2 rfl) ?_
  rcases hqa : rdN 1 0 l with _ | a
  · rw [hqa] at c3
    have hf2 : zI S2 2 = 1 := by
      rcases hqb : rdN 1 0 l1 with _ | b
      · rw [hqb] at d3; exact d3.2.2
      · rw [hqb] at d3; exact d3.2.2.trans c3.2.2
    rw [show zI S2 2 = 1 from hf2]
    refine xt_pure rfl rfl rfl rfl ?_
    exact bad (by rw [rdOb, hqa]; rfl) _ _
  · rw [hqa] at c3
    have hl := hl1 a hqa
    subst hl
    rcases hqb : rdN 1 0 a.2 with _ | b
    · rw [hqb] at d3
      rw [show zI S2 2 = 1 from d3.2.2]
      refine xt_pure rfl rfl rfl rfl ?_
      exact bad (by rw [rdOb, hqa, Option.bind_some, hqb]; rfl) _ _
    · rw [hqb] at d3
      have hl := hl2 b hqb
      subst hl
      have hf2 : zI S2 2 = 0 := d3.2.2.trans (c3.2.2.trans hf)
      have ha : 0 ≤ va.toInt ∧ va.toInt ≤ 255 := by
        rw [c3.1]
        exact hb a.1 (by rw [rd1 hqa]; exact List.mem_cons_self)
      have hbb : 0 ≤ vb.toInt ∧ vb.toInt ≤ 255 := by
        rw [d3.1]
        exact hb1 b.1 (by rw [rd1 hqb]; exact List.mem_cons_self)
      have hno : ¬ (va.toInt ≤ 7 ∧ vb.toInt ≤ (if va = 4 then 6 else 12) ∧ (va = 7 → vb = 1)) → rdOb En l = none := by
        intro h
        rw [rdOb, hqa, Option.bind_some, hqb, Option.bind_some, ← c3.1, ← d3.1, if_neg h]
      rw [show zI S2 2 = 0 from hf2]
      refine xt_pure rfl rfl rfl rfl ?_
      refine xt_pure rfl rfl rfl rfl ?_
      refine xt_pure rfl rfl rfl (st1 := .int 7 :: _) rfl ?_
      refine yt_ic rfl rfl (fun (h7 : (7 : Int) < va.toInt) => bad (hno (fun h => by omega)) _ _) (fun (h7 : va.toInt ≤ (7 : Int)) => ?_)
      have good : (va.toInt ≤ 7 ∧ vb.toInt ≤ (if va = 4 then 6 else 12) ∧ (va = 7 → vb = 1)) → yT X 10 300 203 33 [some (.ref 206), some (.int va), some (.int vb), none, none] [] (zD zTZ zaZ S2 D0) 9 64 (fun r D => ∃ S' v N l', r = some v ∧ D = zD zTZ zaZ S' (N ++ D0) ∧ RD 0 1 3 S' l' ∧ frZ S S' ∧ rfV v ∧ (match rdOb En l with
    | some q => zI S' 2 = 0 ∧ l' = q.2 ∧ ∃ ob, v = .ref ob ∧ yOB N ob q.1
    | none => zI S' 2 = 1)) := by
        intro hg
        have hok : rdOb En l = rdO En va.toInt.toNat vb.toInt.toNat b.2 := by
          rw [rdOb, hqa, Option.bind_some, hqb, Option.bind_some, ← c3.1, ← d3.1, if_pos hg]
        obtain ⟨s, rfl, hs⟩ : ∃ s : Nat, va = Int32.ofNat s ∧ s ≤ 7 := ⟨va.toInt.toNat, (yi_id ha.1).symm, by omega⟩
        have ts := yi_nat (i := s) (by omega)
        obtain ⟨n, rfl, hn⟩ : ∃ n : Nat, vb = Int32.ofNat n ∧ n ≤ 255 := ⟨vb.toInt.toNat, (yi_id hbb.1).symm, by omega⟩
        have tn := yi_nat (i := n) (by omega)
        have hn12 : n ≤ 12 ∧ (s = 4 → n ≤ 6) := by
          have h2 := hg.2.1
          rw [tn] at h2
          by_cases e4 : s = 4
          · subst e4
            rw [if_pos (show Int32.ofNat 4 = 4 from rfl)] at h2
            exact ⟨by omega, fun _ => by omega⟩
          · rw [if_neg (fun (h : Int32.ofNat s = 4) => e4 (yi_inj (a := s) (b := 4) (by omega) (by omega) h))] at h2
            exact ⟨by omega, fun h => absurd h e4⟩
        rw [yi_toNat (by omega), yi_toNat (by omega)] at hok
        refine xt_new rfl rfl rfl (c1 := 8) (s1 := 60) (yle rfl) (yle rfl) ?_
        intro ob
        show yT _ _ _ _ _ _ _ ((ob, .inl (6, 0, .int 0)) :: (ob, .inl (6, 1, .int 0)) :: (ob, .inl (6, 2, .null)) :: (ob, .inl (6, 3, .null)) :: zD zTZ zaZ S2 D0) _ _ _
        refine xt_pure rfl rfl rfl rfl ?_
        refine xt_pure rfl rfl rfl rfl ?_
        refine xt_pure rfl rfl rfl rfl ?_
        refine xt_callI rfl rfl (by decide) rfl rfl ⟨rfl, yle rfl, yle rfl, yle rfl, yle rfl⟩ (yObj (s := s) (n := n) hs hn12.1) (c2 := 6) (s2 := 36) ⟨yle rfl, yle rfl⟩ ?_
        rintro _ _ ⟨oi, ra, rfl, rfl⟩
        refine xt_pure rfl rfl rfl (L1 := [_, _, _, _, _]) rfl ?_
        refine xt_pure rfl rfl rfl (st1 := .int 0 :: _) rfl ?_
        refine xt_pure rfl rfl rfl (L1 := [_, _, _, _, _]) rfl ?_
        by_cases e4 : s = 4
        · subst e4
          have hnR : newR 4 n = List.replicate n .null := by unfold newR; rw [if_pos rfl]
          have hnI : newI 4 n = [] := by unfold newI; rw [if_pos rfl]
          rw [hnR, hnI]
          refine yT.perm ob_perm3 ?_
          refine yT.post (((rows_loop (X := X) (D0 := (ob, .inl (6, 0, .int (Int32.ofNat 4))) :: (ob, .inl (6, 1, .int (Int32.ofNat n))) :: (ob, .inl (6, 2, .ref oi)) :: (ob, .inl (6, 3, .ref ra)) :: (oi, .inr (1, List.map Value.long [])) :: D0) (ob := ob) (ra := ra) (hn12.2 rfl) (List.mem_of_getElem? (i := 3) rfl) n 0 S2 b.2 (List.replicate n .null) [] [] (by omega) (by simp) rfl hR2 hf2 hb2 (fun i v r _ h => by cases h)).up (by omega) (by omega)).mono (by have := hn12.2 rfl; omega) (by have := hn12.2 rfl; omega) (fun _ _ h => h)) ?_
          rintro r D ⟨S', l', rr', N', w1, rfl, w3, w4, w5, w6⟩
          refine ⟨_, ob_perm4, S', .ref ob, _, l', w1, rfl, w3, ⟨w4.1.trans hfr.1, w4.2.trans hfr.2⟩, Or.inr ⟨ob, rfl⟩, ?_⟩
          rw [hok, rdO, if_pos rfl]
          rcases hq : rdRs n b.2 with _ | q
          · rw [hq] at w6
            exact w6
          · rw [hq] at w6
            have hql := rdRs_len _ _ _ hq
            refine ⟨w6.1, w6.2.1, ob, rfl, oi, ra, [], rr', ?_, ?_, ?_, ?_, ?_, List.mem_cons_self, fun _ => ?_, ?_, by show (0 : Nat) ≤ 1000; omega⟩
            · exact List.mem_cons_of_mem _ (List.mem_append_right _ (List.mem_of_getElem? (i := 0) rfl))
            · show ((ob, .inl (6, 1, .int (Int32.ofNat (osz (4, [], q.1))))) : xE) ∈ _
              rw [osz4 rfl, show (4, ([] : List Int64), q.1).2.2.length = n from hql]
              exact List.mem_cons_of_mem _ (List.mem_append_right _ (List.mem_of_getElem? (i := 1) rfl))
            · exact List.mem_cons_of_mem _ (List.mem_append_right _ (List.mem_of_getElem? (i := 2) rfl))
            · exact List.mem_cons_of_mem _ (List.mem_append_right _ (List.mem_of_getElem? (i := 3) rfl))
            · exact List.mem_cons_of_mem _ (List.mem_append_right _ (List.mem_of_getElem? (i := 4) rfl))
            · show rr'.length = q.1.length
              rw [w5, hql]
            · intro i v r h1 h2
              have := w6.2.2 i v r h1 h2
              exact this.mono (fun _ he => List.mem_cons_of_mem _ (List.mem_append_left _ he))
        · have hnR : newR s n = [] := by unfold newR; rw [if_neg e4]
          have hnl : (newI s n).length = n := by unfold newI; rw [if_neg e4, List.length_replicate]
          rw [hnR]
          refine yT.perm ob_perm1 ?_
          refine yT.post (((items_loop (X := X) (D0 := (ob, .inl (6, 2, .ref oi)) :: (ob, .inl (6, 3, .ref ra)) :: (ra, .inr (4, [])) :: D0) (ob := ob) (oi := oi) (js := js) hs e4 hn12.1 hE List.mem_cons_self (List.mem_cons_of_mem _ (List.mem_cons_of_mem _ (List.mem_cons_of_mem _ hc0))) (List.mem_cons_of_mem _ (List.mem_cons_of_mem _ (List.mem_cons_of_mem _ hc1))) n 0 S2 b.2 (newI s n) (by omega) hnl hR2 hf2 hb2).up (by omega) (by omega)).mono (Nat.zero_le _) (Nat.zero_le _) (fun _ _ h => h)) ?_
          rintro r D ⟨S', l', its', w1, rfl, w3, w4, w5, w6⟩
          refine ⟨_, ob_perm2, S', .ref ob, _, l', w1, rfl, w3, ⟨w4.1.trans hfr.1, w4.2.trans hfr.2⟩, Or.inr ⟨ob, rfl⟩, ?_⟩
          rw [hok, rdO, if_neg e4]
          rcases hq : rdIs En s n b.2 with _ | q
          · rw [hq] at w6
            exact w6
          · rw [hq] at w6
            have hql := rdIs_len _ _ _ hq
            obtain ⟨w6, w7, w8⟩ := w6
            rw [List.take_zero, List.nil_append, cvI_cit] at w8
            refine ⟨w6, w7, ob, rfl, oi, ra, [], [], List.mem_of_getElem? (i := 0) rfl, ?_, List.mem_of_getElem? (i := 3) rfl, List.mem_of_getElem? (i := 4) rfl, ?_, List.mem_of_getElem? (i := 5) rfl, (fun h => absurd h e4), (fun i v r h => by cases h), ?_⟩
            · show ((ob, .inl (6, 1, .int (Int32.ofNat (osz (s, q.1, []))))) : xE) ∈ _
              rw [osz_n4 (o := (s, q.1, [])) e4, show (s, q.1, ([] : List (Option (List Int32)))).2.1.length = n from hql]
              exact List.mem_of_getElem? (i := 1) rfl
            · show ((oi, .inr (1, (cit (s, q.1, []) ++ []).map Value.long)) : xE) ∈ _
              rw [List.append_nil, ← w8]
              exact List.mem_of_getElem? (i := 2) rfl
            · show (cit (s, q.1, []) ++ []).length ≤ 1000
              rw [List.append_nil, ← w8, w5]
              omega
      refine xt_pure rfl rfl rfl rfl ?_
      refine xt_pure rfl rfl rfl rfl ?_
      refine xt_pure rfl rfl rfl (st1 := .int 4 :: _) rfl ?_
      have mid : ∀ (k : Int32), k = (if va = 4 then 6 else 12) → yT X 10 300 203 21 [some (.ref 206), some (.int va), some (.int vb), none, none] [.int k, .int vb] (zD zTZ zaZ S2 D0) 9 64 (fun r D => ∃ S' v N l', r = some v ∧ D = zD zTZ zaZ S' (N ++ D0) ∧ RD 0 1 3 S' l' ∧ frZ S S' ∧ rfV v ∧ (match rdOb En l with
    | some q => zI S' 2 = 0 ∧ l' = q.2 ∧ ∃ ob, v = .ref ob ∧ yOB N ob q.1
    | none => zI S' 2 = 1)) := by
        intro k hk
        have hkk : k.toInt = (if va = 4 then 6 else 12) := by rw [hk]; split <;> rfl
        refine yt_ic rfl rfl (fun (h : k.toInt < vb.toInt) => bad (hno (fun g => by have := g.2.1; omega)) _ _) (fun (h : vb.toInt ≤ k.toInt) => ?_)
        rw [hkk] at h
        refine xt_pure rfl rfl rfl rfl ?_
        refine xt_pure rfl rfl rfl (st1 := .int 7 :: _) rfl ?_
        refine yt_ic rfl rfl (fun (h' : va ≠ 7) => good ⟨h7, h, fun e => absurd e h'⟩) (fun (h' : va = 7) => ?_)
        refine xt_pure rfl rfl rfl rfl ?_
        refine xt_pure rfl rfl rfl (st1 := .int 1 :: _) rfl ?_
        refine yt_ic rfl rfl (fun (h2 : vb = 1) => good ⟨h7, h, fun _ => h2⟩) (fun (h2 : vb ≠ 1) => bad (hno (fun g => h2 (g.2.2 h'))) _ _)
      refine yt_ic rfl rfl (fun (h4 : va ≠ 4) => ?_) (fun (h4 : va = 4) => ?_)
      · skip
        refine xt_pure rfl rfl rfl (st1 := .int 12 :: _) rfl ?_
        exact mid 12 (by rw [if_neg h4])
      · skip
        refine xt_pure rfl rfl rfl (st1 := .int 6 :: _) rfl ?_
        refine xt_pure rfl rfl rfl rfl ?_
        exact mid 6 (by rw [if_pos h4])
end OBJC2
