/-! TAKE: an object read; the class -/
def rdIs (En : List (Int64 × Int32)) (s : Nat) : Nat → List Int32 → Option (List Int64 × List Int32)
  | 0, l => some ([], l)
  | k + 1, l => (rdI En s l).bind fun q => (rdIs En s k q.2).map fun r => (q.1 :: r.1, r.2)
def rdRs : Nat → List Int32 → Option (List (Option (List Int32)) × List Int32)
  | 0, l => some ([], l)
  | k + 1, l => (rdR l).bind fun q => (rdRs k q.2).map fun r => (q.1 :: r.1, r.2)
/-- an object of a sort and a size -/
def rdO (En : List (Int64 × Int32)) (s n : Nat) (l : List Int32) : Option (yO × List Int32) := if s = 4 then (rdRs n l).map fun r => ((4, [], r.1), r.2) else (rdIs En s n l).map fun r => ((s, r.1, []), r.2)
/-- an object with its sort and size -/
def rdOb (En : List (Int64 × Int32)) (l : List Int32) : Option (yO × List Int32) := (rdN 1 0 l).bind fun a => (rdN 1 0 a.2).bind fun b => if a.1.toInt ≤ 7 ∧ b.1.toInt ≤ (if a.1 = 4 then 6 else 12) ∧ (a.1 = 7 → b.1 = 1) then rdO En a.1.toInt.toNat b.1.toInt.toNat b.2 else none
theorem rdI_byR {En : List (Int64 × Int32)} {s : Nat} {l : List Int32} {q : Int64 × List Int32} (h : rdI En s l = some q) (hb : byR l) : byR q.2 := by
  rw [rdI] at h
  split at h
  · rcases h1 : rdN 4 0 l with _ | a
    · rw [h1] at h; cases h
    · rw [h1, Option.bind_some] at h
      rcases h2 : rdN 4 0 a.2 with _ | b
      · rw [h2] at h; cases h
      · rw [h2] at h
        injection h with h
        rw [← h]
        show byR b.2
        rw [(rdN_drop _ _ _ _ h2).1, (rdN_drop _ _ _ _ h1).1]
        exact (hb.drop 4).drop 4
  · rcases h1 : rdN (bOf s) 0 l with _ | a
    · rw [h1] at h; cases h
    · rw [h1, Option.bind_some] at h
      rcases h2 : itmK En s a.1 with _ | b
      · rw [h2] at h; cases h
      · rw [h2] at h
        injection h with h
        rw [← h]
        show byR a.2
        rw [(rdN_drop _ _ _ _ h1).1]
        exact hb.drop _
theorem rdC_byR : ∀ (k : Nat) (l : List Int32) (q : List Int32 × List Int32), rdC k l = some q → byR l → byR q.2
  | 0, l, q, h, hb => by
    injection h with h
    rw [← h]; exact hb
  | k + 1, l, q, h, hb => by
    rw [rdC] at h
    rcases h1 : rdN 4 0 l with _ | a
    · rw [h1] at h; cases h
    · rw [h1, Option.bind_some] at h
      rcases h2 : rdC k a.2 with _ | b
      · rw [h2] at h; cases h
      · rw [h2] at h
        injection h with h
        rw [← h]
        exact rdC_byR k a.2 b h2 (by rw [(rdN_drop _ _ _ _ h1).1]; exact hb.drop 4)
theorem rdR_byR {l : List Int32} {q : Option (List Int32) × List Int32} (h : rdR l = some q) (hb : byR l) : byR q.2 := by
  rw [rdR] at h
  rcases h1 : rdN 1 0 l with _ | a
  · rw [h1] at h; cases h
  · have hb1 : byR a.2 := by rw [(rdN_drop _ _ _ _ h1).1]; exact hb.drop 1
    rw [h1, Option.bind_some] at h
    split at h
    · injection h with h
      rw [← h]; exact hb1
    · split at h
      · cases h
      · rcases h2 : rdC a.1.toInt.toNat a.2 with _ | b
        · rw [h2] at h; cases h
        · rw [h2] at h
          injection h with h
          rw [← h]
          exact rdC_byR _ _ _ h2 hb1
section OBJC
variable {X : List Int32} {D0 : List xE} {En : List (Int64 × Int32)} {js : List Int32}
/-- from the disk's view to an object's, and back -/
def sO (s n : Int32) (its : List Int64) (S : zS) : zS := (fun i => ([s, n, 0, zI S 0, zI S 1, zI S 2] : List Int32).getD i 0, fun _ => 0, fun _ => .null, fun i => if i = 6 then zA S 3 else [], fun i => ([[], [], its] : List (List Int64)).getD i [], fun _ => [])
def oZ (S : zS) : zS := (fun i => ([zI S 3, zI S 4, zI S 5] : List Int32).getD i 0, fun _ => 0, fun _ => .null, fun i => if i = 3 then zA S 6 else [], fun _ => [], fun _ => [])
theorem obj_out {ob oi s n i : Nat} {its : List Int64} {S : zS} {c sl : Nat} {Q : Option Value → List xE → Prop} (hn : n ≤ 12) (hi : i ≤ n) (hf : zI S 2 = 1) (hQ : Q (some (.ref ob)) ((ob, .inl (6, 0, .int (Int32.ofNat s))) :: (ob, .inl (6, 1, .int (Int32.ofNat n))) :: (oi, .inr (1, its.map Value.long)) :: zD zTZ zaZ S D0)) : yT X 8 250 203 41 [some (.ref 206), some (.int (Int32.ofNat s)), some (.int (Int32.ofNat n)), some (.ref ob), some (.int (Int32.ofNat i))] [] ((ob, .inl (6, 0, .int (Int32.ofNat s))) :: (ob, .inl (6, 1, .int (Int32.ofNat n))) :: (oi, .inr (1, its.map Value.long)) :: zD zTZ zaZ S D0) c sl Q := by
  refine xt_pure rfl rfl rfl rfl ?_
  refine xt_pure rfl rfl rfl rfl ?_
  refine yt_ic rfl rfl (fun _ => ?_) (fun _ => ?_)
  · skip
    refine xt_pure rfl rfl rfl rfl ?_
    exact xt_aret rfl rfl rfl rfl rfl hQ
  · skip
    refine xt_pure rfl rfl rfl rfl ?_
    refine xt_getf rfl rfl (xmD 5 rfl) ?_
    rw [show zI S 2 = 1 from hf]
    refine xt_pure rfl rfl rfl rfl ?_
    refine xt_pure rfl rfl rfl rfl ?_
    exact xt_aret rfl rfl rfl rfl rfl hQ
theorem items_loop {ob oi s n : Nat} (hs : s ≤ 7) (hs4 : s ≠ 4) (hn : n ≤ 12) (hE : En.length ≤ 100) (hO2 : ((ob, .inl (6, 2, .ref oi)) : xE) ∈ D0) (hc0 : ((106, .inl (5, 2, .int (Int32.ofNat En.length))) : xE) ∈ D0) (hc1 : ((108, .inr (0, (En.map Prod.snd ++ js).map Value.int)) : xE) ∈ D0) : ∀ (m i : Nat) (S : zS) (l : List Int32) (its : List Int64), i + m = n → its.length = n → RD 0 1 3 S l → zI S 2 = 0 → byR l → yT X 8 250 203 41 [some (.ref 206), some (.int (Int32.ofNat s)), some (.int (Int32.ofNat n)), some (.ref ob), some (.int (Int32.ofNat i))] [] ((ob, .inl (6, 0, .int (Int32.ofNat s))) :: (ob, .inl (6, 1, .int (Int32.ofNat n))) :: (oi, .inr (1, its.map Value.long)) :: zD zTZ zaZ S D0) 0 0 (fun r D => ∃ S' l' its', r = some (.ref ob) ∧ D = ((ob, .inl (6, 0, .int (Int32.ofNat s))) :: (ob, .inl (6, 1, .int (Int32.ofNat n))) :: (oi, .inr (1, its'.map Value.long)) :: zD zTZ zaZ S' D0) ∧ RD 0 1 3 S' l' ∧ frZ S S' ∧ its'.length = n ∧ (match rdIs En s m l with
    | some q => zI S' 2 = 0 ∧ l' = q.2 ∧ its' = its.take i ++ q.1.map (cvI s)
    | none => zI S' 2 = 1))
  | 0, i, S, l, its, hi, hl, hR, hf, hb => by
    have e : i = n := by omega
    subst e
    refine xt_pure rfl rfl rfl rfl ?_
    refine xt_pure rfl rfl rfl rfl ?_
    refine yt_ic rfl rfl (fun _ => ?_) (fun (h : Int32.toInt _ < Int32.toInt _) => by omega)
    refine xt_pure rfl rfl rfl rfl ?_
    exact xt_aret rfl rfl rfl rfl rfl ⟨S, l, its, rfl, rfl, hR, ⟨rfl, rfl⟩, hl, hf, rfl, by rw [List.map_nil, List.append_nil, List.take_of_length_le (by omega)]⟩
  | m + 1, i, S, l, its, hi, hl, hR, hf, hb => by
    have ti := yi_nat (i := i) (by omega)
    have C := c_itemL (N := 10) (S := sO (Int32.ofNat s) (Int32.ofNat n) its S) (ne := Int32.ofNat En.length) (sn := En.map Prod.snd ++ js) (i := i) (l := l) (by omega) hs hs4 rfl hE rfl rfl hR hb hf (by show i < its.length; omega) (by show its.length ≤ 100; omega)
    refine xt_pure rfl rfl rfl rfl ?_
    refine xt_pure rfl rfl rfl rfl ?_
    refine yt_ic rfl rfl (fun (h : Int32.toInt _ ≤ Int32.toInt _) => ?_) (fun _ => ?_)
    · rw [ti, yi_nat (by omega)] at h
      omega
    · skip
      refine xt_pure rfl rfl rfl rfl ?_
      refine xt_getf rfl rfl (xmD 5 rfl) ?_
      rw [show zI S 2 = 0 from hf]
      refine xt_pure rfl rfl rfl rfl ?_
      refine xt_pure rfl rfl rfl rfl ?_
      refine xt_pure rfl rfl rfl (st1 := .int 4 :: _) rfl ?_
      refine yt_ic rfl rfl (fun _ => ?_) (fun (h : Int32.ofNat s = 4) => absurd (yi_inj (a := s) (b := 4) (by omega) (by omega) h) hs4)
      refine xt_pure rfl rfl rfl rfl ?_
      refine xt_pure rfl rfl rfl rfl ?_
      refine xt_pure rfl rfl rfl rfl ?_
      rcases hq : rdI En s l with _ | q
      · rw [hq] at C
        obtain ⟨So, l1, a1, a2, a3, a4, a5⟩ := C
        refine xt_callV rfl rfl rfl rfl (xmC 173 rfl) ⟨rfl, rfl, yle rfl, yle rfl, yle rfl, yle rfl⟩ (tcO_loadItem (X := X) (D0 := D0) (ob := ob) (oi := oi) hO2 hc0 hc1 (N := 10) (fr := 2) (lo := 44) (by omega) (by omega) a1) (c2 := 0) (s2 := 0) ⟨yle rfl, yle rfl⟩ ?_
        rintro _ _ ⟨rfl, rfl⟩
        have e0 : zI So 0 = Int32.ofNat s := a3.1 0 (by omega) (by omega)
        have e1 : zI So 1 = Int32.ofNat n := a3.1 1 (by omega) (by omega)
        show yT _ _ _ _ _ _ _ ((ob, .inl (6, 0, .int (zI So 0))) :: (ob, .inl (6, 1, .int (zI So 1))) :: (oi, .inr (1, (zB So 2).map Value.long)) :: zD zTZ zaZ (oZ So) D0) _ _ _
        rw [e0, e1]
        refine xt_pure rfl rfl rfl (L1 := [_, _, _, _, some (.int (_ + 1))]) rfl ?_
        refine xt_pure rfl rfl rfl rfl ?_
        rw [yi_add1]
        refine obj_out hn (by omega) a5 ⟨oZ So, l1, zB So 2, rfl, rfl, a4, ⟨a3.1 3 (by omega) (by omega), a3.2⟩, by rw [a2]; exact hl, ?_⟩
        rw [rdIs, hq]
        exact a5
      · rw [hq] at C
        obtain ⟨So, a1, a2, a3, a4, a5⟩ := C
        refine xt_callV rfl rfl rfl rfl (xmC 173 rfl) ⟨rfl, rfl, yle rfl, yle rfl, yle rfl, yle rfl⟩ (tcO_loadItem (X := X) (D0 := D0) (ob := ob) (oi := oi) hO2 hc0 hc1 (N := 10) (fr := 2) (lo := 44) (by omega) (by omega) a1) (c2 := 0) (s2 := 0) ⟨yle rfl, yle rfl⟩ ?_
        rintro _ _ ⟨rfl, rfl⟩
        have e0 : zI So 0 = Int32.ofNat s := a3.1 0 (by omega) (by omega)
        have e1 : zI So 1 = Int32.ofNat n := a3.1 1 (by omega) (by omega)
        have a2 : zB So 2 = its.set i (cvI s q.1) := a2
        show yT _ _ _ _ _ _ _ ((ob, .inl (6, 0, .int (zI So 0))) :: (ob, .inl (6, 1, .int (zI So 1))) :: (oi, .inr (1, (zB So 2).map Value.long)) :: zD zTZ zaZ (oZ So) D0) _ _ _
        rw [e0, e1, a2]
        refine xt_pure rfl rfl rfl (L1 := [_, _, _, _, some (.int (_ + 1))]) rfl ?_
        refine xt_pure rfl rfl rfl rfl ?_
        rw [yi_add1]
        refine (items_loop hs hs4 hn hE hO2 hc0 hc1 m (i + 1) (oZ So) q.2 (its.set i (cvI s q.1)) (by omega) (by rw [List.length_set]; exact hl) a4 a5 (rdI_byR hq hb)).mono (Nat.le_refl _) (Nat.le_refl _) ?_
        rintro r D ⟨S', l', its', w1, w2, w3, w4, w5, w6⟩
        refine ⟨S', l', its', w1, w2, w3, ⟨w4.1.trans (a3.1 3 (by omega) (by omega)), w4.2.trans a3.2⟩, w5, ?_⟩
        rw [rdIs, hq, Option.bind_some]
        rcases hq2 : rdIs En s m q.2 with _ | q2
        · rw [hq2] at w6
          exact w6
        · rw [hq2] at w6
          refine ⟨w6.1, w6.2.1, ?_⟩
          rw [w6.2.2, List.take_succ, List.getElem?_set_self (by omega), List.take_set_of_le (Nat.le_refl _), List.append_assoc]
          rfl
theorem rows_out {ob ra n i : Nat} {rr : List Value} {N : List xE} {S : zS} {c sl : Nat} {Q : Option Value → List xE → Prop} (hn : n ≤ 6) (hi : i ≤ n) (hf : zI S 2 = 1) (hQ : Q (some (.ref ob)) ((ra, .inr (4, rr)) :: zD zTZ zaZ S (N ++ D0))) : yT X 8 250 203 41 [some (.ref 206), some (.int 4), some (.int (Int32.ofNat n)), some (.ref ob), some (.int (Int32.ofNat i))] [] ((ra, .inr (4, rr)) :: zD zTZ zaZ S (N ++ D0)) c sl Q := by
  refine xt_pure rfl rfl rfl rfl ?_
  refine xt_pure rfl rfl rfl rfl ?_
  refine yt_ic rfl rfl (fun _ => ?_) (fun _ => ?_)
  · skip
    refine xt_pure rfl rfl rfl rfl ?_
    exact xt_aret rfl rfl rfl rfl rfl hQ
  · skip
    refine xt_pure rfl rfl rfl rfl ?_
    refine xt_getf rfl rfl (xmD 3 rfl) ?_
    rw [show zI S 2 = 1 from hf]
    refine xt_pure rfl rfl rfl rfl ?_
    refine xt_pure rfl rfl rfl rfl ?_
    exact xt_aret rfl rfl rfl rfl rfl hQ
/-- rows held in a row of places -/
def rwsN (N : List xE) (rr : List Value) (rs : List (Option (List Int32))) : Prop := ∀ (i : Nat) v r, rr[i]? = some v → rs[i]? = some r → yRw N v r
theorem rows_loop {ob ra n : Nat} (hn : n ≤ 6) (hO3 : ((ob, .inl (6, 3, .ref ra)) : xE) ∈ D0) : ∀ (m i : Nat) (S : zS) (l : List Int32) (rr : List Value) (dn : List (Option (List Int32))) (N : List xE), i + m = n → rr.length = n → dn.length = i → RD 0 1 3 S l → zI S 2 = 0 → byR l → rwsN N rr dn → yT X 8 250 203 41 [some (.ref 206), some (.int 4), some (.int (Int32.ofNat n)), some (.ref ob), some (.int (Int32.ofNat i))] [] ((ra, .inr (4, rr)) :: zD zTZ zaZ S (N ++ D0)) (1 * m) (6 * m) (fun r D => ∃ S' l' rr' N', r = some (.ref ob) ∧ D = ((ra, .inr (4, rr')) :: zD zTZ zaZ S' (N' ++ D0)) ∧ RD 0 1 3 S' l' ∧ frZ S S' ∧ rr'.length = n ∧ (match rdRs m l with
    | some q => zI S' 2 = 0 ∧ l' = q.2 ∧ rwsN N' rr' (dn ++ q.1)
    | none => zI S' 2 = 1))
  | 0, i, S, l, rr, dn, N, hi, hl, hd, hR, hf, hb, hw => by
    have e : i = n := by omega
    subst e
    refine xt_pure rfl rfl rfl rfl ?_
    refine xt_pure rfl rfl rfl rfl ?_
    refine yt_ic rfl rfl (fun _ => ?_) (fun (h : Int32.toInt _ < Int32.toInt _) => by omega)
    refine xt_pure rfl rfl rfl rfl ?_
    exact xt_aret rfl rfl rfl rfl rfl ⟨S, l, rr, N, rfl, rfl, hR, ⟨rfl, rfl⟩, hl, hf, rfl, by rw [List.append_nil]; exact hw⟩
  | m + 1, i, S, l, rr, dn, N, hi, hl, hd, hR, hf, hb, hw => by
    have ti := yi_nat (i := i) (by omega)
    have ti3 : (Int32.ofNat i).toInt.toNat = i := yi_toNat (by omega)
    refine xt_pure rfl rfl rfl rfl ?_
    refine xt_pure rfl rfl rfl rfl ?_
    refine yt_ic rfl rfl (fun (h : Int32.toInt _ ≤ Int32.toInt _) => ?_) (fun _ => ?_)
    · rw [ti, yi_nat (by omega)] at h
      omega
    · skip
      refine xt_pure rfl rfl rfl rfl ?_
      refine xt_getf rfl rfl (xmD 3 rfl) ?_
      rw [show zI S 2 = 0 from hf]
      refine xt_pure rfl rfl rfl rfl ?_
      refine xt_pure rfl rfl rfl rfl ?_
      refine xt_pure rfl rfl rfl (st1 := .int 4 :: _) rfl ?_
      refine xt_pure rfl rfl rfl rfl ?_
      refine xt_pure rfl rfl rfl rfl ?_
      refine xt_getf rfl rfl (xmS 0 rfl (List.mem_cons_of_mem _ (List.mem_append_right _ (List.mem_append_right _ hO3)))) ?_
      refine xt_pure rfl rfl rfl rfl ?_
      refine xt_pure rfl rfl rfl rfl ?_
      refine yT.perm (D2 := zD zTZ zaZ S ((ra, .inr (4, rr)) :: (N ++ D0))) (List.perm_middle (l₁ := zE zaZ S 0 zTZ)).symm ?_
      refine xt_callV rfl rfl rfl rfl (xmC 173 rfl) ⟨rfl, rfl, yle rfl, yle rfl, yle rfl, yle rfl⟩ (ck_cells hR hb hf) (c2 := 1 * m) (s2 := 6 * m) ⟨by omega, by omega⟩ ?_
      rintro _ _ ⟨S1, v, N1, l1, rfl, rfl, c1, c2, c3, c4, c5⟩
      refine yT.perm (D2 := (ra, .inr (4, rr)) :: zD zTZ zaZ S1 ((N1 ++ N) ++ D0)) ?_ ?_
      · refine List.Perm.trans ?_ (List.perm_middle (l₁ := zE zaZ S1 0 zTZ))
        refine List.Perm.append_left _ ?_
        rw [List.append_assoc]
        exact List.perm_middle
      · have hst : ∀ (v : Value), rwV N1 v → xasE X ((ra, .inr (4, rr)) :: zD zTZ zaZ S1 ((N1 ++ N) ++ D0)) (.array .int) v := by
          rintro v (rfl | ⟨a, ws, rfl, ha⟩)
          · rfl
          · exact Or.inr ⟨_, 0, _, rfl, rfl, List.mem_cons_of_mem _ (List.mem_append_right _ (List.mem_append_left _ (List.mem_append_left _ ha)))⟩
        refine yt_ast rfl rfl 0 rfl rfl (by decide) (hst v c3) ⟨by rw [ti]; omega, by rw [ti]; omega⟩ (D1 := (ra, .inr (4, rr.set i v)) :: zD zTZ zaZ S1 ((N1 ++ N) ++ D0)) (by rw [ti3]; rfl) ?_
        refine xt_pure rfl rfl rfl rfl ?_
        refine xt_pure rfl rfl rfl (L1 := [_, _, _, _, some (.int (_ + 1))]) rfl ?_
        refine xt_pure rfl rfl rfl rfl ?_
        rw [yi_add1]
        rcases hq : rdR l with _ | q
        · rw [hq] at c5
          refine rows_out hn (by omega) c5 ⟨S1, l1, rr.set i v, N1 ++ N, rfl, rfl, c1, c2, by rw [List.length_set]; exact hl, ?_⟩
          rw [rdRs, hq]
          exact c5
        · rw [hq] at c5
          obtain ⟨c5, rfl, c6⟩ := c5
          refine (rows_loop hn hO3 m (i + 1) S1 q.2 (rr.set i v) (dn ++ [q.1]) (N1 ++ N) (by omega) (by rw [List.length_set]; exact hl) (by rw [List.length_append, hd]; rfl) c1 c5 (rdR_byR hq hb) ?_).mono (Nat.le_refl _) (Nat.le_refl _) ?_
          · intro j v2 r2 h1 h2
            by_cases e : i = j
            · subst e
              rw [List.getElem?_set_self (by omega)] at h1
              rw [List.getElem?_append_right (by omega), hd, Nat.sub_self] at h2
              injection h1 with h1
              injection h2 with h2
              subst h1 h2
              exact c6.mono (fun _ he => List.mem_append_left _ he)
            · rw [List.getElem?_set_ne e] at h1
              have hj : j < dn.length := by
                have := (List.getElem?_eq_some_iff.mp h2).1
                rw [List.length_append, List.length_singleton] at this
                omega
              rw [List.getElem?_append_left hj] at h2
              exact (hw j v2 r2 h1 h2).mono (fun _ he => List.mem_append_right _ he)
          · rintro r D ⟨S', l', rr', N', w1, w2, w3, w4, w5, w6⟩
            refine ⟨S', l', rr', N', w1, w2, w3, ⟨w4.1.trans c2.1, w4.2.trans c2.2⟩, w5, ?_⟩
            rw [rdRs, hq, Option.bind_some]
            rcases hq2 : rdRs m q.2 with _ | q2
            · rw [hq2] at w6
              exact w6
            · rw [hq2] at w6
              refine ⟨w6.1, w6.2.1, ?_⟩
              have := w6.2.2
              rw [List.append_assoc] at this
              exact this
end OBJC
