/-! MIGRATE: one answer brought over, the class -/
/-- how many items come over, of entries to signeds -/
noncomputable def sgK (En : List (Int64 × Int32)) : List Int64 → Nat
  | [] => 0
  | v :: r => if v = -1 ∨ (0 ≤ v.toInt ∧ v.toInt < En.length ∧ ¬ (sgE En v.toInt32).toInt = -9) then sgK En r + 1 else 0
theorem sgK_le {En : List (Int64 × Int32)} : ∀ l : List Int64, sgK En l ≤ l.length
  | [] => Nat.le_refl _
  | v :: r => by
    rw [sgK]
    have := sgK_le (En := En) r
    split
    · rw [List.length_cons]; omega
    · rw [List.length_cons]; omega
/-- what comes over of an answer, how many items, and whether it stops -/
noncomputable def cryR (En : List (Int64 × Int32)) (kd : Int32) (o : yO) : yO × Nat × Int32 := if o.1 = 5 ∧ kd = 9 then ((6, o.2.1.take (sgK En o.2.1) ++ List.replicate (o.2.1.length - sgK En o.2.1) (-1), []), sgK En o.2.1, if sgK En o.2.1 < o.2.1.length then 1 else 0) else if o.1 = 6 ∧ kd = 8 then ((5, o.2.1, []), osz o, 0) else (o, osz o, 0)
section CARRY
variable {X : List Int32} {D0 : List xE} {En : List (Int64 × Int32)} {S : zS} {w : yW} {u v : Value} {t : List Int32} {x y z : Int32}
theorem xcpy_J {l k : List Int64} {n : Nat} : xcpy (l.map Value.long) (k.map Value.long) 0 0 n = (l.take n ++ k.drop n).map Value.long := by
  unfold xcpy
  rw [List.take_zero, List.nil_append, List.drop_zero, Nat.zero_add, List.map_append, List.map_take, List.map_drop]
theorem xisJ_map {l : List Int64} : ∀ v ∈ l.map Value.long, (if (1 : Nat) = 0 then xisI v else xisJ v) = true := by
  intro v hv
  obtain ⟨x, _, rfl⟩ := List.mem_map.mp hv
  rfl
theorem min_k {k n L : Nat} (h1 : k ≤ n) (h2 : n ≤ L) (hL : L < 2147483648) : (if (if Int32.ofNat n < Int32.ofNat L then Int32.ofNat n else Int32.ofNat L) < Int32.ofNat k then (if Int32.ofNat n < Int32.ofNat L then Int32.ofNat n else Int32.ofNat L) else Int32.ofNat k) = Int32.ofNat k := by
  have a1 := yi_nat (i := n) (by omega)
  have a2 := yi_nat (i := L) (by omega)
  have a3 := yi_nat (i := k) (by omega)
  rw [if_neg]
  split
  · rw [Int32.lt_iff_toInt_lt, a1, a3]; omega
  · rw [Int32.lt_iff_toInt_lt, a2, a3]; omega
theorem cit_cut {s k : Nat} {l : List Int64} (hs : s = 5 ∨ s = 6) : cit (s, l.take k ++ List.replicate (l.length - k) (-1), []) = (l.map cnv).take k ++ List.replicate (l.length - k) (-9) := by
  unfold cit
  rw [if_pos hs]
  show (l.take k ++ List.replicate (l.length - k) (-1)).map cnv = _
  rw [List.map_append, List.map_take, List.map_replicate]
  rfl
theorem ck_copyAs {a s k : Nat} {o : yO} (hs : s = 5 ∨ s = 6) (ho : o.1 = 5 ∨ o.1 = 6) (hn : o.2.1.length ≤ 12) (hk : k ≤ o.2.1.length) (q : yOB D0 a o) : yK X 2 200 178 [.ref a, .int (Int32.ofNat s), .int (Int32.ofNat k)] D0 3 28 (fun w D => ∃ b N, w = some (.ref b) ∧ D = N ++ D0 ∧ yOB N b (s, o.2.1.take k ++ List.replicate (o.2.1.length - k) (-1), [])) := by
  obtain ⟨ia, ra, jk, rr, q1, q2, q3, q4, q5, q6, q7, q8, q9⟩ := q
  have hz : osz o = o.2.1.length := osz_n4 (by omega)
  rw [hz] at q2
  have hci : cit o = o.2.1.map cnv := by unfold cit; rw [if_pos ho]
  have hcl : (cit o).length = o.2.1.length := cit_len o
  rw [List.length_append] at q9
  have hs7 : s ≤ 7 := by omega
  have hnw : newI s o.2.1.length = List.replicate o.2.1.length (-9) := by
    unfold newI
    rw [if_neg (by omega), if_pos hs]
  refine yK.of rfl (yle rfl) (L := [_, _, _, _]) rfl ?_
  refine xt_new rfl rfl rfl (c1 := 2) (s1 := 24) (yle rfl) (yle rfl) ?_
  intro b
  show yT _ _ _ _ _ _ _ ((b, .inl (6, 0, .int 0)) :: (b, .inl (6, 1, .int 0)) :: (b, .inl (6, 2, .null)) :: (b, .inl (6, 3, .null)) :: D0) _ _ _
  refine xt_pure rfl rfl rfl rfl ?_
  refine xt_pure rfl rfl rfl rfl ?_
  refine xt_pure rfl rfl rfl rfl ?_
  refine xt_getf rfl rfl (xmS 4 rfl q2) ?_
  refine xt_callI rfl rfl (by decide) rfl rfl ⟨rfl, yle rfl, yle rfl, yle rfl, yle rfl⟩ (yObj hs7 hn) (c2 := 0) (s2 := 0) ⟨yle rfl, yle rfl⟩ ?_
  rintro _ _ ⟨ib, rb, rfl, rfl⟩
  rw [hnw]
  refine xt_pure rfl rfl rfl (L1 := [_, _, _, _]) rfl ?_
  refine xt_pure rfl rfl rfl rfl ?_
  refine xt_getf rfl rfl (xmS 6 rfl q3) ?_
  refine xt_pure rfl rfl rfl (st1 := .int 0 :: _) rfl ?_
  refine xt_pure rfl rfl rfl rfl ?_
  refine xt_getf rfl rfl (xmD 4 rfl) ?_
  refine xt_pure rfl rfl rfl (st1 := .int 0 :: _) rfl ?_
  refine xt_pure rfl rfl rfl rfl ?_
  refine xt_pure rfl rfl rfl rfl ?_
  refine xt_getf rfl rfl (xmS 6 rfl q3) ?_
  refine xt_alen rfl rfl (xmS 6 rfl q5) rfl ?_
  refine xt_pure rfl rfl rfl rfl ?_
  refine xt_getf rfl rfl (xmD 4 rfl) ?_
  refine xt_alen rfl rfl (xmD 1 rfl) rfl ?_
  rw [List.length_map, List.length_map, List.length_append, List.length_replicate, hcl]
  refine xt_min rfl rfl rfl ⟨yle rfl, yle rfl, yle rfl⟩ ?_
  refine xt_min rfl rfl rfl ⟨yle rfl, yle rfl, yle rfl⟩ ?_
  rw [min_k hk (by omega) (by omega)]
  have tk := yi_nat (i := k) (by omega)
  have hnk : (Int32.ofNat k).toNatClampNeg = k := by rw [(yjn (by rw [tk]; omega)).2, tk]; rfl
  have hz0 : (0 : Int32).toNatClampNeg = 0 := rfl
  refine xt_acpy rfl rfl rfl (sk := ia) (t := 1) (vs := (cit o ++ jk).map Value.long) (List.mem_cons_of_mem _ (List.mem_cons_of_mem _ (List.mem_cons_of_mem _ (List.mem_cons_of_mem _ (List.mem_cons_of_mem _ (List.mem_cons_of_mem _ q5)))))) 1 (ws := (List.replicate o.2.1.length (-9)).map Value.long) rfl ⟨by decide, by decide, by decide, (yjn (by rw [tk]; omega)).1, by rw [hnk, hz0, List.length_map, List.length_append]; omega, by rw [hnk, hz0, List.length_map, List.length_replicate]; omega⟩ xisJ_map ⟨by decide, by decide, by decide⟩ rfl ?_
  rw [hnk, hz0, xcpy_J, List.take_append_of_le_length (by omega), hci, List.drop_replicate]
  refine xt_pure rfl rfl rfl rfl ?_
  refine xt_aret rfl rfl rfl rfl rfl ⟨b, [(rb, .inr (4, newR s o.2.1.length)), (ib, .inr (1, ((o.2.1.map cnv).take k ++ List.replicate (o.2.1.length - k) (-9)).map Value.long)), (b, .inl (6, 0, .int (Int32.ofNat s))), (b, .inl (6, 1, .int (Int32.ofNat o.2.1.length))), (b, .inl (6, 2, .ref ib)), (b, .inl (6, 3, .ref rb))], rfl, rfl, ib, rb, [], newR s o.2.1.length, ?_, ?_, ?_, ?_, ?_, ?_, ?_, ?_, ?_⟩
  · exact List.mem_of_getElem? (i := 2) rfl
  · rw [osz_n4 (by show s ≠ 4; omega)]
    refine List.mem_of_getElem? (i := 3) ?_
    show some _ = some _
    rw [List.length_append, List.length_take, List.length_replicate]
    rw [show min k o.2.1.length + (o.2.1.length - k) = o.2.1.length by omega]
  · exact List.mem_of_getElem? (i := 4) rfl
  · exact List.mem_of_getElem? (i := 5) rfl
  · rw [cit_cut hs, List.append_nil]
    exact List.mem_of_getElem? (i := 1) rfl
  · exact List.mem_of_getElem? (i := 0) rfl
  · intro h
    exact absurd h (by show s ≠ 4; omega)
  · intro i v r _ h
    cases h
  · rw [cit_cut hs, List.append_nil, List.length_append, List.length_take, List.length_replicate, List.length_map]
    omega
theorem ck_fail {D : List xE} : yK X 0 0 95 [.ref 110, .int x] (zD zTE zaE S D) 0 0 (fun a D' => a = none ∧ D' = zD zTE zaE (flC S x) D) := by
  refine yK.of rfl (yle rfl) (L := [_, _]) rfl ?_
  refine xt_pure rfl rfl rfl rfl ?_
  refine xt_pure rfl rfl rfl rfl ?_
  refine xt_getf rfl rfl (xmD 0 rfl) ?_
  refine xt_pure rfl rfl rfl (st1 := .int 1 :: _) rfl ?_
  refine xt_pure rfl rfl rfl rfl ?_
  refine xt_putf rfl rfl rfl rfl 0 rfl (D1 := zD zTE zaE (zsI S 0 (zI S 0 + 1)) D) rfl ?_
  refine xt_pure rfl rfl rfl rfl ?_
  refine xt_pure rfl rfl rfl rfl ?_
  refine xt_putf rfl rfl rfl rfl 1 rfl (D1 := zD zTE zaE (zsI (zsI S 0 (zI S 0 + 1)) 1 x) D) rfl ?_
  refine xt_pure rfl rfl rfl rfl ?_
  refine xt_pure rfl rfl rfl rfl ?_
  refine xt_getf rfl rfl (xmD 3 rfl) ?_
  refine xt_putf rfl rfl rfl rfl 2 rfl (D1 := zD zTE zaE (flC S x) D) rfl ?_
  exact xt_vret rfl rfl rfl ⟨rfl, rfl⟩
theorem W0.cur (h : W0 S w) : zI S 3 = -9 := by
  obtain ⟨R, ⟨_, _, _, _, h, _⟩, _⟩ := h
  exact h
theorem inEC1 {S : zS} {u v : Value} {t : List Int32} {e : xE} {D0 : List xE} : D0 ⊆ EC S u v t (e :: D0) := fun _ he => inEC (List.mem_cons_of_mem _ he)
theorem sg_loop {D : List xE} {fr lo c s a ia : Nat} {l jk : List Int64} {jb : List Int32} {l2 : Option Value} {l3 : Int32} {Q : Option Value → List xE → Prop} (hfr : 3 ≤ fr) (hlo : 200 ≤ lo) (hl : l.length ≤ 12) (hE : En.length ≤ 100) (hc0 : ((106, .inl (5, 2, .int (Int32.ofNat En.length))) : xE) ∈ D) (hc1 : ((108, .inr (0, (En.map Prod.snd ++ jb).map Value.int)) : xE) ∈ D) (h1 : ((a, .inl (6, 1, .int (Int32.ofNat l.length))) : xE) ∈ D) (h2 : ((a, .inl (6, 2, .ref ia)) : xE) ∈ D) (h3 : ((ia, .inr (1, (l.map cnv ++ jk).map Value.long)) : xE) ∈ D) (hv : ∀ v ∈ l, v = -1 ∨ ∃ n, n < En.length ∧ v = Int64.ofNat n) : ∀ (r pre : List Int64), l = pre ++ r → yT X fr lo 177 23 [some (.ref 78), some (.ref a), l2, some (.int l3), some (.int (Int32.ofNat (pre.length + sgK En r)))] [] D c s Q → yT X fr lo 177 2 [some (.ref 78), some (.ref a), l2, some (.int l3), some (.int (Int32.ofNat pre.length))] [] D c s Q
  | [], pre, hp, kk => by
    rw [List.append_nil] at hp
    subst hp
    have tp := yi_nat (i := l.length) (by omega)
    refine xt_pure rfl rfl rfl rfl ?_
    refine xt_pure rfl rfl rfl rfl ?_
    refine xt_getf rfl rfl (xmS 0 rfl h1) ?_
    refine yt_ic rfl rfl (fun _ => kk) (fun (h : Int32.toInt _ < Int32.toInt _) => ?_)
    omega
  | m :: r, pre, hp, kk => by
    have hpl : pre.length < l.length := by rw [hp, List.length_append, List.length_cons]; omega
    have tp := yi_nat (i := pre.length) (by omega)
    have tl := yi_nat (i := l.length) (by omega)
    have t3 : (Int32.ofNat pre.length).toInt.toNat = pre.length := yi_toNat (by omega)
    have t4 := yjn (j := Int32.ofNat pre.length) (by rw [tp]; omega)
    have hm : l[pre.length]? = some m := by rw [hp, List.getElem?_append_right (Nat.le_refl _), Nat.sub_self]; rfl
    have hld : ((l.map cnv ++ jk).map Value.long)[(Int32.ofNat pre.length).toNatClampNeg]? = some (.long (cnv m)) := by
      rw [t4.2, t3, List.getElem?_map, List.getElem?_append_left (by rw [List.length_map]; exact hpl), List.getElem?_map, hm]; rfl
    have hmv := hv m (List.mem_of_getElem? hm)
    have next : (m = -1 ∨ (0 ≤ m.toInt ∧ m.toInt < En.length ∧ ¬ (sgE En m.toInt32).toInt = -9)) → yT X fr lo 177 21 [some (.ref 78), some (.ref a), l2, some (.int l3), some (.int (Int32.ofNat pre.length))] [] D c s Q := by
      intro hs
      rw [sgK, if_pos hs] at kk
      refine xt_pure rfl rfl rfl (L1 := [_, _, _, _, some (.int (_ + 1))]) rfl ?_
      refine xt_pure rfl rfl rfl rfl ?_
      rw [yi_add1]
      have := sg_loop hfr hlo hl hE hc0 hc1 h1 h2 h3 hv r (pre ++ [m]) (by rw [hp, List.append_assoc]; rfl) (by rw [List.length_append, List.length_singleton, Nat.add_right_comm]; rw [show pre.length + (sgK En r + 1) = pre.length + sgK En r + 1 by omega] at kk; exact kk)
      rw [List.length_append, List.length_singleton] at this
      exact this
    refine xt_pure rfl rfl rfl rfl ?_
    refine xt_pure rfl rfl rfl rfl ?_
    refine xt_getf rfl rfl (xmS 0 rfl h1) ?_
    refine yt_ic rfl rfl (fun (h : Int32.toInt _ ≤ Int32.toInt _) => ?_) (fun _ => ?_)
    · omega
    · skip
      refine xt_pure rfl rfl rfl rfl ?_
      refine xt_getf rfl rfl (xmS 0 rfl h2) ?_
      refine xt_pure rfl rfl rfl rfl ?_
      refine xt_lald rfl rfl (xmS 0 rfl h3) t4.1 hld ?_
      refine xt_pure rfl rfl rfl (st1 := .long (-9) :: _) rfl ?_
      refine yt_lc rfl rfl rfl (fun (h9 : cnv m = -9) => ?_) (fun (h9 : cnv m ≠ -9) => ?_)
      · refine next ?_
        by_cases e : m = -1
        · exact Or.inl e
        · rw [cnv, if_neg e] at h9
          rcases hmv with h | ⟨n, n1, n2⟩
          · exact absurd h e
          · subst h9
            have n3 := congrArg Int64.toInt n2
            rw [Int64.toInt_ofNat_of_lt (by omega), l_m9] at n3
            omega
      · have e : m ≠ -1 := by
          intro e
          rw [cnv, if_pos e] at h9
          exact h9 rfl
        have hcv : cnv m = m := by rw [cnv, if_neg e]
        rw [hcv] at hld
        refine xt_pure rfl rfl rfl rfl ?_
        refine xt_getf rfl rfl (xmC 118 rfl) ?_
        refine xt_pure rfl rfl rfl rfl ?_
        refine xt_getf rfl rfl (xmS 0 rfl h2) ?_
        refine xt_pure rfl rfl rfl rfl ?_
        refine xt_lald rfl rfl (xmS 0 rfl h3) t4.1 hld ?_
        refine xt_callV rfl rfl rfl rfl (xmC 140 rfl) ⟨rfl, rfl, yle rfl, yle rfl, Nat.le_trans (yle rfl) hfr, Nat.le_trans (yle rfl) hlo⟩ (ck_signed hE hc0 hc1) (c2 := c) (s2 := s) ⟨Nat.le_of_eq (Nat.zero_add _), Nat.le_of_eq (Nat.zero_add _)⟩ ?_
        rintro _ _ (⟨rfl, hs, rfl⟩ | ⟨rfl, hs, rfl⟩)
        · refine xt_pure rfl rfl rfl rfl ?_
          exact next (Or.inr hs)
        · rw [sgK, if_neg (fun h => h.elim e hs)] at kk
          refine xt_pure rfl rfl rfl rfl ?_
          exact kk
theorem ec_perm {S : zS} {u v : Value} {t : List Int32} {e : xE} {N D0 : List xE} : (N ++ EC S u v t (e :: D0)).Perm (EC S u v t (e :: (N ++ D0))) := by
  show (N ++ (zE zaE S 0 zTE ++ ((110, .inl (10, 2, u)) :: (110, .inl (10, 3, v)) :: (125, .inr (0, t.map Value.int)) :: e :: D0))).Perm (zE zaE S 0 zTE ++ ((110, .inl (10, 2, u)) :: (110, .inl (10, 3, v)) :: (125, .inr (0, t.map Value.int)) :: e :: (N ++ D0)))
  have h : ∀ (A B : List xE), (N ++ (A ++ B)).Perm (A ++ (N ++ B)) := fun A B => by
    rw [← List.append_assoc, ← List.append_assoc]
    exact List.Perm.append_right _ List.perm_append_comm
  exact (h (zE zaE S 0 zTE) _).trans (List.Perm.append_left _ (h [_, _, _, _] D0))
/-- the class's answer is brought over -/
theorem ck_carrySigned {a da aa p : Nat} {ob : yO} {refs : List Value} {jb : List Int32} (hp : p < 20) (hl : refs.length = 20) (hE : En.length ≤ 100) (hc0 : ((106, .inl (5, 2, .int (Int32.ofNat En.length))) : xE) ∈ D0) (hc1 : ((108, .inr (0, (En.map Prod.snd ++ jb).map Value.int)) : xE) ∈ D0) (h2 : ((da, .inl (1, 2, .ref aa)) : xE) ∈ D0) (q : yOB D0 a ob) (hk : yOk En ob) (h5 : ob.1 = 5) (hW : W0 S w) : yK X 5 300 177 [.ref 78, .ref a, .ref da, .int (Int32.ofNat p)] (EC S u v t ((aa, .inr (7, refs)) :: D0)) 3 28 (fun r D => ∃ S' w' b N, r = some (.int (Int32.ofNat (cryR En 9 ob).2.1)) ∧ D = EC S' u v t ((aa, .inr (7, refs.set p (.ref b))) :: (N ++ D0)) ∧ W0 S' w' ∧ frC S S' ∧ w'.1 = w.1 + (cryR En 9 ob).2.2 ∧ yOB N b (cryR En 9 ob).1) := by
  have hcr : cryR En 9 ob = ((6, ob.2.1.take (sgK En ob.2.1) ++ List.replicate (ob.2.1.length - sgK En ob.2.1) (-1), []), sgK En ob.2.1, if sgK En ob.2.1 < ob.2.1.length then 1 else 0) := by rw [cryR, if_pos ⟨h5, rfl⟩]
  rw [hcr]
  obtain ⟨k1, k2, k3, k4, k5, k6⟩ := hk
  obtain ⟨_, hl12⟩ := k3 (by omega)
  have hv := k5 h5
  have hz : osz ob = ob.2.1.length := osz_n4 (by omega)
  have hle := sgK_le (En := En) ob.2.1
  have q0 := q
  obtain ⟨ia, ra, jk, rr, q1, q2, q3, q4, q5, q6, q7, q8, q9⟩ := q
  have hci : cit ob = ob.2.1.map cnv := by unfold cit; rw [if_pos (Or.inl h5)]
  rw [hci] at q5
  rw [hz] at q2
  have tp := yi_nat (i := p) (by omega)
  have tp3 : (Int32.ofNat p).toInt.toNat = p := yi_toNat (by omega)
  have tk := yi_nat (i := sgK En ob.2.1) (by omega)
  have tn := yi_nat (i := ob.2.1.length) (by omega)
  have fin : ∀ (S' : zS) (w' : yW), W0 S' w' → frC S S' → w'.1 = w.1 + (if sgK En ob.2.1 < ob.2.1.length then 1 else 0) → yT X 5 300 177 31 [some (.ref 78), some (.ref a), some (.ref da), some (.int (Int32.ofNat p)), some (.int (Int32.ofNat (sgK En ob.2.1)))] [] (EC S' u v t ((aa, .inr (7, refs)) :: D0)) 3 28 (fun r D => ∃ S' w' b N, r = some (.int (Int32.ofNat (sgK En ob.2.1))) ∧ D = EC S' u v t ((aa, .inr (7, refs.set p (.ref b))) :: (N ++ D0)) ∧ W0 S' w' ∧ frC S S' ∧ w'.1 = w.1 + (if sgK En ob.2.1 < ob.2.1.length then 1 else 0) ∧ yOB N b (6, ob.2.1.take (sgK En ob.2.1) ++ List.replicate (ob.2.1.length - sgK En ob.2.1) (-1), [])) := by
    intro S' w' hW' hfr hw
    refine xt_pure rfl rfl rfl rfl ?_
    refine xt_getf rfl rfl (xmS 0 rfl (inEC1 h2)) ?_
    refine xt_pure rfl rfl rfl rfl ?_
    refine xt_pure rfl rfl rfl rfl ?_
    refine xt_pure rfl rfl rfl (st1 := .int 6 :: _) rfl ?_
    refine xt_pure rfl rfl rfl rfl ?_
    refine xt_callV rfl rfl rfl rfl (xmS 0 rfl (inEC1 q1)) ⟨rfl, rfl, yle rfl, yle rfl, yle rfl, yle rfl⟩ (ck_copyAs (s := 6) (Or.inr rfl) (Or.inl h5) hl12 hle (q0.mono inEC1)) (c2 := 0) (s2 := 0) ⟨yle rfl, yle rfl⟩ ?_
    rintro _ _ ⟨b, N, rfl, rfl, hN⟩
    have hNb : ∃ w0, ((b, .inl (6, 0, w0)) : xE) ∈ N := by
      obtain ⟨_, _, _, _, n1, _⟩ := hN
      exact ⟨_, n1⟩
    obtain ⟨w0, hNb⟩ := hNb
    refine yT.perm (D2 := EC S' u v t ((aa, .inr (7, refs)) :: (N ++ D0))) ?_ ?_
    · exact ec_perm
    · refine yt_ast rfl rfl 33 rfl rfl (by decide) (Or.inl ⟨_, 6, 0, w0, rfl, rfl, List.mem_append_left _ (inEC1 (List.mem_append_left _ hNb))⟩) ⟨by rw [tp]; omega, by rw [tp]; omega⟩ (D1 := EC S' u v t ((aa, .inr (7, refs.set p (.ref b))) :: (N ++ D0))) (by rw [tp3]; rfl) ?_
      refine xt_pure rfl rfl rfl rfl ?_
      exact xt_iret rfl rfl rfl rfl ⟨S', w', b, N, rfl, rfl, hW', hfr, hw, hN⟩
  refine yK.of rfl (yle rfl) (L := [_, _, _, _, _]) rfl ?_
  refine xt_pure rfl rfl rfl (st1 := .int 0 :: _) rfl ?_
  refine xt_pure rfl rfl rfl (L1 := [_, _, _, _, _]) rfl ?_
  refine sg_loop (l := ob.2.1) (jk := jk) (by omega) (by omega) hl12 hE (inEC1 hc0) (inEC1 hc1) (inEC1 q2) (inEC1 q3) (inEC1 q5) hv ob.2.1 [] rfl ?_
  rw [List.length_nil, Nat.zero_add]
  refine xt_pure rfl rfl rfl rfl ?_
  refine xt_pure rfl rfl rfl rfl ?_
  refine xt_getf rfl rfl (xmS 0 rfl (inEC1 q2)) ?_
  refine yt_ic rfl rfl (fun (h : Int32.toInt _ ≤ Int32.toInt _) => ?_) (fun (h : Int32.toInt _ < Int32.toInt _) => ?_)
  · rw [tk, tn] at h
    exact fin S w hW frC.rf (by rw [if_neg (by omega)]; exact (Int32.add_zero _).symm)
  · rw [tk, tn] at h
    refine xt_pure rfl rfl rfl rfl ?_
    refine xt_getf rfl rfl (xmC 120 rfl) ?_
    refine xt_pure rfl rfl rfl (st1 := .int 5 :: _) rfl ?_
    refine xt_callV rfl rfl rfl rfl (xmC 142 rfl) ⟨rfl, rfl, yle rfl, yle rfl, yle rfl, yle rfl⟩ ck_fail (c2 := 3) (s2 := 28) ⟨yle rfl, yle rfl⟩ ?_
    rintro _ _ ⟨rfl, rfl⟩
    exact fin (flC S 5) (w.1 + 1, w.2) hW.fl ⟨⟨rfl, rfl⟩, ⟨rfl, rfl, rfl, rfl, rfl, rfl⟩, rfl, rfl, rfl, rfl, rfl, rfl⟩ (by rw [if_pos (by omega)])
/-- what a carried answer leaves: value of the answer, of the count, more flaws -/
noncomputable def cryO (En : List (Int64 × Int32)) (kd : Int32) (z : Option yO) : Option yO × Nat × Int32 := match z with
  | none => (none, 0, 0)
  | some o => (some (cryR En kd o).1, (cryR En kd o).2)
theorem ck_carry {da aa fa p : Nat} {F : yF} {P : yPt} {zv : Value} {oo : Option yO} {refs : List Value} {jb : List Int32} (hp : p < 20) (hl : refs.length = 20) (hE : En.length ≤ 100) (hc0 : ((106, .inl (5, 2, .int (Int32.ofNat En.length))) : xE) ∈ D0) (hc1 : ((108, .inr (0, (En.map Prod.snd ++ jb).map Value.int)) : xE) ∈ D0) (h1 : ((da, .inl (1, 1, .ref fa)) : xE) ∈ D0) (h2 : ((da, .inl (1, 2, .ref aa)) : xE) ∈ D0) (hF : yFC D0 fa F) (hP : F.1[p]? = some P) {D' : List xE} (hsub : D' ⊆ D0) (q : yVB D' zv oo) (hk : ∀ ob, oo = some ob → yOk En ob) (hW : W0 S w) : yK X 7 400 176 [.ref 78, zv, .ref da, .int (Int32.ofNat p)] (EC S u v t ((aa, .inr (7, refs)) :: D0)) 3 28 (fun r D => ∃ S' w' v' N, r = some (.int (Int32.ofNat (cryO En P.1 oo).2.1)) ∧ D = EC S' u v t ((aa, .inr (7, refs.set p v')) :: (N ++ D0)) ∧ W0 S' w' ∧ frC S S' ∧ w'.1 = w.1 + (cryO En P.1 oo).2.2 ∧ yVB (N ++ D') v' (cryO En P.1 oo).1) := by
  have tp := yi_nat (i := p) (by omega)
  have tp3 : (Int32.ofNat p).toInt.toNat = p := yi_toNat (by omega)
  have tp4 := yjn (j := Int32.ofNat p) (by rw [tp]; omega)
  have hw0 : w.1 = w.1 + 0 := (Int32.add_zero _).symm
  cases oo with
  | none =>
    have q : zv = .null := q
    subst q
    refine yK.of rfl (yle rfl) (L := [_, _, _, _, _]) rfl ?_
    refine xt_pure rfl rfl rfl rfl ?_
    refine xt_pure rfl rfl rfl rfl ?_
    refine xt_pure rfl rfl rfl rfl ?_
    refine xt_getf rfl rfl (xmS 0 rfl (inEC1 h2)) ?_
    refine xt_pure rfl rfl rfl rfl ?_
    refine xt_pure rfl rfl rfl rfl ?_
    refine yt_ast rfl rfl 33 rfl rfl (by decide) rfl ⟨by rw [tp]; omega, by rw [tp]; omega⟩ (D1 := EC S u v t ((aa, .inr (7, refs.set p .null)) :: D0)) (by rw [tp3]; rfl) ?_
    refine xt_pure rfl rfl rfl (st1 := .int 0 :: _) rfl ?_
    exact xt_iret rfl rfl rfl rfl ⟨S, w, .null, [], rfl, rfl, hW, frC.rf, hw0, rfl⟩
  | some ob =>
    obtain ⟨a, rfl, q⟩ := q
    have hok := hk ob rfl
    have q' := q
    have q0 := q.mono hsub
    have q := q.mono hsub
    obtain ⟨ia, ra, jk, rr, q1, q2, q3, q4, q5, q6, q7, q8, q9⟩ := q
    obtain ⟨pp, qq, f1, _, fP, _⟩ := hF
    have hkd := (fP p P hP).1
    have o1 := yi_nat (i := ob.1) (by have := hok.1; omega)
    refine yK.of rfl (yle rfl) (L := [_, _, _, _, _]) rfl ?_
    refine xt_pure rfl rfl rfl rfl ?_
    refine xt_pure rfl rfl rfl rfl ?_
    refine xt_pure rfl rfl rfl rfl ?_
    refine xt_getf rfl rfl (xmS 0 rfl (inEC1 h1)) ?_
    refine xt_getf rfl rfl (xmS 0 rfl (inEC1 (ymm f1 1 rfl))) ?_
    refine xt_pure rfl rfl rfl rfl ?_
    refine xt_iald rfl rfl (xmS 0 rfl (inEC1 (ymm f1 19 rfl))) tp4.1 (v := .int P.1) (by rw [tp4.2, tp3, List.getElem?_map, hkd]; rfl) ?_
    have share : cryR En P.1 ob = (ob, osz ob, 0) → yT X 7 400 176 44 [some (.ref 78), some (.ref a), some (.ref da), some (.int (Int32.ofNat p)), some (.int P.1)] [.int (Int32.ofNat p), .ref aa] (EC S u v t ((aa, .inr (7, refs)) :: D0)) 3 28 (fun r D => ∃ S' w' v' N, r = some (.int (Int32.ofNat (cryO En P.1 (some ob)).2.1)) ∧ D = EC S' u v t ((aa, .inr (7, refs.set p v')) :: (N ++ D0)) ∧ W0 S' w' ∧ frC S S' ∧ w'.1 = w.1 + (cryO En P.1 (some ob)).2.2 ∧ yVB (N ++ D') v' (cryO En P.1 (some ob)).1) := by
      intro he
      refine xt_pure rfl rfl rfl rfl ?_
      refine yt_ast rfl rfl 33 rfl rfl (by decide) (Or.inl ⟨_, 6, 0, _, rfl, rfl, List.mem_append_left _ (inEC1 q1)⟩) ⟨by rw [tp]; omega, by rw [tp]; omega⟩ (D1 := EC S u v t ((aa, .inr (7, refs.set p (.ref a))) :: D0)) (by rw [tp3]; rfl) ?_
      refine xt_pure rfl rfl rfl rfl ?_
      refine xt_getf rfl rfl (xmS 0 rfl (inEC1 q2)) ?_
      have hz0 : cryO En P.1 (some ob) = (some ob, osz ob, 0) := by
        show (some (cryR En P.1 ob).1, (cryR En P.1 ob).2) = _
        rw [he]
      rw [hz0]
      exact xt_iret rfl rfl rfl rfl ⟨S, w, .ref a, [], rfl, rfl, hW, frC.rf, hw0, a, rfl, q'⟩
    have rest : ¬ (ob.1 = 5 ∧ P.1 = 9) → yT X 7 400 176 28 [some (.ref 78), some (.ref a), some (.ref da), some (.int (Int32.ofNat p)), some (.int P.1)] [] (EC S u v t ((aa, .inr (7, refs)) :: D0)) 3 28 (fun r D => ∃ S' w' v' N, r = some (.int (Int32.ofNat (cryO En P.1 (some ob)).2.1)) ∧ D = EC S' u v t ((aa, .inr (7, refs.set p v')) :: (N ++ D0)) ∧ W0 S' w' ∧ frC S S' ∧ w'.1 = w.1 + (cryO En P.1 (some ob)).2.2 ∧ yVB (N ++ D') v' (cryO En P.1 (some ob)).1) := by
      intro hno
      refine xt_pure rfl rfl rfl rfl ?_
      refine xt_getf rfl rfl (xmS 0 rfl (inEC1 h2)) ?_
      refine xt_pure rfl rfl rfl rfl ?_
      refine xt_pure rfl rfl rfl rfl ?_
      refine xt_getf rfl rfl (xmS 0 rfl (inEC1 q1)) ?_
      refine xt_pure rfl rfl rfl (st1 := .int 6 :: _) rfl ?_
      refine yt_ic rfl rfl (fun (h : Int32.ofNat ob.1 ≠ 6) => ?_) (fun (h : Int32.ofNat ob.1 = 6) => ?_)
      · refine share ?_
        rw [cryR, if_neg hno, if_neg]
        rintro ⟨h6, _⟩
        exact h (by rw [h6]; rfl)
      · have h6 : ob.1 = 6 := by
          have := congrArg Int32.toInt h
          rw [o1, show (6 : Int32).toInt = 6 from rfl] at this
          omega
        refine xt_pure rfl rfl rfl rfl ?_
        refine xt_pure rfl rfl rfl (st1 := .int 8 :: _) rfl ?_
        refine yt_ic rfl rfl (fun (h : P.1 ≠ 8) => ?_) (fun (h8 : P.1 = 8) => ?_)
        · refine share ?_
          rw [cryR, if_neg hno, if_neg]
          rintro ⟨_, h8⟩
          exact h h8
        · have he : cryR En P.1 ob = ((5, ob.2.1, []), osz ob, 0) := by rw [cryR, if_neg hno, if_pos ⟨h6, h8⟩]
          have hz : osz ob = ob.2.1.length := osz_n4 (by omega)
          obtain ⟨_, hl12⟩ := hok.2.2.1 (by omega)
          rw [hz] at q2
          refine xt_pure rfl rfl rfl rfl ?_
          refine xt_pure rfl rfl rfl (st1 := .int 5 :: _) rfl ?_
          refine xt_pure rfl rfl rfl rfl ?_
          refine xt_getf rfl rfl (xmS 0 rfl (inEC1 q2)) ?_
          refine xt_callV rfl rfl rfl rfl (xmS 0 rfl (inEC1 q1)) ⟨rfl, rfl, yle rfl, yle rfl, yle rfl, yle rfl⟩ (ck_copyAs (s := 5) (Or.inl rfl) (Or.inr h6) hl12 (Nat.le_refl _) (q0.mono inEC1)) (c2 := 0) (s2 := 0) ⟨yle rfl, yle rfl⟩ ?_
          rintro _ _ ⟨b, N, rfl, rfl, hN⟩
          rw [Nat.sub_self, List.take_length, show List.replicate 0 (-1 : Int64) = [] from rfl, List.append_nil] at hN
          obtain ⟨w0, hNb⟩ : ∃ w0, ((b, .inl (6, 0, w0)) : xE) ∈ N := by
            obtain ⟨_, _, _, _, n1, _⟩ := hN
            exact ⟨_, n1⟩
          refine xt_pure rfl rfl rfl rfl ?_
          refine yT.perm (D2 := EC S u v t ((aa, .inr (7, refs)) :: (N ++ D0))) ec_perm ?_
          refine yt_ast rfl rfl 33 rfl rfl (by decide) (Or.inl ⟨_, 6, 0, w0, rfl, rfl, List.mem_append_left _ (inEC1 (List.mem_append_left _ hNb))⟩) ⟨by rw [tp]; omega, by rw [tp]; omega⟩ (D1 := EC S u v t ((aa, .inr (7, refs.set p (.ref b))) :: (N ++ D0))) (by rw [tp3]; rfl) ?_
          refine xt_pure rfl rfl rfl rfl ?_
          refine xt_getf rfl rfl (xmS 0 rfl (inEC1 (List.mem_append_right _ q2))) ?_
          have hz0 : cryO En P.1 (some ob) = (some (5, ob.2.1, []), ob.2.1.length, 0) := by
            show (some (cryR En P.1 ob).1, (cryR En P.1 ob).2) = _
            rw [he, hz]
          rw [hz0]
          exact xt_iret rfl rfl rfl rfl ⟨S, w, .ref b, N, rfl, rfl, hW, frC.rf, hw0, b, rfl, hN.mono (fun _ he => List.mem_append_left _ he)⟩
    refine xt_pure rfl rfl rfl (L1 := [_, _, _, _, _]) rfl ?_
    refine xt_pure rfl rfl rfl rfl ?_
    refine xt_getf rfl rfl (xmS 0 rfl (inEC1 q1)) ?_
    refine xt_pure rfl rfl rfl (st1 := .int 5 :: _) rfl ?_
    refine yt_ic rfl rfl (fun (h : Int32.ofNat ob.1 ≠ 5) => ?_) (fun (h : Int32.ofNat ob.1 = 5) => ?_)
    · refine rest ?_
      rintro ⟨h5, _⟩
      exact h (by rw [h5]; rfl)
    · have h5 : ob.1 = 5 := by
        have := congrArg Int32.toInt h
        rw [o1, show (5 : Int32).toInt = 5 from rfl] at this
        omega
      refine xt_pure rfl rfl rfl rfl ?_
      refine xt_pure rfl rfl rfl (st1 := .int 9 :: _) rfl ?_
      refine yt_ic rfl rfl (fun (h : P.1 ≠ 9) => rest (fun h2 => h h2.2)) (fun (h9 : P.1 = 9) => ?_)
      refine xt_pure rfl rfl rfl rfl ?_
      refine xt_pure rfl rfl rfl rfl ?_
      refine xt_pure rfl rfl rfl rfl ?_
      refine xt_pure rfl rfl rfl rfl ?_
      refine xt_callV rfl rfl rfl rfl (xmC 115 rfl) ⟨rfl, rfl, yle rfl, yle rfl, yle rfl, yle rfl⟩ (ck_carrySigned hp hl hE hc0 hc1 h2 q0 hok h5 hW) (c2 := 0) (s2 := 0) ⟨yle rfl, yle rfl⟩ ?_
      rintro _ _ ⟨S', w', b, N, rfl, rfl, g1, g2, g3, g4⟩
      rw [h9]
      exact xt_iret rfl rfl rfl rfl ⟨S', w', .ref b, N, rfl, rfl, g1, g2, g3, b, rfl, g4.mono (fun _ he => List.mem_append_left _ he)⟩
end CARRY
