/-! MIGRATE: the class -/
/-- a move: of form, part, to form, part -/
abbrev yMv : Type := Int32 × Int32 × Int32 × Int32
/-- what the moves bring over: answers, how many items came by each, flaws -/
noncomputable def mgR (En : List (Int64 × Int32)) (A : List (Option yO)) (F : yF) (f tf : Int32) : List yMv → List (Option yO) → List Int32 → Int32 → List (Option yO) × List Int32 × Int32
  | [], B, cm, ev => (B, cm, ev)
  | m :: r, B, cm, ev => if m.1 = f ∧ m.2.2.1 = tf then mgR En A F f tf r (B.set m.2.2.2.toInt.toNat (cryO En (knd F m.2.2.2) (anR A m.2.1)).1) (cm ++ [Int32.ofNat (cryO En (knd F m.2.2.2) (anR A m.2.1)).2.1]) (ev + (cryO En (knd F m.2.2.2) (anR A m.2.1)).2.2) else mgR En A F f tf r B (cm ++ [-9]) ev
/-- moves of parts that can be asked for -/
def mvOk (Fs : List yF) (Mv : List yMv) : Prop := Mv.length ≤ 40 ∧ ∀ m ∈ Mv, mvA Fs m.1 m.2.1 = true ∧ mvA Fs m.2.2.1 m.2.2.2 = true
theorem mvA_inv {Fs : List yF} {x p : Int32} (h : mvA Fs x p = true) : ∃ F P, gI Fs x = some F ∧ askP F p = some P := by
  unfold mvA at h
  rcases hF : gI Fs x with _ | F
  · rw [hF] at h; cases h
  · rw [hF] at h
    rcases hP : askP F p with _ | P
    · rw [Option.bind_some, hP] at h; cases h
    · exact ⟨F, P, rfl, hP⟩
theorem yAnB.put {D : List xE} {refs : List Value} {A : List (Option yO)} {p : Nat} {v : Value} {z : Option yO} (h : yAnB D refs A) (hv : yVB D v z) : yAnB D (refs.set p v) (A.set p z) := by
  refine ⟨by rw [List.length_set]; exact h.1, by rw [List.length_set]; exact h.2.1, ?_⟩
  intro i v2 z2 h1 h2
  by_cases e : p = i
  · subst e
    have l1 : p < refs.length := by
      have := (List.getElem?_eq_some_iff.mp h1).1
      rwa [List.length_set] at this
    have l2 : p < A.length := by rw [h.2.1, ← h.1]; exact l1
    rw [List.getElem?_set_self l1] at h1
    rw [List.getElem?_set_self l2] at h2
    injection h1 with h1
    injection h2 with h2
    subst h1 h2
    exact hv
  · rw [List.getElem?_set_ne e] at h1 h2
    exact h.2.2 i v2 z2 h1 h2
section MIGC
variable {X : List Int32} {D0 : List xE} {Fs : List yF} {R : List yDR} {En : List (Int64 × Int32)} {S : zS} {w : yW} {u v : Value} {t : List Int32} {x y : Int32} {Mv : List yMv}
/-- a made draft's fields -/
abbrev e7 (da aa fa : Nat) (x : Int32) : List xE := [(da, .inl (1, 0, .int x)), (da, .inl (1, 1, .ref fa)), (da, .inl (1, 2, .ref aa)), (da, .inl (1, 3, .null)), (da, .inl (1, 4, .int 0)), (da, .inl (1, 5, .int (-9))), (da, .inl (1, 6, .int 0))]
theorem mg_perm {S : zS} {u v : Value} {t : List Int32} {e a b c : xE} {N1 N M : List xE} : (EC S u v t (e :: (N1 ++ (a :: b :: c :: (N ++ M))))).Perm (EC S u v t (e :: a :: b :: c :: ((N1 ++ N) ++ M))) := by
  have h : ∀ (A B : List xE), (N1 ++ (A ++ B)).Perm (A ++ (N1 ++ B)) := fun A B => by
    rw [← List.append_assoc, ← List.append_assoc]
    exact List.Perm.append_right _ List.perm_append_comm
  rw [List.append_assoc]
  refine List.Perm.append_left _ (List.Perm.cons _ (List.Perm.cons _ (List.Perm.cons _ (List.Perm.cons _ ?_))))
  exact h [a, b, c] (N ++ M)
theorem getm {i : Nat} (h : i < 40) : ((List.range 40).map fun i => Value.ref (127 + i))[i]? = some (.ref (127 + i)) := by
  rw [List.getElem?_map, List.getElem?_range h]; rfl
theorem mig_loop {r : yDR} {F0 F : yF} {da aa fa n : Nat} {vs : List Value} {jb : List Int32} {M : List xE} (hM : M ⊆ D0) (hHM : ∃ srefs, ((r.2.1, .inr (7, srefs)) : xE) ∈ D0 ∧ yAnB M srefs r.2.2.2.2.2.2.1) (hn : n < 30) (hv30 : vs.length = 30) (hE : En.length ≤ 100) (hc0 : ((106, .inl (5, 2, .int (Int32.ofNat En.length))) : xE) ∈ D0) (hc1 : ((108, .inr (0, (En.map Prod.snd ++ jb).map Value.int)) : xE) ∈ D0) (hFl : Fs.length ≤ 10) (hF : yFC D0 fa F) (hFy : gI Fs y = some F) (h20 : ∀ (i : Nat) F, Fs[i]? = some F → F.1.length ≤ 20) (hd1 : ∀ e ∈ dfR r, e ∈ D0) (hF0 : Fs[r.2.2.2.2.2.1]? = some F0) (hH : HC D0 r.2.2.1 r.2.1 F0 r.2.2.2.2.2.2.1 En) (hmn : ((78, .inl (11, 16, .int (Int32.ofNat Mv.length))) : xE) ∈ D0) (hmr : ∀ (i : Nat) m, Mv[i]? = some m → ((127 + i, .inr (0, ([m.1, m.2.1, m.2.2.1, m.2.2.2] : List Int32).map Value.int)) : xE) ∈ D0) (hmv : mvOk Fs Mv) : ∀ (ms : List yMv) (i : Nat) (S : zS) (w : yW) (refs : List Value) (B : List (Option yO)) (cm : List Int32) (N : List xE) (l6 : Option Value), Mv.drop i = ms → i ≤ Mv.length → cm.length = i → W0 S w → yAnB (N ++ M) refs B → yT X 20 700 175 37 [some (.ref 78), some (.int x), some (.int y), some (.ref r.1), some (.ref da), some (.int (Int32.ofNat i)), l6] [] (EC S u v t ((aa, .inr (7, refs)) :: (167, .inr (0, (cm ++ List.replicate (40 - i) (-9)).map Value.int)) :: (109, .inr (6, vs)) :: (78, .inl (11, 8, .int (Int32.ofNat n))) :: (N ++ (e7 da aa fa y ++ D0)))) (3 * ms.length) (28 * ms.length) (fun a D => ∃ S' w' refs' N', a = some (.int (Int32.ofNat n)) ∧ D = EC S' u v t ((aa, .inr (7, refs')) :: (167, .inr (0, ((mgR En r.2.2.2.2.2.2.1 F (Int32.ofNat r.2.2.2.2.2.1) y ms B cm w.1).2.1 ++ List.replicate (40 - Mv.length) (-9)).map Value.int)) :: (109, .inr (6, vs.set n (.ref da))) :: (78, .inl (11, 8, .int (Int32.ofNat (n + 1)))) :: (N' ++ (e7 da aa fa y ++ D0))) ∧ W0 S' w' ∧ frC S S' ∧ w'.1 = (mgR En r.2.2.2.2.2.2.1 F (Int32.ofNat r.2.2.2.2.2.1) y ms B cm w.1).2.2 ∧ yAnB (N' ++ M) refs' (mgR En r.2.2.2.2.2.2.1 F (Int32.ofNat r.2.2.2.2.2.1) y ms B cm w.1).1)
  | [], i, S, w, refs, B, cm, N, l6, hd, hi0, hcm, hW, hB => by
    have hi : Mv.length ≤ i := List.drop_eq_nil_iff.mp hd
    have e : i = Mv.length := by omega
    have h40 := hmv.1
    refine xt_pure rfl rfl rfl rfl ?_
    refine xt_pure rfl rfl rfl rfl ?_
    refine xt_getf rfl rfl (xmS 37 rfl (List.mem_append_right _ (List.mem_append_right _ hmn))) ?_
    refine yt_ic rfl rfl (fun _ => ?_) (fun (h : Int32.toInt _ < Int32.toInt _) => ?_)
    · skip
      refine xt_pure rfl rfl rfl rfl ?_
      refine xt_pure rfl rfl rfl rfl ?_
      refine xt_callV rfl rfl rfl rfl (xmC 115 rfl) ⟨rfl, rfl, yle rfl, yle rfl, yle rfl, yle rfl⟩ (ck_open (k := 35) (j := 36) (w0 := .int y) (n := n) hn rfl hv30 rfl (List.mem_of_mem_drop (i := 37) (List.mem_append_right _ (List.mem_append_left _ (List.mem_of_getElem? (i := 0) rfl))))) (c2 := 0) (s2 := 0) ⟨yle rfl, yle rfl⟩ ?_
      rintro _ _ ⟨rfl, rfl⟩
      rw [e]
      exact xt_iret rfl rfl rfl rfl ⟨S, w, refs, N, rfl, rfl, hW, frC.rf, rfl, hB⟩
    · rw [yi_nat (by omega), yi_nat (by omega)] at h
      omega
  | m :: ms, i, S, w, refs, B, cm, N, l6, hd, hi0, hcm, hW, hB => by
    have h40 := hmv.1
    have hri : Mv[i]? = some m := by rw [← Nat.add_zero i, ← List.getElem?_drop, hd]; rfl
    have hi : i < Mv.length := (List.getElem?_eq_some_iff.mp hri).1
    have hd2 : Mv.drop (i + 1) = ms := by rw [← List.drop_drop, hd]; rfl
    have ti := yi_nat (i := i) (by omega)
    have t3 : (Int32.ofNat i).toInt.toNat = i := yi_toNat (by omega)
    have t4 := yjn (j := Int32.ofNat i) (by rw [ti]; omega)
    have hrow := hmr i m hri
    have hdl : r.2.2.2.2.2.1 < Fs.length := (List.getElem?_eq_some_iff.mp hF0).1
    have hrep : List.replicate (40 - i) (-9 : Int32) = -9 :: List.replicate (40 - (i + 1)) (-9) := by
      rw [show 40 - i = (40 - (i + 1)) + 1 by omega]; rfl
    have skip : (mgR En r.2.2.2.2.2.2.1 F (Int32.ofNat r.2.2.2.2.2.1) y (m :: ms) B cm w.1) = (mgR En r.2.2.2.2.2.2.1 F (Int32.ofNat r.2.2.2.2.2.1) y ms B (cm ++ [-9]) w.1) → yT X 20 700 175 73 [some (.ref 78), some (.int x), some (.int y), some (.ref r.1), some (.ref da), some (.int (Int32.ofNat i)), some (.ref (127 + i))] [] (EC S u v t ((aa, .inr (7, refs)) :: (167, .inr (0, (cm ++ List.replicate (40 - i) (-9)).map Value.int)) :: (109, .inr (6, vs)) :: (78, .inl (11, 8, .int (Int32.ofNat n))) :: (N ++ (e7 da aa fa y ++ D0)))) (3 * (m :: ms).length) (28 * (m :: ms).length) (fun a D => ∃ S' w' refs' N', a = some (.int (Int32.ofNat n)) ∧ D = EC S' u v t ((aa, .inr (7, refs')) :: (167, .inr (0, ((mgR En r.2.2.2.2.2.2.1 F (Int32.ofNat r.2.2.2.2.2.1) y (m :: ms) B cm w.1).2.1 ++ List.replicate (40 - Mv.length) (-9)).map Value.int)) :: (109, .inr (6, vs.set n (.ref da))) :: (78, .inl (11, 8, .int (Int32.ofNat (n + 1)))) :: (N' ++ (e7 da aa fa y ++ D0))) ∧ W0 S' w' ∧ frC S S' ∧ w'.1 = (mgR En r.2.2.2.2.2.2.1 F (Int32.ofNat r.2.2.2.2.2.1) y (m :: ms) B cm w.1).2.2 ∧ yAnB (N' ++ M) refs' (mgR En r.2.2.2.2.2.2.1 F (Int32.ofNat r.2.2.2.2.2.1) y (m :: ms) B cm w.1).1) := by
      intro hs
      refine xt_pure rfl rfl rfl (L1 := [_, _, _, _, _, some (.int (_ + 1)), _]) rfl ?_
      refine xt_pure rfl rfl rfl rfl ?_
      rw [yi_add1, hs, hrep, show cm ++ (-9 :: List.replicate (40 - (i + 1)) (-9 : Int32)) = (cm ++ [-9]) ++ List.replicate (40 - (i + 1)) (-9) by rw [List.append_assoc]; rfl]
      exact (mig_loop hM hHM hn hv30 hE hc0 hc1 hFl hF hFy h20 hd1 hF0 hH hmn hmr hmv ms (i + 1) S w refs B (cm ++ [-9]) N _ hd2 (by omega) (by rw [List.length_append, hcm]; rfl) hW hB).mono (by rw [List.length_cons]; omega) (by rw [List.length_cons]; omega) (fun _ _ h => h)
    refine xt_pure rfl rfl rfl rfl ?_
    refine xt_pure rfl rfl rfl rfl ?_
    refine xt_getf rfl rfl (xmS 37 rfl (List.mem_append_right _ (List.mem_append_right _ hmn))) ?_
    refine yt_ic rfl rfl (fun (h : Int32.toInt _ ≤ Int32.toInt _) => ?_) (fun _ => ?_)
    · rw [ti, yi_nat (by omega)] at h
      omega
    · skip
      refine xt_pure rfl rfl rfl rfl ?_
      refine xt_getf rfl rfl (xmC 123 rfl) ?_
      refine xt_pure rfl rfl rfl rfl ?_
      refine xt_aald rfl rfl ⟨by decide, rfl⟩ (xmC 157 rfl) (v := .ref (127 + i)) t4.1 (by rw [t4.2, t3]; exact getm (by omega)) ?_
      refine xt_pure rfl rfl rfl (L1 := [_, _, _, _, _, _, _]) rfl ?_
      refine xt_pure rfl rfl rfl rfl ?_
      refine xt_pure rfl rfl rfl (st1 := .int 0 :: _) rfl ?_
      refine xt_iald rfl rfl (xmS 37 rfl (List.mem_append_right _ (List.mem_append_right _ hrow))) (by decide) (v := .int m.1) rfl ?_
      refine xt_pure rfl rfl rfl rfl ?_
      refine xt_getf rfl rfl (xmS 37 rfl (List.mem_append_right _ (List.mem_append_right _ (ymm hd1 0 rfl)))) ?_
      refine yt_ic rfl rfl (fun (h : m.1 ≠ Int32.ofNat r.2.2.2.2.2.1) => ?_) (fun (h : m.1 = Int32.ofNat r.2.2.2.2.2.1) => ?_)
      · refine skip ?_
        rw [mgR, if_neg (fun k => h k.1)]
      · skip
        refine xt_pure rfl rfl rfl rfl ?_
        refine xt_pure rfl rfl rfl (st1 := .int 2 :: _) rfl ?_
        refine xt_iald rfl rfl (xmS 37 rfl (List.mem_append_right _ (List.mem_append_right _ hrow))) (by decide) (v := .int m.2.2.1) rfl ?_
        refine xt_pure rfl rfl rfl rfl ?_
        refine yt_ic rfl rfl (fun (h2 : m.2.2.1 ≠ y) => ?_) (fun (h2 : m.2.2.1 = y) => ?_)
        · refine skip ?_
          rw [mgR, if_neg (fun k => h2 k.2)]
        · obtain ⟨v1, v2⟩ := hmv.2 m (List.mem_of_getElem? hri)
          obtain ⟨Fa, Pa, a1, a2⟩ := mvA_inv v1
          obtain ⟨Fb, Pb, b1, b2⟩ := mvA_inv v2
          have eFa : Fa = F0 := by
            rw [h, gI_nat (by omega), hF0] at a1
            injection a1 with a1
            exact a1.symm
          have eFb : Fb = F := by
            rw [h2, hFy] at b1
            injection b1 with b1
            exact b1.symm
          subst eFa eFb
          obtain ⟨p1, p2, p3, p4⟩ := askP_some a2
          obtain ⟨s1, s2, s3, s4⟩ := askP_some b2
          have hl1 := h20 _ _ hF0
          have hl2 := h20 _ _ (gI_some hFy).2.2.1
          have hkd : knd Fb m.2.2.2 = Pb.1 := (askP_ask b2).2
          have hH0 := hH
          obtain ⟨_, _, _, q5, _⟩ := hH
          obtain ⟨srefs, q3, q4⟩ := id hHM
          obtain ⟨an, han⟩ : ∃ an, r.2.2.2.2.2.2.1[m.2.1.toInt.toNat]? = some an := ⟨_, List.getElem?_eq_getElem (by rw [q4.2.1]; omega)⟩
          obtain ⟨rv, hrv⟩ : ∃ rv, srefs[m.2.1.toInt.toNat]? = some rv := ⟨_, List.getElem?_eq_getElem (by rw [q4.1]; omega)⟩
          have hv := q4.2.2 _ _ _ hrv han
          have hanR : anR r.2.2.2.2.2.2.1 m.2.1 = an := by rw [anR, gI_in p1 han]; rfl
          have hgo : (mgR En r.2.2.2.2.2.2.1 Fb (Int32.ofNat r.2.2.2.2.2.1) y (m :: ms) B cm w.1) = (mgR En r.2.2.2.2.2.2.1 Fb (Int32.ofNat r.2.2.2.2.2.1) y ms (B.set m.2.2.2.toInt.toNat (cryO En Pb.1 an).1) (cm ++ [Int32.ofNat (cryO En Pb.1 an).2.1]) (w.1 + (cryO En Pb.1 an).2.2)) := by
            rw [mgR, if_pos ⟨h, h2⟩, hkd, hanR]
          refine xt_pure rfl rfl rfl rfl ?_
          refine xt_getf rfl rfl (xmC 124 rfl) ?_
          refine xt_pure rfl rfl rfl rfl ?_
          refine xt_pure rfl rfl rfl rfl ?_
          refine xt_pure rfl rfl rfl rfl ?_
          refine xt_getf rfl rfl (xmS 37 rfl (List.mem_append_right _ (List.mem_append_right _ (ymm hd1 2 rfl)))) ?_
          refine xt_pure rfl rfl rfl rfl ?_
          refine xt_pure rfl rfl rfl (st1 := .int 1 :: _) rfl ?_
          refine xt_iald rfl rfl (xmS 37 rfl (List.mem_append_right _ (List.mem_append_right _ hrow))) (by decide) (v := .int m.2.1) rfl ?_
          refine xt_aald rfl rfl ⟨by decide, rfl⟩ (xmS 37 rfl (List.mem_append_right _ (List.mem_append_right _ q3))) (yjn p1).1 (v := rv) (by rw [(yjn p1).2]; exact hrv) ?_
          refine xt_pure rfl rfl rfl rfl ?_
          refine xt_pure rfl rfl rfl rfl ?_
          refine xt_pure rfl rfl rfl (st1 := .int 3 :: _) rfl ?_
          refine xt_iald rfl rfl (xmS 37 rfl (List.mem_append_right _ (List.mem_append_right _ hrow))) (by decide) (v := .int m.2.2.2) rfl ?_
          have em : m.2.2.2 = Int32.ofNat m.2.2.2.toInt.toNat := (yi_id s1).symm
          rw [em]
          have sb0 : D0 ⊆ (167, .inr (0, (cm ++ List.replicate (40 - i) (-9)).map Value.int)) :: (109, .inr (6, vs)) :: (78, .inl (11, 8, .int (Int32.ofNat n))) :: (N ++ (e7 da aa fa y ++ D0)) := fun _ he => List.mem_cons_of_mem _ (List.mem_cons_of_mem _ (List.mem_cons_of_mem _ (List.mem_append_right _ (List.mem_append_right _ he))))
          have sb7 : ∀ k e, (e7 da aa fa y)[k]? = some e → e ∈ (167, .inr (0, (cm ++ List.replicate (40 - i) (-9)).map Value.int)) :: (109, .inr (6, vs)) :: (78, .inl (11, 8, .int (Int32.ofNat n))) :: (N ++ (e7 da aa fa y ++ D0)) := fun k e he => List.mem_cons_of_mem _ (List.mem_cons_of_mem _ (List.mem_cons_of_mem _ (List.mem_append_right _ (List.mem_append_left _ (List.mem_of_getElem? he)))))
          refine xt_callV rfl rfl rfl rfl (xmC 115 rfl) ⟨rfl, rfl, yle rfl, yle rfl, yle rfl, yle rfl⟩ (ck_carry (p := m.2.2.2.toInt.toNat) (P := Pb) (by omega) hB.1 hE (sb0 hc0) (sb0 hc1) (sb7 1 _ rfl) (sb7 2 _ rfl) (hF.mono sb0) s3 (fun _ he => sb0 (hM he)) hv (fun ob ho => q5 _ ob (by rw [← ho]; exact han)) hW) (c2 := 3 * ms.length) (s2 := 28 * ms.length) ⟨by rw [List.length_cons]; omega, by rw [List.length_cons]; omega⟩ ?_
          rintro _ _ ⟨S', w', v', N1, rfl, rfl, g1, g2, g3, g4⟩
          refine yT.perm mg_perm ?_
          refine yt_ist rfl rfl 34 rfl ⟨by rw [ti]; omega, by rw [ti, List.length_append, List.length_replicate]; omega⟩ (D1 := EC S' u v t ((aa, .inr (7, refs.set m.2.2.2.toInt.toNat v')) :: (167, .inr (0, (cm ++ [Int32.ofNat (cryO En Pb.1 an).2.1] ++ List.replicate (40 - (i + 1)) (-9)).map Value.int)) :: (109, .inr (6, vs)) :: (78, .inl (11, 8, .int (Int32.ofNat n))) :: ((N1 ++ N) ++ (e7 da aa fa y ++ D0)))) ?_ ?_
          · have hset : ∀ q : Int32, (cm ++ List.replicate (40 - i) (-9)).set i q = cm ++ [q] ++ List.replicate (40 - (i + 1)) (-9) := by
              intro q
              rw [hrep, List.set_append_right _ _ (by omega), hcm, Nat.sub_self, List.set_cons_zero, List.append_assoc]
              rfl
            rw [t3, hset]
            rfl
          · refine xt_pure rfl rfl rfl (L1 := [_, _, _, _, _, some (.int (_ + 1)), _]) rfl ?_
            refine xt_pure rfl rfl rfl rfl ?_
            rw [yi_add1]
            have hB' : yAnB ((N1 ++ N) ++ M) (refs.set m.2.2.2.toInt.toNat v') (B.set m.2.2.2.toInt.toNat (cryO En Pb.1 an).1) := by
              refine yAnB.put (hB.mono ?_) (g4.mono ?_)
              · rw [List.append_assoc]
                exact fun _ he => List.mem_append_right _ he
              · intro e he
                rcases List.mem_append.mp he with he | he
                · exact List.mem_append_left _ (List.mem_append_left _ he)
                · exact List.mem_append_right _ he
            refine (mig_loop hM hHM hn hv30 hE hc0 hc1 hFl hF hFy h20 hd1 hF0 hH0 hmn hmr hmv ms (i + 1) S' w' _ _ (cm ++ [Int32.ofNat (cryO En Pb.1 an).2.1]) (N1 ++ N) _ hd2 (by omega) (by rw [List.length_append, hcm]; rfl) g1 hB').mono (Nat.le_refl _) (Nat.le_refl _) ?_
            rintro a D ⟨S2, w2, refs2, N2, k1, k2, k3, k4, k5, k6⟩
            rw [hgo, ← g3]
            exact ⟨S2, w2, refs2, N2, k1, k2, k3, g2.tr k4, k5, k6⟩
theorem mg_perm2 {S : zS} {u v : Value} {t : List Int32} {a b c e : xE} {E D0 : List xE} : (e :: (E ++ EC S u v t (a :: b :: c :: D0))).Perm (a :: EC S u v t (e :: b :: c :: (E ++ D0))) := by
  have h : ∀ (A B C : List xE), (C ++ (A ++ B)).Perm (A ++ (C ++ B)) := fun A B C => by
    rw [← List.append_assoc, ← List.append_assoc]
    exact List.Perm.append_right _ List.perm_append_comm
  have h1 : (e :: (E ++ EC S u v t (a :: b :: c :: D0))).Perm (EC S u v t (a :: e :: b :: c :: (E ++ D0))) := by
    refine ((h (zE zaE S 0 zTE) _ (e :: E)).trans (List.Perm.append_left _ ?_))
    refine (h [_, _, _] (a :: b :: c :: D0) (e :: E)).trans (List.Perm.append_left [_, _, _] ?_)
    refine (h [a] (b :: c :: D0) (e :: E)).trans (List.Perm.cons _ (List.Perm.cons _ ?_))
    exact h [b, c] D0 E
  refine h1.trans ?_
  exact (h [a] (e :: b :: c :: (E ++ D0)) (zE zaE S 0 zTE ++ [_, _, _]) |> fun k => by rw [List.append_assoc] at k; rw [List.append_assoc] at k; exact k)
theorem mg_perm3 {S : zS} {u v : Value} {t : List Int32} {a e : xE} {D0 : List xE} : (a :: EC S u v t (e :: D0)).Perm (EC S u v t (e :: a :: D0)) := by
  have h : ∀ (A B : List xE), (a :: (A ++ B)).Perm (A ++ (a :: B)) := fun A B => (List.perm_middle).symm
  have := h (zE zaE S 0 zTE ++ [(110, .inl (10, 2, u)), (110, .inl (10, 3, v)), (125, .inr (0, t.map Value.int)), e]) D0
  rw [List.append_assoc, List.append_assoc] at this
  exact this
/-- what the class answers to migrate -/
def QmgC (Fs : List yF) (R : List yDR) (En : List (Int64 × Int32)) (Mv : List yMv) (S : zS) (w : yW) (u v : Value) (t : List Int32) (x y : Int32) (cm0 : List Int32) (vs : List Value) (n : Nat) (M D0 : List xE) (a : Option Value) (D : List xE) : Prop := ((gI R x = none ∨ gI Fs y = none) ∧ a = some (.int (-1)) ∧ D = (EC S u v t ((167, .inr (0, cm0.map Value.int)) :: (109, .inr (6, vs)) :: (78, .inl (11, 8, .int (Int32.ofNat n))) :: D0))) ∨ (∃ r F, gI R x = some r ∧ gI Fs y = some F ∧ (10000 ≤ w.1.toInt ∨ n = 30) ∧ a = some (.int (-3)) ∧ D = (EC S u v t ((167, .inr (0, cm0.map Value.int)) :: (109, .inr (6, vs)) :: (78, .inl (11, 8, .int (Int32.ofNat n))) :: D0))) ∨ ∃ r F fa da aa S' w' refs' N', gI R x = some r ∧ gI Fs y = some F ∧ ¬ 10000 ≤ w.1.toInt ∧ n < 30 ∧ (yFaC Fs D0 y fa ∧ yFC D0 fa F) ∧ a = some (.int (Int32.ofNat n)) ∧ D = EC S' u v t ((aa, .inr (7, refs')) :: (167, .inr (0, ((mgR En r.2.2.2.2.2.2.1 F (Int32.ofNat r.2.2.2.2.2.1) y Mv (List.replicate 20 none) [] w.1).2.1 ++ List.replicate (40 - Mv.length) (-9)).map Value.int)) :: (109, .inr (6, vs.set n (.ref da))) :: (78, .inl (11, 8, .int (Int32.ofNat (n + 1)))) :: (N' ++ (e7 da aa fa y ++ D0))) ∧ W0 S' w' ∧ frC S S' ∧ w'.1 = (mgR En r.2.2.2.2.2.2.1 F (Int32.ofNat r.2.2.2.2.2.1) y Mv (List.replicate 20 none) [] w.1).2.2 ∧ yAnB (N' ++ M) refs' (mgR En r.2.2.2.2.2.2.1 F (Int32.ofNat r.2.2.2.2.2.1) y Mv (List.replicate 20 none) [] w.1).1
theorem inE3 {S : zS} {u v : Value} {t : List Int32} {a b c : xE} {D0 : List xE} : D0 ⊆ EC S u v t (a :: b :: c :: D0) := fun _ he => inEC (List.mem_cons_of_mem _ (List.mem_cons_of_mem _ (List.mem_cons_of_mem _ he)))
theorem cK_migrate {n : Nat} {vs : List Value} {jb cm0 : List Int32} {M : List xE} (hM : M ⊆ D0) (hHM : ∀ r ∈ R, ∃ srefs, ((r.2.1, .inr (7, srefs)) : xE) ∈ D0 ∧ yAnB M srefs r.2.2.2.2.2.2.1) (hn : n ≤ 30) (hv30 : vs.length = 30) (hcm : cm0.length = 40) (hA : yDsA R (EC S u v t ((167, .inr (0, cm0.map Value.int)) :: (109, .inr (6, vs)) :: (78, .inl (11, 8, .int (Int32.ofNat n))) :: D0))) (hR : ∀ r ∈ R, (∀ e ∈ dfR r, e ∈ D0) ∧ ∃ F, Fs[r.2.2.2.2.2.1]? = some F ∧ HC D0 r.2.2.1 r.2.1 F r.2.2.2.2.2.2.1 En) (hFs : yFsC Fs D0) (h20 : ∀ (i : Nat) F, Fs[i]? = some F → F.1.length ≤ 20) (hE : En.length ≤ 100) (hc0 : ((106, .inl (5, 2, .int (Int32.ofNat En.length))) : xE) ∈ D0) (hc1 : ((108, .inr (0, (En.map Prod.snd ++ jb).map Value.int)) : xE) ∈ D0) (hmn : ((78, .inl (11, 16, .int (Int32.ofNat Mv.length))) : xE) ∈ D0) (hmr : ∀ (i : Nat) m, Mv[i]? = some m → ((127 + i, .inr (0, ([m.1, m.2.1, m.2.2.1, m.2.2.2] : List Int32).map Value.int)) : xE) ∈ D0) (hmv : mvOk Fs Mv) (hW : W0 S w) : yK X 40 1000 175 [.ref 78, .int x, .int y] (EC S u v t ((167, .inr (0, cm0.map Value.int)) :: (109, .inr (6, vs)) :: (78, .inl (11, 8, .int (Int32.ofNat n))) :: D0)) 122 1147 (QmgC Fs R En Mv S w u v t x y cm0 vs n M D0) := by
  have hFs0 := hFs
  obtain ⟨fs, f1, f2, f3, f4, f5⟩ := hFs
  have ti := yi_nat (i := n) (by omega)
  have h0 := hW.tell.2.2.2
  have h40 := hmv.1
  refine yK.of rfl (yle rfl) (L := [_, _, _, _, _, _, _]) rfl ?_
  refine xt_pure rfl rfl rfl rfl ?_
  refine xt_pure rfl rfl rfl rfl ?_
  refine xt_callV rfl rfl rfl rfl (xmC 115 rfl) ⟨rfl, rfl, yle rfl, yle rfl, yle rfl, yle rfl⟩ (ck_draftAt hA) (c2 := 122) (s2 := 1147) ⟨yle rfl, yle rfl⟩ ?_
  rintro _ _ (⟨rfl, hg, rfl⟩ | ⟨rfl, r, hg, rfl⟩)
  · skip
    refine xt_pure rfl rfl rfl (L1 := [_, _, _, _, _, _, _]) rfl ?_
    refine xt_pure rfl rfl rfl rfl ?_
    refine xt_pure rfl rfl rfl rfl ?_
    refine xt_pure rfl rfl rfl (st1 := .int (-1) :: _) rfl ?_
    exact xt_iret rfl rfl rfl rfl (Or.inl ⟨Or.inl hg, rfl, rfl⟩)
  · obtain ⟨d1, F0, d2, d3⟩ := hR r (dr_mem hg)
    refine xt_pure rfl rfl rfl (L1 := [_, _, _, _, _, _, _]) rfl ?_
    refine xt_pure rfl rfl rfl rfl ?_
    refine xt_pure rfl rfl rfl rfl ?_
    refine xt_pure rfl rfl rfl rfl ?_
    refine xt_pure rfl rfl rfl rfl ?_
    refine xt_callV rfl rfl rfl rfl (xmC 115 rfl) ⟨rfl, rfl, yle rfl, yle rfl, yle rfl, yle rfl⟩ (ck_formAt (hFs0.mono inE3)) (c2 := 122) (s2 := 1147) ⟨yle rfl, yle rfl⟩ ?_
    rintro _ _ (⟨rfl, hy, rfl⟩ | ⟨rfl, F, fa0, hy, _, rfl⟩)
    · skip
      refine xt_pure rfl rfl rfl rfl ?_
      refine xt_pure rfl rfl rfl (st1 := .int (-1) :: _) rfl ?_
      exact xt_iret rfl rfl rfl rfl (Or.inl ⟨Or.inr hy, rfl, rfl⟩)
    · obtain ⟨g1, g2, g3, g4, g5⟩ := gI_some hy
      obtain ⟨fa, hfa⟩ := yfa g3 f1
      obtain ⟨nm1, nm2⟩ := yform g3 hfa f1 f2
      rw [yi_id g1] at nm1 nm2
      have hC2 := f5 _ F fa g3 hfa
      obtain ⟨pp, qq, fE, _⟩ := id hC2
      refine xt_pure rfl rfl rfl rfl ?_
      refine xt_pure rfl rfl rfl rfl ?_
      refine xt_getf rfl rfl (xmC 120 rfl) ?_
      refine xt_callV rfl rfl rfl rfl (xmC 142 rfl) ⟨rfl, rfl, yle rfl, yle rfl, yle rfl, yle rfl⟩ (ck_isFull (fl := zI S 0) (List.mem_of_getElem? (i := 0) rfl)) (c2 := 122) (s2 := 1147) ⟨yle rfl, yle rfl⟩ ?_
      rintro _ _ (⟨rfl, hf, rfl⟩ | ⟨rfl, hf, rfl⟩)
      · rw [h0] at hf
        refine xt_pure rfl rfl rfl rfl ?_
        refine xt_pure rfl rfl rfl (st1 := .int (-3) :: _) rfl ?_
        exact xt_iret rfl rfl rfl rfl (Or.inr (Or.inl ⟨r, F, hg, hy, Or.inl hf, rfl, rfl⟩))
      · rw [h0] at hf
        refine xt_pure rfl rfl rfl rfl ?_
        refine xt_pure rfl rfl rfl rfl ?_
        refine xt_getf rfl rfl (xmD 35 rfl) ?_
        refine xt_pure rfl rfl rfl (st1 := .int 30 :: _) rfl ?_
        refine yt_ic rfl rfl (fun (h7 : Int32.toInt _ < (30 : Int)) => ?_) (fun (h7 : (30 : Int) ≤ Int32.toInt _) => ?_)
        rotate_left
        · rw [ti] at h7
          refine xt_pure rfl rfl rfl (st1 := .int (-3) :: _) rfl ?_
          exact xt_iret rfl rfl rfl rfl (Or.inr (Or.inl ⟨r, F, hg, hy, Or.inr (by omega), rfl, rfl⟩))
        · rw [ti] at h7
          refine xt_new rfl rfl rfl (c1 := 121) (s1 := 1140) (yle rfl) (yle rfl) ?_
          intro da
          show yT _ _ _ _ _ _ _ ((da, .inl (1, 0, .int 0)) :: (da, .inl (1, 1, .null)) :: (da, .inl (1, 2, .null)) :: (da, .inl (1, 3, .null)) :: (da, .inl (1, 4, .int 0)) :: (da, .inl (1, 5, .int 0)) :: (da, .inl (1, 6, .int 0)) :: (EC S u v t ((167, .inr (0, cm0.map Value.int)) :: (109, .inr (6, vs)) :: (78, .inl (11, 8, .int (Int32.ofNat n))) :: D0))) _ _ _
          refine xt_pure rfl rfl rfl rfl ?_
          refine xt_pure rfl rfl rfl rfl ?_
          refine xt_pure rfl rfl rfl rfl ?_
          refine xt_getf rfl rfl (xmC 117 rfl) ?_
          refine xt_pure rfl rfl rfl rfl ?_
          refine xt_aald rfl rfl ⟨by decide, rfl⟩ (xmS 7 rfl (inE3 f4)) nm1 (v := .ref fa) nm2 ?_
          refine xt_callI rfl rfl (by decide) rfl rfl ⟨rfl, yle rfl, yle rfl, yle rfl, yle rfl⟩ (ck_draftInit (inE3 (ymm fE 0 rfl))) (c2 := 120) (s2 := 1120) ⟨yle rfl, yle rfl⟩ ?_
          rintro _ _ ⟨aa, rfl, rfl⟩
          refine xt_pure rfl rfl rfl (L1 := [_, _, _, _, _, _, _]) rfl ?_
          refine xt_pure rfl rfl rfl rfl ?_
          refine xt_getf rfl rfl (xmC 124 rfl) ?_
          refine xt_pure rfl rfl rfl (st1 := .int (-9) :: _) rfl ?_
          refine yT.perm (D2 := (167, .inr (0, cm0.map Value.int)) :: EC S u v t ((aa, .inr (7, List.replicate 20 Value.null)) :: (109, .inr (6, vs)) :: (78, .inl (11, 8, .int (Int32.ofNat n))) :: (e7 da aa fa y ++ D0))) ?_ ?_
          · exact mg_perm2 (E := e7 da aa fa y)
          · refine xt_callS rfl rfl (by decide) rfl ⟨rfl, yle rfl, yle rfl, yle rfl, yle rfl⟩ (yfillI (by rw [hcm]; decide)) (c2 := 120) (s2 := 1120) ⟨yle rfl, yle rfl⟩ ?_
            rintro _ _ ⟨rfl, rfl⟩
            rw [hcm]
            refine yT.perm (D2 := EC S u v t ((aa, .inr (7, List.replicate 20 Value.null)) :: (167, .inr (0, (List.replicate 40 (-9 : Int32)).map Value.int)) :: (109, .inr (6, vs)) :: (78, .inl (11, 8, .int (Int32.ofNat n))) :: ([] ++ (e7 da aa fa y ++ D0)))) ?_ ?_
            · exact mg_perm3
            · skip
              refine xt_pure rfl rfl rfl (st1 := .int 0 :: _) rfl ?_
              refine xt_pure rfl rfl rfl (L1 := [_, _, _, _, _, _, _]) rfl ?_
              refine ((mig_loop hM (hHM r (dr_mem hg)) (by omega) hv30 hE hc0 hc1 f2 hC2 hy h20 d1 d2 d3 hmn hmr hmv Mv 0 S w (List.replicate 20 .null) (List.replicate 20 none) [] [] none rfl (by omega) rfl hW ?_).up (by omega) (by omega)).mono (by omega) (by omega) ?_
              · refine ⟨List.length_replicate, List.length_replicate, ?_⟩
                intro p v z h1 h2
                have e1 := (List.mem_replicate.mp (List.mem_of_getElem? h1)).2
                have e2 := (List.mem_replicate.mp (List.mem_of_getElem? h2)).2
                subst e1 e2
                rfl
              · rintro a D ⟨S', w', refs', N', k1, k2, k3, k4, k5, k6⟩
                exact Or.inr (Or.inr ⟨r, F, fa, da, aa, S', w', refs', N', hg, hy, hf, by omega, ⟨⟨fs, f1, f4, hfa⟩, hC2⟩, k1, k2, k3, k4, k5, k6⟩)
end MIGC
