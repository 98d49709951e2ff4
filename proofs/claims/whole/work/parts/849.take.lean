/-! TAKE: the call, the class -/
theorem pq2 {A B C : List xE} : (A ++ (B ++ C)).Perm (B ++ (A ++ C)) := by
  rw [← List.append_assoc, ← List.append_assoc]
  exact List.Perm.append_right _ List.perm_append_comm
theorem tq_perm1 {S : zS} {w d0 d1 d2 d3 d4 d5 d6 x y : xE} {L : List xE} : (w :: d0 :: d1 :: d2 :: d3 :: d4 :: d5 :: d6 :: x :: y :: zD zTZ zaZ S L).Perm (w :: zD zTZ zaZ S ([] ++ ([d0, d1, d2, d3, d4, d5, d6, x, y] ++ L))) := by
  refine List.Perm.cons _ ?_
  exact pq2 (A := [d0, d1, d2, d3, d4, d5, d6, x, y]) (B := zE zaZ S 0 zTZ) (C := L)
theorem tq_perm2 {S : zS} {w d0 d1 d2 d3 d4 d5 d6 x y : xE} {N L : List xE} : (w :: zD zTZ zaZ S (N ++ ([d0, d1, d2, d3, d4, d5, d6, x, y] ++ L))).Perm (x :: y :: w :: d3 :: d4 :: zD zTZ zaZ S (N ++ ([d0, d1, d2, d5, d6] ++ L))) := by
  have h1 := pq2 (A := [w] ++ (zE zaZ S 0 zTZ ++ (N ++ [d0, d1, d2, d3, d4, d5, d6]))) (B := [x, y]) (C := L)
  have e1 : ([w] ++ (zE zaZ S 0 zTZ ++ (N ++ [d0, d1, d2, d3, d4, d5, d6]))) ++ ([x, y] ++ L) = w :: zD zTZ zaZ S (N ++ ([d0, d1, d2, d3, d4, d5, d6, x, y] ++ L)) := by
    rw [List.append_assoc, List.append_assoc, List.append_assoc]; rfl
  rw [e1] at h1
  refine h1.trans (List.Perm.cons _ (List.Perm.cons _ (List.Perm.cons _ ?_)))
  have h2 := pq2 (A := zE zaZ S 0 zTZ ++ (N ++ [d0, d1, d2])) (B := [d3, d4]) (C := [d5, d6] ++ L)
  rw [List.append_assoc, List.append_assoc, List.append_assoc, List.append_assoc] at h2
  show ((zE zaZ S 0 zTZ ++ (N ++ [d0, d1, d2, d3, d4, d5, d6])) ++ L).Perm _
  rw [List.append_assoc, List.append_assoc]
  exact h2
theorem tq_perm3 {S : zS} {w d0 d1 d2 d3 d4 d5 d6 x y : xE} {N L : List xE} : (w :: zD zTZ zaZ S (N ++ ([d0, d1, d2, d3, d4, d5, d6, x, y] ++ L))).Perm (x :: y :: zD zTZ zaZ S ((w :: d3 :: d4 :: (N ++ [d0, d1, d2, d5, d6])) ++ L)) := by
  refine tq_perm2.trans (List.Perm.cons _ (List.Perm.cons _ ?_))
  have h := pq2 (A := [w, d3, d4]) (B := zE zaZ S 0 zTZ) (C := N ++ ([d0, d1, d2, d5, d6] ++ L))
  refine h.trans ?_
  show (zE zaZ S 0 zTZ ++ _).Perm (zE zaZ S 0 zTZ ++ ((w :: d3 :: d4 :: (N ++ [d0, d1, d2, d5, d6])) ++ L))
  refine List.Perm.append_left _ ?_
  show List.Perm _ ([w, d3, d4] ++ ((N ++ [d0, d1, d2, d5, d6]) ++ L))
  rw [List.append_assoc]
section TAKEC
variable {X : List Int32} {D1 : List xE} {En : List (Int64 × Int32)} {js : List Int32} {Fs : List yF} {x : Int32} {n m : Nat} {vs : List Value}
theorem loadI {da aa : Nat} {refs : List Value} {S : zS} {N D : List xE} {c s : Nat} {Q : Option Value → List xE → Prop} (w : yT X 20 500 201 10 [some (.ref 206), some (.ref da), some (.int (Int32.ofNat 0 - 1)), some (.int (Int32.ofNat 0)), none, none, none, none] [] ((aa, .inr (7, refs)) :: zD zTZ zaZ (zsI (zsI S 1 0) 2 0) (N ++ D)) c s Q) : yT X 20 500 201 0 [some (.ref 206), some (.ref da), none, none, none, none, none, none] [] ((aa, .inr (7, refs)) :: zD zTZ zaZ S (N ++ D)) c s Q := by
  refine xt_pure rfl rfl rfl rfl ?_
  refine xt_pure rfl rfl rfl (st1 := .int 0 :: _) rfl ?_
  refine xt_putf rfl rfl rfl rfl 2 rfl (D1 := (aa, .inr (7, refs)) :: zD zTZ zaZ (zsI S 1 0) (N ++ D)) rfl ?_
  refine xt_pure rfl rfl rfl rfl ?_
  refine xt_pure rfl rfl rfl (st1 := .int 0 :: _) rfl ?_
  refine xt_putf rfl rfl rfl rfl 3 rfl (D1 := (aa, .inr (7, refs)) :: zD zTZ zaZ (zsI (zsI S 1 0) 2 0) (N ++ D)) rfl ?_
  refine xt_pure rfl rfl rfl (st1 := .int (-1) :: _) rfl ?_
  refine xt_pure rfl rfl rfl (L1 := [_, _, _, _, _, _, _, _]) rfl ?_
  refine xt_pure rfl rfl rfl (st1 := .int 0 :: _) rfl ?_
  refine xt_pure rfl rfl rfl (L1 := [_, _, _, _, _, _, _, _]) rfl ?_
  exact w
/-- what the class answers to take -/
def QtkC (Fs : List yF) (En : List (Int64 × Int32)) (x : Int32) (l : List Int32) (S : zS) (vs : List Value) (n : Nat) (D1 : List xE) (a : Option Value) (D : List xE) : Prop := (gI Fs x = none ∧ a = some (.int (-1)) ∧ D = (109, .inr (6, vs)) :: (78, .inl (11, 8, .int (Int32.ofNat n))) :: zD zTZ zaZ S D1) ∨ (∃ F, gI Fs x = some F ∧ n = 30 ∧ a = some (.int (-3)) ∧ D = (109, .inr (6, vs)) :: (78, .inl (11, 8, .int (Int32.ofNat n))) :: zD zTZ zaZ S D1) ∨ (∃ F j S' G, gI Fs x = some F ∧ n < 30 ∧ rdAll En F 1200 0 l (List.replicate 20 none) 0 = (none, j) ∧ j < 1200 ∧ a = some (.int (-10 - Int32.ofNat j)) ∧ D = (109, .inr (6, vs)) :: (78, .inl (11, 8, .int (Int32.ofNat n))) :: zD zTZ zaZ S' (G ++ D1) ∧ frZ S S') ∨ ∃ F j A' fa da aa refs' S' N', gI Fs x = some F ∧ n < 30 ∧ rdAll En F 1200 0 l (List.replicate 20 none) 0 = (some A', j) ∧ (yFaC Fs D1 x fa ∧ yFC D1 fa F) ∧ a = some (.int (Int32.ofNat n)) ∧ D = (109, .inr (6, vs.set n (.ref da))) :: (78, .inl (11, 8, .int (Int32.ofNat (n + 1)))) :: (aa, .inr (7, refs')) :: (da, .inl (1, 3, .null)) :: (da, .inl (1, 4, .int 0)) :: zD zTZ zaZ S' (N' ++ (e5 da aa fa x ++ D1)) ∧ frZ S S' ∧ yAnB N' refs' A'
theorem cK_take {S : zS} (hFs : yFsC Fs D1) (hFok : ∀ (i : Nat) F, Fs[i]? = some F → yFok F) (hE : En.length ≤ 100) (hc0 : ((106, .inl (5, 2, .int (Int32.ofNat En.length))) : xE) ∈ D1) (hc1 : ((108, .inr (0, (En.map Prod.snd ++ js).map Value.int)) : xE) ∈ D1) (hn : n ≤ 30) (hv30 : vs.length = 30) (h0 : zI S 0 = Int32.ofNat m) (hm : m ≤ 1200) (h3 : (zA S 3).length = 1200) (hb : byR (zA S 3)) : yK X 30 1000 200 [.ref 78, .int x] ((109, .inr (6, vs)) :: (78, .inl (11, 8, .int (Int32.ofNat n))) :: zD zTZ zaZ S D1) 182 1307 (QtkC Fs En x ((zA S 3).take m) S vs n D1) := by
  have tn := yi_nat (i := n) (by omega)
  obtain ⟨fs, f1, f2, f3, f4, f5⟩ := id hFs
  have inD : D1 ⊆ ((109, .inr (6, vs)) :: (78, .inl (11, 8, .int (Int32.ofNat n))) :: zD zTZ zaZ S D1) := fun _ he => List.mem_cons_of_mem _ (List.mem_cons_of_mem _ (List.mem_append_right _ he))
  refine yK.of rfl (yle rfl) (L := [_, _, _, _]) rfl ?_
  refine xt_pure rfl rfl rfl rfl ?_
  refine xt_pure rfl rfl rfl rfl ?_
  refine xt_callV rfl rfl rfl rfl (xmC 115 rfl) ⟨rfl, rfl, yle rfl, yle rfl, yle rfl, yle rfl⟩ (ck_formAt2 inD hFs) (c2 := 182) (s2 := 1307) ⟨yle rfl, yle rfl⟩ ?_
  rintro _ _ (⟨rfl, hx, rfl⟩ | ⟨rfl, F, a0, hx, hC0, rfl⟩)
  · refine xt_pure rfl rfl rfl rfl ?_
    refine xt_pure rfl rfl rfl (st1 := .int (-1) :: _) rfl ?_
    exact xt_iret rfl rfl rfl rfl (Or.inl ⟨hx, rfl, rfl⟩)
  · refine xt_pure rfl rfl rfl rfl ?_
    obtain ⟨g1, g2, g3, g4, g5⟩ := gI_some hx
    obtain ⟨fa, hfa⟩ := yfa g3 f1
    obtain ⟨nm1, nm2⟩ := yform g3 hfa f1 f2
    rw [yi_id g1] at nm1 nm2
    have hC2 := f5 _ F fa g3 hfa
    obtain ⟨pp, qq, fE, _⟩ := id hC2
    obtain ⟨fe, _, _, _, _, hl20, _, _, _, hok9⟩ := hFok _ _ g3
    refine xt_pure rfl rfl rfl rfl ?_
    refine xt_getf rfl rfl (xmD 1 rfl) ?_
    refine xt_pure rfl rfl rfl (st1 := .int 30 :: _) rfl ?_
    refine yt_ic rfl rfl (fun (h : Int32.toInt _ < (30 : Int)) => ?_) (fun (h : (30 : Int) ≤ Int32.toInt _) => ?_)
    rotate_left
    · rw [tn] at h
      refine xt_pure rfl rfl rfl (st1 := .int (-3) :: _) rfl ?_
      exact xt_iret rfl rfl rfl rfl (Or.inr (Or.inl ⟨F, hx, by omega, rfl, rfl⟩))
    · rw [tn] at h
      refine xt_new rfl rfl rfl (c1 := 181) (s1 := 1300) (yle rfl) (yle rfl) ?_
      intro da
      show yT _ _ _ _ _ _ _ ((da, .inl (1, 0, .int 0)) :: (da, .inl (1, 1, .null)) :: (da, .inl (1, 2, .null)) :: (da, .inl (1, 3, .null)) :: (da, .inl (1, 4, .int 0)) :: (da, .inl (1, 5, .int 0)) :: (da, .inl (1, 6, .int 0)) :: ((109, .inr (6, vs)) :: (78, .inl (11, 8, .int (Int32.ofNat n))) :: zD zTZ zaZ S D1)) _ _ _
      refine xt_pure rfl rfl rfl rfl ?_
      refine xt_pure rfl rfl rfl rfl ?_
      refine xt_pure rfl rfl rfl rfl ?_
      refine xt_getf rfl rfl (xmC 117 rfl) ?_
      refine xt_pure rfl rfl rfl rfl ?_
      refine xt_aald rfl rfl ⟨by decide, rfl⟩ (xmS 7 rfl (inD f4)) nm1 (v := .ref fa) nm2 ?_
      refine xt_callI rfl rfl (by decide) rfl rfl ⟨rfl, yle rfl, yle rfl, yle rfl, yle rfl⟩ (ck_draftInit (inD (ymm fE 0 rfl))) (c2 := 180) (s2 := 1280) ⟨yle rfl, yle rfl⟩ ?_
      rintro _ _ ⟨aa, rfl, rfl⟩
      refine xt_pure rfl rfl rfl (L1 := [_, _, _, _]) rfl ?_
      refine xt_pure rfl rfl rfl rfl ?_
      refine xt_getf rfl rfl (xmC 126 rfl) ?_
      refine xt_pure rfl rfl rfl rfl ?_
      refine yT.perm tq_perm1 ?_
      have in9 : D1 ⊆ [(da, .inl (1, 0, .int x)), (da, .inl (1, 1, .ref fa)), (da, .inl (1, 2, .ref aa)), (da, .inl (1, 3, .null)), (da, .inl (1, 4, .int 0)), (da, .inl (1, 5, .int (-9))), (da, .inl (1, 6, .int 0)), (109, .inr (6, vs)), (78, .inl (11, 8, .int (Int32.ofNat n)))] ++ D1 := fun _ he => List.mem_append_right _ he
      have hG := load_loop (X := X) (D1 := [(da, .inl (1, 0, .int x)), (da, .inl (1, 1, .ref fa)), (da, .inl (1, 2, .ref aa)), (da, .inl (1, 3, .null)), (da, .inl (1, 4, .int 0)), (da, .inl (1, 5, .int (-9))), (da, .inl (1, 6, .int 0)), (109, .inr (6, vs)), (78, .inl (11, 8, .int (Int32.ofNat n)))] ++ D1) (En := En) (js := js) (F := F) (da := da) (aa := aa) (fa := fa) hE (in9 hc0) (in9 hc1) (List.mem_append_left _ (List.mem_of_getElem? (i := 1) rfl)) (List.mem_append_left _ (List.mem_of_getElem? (i := 2) rfl)) (hC2.mono in9) hl20 1200 0 0 (zsI (zsI S 1 0) 2 0) ((zA S 3).take m) (List.replicate 20 .null) (List.replicate 20 none) [] none none none none rfl (by omega) ⟨m, 0, h0, rfl, by omega, hm, h3, by rw [List.drop_zero]; rfl⟩ hb rfl (by
        refine ⟨List.length_replicate, List.length_replicate, fun p v z h1 h2 => ?_⟩
        have e1 := (List.mem_replicate.mp (List.mem_of_getElem? h1)).2
        have e2 := (List.mem_replicate.mp (List.mem_of_getElem? h2)).2
        subst e1 e2
        rfl)
      refine xt_callV rfl rfl rfl rfl (xmC 173 rfl) ⟨rfl, rfl, yle rfl, yle rfl, yle rfl, yle rfl⟩ (yK.of (fr := 20) (lo := 500) rfl (yle rfl) (L := [_, _, _, _, _, _, _, _]) rfl (loadI hG)) (c2 := 0) (s2 := 0) ⟨by omega, by omega⟩ ?_
      rintro _ _ ⟨S', refs', N', rfl, hfr, hz⟩
      have hfr2 : frZ S S' := ⟨hfr.1, hfr.2⟩
      rcases hr : rdAll En F 1200 0 ((zA S 3).take m) (List.replicate 20 none) 0 with ⟨_ | A', j⟩
      · rw [hr] at hz
        obtain ⟨rfl, hj⟩ := hz
        refine yT.perm tq_perm3 ?_
        refine xt_pure rfl rfl rfl (L1 := [_, _, _, _]) rfl ?_
        refine xt_pure rfl rfl rfl rfl ?_
        refine xt_pure rfl rfl rfl (st1 := .int (-9) :: _) rfl ?_
        refine yt_ic rfl rfl (fun (h9 : Int32.ofNat j = -9) => ?_) (fun _ => ?_)
        · have := congrArg Int32.toInt h9
          rw [yi_nat (by omega)] at this
          exact absurd this (by show ¬ ((j : Int) = -9); omega)
        · skip
          refine xt_pure rfl rfl rfl (st1 := .int (-10) :: _) rfl ?_
          refine xt_pure rfl rfl rfl rfl ?_
          refine xt_pure rfl rfl rfl rfl ?_
          refine xt_pure rfl rfl rfl rfl ?_
          exact xt_iret rfl rfl rfl rfl (Or.inr (Or.inr (Or.inl ⟨F, j, S', _, hx, by omega, hr, hj, rfl, rfl, hfr2⟩)))
      · rw [hr] at hz
        obtain ⟨rfl, hA⟩ := hz
        refine yT.perm tq_perm2 ?_
        refine xt_pure rfl rfl rfl (L1 := [_, _, _, _]) rfl ?_
        refine xt_pure rfl rfl rfl rfl ?_
        refine xt_pure rfl rfl rfl (st1 := .int (-9) :: _) rfl ?_
        refine xt_pure rfl rfl rfl rfl ?_
        refine xt_pure rfl rfl rfl rfl ?_
        refine xt_pure rfl rfl rfl rfl ?_
        refine xt_callV rfl rfl rfl rfl (xmC 115 rfl) ⟨rfl, rfl, yle rfl, yle rfl, yle rfl, yle rfl⟩ (ck_open (k := 0) (j := 1) (w0 := .int x) (n := n) (by omega) rfl hv30 rfl ?_) (c2 := 0) (s2 := 0) ⟨yle rfl, yle rfl⟩ ?_
        rotate_left
        · rintro _ _ ⟨rfl, rfl⟩
          exact xt_iret rfl rfl rfl rfl (Or.inr (Or.inr (Or.inr ⟨F, j, A', fa, da, aa, refs', S', N', hx, by omega, hr, ⟨⟨fs, f1, f4, hfa⟩, hC2⟩, rfl, rfl, hfr2, hA⟩)))
        · exact List.mem_cons_of_mem _ (List.mem_cons_of_mem _ (List.mem_cons_of_mem _ (List.mem_cons_of_mem _ (List.mem_cons_of_mem _ (List.mem_append_right _ (List.mem_append_right _ (List.mem_append_left _ (List.mem_of_getElem? (i := 0) rfl))))))))
end TAKEC
