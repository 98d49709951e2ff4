/-! KEEP: the call, the class -/
section KEEPC2
variable {X : List Int32} {D1 : List xE} {F : yF} {S : zS} {fa : Nat} {pl sr cr : List Nat}
/-- a made draft's other fields -/
abbrev e5 (da aa fa : Nat) (x : Int32) : List xE := [(da, .inl (1, 0, .int x)), (da, .inl (1, 1, .ref fa)), (da, .inl (1, 2, .ref aa)), (da, .inl (1, 5, .int (-9))), (da, .inl (1, 6, .int 0))]
theorem kq_perm1 {x a b c d e f g h i j : xE} {L : List xE} : (x :: a :: b :: c :: d :: e :: f :: g :: h :: i :: j :: L).Perm (x :: d :: e :: ([] ++ ([a, b, c, f, g] ++ (h :: i :: j :: L)))) := by
  refine List.Perm.cons _ ?_
  have h2 : ∀ (A B C : List xE), (A ++ (B ++ C)).Perm (B ++ (A ++ C)) := fun A B C => by
    rw [← List.append_assoc, ← List.append_assoc]
    exact List.Perm.append_right _ List.perm_append_comm
  exact h2 [a, b, c] [d, e] (f :: g :: h :: i :: j :: L)
theorem kq_perm2 {x y z a b c : xE} {N E L : List xE} : (x :: y :: z :: (N ++ (E ++ (a :: b :: c :: L)))).Perm (a :: b :: c :: x :: y :: z :: (N ++ (E ++ L))) := by
  have h2 : ∀ (A B C : List xE), (A ++ (B ++ C)).Perm (B ++ (A ++ C)) := fun A B C => by
    rw [← List.append_assoc, ← List.append_assoc]
    exact List.Perm.append_right _ List.perm_append_comm
  have := h2 ([x, y, z] ++ (N ++ E)) [a, b, c] L
  rw [List.append_assoc, List.append_assoc, List.append_assoc, List.append_assoc] at this
  exact this
theorem giveI {X : List Int32} {D : List xE} {da c s : Nat} {Q : Option Value → List xE → Prop} (w : yT X 20 700 194 2 [some (.ref 168), some (.ref da), some (.int (Int32.ofNat ([] : List Nat).length)), none, none] [] D c s Q) : yT X 20 700 194 0 [some (.ref 168), some (.ref da), none, none, none] [] D c s Q := by
  refine xt_pure rfl rfl rfl (st1 := .int 0 :: _) rfl ?_
  refine xt_pure rfl rfl rfl (L1 := [_, _, _, _, _]) rfl ?_
  exact w
/-- what the class answers to keep -/
def QkC (F : yF) (pl sr cr : List Nat) (fn : Int32) (fa : Nat) (fd : Bool) (vs : List Value) (n gv : Nat) (D1 : List xE) (a : Option Value) (D : List xE) : Prop := (fd = false ∧ a = some (.int (-2)) ∧ D = ((109, .inr (6, vs)) :: (78, .inl (11, 8, .int (Int32.ofNat n))) :: (78, .inl (11, 10, .int (Int32.ofNat gv))) :: D1)) ∨ (fd = true ∧ (n = 30 ∨ 400 < gv + sr.length) ∧ a = some (.int (-3)) ∧ D = ((109, .inr (6, vs)) :: (78, .inl (11, 8, .int (Int32.ofNat n))) :: (78, .inl (11, 10, .int (Int32.ofNat gv))) :: D1)) ∨ ∃ da aa refs' lt' N', fd = true ∧ n < 30 ∧ gv + sr.length ≤ 400 ∧ a = some (.int (Int32.ofNat n)) ∧ D = (109, .inr (6, vs.set n (.ref da))) :: (78, .inl (11, 8, .int (Int32.ofNat (n + 1)))) :: (78, .inl (11, 10, .int (Int32.ofNat (gv + sr.length)))) :: (aa, .inr (7, refs')) :: (da, .inl (1, 3, lt')) :: (da, .inl (1, 4, .int (Int32.ofNat sr.length))) :: (N' ++ (e5 da aa fa fn ++ D1)) ∧ yAnB N' refs' (layR F pl sr cr) ∧ yCB N' lt' (chR F pl sr cr)
theorem cK_keep {fn : Int32} {fd : Bool} {vs : List Value} {n gv : Nat} (hn : n ≤ 30) (hv30 : vs.length = 30) (hgv : gv ≤ 400) (hS : ∀ e ∈ zE zaS S 0 zTS, e ∈ D1) (h2 : zI S 2 = b32 fd) (hfd : fd = true → zI S 0 = fn ∧ ((168, .inl (8, 2, .ref fa)) : xE) ∈ D1 ∧ yFC D1 fa F ∧ yFok F ∧ stC2 F S pl sr cr) : yK X 40 1000 193 [.ref 78] ((109, .inr (6, vs)) :: (78, .inl (11, 8, .int (Int32.ofNat n))) :: (78, .inl (11, 10, .int (Int32.ofNat gv))) :: D1) 34 275 (QkC F pl sr cr fn fa fd vs n gv D1) := by
  have tn := yi_nat (i := n) (by omega)
  have in3 : D1 ⊆ ((109, .inr (6, vs)) :: (78, .inl (11, 8, .int (Int32.ofNat n))) :: (78, .inl (11, 10, .int (Int32.ofNat gv))) :: D1) := fun _ he => List.mem_cons_of_mem _ (List.mem_cons_of_mem _ (List.mem_cons_of_mem _ he))
  refine yK.of rfl (yle rfl) (L := [_, _]) rfl ?_
  refine xt_pure rfl rfl rfl rfl ?_
  refine xt_getf rfl rfl (xmC 125 rfl) ?_
  refine xt_getf rfl rfl (xmS 0 rfl (in3 (ymm hS 2 rfl))) ?_
  rw [show zI S 2 = _ from h2]
  by_cases hb : fd = true
  rotate_left
  · have hb0 : fd = false := by cases fd <;> first | rfl | exact absurd rfl hb
    rw [show b32 fd = 0 by rw [hb0]; rfl]
    refine xt_pure rfl rfl rfl rfl ?_
    refine xt_pure rfl rfl rfl (st1 := .int (-2) :: _) rfl ?_
    exact xt_iret rfl rfl rfl rfl (Or.inl ⟨hb0, rfl, rfl⟩)
  · obtain ⟨k0, hS2, hC, hok, hst⟩ := hfd hb
    obtain ⟨h3, h4, h8, ⟨l5, l6, l7, l8⟩, ⟨j5, h5⟩, ⟨t6, h6⟩, ⟨t7, h7⟩, hpk, hv⟩ := hst
    have hle := hv.1.le (Nat.zero_le _)
    rw [show b32 fd = 1 by rw [hb]; rfl]
    refine xt_pure rfl rfl rfl rfl ?_
    refine xt_pure rfl rfl rfl rfl ?_
    refine xt_getf rfl rfl (xmD 1 rfl) ?_
    refine xt_pure rfl rfl rfl (st1 := .int 30 :: _) rfl ?_
    refine yt_ic rfl rfl (fun (h : (30 : Int) ≤ Int32.toInt _) => ?_) (fun (h : Int32.toInt _ < (30 : Int)) => ?_)
    · rw [tn] at h
      refine xt_pure rfl rfl rfl (st1 := .int (-3) :: _) rfl ?_
      exact xt_iret rfl rfl rfl rfl (Or.inr (Or.inl ⟨hb, Or.inl (by omega), rfl, rfl⟩))
    · rw [tn] at h
      refine xt_pure rfl rfl rfl rfl ?_
      refine xt_getf rfl rfl (xmD 2 rfl) ?_
      refine xt_pure rfl rfl rfl rfl ?_
      refine xt_getf rfl rfl (xmC 125 rfl) ?_
      refine xt_getf rfl rfl (xmS 0 rfl (in3 (ymm hS 4 rfl))) ?_
      rw [show zI S 4 = _ from h4]
      refine xt_pure rfl rfl rfl rfl ?_
      rw [← Int32.ofNat_add]
      have tg := yi_nat (i := gv + sr.length) (by omega)
      refine xt_pure rfl rfl rfl (st1 := .int 400 :: _) rfl ?_
      refine yt_ic rfl rfl (fun (hg : Int32.toInt _ ≤ (400 : Int)) => ?_) (fun (hg : (400 : Int) < Int32.toInt _) => ?_)
      rotate_left
      · rw [tg] at hg
        refine xt_pure rfl rfl rfl (st1 := .int (-3) :: _) rfl ?_
        exact xt_iret rfl rfl rfl rfl (Or.inr (Or.inl ⟨hb, Or.inr (by omega), rfl, rfl⟩))
      · rw [tg] at hg
        refine xt_new rfl rfl rfl (c1 := 33) (s1 := 268) (yle rfl) (yle rfl) ?_
        intro da
        show yT _ _ _ _ _ _ _ ((da, .inl (1, 0, .int 0)) :: (da, .inl (1, 1, .null)) :: (da, .inl (1, 2, .null)) :: (da, .inl (1, 3, .null)) :: (da, .inl (1, 4, .int 0)) :: (da, .inl (1, 5, .int 0)) :: (da, .inl (1, 6, .int 0)) :: ((109, .inr (6, vs)) :: (78, .inl (11, 8, .int (Int32.ofNat n))) :: (78, .inl (11, 10, .int (Int32.ofNat gv))) :: D1)) _ _ _
        obtain ⟨cp, cq, f1, _⟩ := id hC
        refine xt_pure rfl rfl rfl rfl ?_
        refine xt_pure rfl rfl rfl rfl ?_
        refine xt_getf rfl rfl (xmC 125 rfl) ?_
        refine xt_getf rfl rfl (xmS 7 rfl (in3 (ymm hS 0 rfl))) ?_
        rw [show zI S 0 = _ from k0]
        refine xt_pure rfl rfl rfl rfl ?_
        refine xt_getf rfl rfl (xmC 125 rfl) ?_
        refine xt_getf rfl rfl (xmS 7 rfl (in3 hS2)) ?_
        refine xt_callI rfl rfl (by decide) rfl rfl ⟨rfl, yle rfl, yle rfl, yle rfl, yle rfl⟩ (ck_draftInit (in3 (ymm f1 0 rfl))) (c2 := 32) (s2 := 248) ⟨yle rfl, yle rfl⟩ ?_
        rintro _ _ ⟨aa, rfl, rfl⟩
        refine yT.perm kq_perm1 ?_
        have sb5 : D1 ⊆ e5 da aa fa fn ++ ((109, .inr (6, vs)) :: (78, .inl (11, 8, .int (Int32.ofNat n))) :: (78, .inl (11, 10, .int (Int32.ofNat gv))) :: D1) := fun _ he => List.mem_append_right _ (in3 he)
        have hG := give_loop (X := X) (D1 := e5 da aa fa fn ++ ((109, .inr (6, vs)) :: (78, .inl (11, 8, .int (Int32.ofNat n))) :: (78, .inl (11, 10, .int (Int32.ofNat gv))) :: D1)) (da := da) (aa := aa) (F := F) (fa := fa) (pl := pl) (sr := sr) (cr := cr) (j5 := j5) (t6 := t6) (t7 := t7) (sb5 (by rw [← h4]; exact ymm hS 4 rfl)) (sb5 (by rw [← h5]; exact ymm hS 5 rfl)) (sb5 (by rw [← h6]; exact ymm hS 6 rfl)) (sb5 (by rw [← h7]; exact ymm hS 7 rfl)) (sb5 hS2) (List.mem_append_left _ (List.mem_of_getElem? (i := 2) rfl)) (hC.mono sb5) hok h8 hpk hv sr.reverse cr.reverse [] [] (List.replicate 20 .null) .null [] none none (by simp) (by simp) (by rw [List.length_reverse, List.length_reverse]; exact hv.2.len) rfl (by
          refine ⟨List.length_replicate, layR_len _ _, fun p v z h1 h2 => ?_⟩
          have e1 := (List.mem_replicate.mp (List.mem_of_getElem? h1)).2
          have e2 := (List.mem_replicate.mp (List.mem_of_getElem? (show (List.replicate 20 none)[p]? = some z by simpa [layR] using h2))).2
          subst e1 e2
          rfl) rfl
        rw [List.length_reverse] at hG
        refine xt_pure rfl rfl rfl (L1 := [_, _]) rfl ?_
        refine xt_pure rfl rfl rfl rfl ?_
        refine xt_getf rfl rfl (xmC 125 rfl) ?_
        refine xt_pure rfl rfl rfl rfl ?_
        refine xt_callV rfl rfl rfl rfl (xmC 158 rfl) ⟨rfl, rfl, yle rfl, yle rfl, yle rfl, yle rfl⟩ (yK.of (fr := 20) (lo := 700) rfl (yle rfl) (L := [_, _, _, _, _]) rfl (giveI hG)) (c2 := 0) (s2 := 0) ⟨by omega, by omega⟩ ?_
        rintro _ _ ⟨refs', lt', N', rfl, rfl, y1, y2⟩
        refine yT.perm kq_perm2 ?_
        refine xt_pure rfl rfl rfl rfl ?_
        refine xt_pure rfl rfl rfl rfl ?_
        refine xt_getf rfl rfl (xmD 2 rfl) ?_
        refine xt_pure rfl rfl rfl rfl ?_
        refine xt_getf rfl rfl (xmC 125 rfl) ?_
        have inZ : D1 ⊆ (109, .inr (6, vs)) :: (78, .inl (11, 8, .int (Int32.ofNat n))) :: (78, .inl (11, 10, .int (Int32.ofNat gv))) :: (aa, .inr (7, refs')) :: (da, .inl (1, 3, lt')) :: (da, .inl (1, 4, .int (Int32.ofNat sr.length))) :: (N' ++ (e5 da aa fa fn ++ D1)) := fun _ he => List.mem_cons_of_mem _ (List.mem_cons_of_mem _ (List.mem_cons_of_mem _ (List.mem_cons_of_mem _ (List.mem_cons_of_mem _ (List.mem_cons_of_mem _ (List.mem_append_right _ (List.mem_append_right _ he)))))))
        refine xt_getf rfl rfl (xmS 0 rfl (inZ (ymm hS 4 rfl))) ?_
        rw [show zI S 4 = _ from h4]
        refine xt_pure rfl rfl rfl rfl ?_
        rw [← Int32.ofNat_add]
        refine xt_putf rfl rfl rfl rfl 2 rfl rfl ?_
        refine xt_pure rfl rfl rfl rfl ?_
        refine xt_pure rfl rfl rfl rfl ?_
        refine xt_callV rfl rfl rfl rfl (xmC 115 rfl) ⟨rfl, rfl, yle rfl, yle rfl, yle rfl, yle rfl⟩ (ck_open (k := 0) (j := 1) (w0 := .int fn) (n := n) (by omega) rfl hv30 rfl ?_) (c2 := 0) (s2 := 0) ⟨yle rfl, yle rfl⟩ ?_
        · exact List.mem_cons_of_mem _ (List.mem_cons_of_mem _ (List.mem_cons_of_mem _ (List.mem_cons_of_mem _ (List.mem_cons_of_mem _ (List.mem_cons_of_mem _ (List.mem_append_right _ (List.mem_append_left _ (List.mem_of_getElem? (i := 0) rfl))))))))
        rintro _ _ ⟨rfl, rfl⟩
        exact xt_iret rfl rfl rfl rfl (Or.inr (Or.inr ⟨da, aa, refs', lt', N', hb, by omega, by omega, rfl, rfl, y1, y2⟩))
end KEEPC2
