/-! TAKE: the call; the reference -/
/-- the first spare things are given away -/
def nulS (j : Nat) (sp : List (Option yTg)) : List (Option yTg) := List.replicate j none ++ sp.drop j
theorem nulS_vl {j : Nat} {sp : List (Option yTg)} : List.replicate j Value.null ++ (svl sp).drop j = svl (nulS j sp) := by
  unfold svl nulS
  rw [List.map_append, List.map_replicate, List.map_drop]
  rfl
theorem tm_perm {e a b c w x y z : xE} {S : zS} {P D2 : List xE} : (w :: x :: y :: z :: e :: zD zTN zaN S (a :: b :: c :: (P ++ D2))).Perm (e :: zD zTN zaN S (a :: b :: c :: (P ++ (w :: x :: y :: z :: D2)))) := by
  have h := pq2 (A := [w, x, y, z]) (B := e :: (zE zaN S 0 zTN ++ (a :: b :: c :: P))) (C := D2)
  have e1 : ∀ L : List xE, (e :: (zE zaN S 0 zTN ++ (a :: b :: c :: P))) ++ L = e :: zD zTN zaN S (a :: b :: c :: (P ++ L)) := by
    intro L
    show e :: ((zE zaN S 0 zTN ++ (a :: b :: c :: P)) ++ L) = _
    rw [List.append_assoc]
    rfl
  rw [e1, e1] at h
  exact h
section TAKEM2
variable {X : List Int32} {D2 D3 : List xE} {En : List (Int64 × Int32)} {js : List Int32} {F : yF} {fa : Nat} {ev : Int32}
theorem nu_loop {S : zS} {sv : List Value} {b c : xE} {j : Nat} {v4 : Int32} {l1 l2 l6 l7 l8 l9 l10 l11 : Option Value} {cc sl : Nat} {Q : Option Value → List xE → Prop} (hj : j ≤ 20) (hl : sv.length = 20) (kk : yT X 20 500 287 200 [some (.ref 209), l1, l2, some (.int (Int32.ofNat j)), some (.int v4), some (.int (Int32.ofNat j)), l6, l7, l8, l9, l10, l11] [] ((209, .inl (14, 24, .int ev)) :: zD zTN zaN S ((237, .inr (10, List.replicate j Value.null ++ sv.drop j)) :: b :: c :: D2)) cc sl Q) : ∀ (m i : Nat), i + m = j → yT X 20 500 287 190 [some (.ref 209), l1, l2, some (.int (Int32.ofNat j)), some (.int v4), some (.int (Int32.ofNat i)), l6, l7, l8, l9, l10, l11] [] ((209, .inl (14, 24, .int ev)) :: zD zTN zaN S ((237, .inr (10, List.replicate i Value.null ++ sv.drop i)) :: b :: c :: D2)) cc sl Q
  | 0, i, hi => by
    have e : i = j := by omega
    subst e
    refine xt_pure rfl rfl rfl rfl ?_
    refine xt_pure rfl rfl rfl rfl ?_
    refine yt_ic rfl rfl (fun _ => kk) (fun (h : Int32.toInt _ < Int32.toInt _) => ?_)
    omega
  | m + 1, i, hi => by
    have ti := yi_nat (i := i) (by omega)
    refine xt_pure rfl rfl rfl rfl ?_
    refine xt_pure rfl rfl rfl rfl ?_
    refine yt_ic rfl rfl (fun (h : Int32.toInt _ ≤ Int32.toInt _) => ?_) (fun _ => ?_)
    · rw [yi_nat (by omega), yi_nat (by omega)] at h
      omega
    · skip
      refine xt_pure rfl rfl rfl rfl ?_
      refine xt_getf rfl rfl (xmC 186 rfl) ?_
      refine xt_pure rfl rfl rfl rfl ?_
      refine xt_pure rfl rfl rfl rfl ?_
      refine yt_ast rfl rfl 5 rfl rfl (by decide) rfl ⟨by rw [ti]; omega, by rw [ti, List.length_append, List.length_replicate, List.length_drop]; omega⟩ (D1 := ((209, .inl (14, 24, .int ev)) :: zD zTN zaN S ((237, .inr (10, List.replicate (i + 1) Value.null ++ sv.drop (i + 1))) :: b :: c :: D2))) ?_ ?_
      · rw [yi_toNat (by omega)]
        have e : (List.replicate i Value.null ++ sv.drop i).set i .null = List.replicate (i + 1) Value.null ++ sv.drop (i + 1) := by
          rw [List.set_append_right _ _ (by rw [List.length_replicate]; omega), List.length_replicate, Nat.sub_self, List.replicate_succ', List.append_assoc, List.drop_eq_getElem_cons (by omega)]
          rfl
        show ((209, .inl (14, 24, .int ev)) :: zD zTN zaN S ((237, .inr (10, (List.replicate i Value.null ++ sv.drop i).set i .null)) :: b :: c :: D2)) = _
        rw [e]
      · refine xt_pure rfl rfl rfl (L1 := [_, _, _, _, _, some (.int (_ + 1)), _, _, _, _, _, _]) rfl ?_
        refine xt_pure rfl rfl rfl rfl ?_
        rw [yi_add1]
        exact nu_loop hj hl kk m (i + 1) (by omega)
/-- what the reference answers to take -/
def QtkM (Fs : List yF) (En : List (Int64 × Int32)) (x : Int32) (l : List Int32) (ev : Int32) (S : zS) (sp : List (Option yTg)) (mr : List Value) (of fi rc sg : List Int32) (n : Nat) (D3 : List xE) (a : Option Value) (D : List xE) : Prop := (gI Fs x = none ∧ a = some (.int (-1)) ∧ D = (238, .inr (0, of.map Value.int)) :: (240, .inr (3, fi.map Value.int)) :: (241, .inr (0, rc.map Value.int)) :: (242, .inr (0, sg.map Value.int)) :: TK ev S sp mr (Int32.ofNat n) D3) ∨ (∃ F, gI Fs x = some F ∧ n = 30 ∧ a = some (.int (-3)) ∧ D = (238, .inr (0, of.map Value.int)) :: (240, .inr (3, fi.map Value.int)) :: (241, .inr (0, rc.map Value.int)) :: (242, .inr (0, sg.map Value.int)) :: TK ev S sp mr (Int32.ofNat n) D3) ∨ (∃ F j S' sp' mr', gI Fs x = some F ∧ n < 30 ∧ rdAll En F 1200 0 l (List.replicate 20 none) 0 = (none, j) ∧ a = some (.int (-10 - Int32.ofNat j)) ∧ D = (238, .inr (0, (of.set n x).map Value.int)) :: (240, .inr (3, (fi.set n 0).map Value.int)) :: (241, .inr (0, (rc.set n (-9)).map Value.int)) :: (242, .inr (0, (sg.set n 0).map Value.int)) :: TK ev S' sp' mr' (Int32.ofNat n) D3 ∧ frN S S' ∧ tkG n mr sp' mr') ∨ ∃ F j A' S' sp' mr', gI Fs x = some F ∧ n < 30 ∧ rdAll En F 1200 0 l (List.replicate 20 none) 0 = (some A', j) ∧ j ≤ 20 ∧ a = some (.int (Int32.ofNat n)) ∧ D = (238, .inr (0, (of.set n x).map Value.int)) :: (240, .inr (3, (fi.set n 0).map Value.int)) :: (241, .inr (0, (rc.set n (-9)).map Value.int)) :: (242, .inr (0, (sg.set n 0).map Value.int)) :: (209, .inl (14, 24, .int ev)) :: zD zTN zaN S' ((237, .inr (10, svl (nulS j sp'))) :: (239, .inr (10, mr')) :: (209, .inl (14, 26, .int (Int32.ofNat (n + 1)))) :: (sD sp' ++ D3)) ∧ frN S S' ∧ tkG n mr sp' mr' ∧ tkA n sp' mr' A' j
theorem mK_take {Fs : List yF} {S : zS} {sp : List (Option yTg)} {mr : List Value} {of fi rc sg : List Int32} {n m : Nat} {x : Int32} (hFs : yFsM Fs D3) (hFok : ∀ (i : Nat) F, Fs[i]? = some F → yFok F) (hE : En.length ≤ 100) (hNe : ((209, .inl (14, 19, .int (Int32.ofNat En.length))) : xE) ∈ D3) (hSn : ((236, .inr (0, (En.map Prod.snd ++ js).map Value.int)) : xE) ∈ D3) (hn : n ≤ 30) (l1 : of.length = 31) (l2 : fi.length = 31) (l3 : rc.length = 31) (l4 : sg.length = 31) (l5 : mr.length = 620) (hsp : sp.length = 20) (hsL : ∀ x, some x ∈ sp → tgL x) (h0 : zI S 2 = Int32.ofNat m) (hm : m ≤ 1200) (h3 : (zA S 3).length = 1200) (hb : byR (zA S 3)) : yK X 20 500 287 [.ref 209, .int x] ((238, .inr (0, of.map Value.int)) :: (240, .inr (3, fi.map Value.int)) :: (241, .inr (0, rc.map Value.int)) :: (242, .inr (0, sg.map Value.int)) :: TK ev S sp mr (Int32.ofNat n) D3) 80 1180 (QtkM Fs En x ((zA S 3).take m) ev S sp mr of fi rc sg n D3) := by
  have tn := yi_nat (i := n) (by omega)
  obtain ⟨fs, f1, f2, f3, f4, f5⟩ := id hFs
  have inD : D3 ⊆ ((238, .inr (0, of.map Value.int)) :: (240, .inr (3, fi.map Value.int)) :: (241, .inr (0, rc.map Value.int)) :: (242, .inr (0, sg.map Value.int)) :: TK ev S sp mr (Int32.ofNat n) D3) := fun _ he => List.mem_cons_of_mem _ (List.mem_cons_of_mem _ (List.mem_cons_of_mem _ (List.mem_cons_of_mem _ (List.mem_cons_of_mem _ (List.mem_append_right _ (List.mem_cons_of_mem _ (List.mem_cons_of_mem _ (List.mem_cons_of_mem _ (List.mem_append_right _ he)))))))))
  refine yK.of rfl (yle rfl) (L := [_, _, _, _, _, _, _, _, _, _, _, _]) rfl ?_
  refine xt_pure rfl rfl rfl rfl ?_
  refine xt_pure rfl rfl rfl rfl ?_
  refine xt_callV rfl rfl rfl rfl (xmC 176 rfl) ⟨rfl, rfl, yle rfl, yle rfl, yle rfl, yle rfl⟩ (mk_isForm (n := Fs.length) (by omega) (inD f3)) (c2 := 80) (s2 := 1180) ⟨yle rfl, yle rfl⟩ ?_
  rintro _ _ (⟨rfl, hy, rfl⟩ | ⟨rfl, hy, rfl⟩)
  rotate_left
  · refine xt_pure rfl rfl rfl rfl ?_
    refine xt_pure rfl rfl rfl (st1 := .int (-1) :: _) rfl ?_
    exact xt_iret rfl rfl rfl rfl (Or.inl ⟨gI_out (by omega), rfl, rfl⟩)
  · obtain ⟨F, hx⟩ := (gI_iff (l := Fs)).mpr hy
    obtain ⟨g1, g2, g3, g4, g5⟩ := gI_some hx
    obtain ⟨fa, hfa⟩ := yfa g3 f1
    obtain ⟨_, nm2⟩ := yform g3 hfa f1 f2
    rw [yi_id g1, g4] at nm2
    have haf := gI_in g1 nm2
    have hF := f5 _ F fa g3 hfa
    obtain ⟨fe, _, _, _, _, hl20, _⟩ := hFok _ _ g3
    refine xt_pure rfl rfl rfl rfl ?_
    refine xt_pure rfl rfl rfl rfl ?_
    refine xt_getf rfl rfl (xmD 11 rfl) ?_
    refine xt_pure rfl rfl rfl (st1 := .int 30 :: _) rfl ?_
    refine yt_ic rfl rfl (fun (h7 : Int32.ofNat n ≠ 30) => ?_) (fun (h7 : Int32.ofNat n = 30) => ?_)
    rotate_left
    · have h8 := congrArg Int32.toInt h7
      rw [tn, show (30 : Int32).toInt = 30 from rfl] at h8
      refine xt_pure rfl rfl rfl (st1 := .int (-3) :: _) rfl ?_
      exact xt_iret rfl rfl rfl rfl (Or.inr (Or.inl ⟨F, hx, by omega, rfl, rfl⟩))
    · have hn2 : n < 30 := by
        rcases Nat.lt_or_ge n 30 with h | h
        · exact h
        · exact absurd (by rw [show n = 30 by omega]; rfl) h7
      refine xt_pure rfl rfl rfl rfl ?_
      refine xt_getf rfl rfl (xmD 11 rfl) ?_
      refine xt_pure rfl rfl rfl (L1 := [_, _, _, _, _, _, _, _, _, _, _, _]) rfl ?_
      refine xt_pure rfl rfl rfl rfl ?_
      refine xt_pure rfl rfl rfl rfl ?_
      refine xt_pure rfl rfl rfl rfl ?_
      refine xt_callV rfl rfl rfl rfl (xmC 176 rfl) ⟨rfl, rfl, yle rfl, yle rfl, yle rfl, yle rfl⟩ (mk_emptied (d := n) (x := x) (by omega) (k0 := 0) rfl l1 (k1 := 1) rfl l2 (k2 := 2) rfl l3 (k3 := 3) rfl l4 (k4 := 10) rfl l5) (c2 := 80) (s2 := 1180) ⟨yle rfl, yle rfl⟩ ?_
      rintro _ _ ⟨rfl, rfl⟩
      show yT _ _ _ _ _ _ _ ((238, .inr (0, (of.set n x).map Value.int)) :: (240, .inr (3, (fi.set n 0).map Value.int)) :: (241, .inr (0, (rc.set n (-9)).map Value.int)) :: (242, .inr (0, (sg.set n 0).map Value.int)) :: TK ev S sp (nul mr (20 * n) 20) (Int32.ofNat n) D3) _ _ _
      refine yT.perm tm_perm ?_
      refine xt_pure rfl rfl rfl rfl ?_
      refine xt_pure rfl rfl rfl (st1 := .int 0 :: _) rfl ?_
      refine xt_putf rfl rfl rfl rfl 1 rfl (D1 := TK ev (zsI S 0 0) sp (nul mr (20 * n) 20) (Int32.ofNat n) ((238, .inr (0, (of.set n x).map Value.int)) :: (240, .inr (3, (fi.set n 0).map Value.int)) :: (241, .inr (0, (rc.set n (-9)).map Value.int)) :: (242, .inr (0, (sg.set n 0).map Value.int)) :: D3)) rfl ?_
      refine xt_pure rfl rfl rfl rfl ?_
      refine xt_pure rfl rfl rfl (st1 := .int 1 :: _) rfl ?_
      refine xt_putf rfl rfl rfl rfl 2 rfl (D1 := TK ev (zsI (zsI S 0 0) 1 1) sp (nul mr (20 * n) 20) (Int32.ofNat n) ((238, .inr (0, (of.set n x).map Value.int)) :: (240, .inr (3, (fi.set n 0).map Value.int)) :: (241, .inr (0, (rc.set n (-9)).map Value.int)) :: (242, .inr (0, (sg.set n 0).map Value.int)) :: D3)) rfl ?_
      refine xt_pure rfl rfl rfl (st1 := .int 0 :: _) rfl ?_
      refine xt_pure rfl rfl rfl (L1 := [_, _, _, _, _, _, _, _, _, _, _, _]) rfl ?_
      refine xt_pure rfl rfl rfl (st1 := .int (-1) :: _) rfl ?_
      refine xt_pure rfl rfl rfl (L1 := [_, _, _, _, _, _, _, _, _, _, _, _]) rfl ?_
      have in4 : D3 ⊆ (238, .inr (0, (of.set n x).map Value.int)) :: (240, .inr (3, (fi.set n 0).map Value.int)) :: (241, .inr (0, (rc.set n (-9)).map Value.int)) :: (242, .inr (0, (sg.set n 0).map Value.int)) :: D3 := fun _ he => List.mem_cons_of_mem _ (List.mem_cons_of_mem _ (List.mem_cons_of_mem _ (List.mem_cons_of_mem _ he)))
      have hG0 : tkG n mr sp (nul mr (20 * n) 20) := ⟨hsp, hsL, by rw [nul_len]; exact l5, fun q hq => nul_out 20 (by omega), fun p v hp hv => by
        rw [nul_in 20 hp (by omega)] at hv
        injection hv with hv
        exact Or.inl hv.symm⟩
      have hA0 : tkA n sp (nul mr (20 * n) 20) (List.replicate 20 none) 0 := ⟨List.length_replicate, fun p v z hp hv hz => by
        rw [nul_in 20 hp (by omega)] at hv
        injection hv with hv
        exact Or.inl ⟨(List.mem_replicate.mp (List.mem_of_getElem? hz)).2, hv.symm⟩⟩
      refine (tk_loop (X := X) (js := js) (ev := ev) (D2 := (238, .inr (0, (of.set n x).map Value.int)) :: (240, .inr (3, (fi.set n 0).map Value.int)) :: (241, .inr (0, (rc.set n (-9)).map Value.int)) :: (242, .inr (0, (sg.set n 0).map Value.int)) :: D3) (mr0 := mr) (x := x) hn2 hE (in4 hNe) (in4 hSn) (in4 f4) haf (hF.mono in4) hl20 1200 0 0 (zsI (zsI S 0 0) 1 1) ((zA S 3).take m) sp (nul mr (20 * n) 20) (List.replicate 20 none) _ _ _ _ _ _ _ rfl (by omega) (by omega) ⟨m, 0, h0, rfl, by omega, hm, h3, by rw [List.drop_zero]; rfl⟩ hb rfl hG0 hA0 ?_ ?_)
      · intro S' sp' mr' A' j v4 z5 z6 z7 z8 z9 z10 z11 a1 a2 a3 a4 a5 a6
        refine xt_pure rfl rfl rfl rfl ?_
        refine xt_getf rfl rfl (xmD 2 rfl) ?_
        rw [show zI S' 1 = 1 from a6]
        refine xt_pure rfl rfl rfl rfl ?_
        refine xt_pure rfl rfl rfl (st1 := .int 0 :: _) rfl ?_
        refine xt_pure rfl rfl rfl (L1 := [_, _, _, _, _, _, _, _, _, _, _, _]) rfl ?_
        refine nu_loop (sv := svl sp') a2 (by unfold svl; rw [List.length_map]; exact a3.1) ?_ j 0 (by omega)
        refine xt_pure rfl rfl rfl rfl ?_
        refine xt_pure rfl rfl rfl rfl ?_
        refine xt_getf rfl rfl (xmD 7 rfl) ?_
        refine xt_pure rfl rfl rfl (st1 := .int 1 :: _) rfl ?_
        refine xt_pure rfl rfl rfl rfl ?_
        rw [yi_add1, nulS_vl]
        refine xt_putf rfl rfl rfl rfl 7 rfl (D1 := (209, .inl (14, 24, .int ev)) :: zD zTN zaN S' ((237, .inr (10, svl (nulS j sp'))) :: (239, .inr (10, mr')) :: (209, .inl (14, 26, .int (Int32.ofNat (n + 1)))) :: (sD sp' ++ ((238, .inr (0, (of.set n x).map Value.int)) :: (240, .inr (3, (fi.set n 0).map Value.int)) :: (241, .inr (0, (rc.set n (-9)).map Value.int)) :: (242, .inr (0, (sg.set n 0).map Value.int)) :: D3)))) rfl ?_
        refine yT.perm tm_perm.symm ?_
        refine xt_pure rfl rfl rfl rfl ?_
        exact xt_iret rfl rfl rfl rfl (Or.inr (Or.inr (Or.inr ⟨F, j, A', S', sp', mr', hx, hn2, a1, a2, rfl, rfl, ⟨a5.1, a5.2⟩, a3, a4⟩)))
      · intro S' sp' mr' j v4 z5 z6 z7 z8 z9 z10 z11 a1 a2 a3 a5 a6
        refine xt_pure rfl rfl rfl rfl ?_
        refine xt_getf rfl rfl (xmD 2 rfl) ?_
        rw [show zI S' 1 = 0 from a6]
        refine xt_pure rfl rfl rfl rfl ?_
        refine yT.perm tm_perm.symm ?_
        refine xt_pure rfl rfl rfl (st1 := .int (-10) :: _) rfl ?_
        refine xt_pure rfl rfl rfl rfl ?_
        refine xt_pure rfl rfl rfl rfl ?_
        exact xt_iret rfl rfl rfl rfl (Or.inr (Or.inr (Or.inl ⟨F, j, S', sp', mr', hx, hn2, a1, rfl, rfl, ⟨a5.1, a5.2⟩, a3⟩)))
end TAKEM2
