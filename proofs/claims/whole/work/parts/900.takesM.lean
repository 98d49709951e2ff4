/-! CALLS OVER BLOCKS: take, the reference -/
section TAKBM
variable {X : List Int32} {N B B2 B3 B4 B5 B6 D Rm : List xE} {Fs : List yF} {Dr : List yD} {En : List (Int64 × Int32)} {dk : List Int32} {ev x y : Int32} {fd : List yFd} {to : Int32 × Int32 × Int32} {va : Int64} {gv : Nat}
def zLN (a b : Int32) (S : zS) : zS := (fun i => ([a, b, zI S 0] : List Int32).getD i 0, fun _ => 0, fun _ => .null, fun i => if i = 3 then zA S 4 else [], fun _ => [], fun _ => [])
theorem ln_cn {φ : xE → Nat} {S S' : zS} {L : List xE} (h : zI S' 2 = zI S 0 ∧ zA S' 3 = zA S 4) : cn φ (zD zTN zaN S' L) + φ (209, .inl (14, 40, .int (zI S 1))) + φ (209, .inl (14, 41, .int (zI S 2))) + φ (209, .inl (14, 42, .int (zI S 3))) + φ (248, .inr (0, (zA S 5).map Value.int)) = φ (209, .inl (14, 43, .int (zI S' 0))) + φ (209, .inl (14, 44, .int (zI S' 1))) + cn φ (zE zaL S 0 zTL) + cn φ L := by
  have e1 : zD zTN zaN S' L = (209, .inl (14, 43, .int (zI S' 0))) :: (209, .inl (14, 44, .int (zI S' 1))) :: (209, .inl (14, 38, .int (zI S' 2))) :: (247, .inr (0, (zA S' 3).map Value.int)) :: L := rfl
  have e2 : zE zaL S 0 zTL = [(209, .inl (14, 38, .int (zI S 0))), (209, .inl (14, 40, .int (zI S 1))), (209, .inl (14, 41, .int (zI S 2))), (209, .inl (14, 42, .int (zI S 3))), (247, .inr (0, (zA S 4).map Value.int)), (248, .inr (0, (zA S 5).map Value.int))] := rfl
  rw [e1, e2, h.1, h.2]
  simp only [cn_c, cn_n]
  omega
theorem sD_app : ∀ (a b : List (Option yTg)), sD (a ++ b) = sD a ++ sD b
  | [], b => rfl
  | o :: a, b => by
    show oE o ++ sD (a ++ b) = (oE o ++ sD a) ++ sD b
    rw [sD_app a b, List.append_assoc]
theorem sD_none : ∀ (j : Nat), sD (List.replicate j none) = []
  | 0 => rfl
  | j + 1 => by
    rw [List.replicate_succ]
    show oE none ++ sD (List.replicate j none) = []
    rw [sD_none j]
    rfl
theorem sD_nul {φ : xE → Nat} {j : Nat} {sp : List (Option yTg)} : cn φ (sD sp) = cn φ (sD (sp.take j)) + cn φ (sD (nulS j sp)) := by
  rw [nulS, sD_app, sD_none, List.nil_append, ← cn_a, ← sD_app, List.take_append_drop]
theorem sD_mem {x : yTg} {e : xE} : ∀ {sp : List (Option yTg)}, some x ∈ sp → e ∈ tgE x → e ∈ sD sp
  | [], h, _ => by cases h
  | o :: sp, h, he => by
    rcases List.mem_cons.mp h with h | h
    · rw [← h]
      exact List.mem_append_left _ he
    · exact List.mem_append_right _ (sD_mem h he)
theorem oM_take (hF : pFs Fs) (hD : pDr Fs En Dr) (hf : mFs Fs N B4) (hE : mLe En B5) (h : mDr Fs Dr N B) (hk : mKd dk B2) (hW : mWk ev fd to va B3) (s4 : B4 ⊆ Rm) (s5 : B5 ⊆ Rm) (sN : N ⊆ Rm) : yK X 20 500 287 [.ref 209, .int x] (B ++ (B2 ++ (B3 ++ Rm))) 80 1180 (fun w D => w = some (.int (tkAn Fs Dr En dk x)) ∧ ∃ B' B2' B3' G, D.Perm (B' ++ (B2' ++ (B3' ++ (G ++ Rm)))) ∧ mDr Fs (tkDr Fs Dr En dk x) (G ++ N) B' ∧ mKd dk B2' ∧ mWk ev fd to va B3') := by
  have h0 := h
  have hk0 := hk
  have hW0 := hW
  obtain ⟨T, rfl, -⟩ := hW.fl
  obtain ⟨S, jk, a, b, rfl, k1, k2, k3, k4, k5⟩ := hk
  obtain ⟨of, fi, rc, sg, mr, sp, ⟨l1, l2, l3, l4, l5⟩, ⟨p1, p2⟩, rfl, h4, h5⟩ := h
  obtain ⟨lb, ja, js, e0, e1, e2, rfl⟩ := hE
  have h30 := hD.1
  have pm : ∀ {of fi rc sg : List Int32} {mr : List Value} {n : Nat} {sp sp2 : List (Option yTg)} {S' : zS} {G : List xE}, (zI S' 2 = zI S 0 ∧ zA S' 3 = zA S 4) → (∀ φ, cn φ (sD sp2) = cn φ G + cn φ (sD sp)) → ((238, .inr (0, of.map Value.int)) :: (240, .inr (3, fi.map Value.int)) :: (241, .inr (0, rc.map Value.int)) :: (242, .inr (0, sg.map Value.int)) :: (209, .inl (14, 24, .int ev)) :: zD zTN zaN S' ((237, .inr (10, svl sp)) :: (239, .inr (10, mr)) :: (209, .inl (14, 26, .int (Int32.ofNat n))) :: (sD sp2 ++ ((209, .inl (14, 40, .int (zI S 1))) :: (209, .inl (14, 41, .int (zI S 2))) :: (209, .inl (14, 42, .int (zI S 3))) :: (248, .inr (0, (zA S 5).map Value.int)) :: (T ++ Rm)))) : List xE).Perm (((209, .inl (14, 26, .int (Int32.ofNat n))) :: (238, .inr (0, of.map Value.int)) :: (240, .inr (3, fi.map Value.int)) :: (241, .inr (0, rc.map Value.int)) :: (242, .inr (0, sg.map Value.int)) :: (239, .inr (10, mr)) :: (237, .inr (10, svl sp)) :: sD sp) ++ (((209, .inl (14, 43, .int (zI S' 0))) :: (209, .inl (14, 44, .int (zI S' 1))) :: zE zaL S 0 zTL) ++ (((209, .inl (14, 24, .int ev)) :: T) ++ (G ++ Rm)))) := by
    intro of fi rc sg mr n sp sp2 S' G hS hsp
    refine pq fun φ => ?_
    have := ln_cn (φ := φ) (L := (237, .inr (10, svl sp)) :: (239, .inr (10, mr)) :: (209, .inl (14, 26, .int (Int32.ofNat n))) :: (sD sp2 ++ ((209, .inl (14, 40, .int (zI S 1))) :: (209, .inl (14, 41, .int (zI S 2))) :: (209, .inl (14, 42, .int (zI S 3))) :: (248, .inr (0, (zA S 5).map Value.int)) :: (T ++ Rm)))) hS
    have := hsp φ
    simp only [cn_c, cn_a, cn_n] at *
    omega
  have hs0 : zI (zLN a b S) 2 = zI S 0 ∧ zA (zLN a b S) 3 = zA S 4 := ⟨rfl, rfl⟩
  have pm0 := pm (of := of) (fi := fi) (rc := rc) (sg := sg) (mr := mr) (n := Dr.length) (sp := sp) (sp2 := sp) (G := []) hs0 (fun φ => by rw [cn_n, Nat.zero_add])
  refine yK.perm pm0.symm ?_
  have u1 : Rm ⊆ (209, .inl (14, 40, .int (zI S 1))) :: (209, .inl (14, 41, .int (zI S 2))) :: (209, .inl (14, 42, .int (zI S 3))) :: (248, .inr (0, (zA S 5).map Value.int)) :: (T ++ Rm) := fun e he => List.mem_cons_of_mem _ (List.mem_cons_of_mem _ (List.mem_cons_of_mem _ (List.mem_cons_of_mem _ (List.mem_append_right _ he))))
  have hdk : (zA (zLN a b S) 3).take dk.length = dk := by
    show (zA S 4).take dk.length = dk
    rw [k2, List.take_left]
  refine (mK_take (En := En) (S := zLN a b S) (n := Dr.length) (js := js) (m := dk.length) (ev := ev) (sp := sp) (mr := mr) (hf.use (fun e he => u1 (s4 he)) (fun e he => u1 (sN he))) hF (by omega) (u1 (s5 (by simp))) (u1 (s5 (by simp))) h30 l1 l2 l3 l4 l5 p1 p2 k1 (by omega) (by show (zA S 4).length = 1200; rw [k2, List.length_append]; exact k3) (by show byR (zA S 4); rw [k2]; exact k4)).mono (Nat.le_refl _) (Nat.le_refl _) ?_
  rw [hdk]
  have kd : ∀ {S' : zS}, mKd dk ((209, .inl (14, 43, .int (zI S' 0))) :: (209, .inl (14, 44, .int (zI S' 1))) :: zE zaL S 0 zTL) := ⟨S, jk, _, _, rfl, k1, k2, k3, k4, k5⟩
  rintro w D (⟨g1, rfl, rfl⟩ | ⟨F, g1, g2, rfl, rfl⟩ | ⟨F, j, S', sp', mr', g1, g2, g3, rfl, rfl, q1, q2⟩ | ⟨F, j, A', S', sp', mr', g1, g2, g3, g4, rfl, rfl, q1, q2, q3⟩)
  · obtain ⟨e1, e2⟩ := tk_1 (Dr := Dr) (En := En) (dk := dk) g1
    rw [e1, e2]
    exact ⟨rfl, _, _, _, [], pm0, h0, hk0, hW0⟩
  · obtain ⟨e1, e2⟩ := tk_3 (Dr := Dr) (En := En) (dk := dk) g1 g2
    rw [e1, e2]
    exact ⟨rfl, _, _, _, [], pm0, h0, hk0, hW0⟩
  · obtain ⟨e1, e2⟩ := tk_no (Dr := Dr) g1 g2 g3
    rw [e1, e2]
    obtain ⟨r1, r2, r3, r4, r5⟩ := q2
    refine ⟨rfl, _, _, _, [], pm (sp := sp') (sp2 := sp') (G := []) q1 (fun φ => by rw [cn_n, Nat.zero_add]), ?_, kd, hW0⟩
    refine ⟨of.set Dr.length x, fi.set Dr.length 0, rc.set Dr.length (-9), sg.set Dr.length 0, mr', sp', ⟨by rw [List.length_set]; exact l1, by rw [List.length_set]; exact l2, by rw [List.length_set]; exact l3, by rw [List.length_set]; exact l4, r3⟩, ⟨r1, r2⟩, rfl, fun i d hd => ?_, fun q v hq1 hq2 hv => ?_⟩
    · have hil := (List.getElem?_eq_some_iff.mp hd).1
      have ei : Dr.length ≠ i := by omega
      obtain ⟨c1, c2, c3, c4, c5⟩ := h4 i d hd
      refine ⟨?_, ?_, ?_, ?_, fun p z hz => ?_⟩
      · rw [List.getElem?_set_ne ei]; exact c1
      · rw [List.getElem?_set_ne ei]; exact c2
      · rw [List.getElem?_set_ne ei]; exact c3
      · rw [List.getElem?_set_ne ei]; exact c4
      · obtain ⟨v, w1, w2⟩ := c5 p z hz
        have := (hD.2 d (List.mem_of_getElem? hd)).2.1
        have := (List.getElem?_eq_some_iff.mp hz).1
        exact ⟨v, by rw [r4 _ (by omega)]; exact w1, w2⟩
    · by_cases hq : q < 20 * Dr.length + 20
      · rcases r5 (q - 20 * Dr.length) v (by omega) (by rw [show 20 * Dr.length + (q - 20 * Dr.length) = q by omega]; exact hv) with h | h
        · exact .inl h
        · exact .inr ⟨hq, h⟩
      · rw [r4 q (by omega)] at hv
        exact .inl ((h5 q v hq1 hq2 hv).resolve_right (fun h => by omega))
  · obtain ⟨e1, e2⟩ := tk_ok (Dr := Dr) g1 g2 g3
    rw [e1, e2]
    obtain ⟨x1, x2, x3, -, -⟩ := gI_some g1
    obtain ⟨r1, r2, r3, r4, r5⟩ := q2
    have nl : (nulS j sp').length = 20 := by
      rw [nulS, List.length_append, List.length_replicate, List.length_drop]
      omega
    refine ⟨rfl, _, _, _, sD (sp'.take j), pm (sp := nulS j sp') (sp2 := sp') (G := sD (sp'.take j)) q1 (fun φ => sD_nul), mDr.new g2 hD x1 q3.1 l1 l2 l3 l4 nl (fun y hy => ?_) h4 (fun q v hq1 hq2 hv => ?_) r3 (fun q hq => r4 q (by omega)) (fun p z hz => ?_), kd, hW0⟩
    · rcases List.mem_append.mp hy with hy | hy
      · have := (List.mem_replicate.mp hy).2
        cases this
      · exact r2 y (List.mem_of_mem_drop hy)
    · rw [r4 q (by omega)] at hv
      exact (h5 q v (by omega) hq2 hv).resolve_right (fun h => by omega)
    · have hp : p < 20 := by
        have := (List.getElem?_eq_some_iff.mp hz).1
        rw [q3.1] at this
        exact this
      obtain ⟨v, hv⟩ : ∃ v, mr'[20 * Dr.length + p]? = some v := ⟨_, List.getElem?_eq_getElem (by omega)⟩
      refine ⟨v, hv, ?_⟩
      rcases q3.2 p v z hp hv hz with ⟨rfl, rfl⟩ | ⟨j0, t, o, c1, c2, c3, rfl, rfl⟩
      · exact rfl
      · refine ⟨t.1, rfl, c3.mono (fun e he => List.mem_append_left _ (sD_mem (x := t) ?_ he))⟩
        refine List.mem_of_getElem? (i := j0) ?_
        rw [List.getElem?_take_of_lt c1]
        exact c2
end TAKBM
