/-! MIRRORS: working, the class -/
def zTE : List (Nat × Nat × Nat) := [(0, 10, 1), (0, 10, 4), (0, 10, 5), (0, 10, 6), (0, 10, 7), (0, 10, 8), (0, 10, 9), (0, 10, 11), (0, 10, 14), (4, 1, 0), (3, 0, 0), (3, 0, 0), (3, 3, 0), (4, 1, 0), (3, 0, 0), (3, 0, 0), (0, 4, 1), (3, 0, 0), (3, 0, 0), (3, 0, 0), (3, 0, 0), (3, 0, 0), (3, 3, 0), (0, 4, 1), (3, 0, 0), (3, 0, 0), (3, 0, 0), (3, 0, 0), (3, 0, 0), (3, 3, 0)]
def zaE (i : Nat) : Nat := ([110, 110, 110, 110, 110, 110, 110, 110, 110, 111, 112, 113, 114, 115, 116, 117, 118, 119, 120, 121, 122, 123, 124, 175, 176, 177, 178, 179, 180, 181] : List Nat).getD i 0
def zgE (fa : Nat) (p : Nat → Nat) (gi : Nat → Int32) (ga : Nat → List Int32) : List xE := [(fa, .inl (2, 0, .int (gi 0))), (fa, .inl (2, 1, .ref (p 1))), (fa, .inl (2, 2, .ref (p 2))), (fa, .inl (2, 3, .ref (p 3))), (fa, .inl (2, 4, .ref (p 4))), (fa, .inl (2, 5, .ref (p 5))), (fa, .inl (2, 6, .ref (p 6))), (fa, .inl (2, 7, .ref (p 7))), (fa, .inl (2, 8, .int (gi 8))), (fa, .inl (2, 9, .ref (p 9))), (fa, .inl (2, 10, .int (gi 10))), (fa, .inl (2, 11, .ref (p 11))), (fa, .inl (2, 12, .ref (p 12))), (fa, .inl (2, 13, .int (gi 13))), (fa, .inl (2, 14, .int (gi 14))), (fa, .inl (2, 15, .int (gi 15))), (fa, .inl (2, 16, .ref (p 16))), (fa, .inl (2, 17, .ref (p 17))), (fa, .inl (2, 18, .int (gi 18))), (p 1, .inr (0, (ga 1).map Value.int)), (p 2, .inr (0, (ga 2).map Value.int)), (p 3, .inr (0, (ga 3).map Value.int)), (p 4, .inr (0, (ga 4).map Value.int)), (p 5, .inr (0, (ga 5).map Value.int)), (p 6, .inr (0, (ga 6).map Value.int)), (p 7, .inr (0, (ga 7).map Value.int)), (p 9, .inr (0, (ga 9).map Value.int)), (p 11, .inr (0, (ga 11).map Value.int)), (p 12, .inr (0, (ga 12).map Value.int)), (p 16, .inr (0, (ga 16).map Value.int)), (p 17, .inr (0, (ga 17).map Value.int))]
def cB_begin_17  (N : Nat)  : Nat → Int32 → zS → Option (Unit × zS)
  | 0, _, _ => none
  | n + 1, l3, S => (if 12 ≤ l3.toInt then some ((), (zsI S 1 0)) else (if zok (zA S 12) l3 then (cB_begin_17 N n) (l3 + 1) (zsA S 12 (zs (zA S 12) l3 0)) else none))
theorem tcB_begin_17 {X : List Int32} {D0 : List xE} {fa aa : Nat}  {N fr lo : Nat}   (hf : 0 ≤ fr) (hl : 0 ≤ lo)  : ∀ {n : Nat} {l3 : Int32}  {S S2 : zS} {r : Unit} , cB_begin_17 N n l3 S = some (r, S2) → yT X fr lo 131 17 [some (.ref 110), some (.ref fa), some (.ref aa), some (.int l3)] [] (zD zTE zaE S D0) 0 0 (zQv zTE zaE D0 r S2) := by
  intro n
  induction n with
  | zero =>
    intro l3  S S2 r  h
    have h : (none : Option (Unit × zS)) = some (r, S2) := h
    cases h
  | succ n ih =>
    intro l3  S S2 r  h
    rw [cB_begin_17] at h
    refine xt_pure rfl rfl rfl rfl ?_
    refine xt_pure rfl rfl rfl (st1 := .int 12 :: _) rfl ?_
    refine xt_ic rfl rfl (fun hb => ?_) (fun hb => ?_)
    · replace h := zif_t (p := 12 ≤ l3.toInt) hb h
      refine xt_pure rfl rfl rfl rfl ?_
      refine xt_pure rfl rfl rfl (st1 := .int 0 :: _) rfl ?_
      refine zt_pI 1 rfl rfl rfl rfl rfl rfl ?_
      cases h
      exact xt_vret rfl rfl rfl ⟨rfl, rfl⟩
    · replace h := zif_f (p := 12 ≤ l3.toInt) hb h
      refine xt_pure rfl rfl rfl rfl ?_
      refine xt_getf rfl rfl (xmC 146 rfl) ?_
      refine xt_pure rfl rfl rfl rfl ?_
      refine xt_pure rfl rfl rfl (st1 := .int 0 :: _) rfl ?_
      obtain ⟨hg, h⟩ := zgd h
      refine zt_bst 12 rfl rfl (by decide) rfl rfl (l := (zA S 12)) rfl hg ?_
      refine xt_pure rfl rfl rfl (L1 := [_, _, _, some (.int (_ + 1))]) rfl ?_
      refine xt_pure rfl rfl rfl rfl ?_
      exact ih h
def cB_begin  (N : Nat)  (S : zS) : Option (Unit × zS) := cB_begin_17 N N 0 (zsI (zsI (zsI S 4 0) 5 0) 6 0)
theorem tcB_begin {X : List Int32} {D0 : List xE} {fa aa : Nat}  {N fr lo : Nat} (hf : 0 ≤ fr) (hl : 0 ≤ lo) {uu ww : Value}  {S S2 : zS} {r : Unit}  (h : cB_begin N  S = some (r, S2)) : yK X fr lo 131 [.ref 110, .ref fa, .ref aa] (zD zTE zaE S ((110, .inl (10, 2, uu)) :: (110, .inl (10, 3, ww)) :: D0)) 0 0 (zQv zTE zaE ((110, .inl (10, 2, .ref fa)) :: (110, .inl (10, 3, .ref aa)) :: D0) r S2) := by
  unfold cB_begin at h
  refine yK.of rfl (yle rfl) (L := [_, _, _, _]) rfl ?_
  refine xt_pure rfl rfl rfl rfl ?_
  refine xt_pure rfl rfl rfl rfl ?_
  refine zt_f0 rfl rfl rfl rfl ?_
  refine xt_pure rfl rfl rfl rfl ?_
  refine xt_pure rfl rfl rfl rfl ?_
  refine zt_f1 rfl rfl rfl rfl ?_
  refine xt_pure rfl rfl rfl rfl ?_
  refine xt_pure rfl rfl rfl (st1 := .int 0 :: _) rfl ?_
  refine zt_pI 4 rfl rfl rfl rfl rfl rfl ?_
  refine xt_pure rfl rfl rfl rfl ?_
  refine xt_pure rfl rfl rfl (st1 := .int 0 :: _) rfl ?_
  refine zt_pI 5 rfl rfl rfl rfl rfl rfl ?_
  refine xt_pure rfl rfl rfl rfl ?_
  refine xt_pure rfl rfl rfl (st1 := .int 0 :: _) rfl ?_
  refine zt_pI 6 rfl rfl rfl rfl rfl rfl ?_
  refine xt_pure rfl rfl rfl (st1 := .int 0 :: _) rfl ?_
  refine xt_pure rfl rfl rfl (L1 := [_, _, _, _]) rfl ?_
  exact tcB_begin_17 hf hl h
def cE_isFull (gi : Nat → Int32) (ga : Nat → List Int32) (As : List (Option zO)) (ne : Int32) (am : List Int64)  (N : Nat)  (S : zS) : Option (Int32 × zS) := (if (zI S 0).toInt < 10000 then some (0, S) else some (1, S))
theorem tcE_isFull {X : List Int32} {D0 : List xE} {fa aa : Nat} {p : Nat → Nat} {gi : Nat → Int32} {ga : Nat → List Int32} {refs : List Value} {As : List (Option zO)} {ne : Int32} {am : List Int64} (hW2 : ((110, .inl (10, 2, .ref fa)) : xE) ∈ D0) (hW3 : ((110, .inl (10, 3, .ref aa)) : xE) ∈ D0) (hL0 : ((106, .inl (5, 2, .int ne)) : xE) ∈ D0) (hL1 : ((107, .inr (1, am.map Value.long)) : xE) ∈ D0) (hG : ∀ e ∈ zgE fa p gi ga, e ∈ D0) (hA0 : ((aa, .inr (7, refs)) : xE) ∈ D0) (hA1 : ∀ {j : Int32} {z : Option zO}, gI As j = some z → ∃ v, gI refs j = some v ∧ zVC D0 v z)  {N fr lo : Nat} (hf : 0 ≤ fr) (hl : 0 ≤ lo)  {S S2 : zS} {r : Int32}  (h : cE_isFull gi ga As ne am N  S = some (r, S2)) : yK X fr lo 93 [.ref 110] (zD zTE zaE S D0) 0 0 (zQi zTE zaE D0 r S2) := by
  unfold cE_isFull at h
  refine yK.of rfl (yle rfl) (L := [_]) rfl ?_
  refine xt_pure rfl rfl rfl rfl ?_
  refine zt_gI 0 rfl rfl rfl rfl (x := (zI S 0)) rfl ?_
  refine xt_pure rfl rfl rfl (st1 := .int 10000 :: _) rfl ?_
  refine xt_ic rfl rfl (fun hb => ?_) (fun hb => ?_)
  · replace h := zif_t (p := (zI S 0).toInt < 10000) hb h
    refine xt_pure rfl rfl rfl (st1 := .int 0 :: _) rfl ?_
    cases h
    exact xt_iret rfl rfl rfl rfl ⟨rfl, rfl⟩
  · replace h := zif_f (p := (zI S 0).toInt < 10000) hb h
    refine xt_pure rfl rfl rfl (st1 := .int 1 :: _) rfl ?_
    refine xt_pure rfl rfl rfl rfl ?_
    cases h
    exact xt_iret rfl rfl rfl rfl ⟨rfl, rfl⟩
def cE_fail (gi : Nat → Int32) (ga : Nat → List Int32) (As : List (Option zO)) (ne : Int32) (am : List Int64)  (N : Nat) (v1 : Int32) (S : zS) : Option (Unit × zS) := some ((), (zsI (zsI (zsI S 0 ((zI S 0) + 1)) 1 v1) 2 (zI S 3)))
theorem tcE_fail {X : List Int32} {D0 : List xE} {fa aa : Nat} {p : Nat → Nat} {gi : Nat → Int32} {ga : Nat → List Int32} {refs : List Value} {As : List (Option zO)} {ne : Int32} {am : List Int64} (hW2 : ((110, .inl (10, 2, .ref fa)) : xE) ∈ D0) (hW3 : ((110, .inl (10, 3, .ref aa)) : xE) ∈ D0) (hL0 : ((106, .inl (5, 2, .int ne)) : xE) ∈ D0) (hL1 : ((107, .inr (1, am.map Value.long)) : xE) ∈ D0) (hG : ∀ e ∈ zgE fa p gi ga, e ∈ D0) (hA0 : ((aa, .inr (7, refs)) : xE) ∈ D0) (hA1 : ∀ {j : Int32} {z : Option zO}, gI As j = some z → ∃ v, gI refs j = some v ∧ zVC D0 v z)  {N fr lo : Nat} (hf : 0 ≤ fr) (hl : 0 ≤ lo) {v1 : Int32} {S S2 : zS} {r : Unit}  (h : cE_fail gi ga As ne am N v1 S = some (r, S2)) : yK X fr lo 95 [.ref 110, .int v1] (zD zTE zaE S D0) 0 0 (zQv zTE zaE D0 r S2) := by
  unfold cE_fail at h
  refine yK.of rfl (yle rfl) (L := [_, _]) rfl ?_
  refine xt_pure rfl rfl rfl rfl ?_
  refine xt_pure rfl rfl rfl rfl ?_
  refine zt_gI 0 rfl rfl rfl rfl (x := (zI S 0)) rfl ?_
  refine xt_pure rfl rfl rfl (st1 := .int 1 :: _) rfl ?_
  refine xt_pure rfl rfl rfl rfl ?_
  refine zt_pI 0 rfl rfl rfl rfl rfl rfl ?_
  refine xt_pure rfl rfl rfl rfl ?_
  refine xt_pure rfl rfl rfl rfl ?_
  refine zt_pI 1 rfl rfl rfl rfl rfl rfl ?_
  refine xt_pure rfl rfl rfl rfl ?_
  refine xt_pure rfl rfl rfl rfl ?_
  refine zt_gI 3 rfl rfl rfl rfl (x := (zI S 3)) rfl ?_
  refine zt_pI 2 rfl rfl rfl rfl rfl rfl ?_
  cases h
  exact xt_vret rfl rfl rfl ⟨rfl, rfl⟩
def cE_push (gi : Nat → Int32) (ga : Nat → List Int32) (As : List (Option zO)) (ne : Int32) (am : List Int64)  (N : Nat) (v1 : Int64) (S : zS) : Option (Unit × zS) := (if (Int32.ofNat (zB S 9).length).toInt ≤ (zI S 7).toInt then some ((), S) else (if zok (zB S 9) (zI S 7) then some ((), (zsI (zsB S 9 (zs (zB S 9) (zI S 7) v1)) 7 ((zI S 7) + 1))) else none))
theorem tcE_push {X : List Int32} {D0 : List xE} {fa aa : Nat} {p : Nat → Nat} {gi : Nat → Int32} {ga : Nat → List Int32} {refs : List Value} {As : List (Option zO)} {ne : Int32} {am : List Int64} (hW2 : ((110, .inl (10, 2, .ref fa)) : xE) ∈ D0) (hW3 : ((110, .inl (10, 3, .ref aa)) : xE) ∈ D0) (hL0 : ((106, .inl (5, 2, .int ne)) : xE) ∈ D0) (hL1 : ((107, .inr (1, am.map Value.long)) : xE) ∈ D0) (hG : ∀ e ∈ zgE fa p gi ga, e ∈ D0) (hA0 : ((aa, .inr (7, refs)) : xE) ∈ D0) (hA1 : ∀ {j : Int32} {z : Option zO}, gI As j = some z → ∃ v, gI refs j = some v ∧ zVC D0 v z)  {N fr lo : Nat} (hf : 0 ≤ fr) (hl : 0 ≤ lo) {v1 : Int64} {S S2 : zS} {r : Unit}  (h : cE_push gi ga As ne am N v1 S = some (r, S2)) : yK X fr lo 134 [.ref 110, .long v1] (zD zTE zaE S D0) 0 0 (zQv zTE zaE D0 r S2) := by
  unfold cE_push at h
  refine yK.of rfl (yle rfl) (L := [_, _, _]) rfl ?_
  refine xt_pure rfl rfl rfl rfl ?_
  refine zt_gI 7 rfl rfl rfl rfl (x := (zI S 7)) rfl ?_
  refine xt_pure rfl rfl rfl rfl ?_
  refine xt_getf rfl rfl (xmC 143 rfl) ?_
  refine zr_lenJ (l := (zB S 9)) rfl rfl (zmB 9 rfl rfl (l := (zB S 9)) rfl) rfl ?_
  refine xt_ic rfl rfl (fun hb => ?_) (fun hb => ?_)
  · replace h := zif_t (p := (Int32.ofNat (zB S 9).length).toInt ≤ (zI S 7).toInt) hb h
    cases h
    exact xt_vret rfl rfl rfl ⟨rfl, rfl⟩
  · replace h := zif_f (p := (Int32.ofNat (zB S 9).length).toInt ≤ (zI S 7).toInt) hb h
    refine xt_pure rfl rfl rfl rfl ?_
    refine xt_getf rfl rfl (xmC 143 rfl) ?_
    refine xt_pure rfl rfl rfl rfl ?_
    refine zt_gI 7 rfl rfl rfl rfl (x := (zI S 7)) rfl ?_
    refine xt_pure rfl rfl rfl rfl ?_
    obtain ⟨hg, h⟩ := zgd h
    refine zt_lst 9 rfl rfl rfl rfl (l := (zB S 9)) rfl hg ?_
    refine xt_pure rfl rfl rfl rfl ?_
    refine xt_pure rfl rfl rfl rfl ?_
    refine zt_gI 7 rfl rfl rfl rfl (x := (zI S 7)) rfl ?_
    refine xt_pure rfl rfl rfl (st1 := .int 1 :: _) rfl ?_
    refine xt_pure rfl rfl rfl rfl ?_
    refine zt_pI 7 rfl rfl rfl rfl rfl rfl ?_
    cases h
    exact xt_vret rfl rfl rfl ⟨rfl, rfl⟩
def cE_pop (gi : Nat → Int32) (ga : Nat → List Int32) (As : List (Option zO)) (ne : Int32) (am : List Int64)  (N : Nat)  (S : zS) : Option (Int64 × zS) := (if 0 < (zI S 7).toInt then (zg (gI (zB S 9) ((zI S 7) - 1)) fun x1 => some (x1, (zsI S 7 ((zI S 7) - 1)))) else some (0, S))
theorem tcE_pop {X : List Int32} {D0 : List xE} {fa aa : Nat} {p : Nat → Nat} {gi : Nat → Int32} {ga : Nat → List Int32} {refs : List Value} {As : List (Option zO)} {ne : Int32} {am : List Int64} (hW2 : ((110, .inl (10, 2, .ref fa)) : xE) ∈ D0) (hW3 : ((110, .inl (10, 3, .ref aa)) : xE) ∈ D0) (hL0 : ((106, .inl (5, 2, .int ne)) : xE) ∈ D0) (hL1 : ((107, .inr (1, am.map Value.long)) : xE) ∈ D0) (hG : ∀ e ∈ zgE fa p gi ga, e ∈ D0) (hA0 : ((aa, .inr (7, refs)) : xE) ∈ D0) (hA1 : ∀ {j : Int32} {z : Option zO}, gI As j = some z → ∃ v, gI refs j = some v ∧ zVC D0 v z)  {N fr lo : Nat} (hf : 0 ≤ fr) (hl : 0 ≤ lo)  {S S2 : zS} {r : Int64}  (h : cE_pop gi ga As ne am N  S = some (r, S2)) : yK X fr lo 137 [.ref 110] (zD zTE zaE S D0) 0 0 (zQl zTE zaE D0 r S2) := by
  unfold cE_pop at h
  refine yK.of rfl (yle rfl) (L := [_]) rfl ?_
  refine xt_pure rfl rfl rfl rfl ?_
  refine zt_gI 7 rfl rfl rfl rfl (x := (zI S 7)) rfl ?_
  refine xt_if rfl rfl (fun hb => ?_) (fun hb => ?_)
  · replace h := zif_t (p := 0 < (zI S 7).toInt) hb h
    refine xt_pure rfl rfl rfl rfl ?_
    refine xt_pure rfl rfl rfl rfl ?_
    refine zt_gI 7 rfl rfl rfl rfl (x := (zI S 7)) rfl ?_
    refine xt_pure rfl rfl rfl (st1 := .int 1 :: _) rfl ?_
    refine xt_pure rfl rfl rfl rfl ?_
    refine zt_pI 7 rfl rfl rfl rfl rfl rfl ?_
    refine xt_pure rfl rfl rfl rfl ?_
    refine xt_getf rfl rfl (xmC 143 rfl) ?_
    refine xt_pure rfl rfl rfl rfl ?_
    refine zt_gI 7 rfl rfl rfl rfl (x := ((zI S 7) - 1)) rfl ?_
    obtain ⟨x1, hx1, h⟩ := zgi h
    refine zr_lld (l := (zB S 9)) rfl rfl (zmB 9 rfl rfl (l := (zB S 9)) rfl) hx1 ?_
    cases h
    exact xt_lret rfl rfl rfl ⟨rfl, rfl⟩
  · replace h := zif_f (p := 0 < (zI S 7).toInt) hb h
    refine xt_pure rfl rfl rfl (st1 := .long 0 :: _) rfl ?_
    cases h
    exact xt_lret rfl rfl rfl ⟨rfl, rfl⟩
def cE_decide_8 (gi : Nat → Int32) (ga : Nat → List Int32) (As : List (Option zO)) (ne : Int32) (am : List Int64)  (N : Nat)  (l1 : Int32) (l2 : Int32) (l3 : Int32) (s0 : Int32) (S : zS) : Option (Int32 × zS) := (if s0 = l1 then (if s0 = (0 : Int32) then (zb (cE_push gi ga As ne am N 0 S) fun _ S5 => some (l3, S5)) else (zb (cE_push gi ga As ne am N 1 S) fun _ S8 => some (l3, S8))) else some ((l2 + 1), S))
theorem tcE_decide_8 {X : List Int32} {D0 : List xE} {fa aa : Nat} {p : Nat → Nat} {gi : Nat → Int32} {ga : Nat → List Int32} {refs : List Value} {As : List (Option zO)} {ne : Int32} {am : List Int64} (hW2 : ((110, .inl (10, 2, .ref fa)) : xE) ∈ D0) (hW3 : ((110, .inl (10, 3, .ref aa)) : xE) ∈ D0) (hL0 : ((106, .inl (5, 2, .int ne)) : xE) ∈ D0) (hL1 : ((107, .inr (1, am.map Value.long)) : xE) ∈ D0) (hG : ∀ e ∈ zgE fa p gi ga, e ∈ D0) (hA0 : ((aa, .inr (7, refs)) : xE) ∈ D0) (hA1 : ∀ {j : Int32} {z : Option zO}, gI As j = some z → ∃ v, gI refs j = some v ∧ zVC D0 v z)  {N fr lo : Nat}   (hf : 1 ≤ fr) (hl : 22 ≤ lo) {l1 : Int32} {l2 : Int32} {l3 : Int32} {s0 : Int32}  {S S2 : zS} {r : Int32}  (h : cE_decide_8 gi ga As ne am N l1 l2 l3 s0 S = some (r, S2)) : yT X fr lo 136 8 [some (.ref 110), some (.int l1), some (.int l2), some (.int l3), none] [.int s0] (zD zTE zaE S D0) 0 0 (zQi zTE zaE D0 r S2) := by
  unfold cE_decide_8 at h
  refine xt_pure rfl rfl rfl (L1 := [_, _, _, _, _]) rfl ?_
  refine xt_pure rfl rfl rfl rfl ?_
  refine xt_pure rfl rfl rfl rfl ?_
  refine xt_ic rfl rfl (fun hb => ?_) (fun hb => ?_)
  · replace h := zif_t (p := s0 = l1) hb h
    refine xt_pure rfl rfl rfl rfl ?_
    refine xt_pure rfl rfl rfl rfl ?_
    refine xt_if rfl rfl (fun hb => ?_) (fun hb => ?_)
    · replace h := zif_t (p := s0 = (0 : Int32)) hb h
      refine xt_pure rfl rfl rfl (st1 := .long 0 :: _) rfl ?_
      obtain ⟨_, S5, hc6, h⟩ := zbi h
      refine zt_Vv rfl rfl rfl rfl (xmC 142 rfl) ⟨rfl, rfl, yle rfl, yle rfl⟩ (m := 3) rfl ⟨by omega, by omega⟩ (tcE_push hW2 hW3 hL0 hL1 hG hA0 hA1 (by omega) (by omega) hc6) (fr1 := fr - 1) (lo1 := lo - 22) ?_
      refine xt_pure rfl rfl rfl rfl ?_
      cases h
      exact xt_iret rfl rfl rfl rfl ⟨rfl, rfl⟩
    · replace h := zif_f (p := s0 = (0 : Int32)) hb h
      refine xt_pure rfl rfl rfl (st1 := .long 1 :: _) rfl ?_
      refine xt_pure rfl rfl rfl rfl ?_
      obtain ⟨_, S8, hc9, h⟩ := zbi h
      refine zt_Vv rfl rfl rfl rfl (xmC 142 rfl) ⟨rfl, rfl, yle rfl, yle rfl⟩ (m := 3) rfl ⟨by omega, by omega⟩ (tcE_push hW2 hW3 hL0 hL1 hG hA0 hA1 (by omega) (by omega) hc9) (fr1 := fr - 1) (lo1 := lo - 22) ?_
      refine xt_pure rfl rfl rfl rfl ?_
      cases h
      exact xt_iret rfl rfl rfl rfl ⟨rfl, rfl⟩
  · replace h := zif_f (p := s0 = l1) hb h
    refine xt_pure rfl rfl rfl rfl ?_
    refine xt_pure rfl rfl rfl (st1 := .int 1 :: _) rfl ?_
    refine xt_pure rfl rfl rfl rfl ?_
    cases h
    exact xt_iret rfl rfl rfl rfl ⟨rfl, rfl⟩
def cE_decide (gi : Nat → Int32) (ga : Nat → List Int32) (As : List (Option zO)) (ne : Int32) (am : List Int64)  (N : Nat) (v1 : Int32) (v2 : Int32) (v3 : Int32) (S : zS) : Option (Int32 × zS) := (zb (cE_pop gi ga As ne am N  S) fun x1 S2 => (if x1 = (0 : Int64) then cE_decide_8 gi ga As ne am N v1 v2 v3 0 S2 else cE_decide_8 gi ga As ne am N v1 v2 v3 1 S2))
theorem tcE_decide {X : List Int32} {D0 : List xE} {fa aa : Nat} {p : Nat → Nat} {gi : Nat → Int32} {ga : Nat → List Int32} {refs : List Value} {As : List (Option zO)} {ne : Int32} {am : List Int64} (hW2 : ((110, .inl (10, 2, .ref fa)) : xE) ∈ D0) (hW3 : ((110, .inl (10, 3, .ref aa)) : xE) ∈ D0) (hL0 : ((106, .inl (5, 2, .int ne)) : xE) ∈ D0) (hL1 : ((107, .inr (1, am.map Value.long)) : xE) ∈ D0) (hG : ∀ e ∈ zgE fa p gi ga, e ∈ D0) (hA0 : ((aa, .inr (7, refs)) : xE) ∈ D0) (hA1 : ∀ {j : Int32} {z : Option zO}, gI As j = some z → ∃ v, gI refs j = some v ∧ zVC D0 v z)  {N fr lo : Nat} (hf : 1 ≤ fr) (hl : 22 ≤ lo) {v1 : Int32} {v2 : Int32} {v3 : Int32} {S S2 : zS} {r : Int32}  (h : cE_decide gi ga As ne am N v1 v2 v3 S = some (r, S2)) : yK X fr lo 136 [.ref 110, .int v1, .int v2, .int v3] (zD zTE zaE S D0) 0 0 (zQi zTE zaE D0 r S2) := by
  unfold cE_decide at h
  refine yK.of rfl (yle rfl) (L := [_, _, _, _, _]) rfl ?_
  refine xt_pure rfl rfl rfl rfl ?_
  obtain ⟨x1, S2, hc3, h⟩ := zbi h
  refine zt_Vl rfl rfl rfl rfl (xmC 142 rfl) ⟨rfl, rfl, yle rfl, yle rfl⟩ (m := 1) rfl ⟨by omega, by omega⟩ (tcE_pop hW2 hW3 hL0 hL1 hG hA0 hA1 (by omega) (by omega) hc3) (fr1 := fr - 1) (lo1 := lo - 20) ?_
  refine xt_pure rfl rfl rfl (st1 := .long 0 :: _) rfl ?_
  refine zt_lc rfl rfl rfl (fun hb => ?_) (fun hb => ?_)
  · replace h := zif_t (p := x1 = (0 : Int64)) hb h
    refine xt_pure rfl rfl rfl (st1 := .int 0 :: _) rfl ?_
    exact tcE_decide_8 hW2 hW3 hL0 hL1 hG hA0 hA1 hf hl h
  · replace h := zif_f (p := x1 = (0 : Int64)) hb h
    refine xt_pure rfl rfl rfl (st1 := .int 1 :: _) rfl ?_
    refine xt_pure rfl rfl rfl rfl ?_
    exact tcE_decide_8 hW2 hW3 hL0 hL1 hG hA0 hA1 hf hl h
def cE_beginTry (gi : Nat → Int32) (ga : Nat → List Int32) (As : List (Option zO)) (ne : Int32) (am : List Int64)  (N : Nat) (v1 : Int32) (S : zS) : Option (Unit × zS) := (if (Int32.ofNat (zA S 10).length).toInt ≤ (zI S 8).toInt then some ((), S) else (if zok (zA S 10) (zI S 8) then (if zok (zA S 11) (zI S 8) then some ((), (zsI (zsA (zsA S 10 (zs (zA S 10) (zI S 8) v1)) 11 (zs (zA S 11) (zI S 8) (zI S 7))) 8 ((zI S 8) + 1))) else none) else none))
theorem tcE_beginTry {X : List Int32} {D0 : List xE} {fa aa : Nat} {p : Nat → Nat} {gi : Nat → Int32} {ga : Nat → List Int32} {refs : List Value} {As : List (Option zO)} {ne : Int32} {am : List Int64} (hW2 : ((110, .inl (10, 2, .ref fa)) : xE) ∈ D0) (hW3 : ((110, .inl (10, 3, .ref aa)) : xE) ∈ D0) (hL0 : ((106, .inl (5, 2, .int ne)) : xE) ∈ D0) (hL1 : ((107, .inr (1, am.map Value.long)) : xE) ∈ D0) (hG : ∀ e ∈ zgE fa p gi ga, e ∈ D0) (hA0 : ((aa, .inr (7, refs)) : xE) ∈ D0) (hA1 : ∀ {j : Int32} {z : Option zO}, gI As j = some z → ∃ v, gI refs j = some v ∧ zVC D0 v z)  {N fr lo : Nat} (hf : 0 ≤ fr) (hl : 0 ≤ lo) {v1 : Int32} {S S2 : zS} {r : Unit}  (h : cE_beginTry gi ga As ne am N v1 S = some (r, S2)) : yK X fr lo 138 [.ref 110, .int v1] (zD zTE zaE S D0) 0 0 (zQv zTE zaE D0 r S2) := by
  unfold cE_beginTry at h
  refine yK.of rfl (yle rfl) (L := [_, _]) rfl ?_
  refine xt_pure rfl rfl rfl rfl ?_
  refine zt_gI 8 rfl rfl rfl rfl (x := (zI S 8)) rfl ?_
  refine xt_pure rfl rfl rfl rfl ?_
  refine xt_getf rfl rfl (xmC 144 rfl) ?_
  refine zr_lenI (l := (zA S 10)) rfl rfl (zmA 10 rfl rfl (l := (zA S 10)) rfl) rfl ?_
  refine xt_ic rfl rfl (fun hb => ?_) (fun hb => ?_)
  · replace h := zif_t (p := (Int32.ofNat (zA S 10).length).toInt ≤ (zI S 8).toInt) hb h
    cases h
    exact xt_vret rfl rfl rfl ⟨rfl, rfl⟩
  · replace h := zif_f (p := (Int32.ofNat (zA S 10).length).toInt ≤ (zI S 8).toInt) hb h
    refine xt_pure rfl rfl rfl rfl ?_
    refine xt_getf rfl rfl (xmC 144 rfl) ?_
    refine xt_pure rfl rfl rfl rfl ?_
    refine zt_gI 8 rfl rfl rfl rfl (x := (zI S 8)) rfl ?_
    refine xt_pure rfl rfl rfl rfl ?_
    obtain ⟨hg, h⟩ := zgd h
    refine zt_ist 10 rfl rfl rfl rfl (l := (zA S 10)) rfl hg ?_
    refine xt_pure rfl rfl rfl rfl ?_
    refine xt_getf rfl rfl (xmC 145 rfl) ?_
    refine xt_pure rfl rfl rfl rfl ?_
    refine zt_gI 8 rfl rfl rfl rfl (x := (zI S 8)) rfl ?_
    refine xt_pure rfl rfl rfl rfl ?_
    refine zt_gI 7 rfl rfl rfl rfl (x := (zI S 7)) rfl ?_
    obtain ⟨hg, h⟩ := zgd h
    refine zt_ist 11 rfl rfl rfl rfl (l := (zA S 11)) rfl hg ?_
    refine xt_pure rfl rfl rfl rfl ?_
    refine xt_pure rfl rfl rfl rfl ?_
    refine zt_gI 8 rfl rfl rfl rfl (x := (zI S 8)) rfl ?_
    refine xt_pure rfl rfl rfl (st1 := .int 1 :: _) rfl ?_
    refine xt_pure rfl rfl rfl rfl ?_
    refine zt_pI 8 rfl rfl rfl rfl rfl rfl ?_
    cases h
    exact xt_vret rfl rfl rfl ⟨rfl, rfl⟩
def cE_takeElse (gi : Nat → Int32) (ga : Nat → List Int32) (As : List (Option zO)) (ne : Int32) (am : List Int64)  (N : Nat)  (S : zS) : Option (Int32 × zS) := (zg (gI (zA S 11) ((zI S 8) - 1)) fun x1 => (zg (gI (zA S 10) ((zI S 8) - 1)) fun x2 => some (x2, (zsI (zsI (zsI (zsI S 8 ((zI S 8) - 1)) 7 x1) 1 0) 6 ((zI S 6) + 1)))))
theorem tcE_takeElse {X : List Int32} {D0 : List xE} {fa aa : Nat} {p : Nat → Nat} {gi : Nat → Int32} {ga : Nat → List Int32} {refs : List Value} {As : List (Option zO)} {ne : Int32} {am : List Int64} (hW2 : ((110, .inl (10, 2, .ref fa)) : xE) ∈ D0) (hW3 : ((110, .inl (10, 3, .ref aa)) : xE) ∈ D0) (hL0 : ((106, .inl (5, 2, .int ne)) : xE) ∈ D0) (hL1 : ((107, .inr (1, am.map Value.long)) : xE) ∈ D0) (hG : ∀ e ∈ zgE fa p gi ga, e ∈ D0) (hA0 : ((aa, .inr (7, refs)) : xE) ∈ D0) (hA1 : ∀ {j : Int32} {z : Option zO}, gI As j = some z → ∃ v, gI refs j = some v ∧ zVC D0 v z)  {N fr lo : Nat} (hf : 0 ≤ fr) (hl : 0 ≤ lo)  {S S2 : zS} {r : Int32}  (h : cE_takeElse gi ga As ne am N  S = some (r, S2)) : yK X fr lo 150 [.ref 110] (zD zTE zaE S D0) 0 0 (zQi zTE zaE D0 r S2) := by
  unfold cE_takeElse at h
  refine yK.of rfl (yle rfl) (L := [_]) rfl ?_
  refine xt_pure rfl rfl rfl rfl ?_
  refine xt_pure rfl rfl rfl rfl ?_
  refine zt_gI 8 rfl rfl rfl rfl (x := (zI S 8)) rfl ?_
  refine xt_pure rfl rfl rfl (st1 := .int 1 :: _) rfl ?_
  refine xt_pure rfl rfl rfl rfl ?_
  refine zt_pI 8 rfl rfl rfl rfl rfl rfl ?_
  refine xt_pure rfl rfl rfl rfl ?_
  refine xt_pure rfl rfl rfl rfl ?_
  refine xt_getf rfl rfl (xmC 145 rfl) ?_
  refine xt_pure rfl rfl rfl rfl ?_
  refine zt_gI 8 rfl rfl rfl rfl (x := ((zI S 8) - 1)) rfl ?_
  obtain ⟨x1, hx1, h⟩ := zgi h
  refine zr_ild (l := (zA S 11)) rfl rfl (zmA 11 rfl rfl (l := (zA S 11)) rfl) hx1 ?_
  refine zt_pI 7 rfl rfl rfl rfl rfl rfl ?_
  refine xt_pure rfl rfl rfl rfl ?_
  refine xt_pure rfl rfl rfl (st1 := .int 0 :: _) rfl ?_
  refine zt_pI 1 rfl rfl rfl rfl rfl rfl ?_
  refine xt_pure rfl rfl rfl rfl ?_
  refine xt_pure rfl rfl rfl rfl ?_
  refine zt_gI 6 rfl rfl rfl rfl (x := (zI S 6)) rfl ?_
  refine xt_pure rfl rfl rfl (st1 := .int 1 :: _) rfl ?_
  refine xt_pure rfl rfl rfl rfl ?_
  refine zt_pI 6 rfl rfl rfl rfl rfl rfl ?_
  refine xt_pure rfl rfl rfl rfl ?_
  refine xt_getf rfl rfl (xmC 144 rfl) ?_
  refine xt_pure rfl rfl rfl rfl ?_
  refine zt_gI 8 rfl rfl rfl rfl (x := ((zI S 8) - 1)) rfl ?_
  obtain ⟨x2, hx2, h⟩ := zgi h
  refine zr_ild (l := (zA S 10)) rfl rfl (zmA 10 rfl rfl (l := (zA S 10)) rfl) hx2 ?_
  cases h
  exact xt_iret rfl rfl rfl rfl ⟨rfl, rfl⟩
def cE_reckon (gi : Nat → Int32) (ga : Nat → List Int32) (As : List (Option zO)) (ne : Int32) (am : List Int64)  (N : Nat) (v1 : Int32) (S : zS) : Option (Int64 × zS) := (zb (cE_pop gi ga As ne am N  S) fun x1 S2 => (if v1 = 15 then (if x1 = (0 : Int64) then some (0, S2) else some (1, S2)) else if v1 = 16 then some ((-x1), S2) else if v1 = 17 then (if x1 ≠ (0 : Int64) then some (0, S2) else some (1, S2)) else (zb (cE_pop gi ga As ne am N  S2) fun x7 S8 => (if v1 = 18 then (if x7 ≠ x1 then some (0, S8) else some (1, S8)) else if v1 = 19 then (if x1.toInt ≤ x7.toInt then some (0, S8) else some (1, S8)) else if v1 = 20 then (if x7.toInt ≤ x1.toInt then some (0, S8) else some (1, S8)) else if v1 = 21 then some ((x7 + x1), S8) else if v1 = 22 then some ((x7 - x1), S8) else if v1 = 23 then some ((x7 * x1), S8) else (if x1 ≠ (0 : Int64) then (if v1 ≠ (24 : Int32) then if ¬ x1 = 0 then some ((x7 - x7 / x1 * x1), S8) else none else if ¬ x1 = 0 then some ((x7 / x1), S8) else none) else (zb (cE_fail gi ga As ne am N 4 S8) fun _ S17 => some (0, S17)))))))
set_option maxRecDepth 20000 in
theorem tcE_reckon {X : List Int32} {D0 : List xE} {fa aa : Nat} {p : Nat → Nat} {gi : Nat → Int32} {ga : Nat → List Int32} {refs : List Value} {As : List (Option zO)} {ne : Int32} {am : List Int64} (hW2 : ((110, .inl (10, 2, .ref fa)) : xE) ∈ D0) (hW3 : ((110, .inl (10, 3, .ref aa)) : xE) ∈ D0) (hL0 : ((106, .inl (5, 2, .int ne)) : xE) ∈ D0) (hL1 : ((107, .inr (1, am.map Value.long)) : xE) ∈ D0) (hG : ∀ e ∈ zgE fa p gi ga, e ∈ D0) (hA0 : ((aa, .inr (7, refs)) : xE) ∈ D0) (hA1 : ∀ {j : Int32} {z : Option zO}, gI As j = some z → ∃ v, gI refs j = some v ∧ zVC D0 v z)  {N fr lo : Nat} (hf : 1 ≤ fr) (hl : 21 ≤ lo) {v1 : Int32} {S S2 : zS} {r : Int64}  (h : cE_reckon gi ga As ne am N v1 S = some (r, S2)) : yK X fr lo 149 [.ref 110, .int v1] (zD zTE zaE S D0) 0 0 (zQl zTE zaE D0 r S2) := by
  unfold cE_reckon at h
  refine yK.of rfl (yle rfl) (L := [_, _, _, _, _, _]) rfl ?_
  refine xt_pure rfl rfl rfl rfl ?_
  obtain ⟨x1, S2, hc3, h⟩ := zbi h
  refine zt_Vl rfl rfl rfl rfl (xmC 142 rfl) ⟨rfl, rfl, yle rfl, yle rfl⟩ (m := 1) rfl ⟨by omega, by omega⟩ (tcE_pop hW2 hW3 hL0 hL1 hG hA0 hA1 (by omega) (by omega) hc3) (fr1 := fr - 1) (lo1 := lo - 20) ?_
  refine xt_pure rfl rfl rfl (L1 := [_, _, _, _, _, _]) rfl ?_
  refine xt_pure rfl rfl rfl rfl ?_
  by_cases hw4 : v1 = 15
  · replace h := zif_t (p := v1 = 15) hw4 h
    refine zt_sw (tg := 5) rfl rfl rfl hw4 rfl ?_
    refine xt_pure rfl rfl rfl rfl ?_
    refine xt_pure rfl rfl rfl (st1 := .long 0 :: _) rfl ?_
    refine zt_lc rfl rfl rfl (fun hb => ?_) (fun hb => ?_)
    · replace h := zif_t (p := x1 = (0 : Int64)) hb h
      refine xt_pure rfl rfl rfl (st1 := .long 0 :: _) rfl ?_
      cases h
      exact xt_lret rfl rfl rfl ⟨rfl, rfl⟩
    · replace h := zif_f (p := x1 = (0 : Int64)) hb h
      refine xt_pure rfl rfl rfl (st1 := .long 1 :: _) rfl ?_
      refine xt_pure rfl rfl rfl rfl ?_
      cases h
      exact xt_lret rfl rfl rfl ⟨rfl, rfl⟩
  replace h := zif_f (p := v1 = 15) hw4 h
  by_cases hw5 : v1 = 16
  · replace h := zif_t (p := v1 = 16) hw5 h
    refine zt_sw (tg := 13) rfl rfl rfl hw5 rfl ?_
    refine xt_pure rfl rfl rfl rfl ?_
    refine xt_pure rfl rfl rfl rfl ?_
    cases h
    exact xt_lret rfl rfl rfl ⟨rfl, rfl⟩
  replace h := zif_f (p := v1 = 16) hw5 h
  by_cases hw6 : v1 = 17
  · replace h := zif_t (p := v1 = 17) hw6 h
    refine zt_sw (tg := 16) rfl rfl rfl hw6 rfl ?_
    refine xt_pure rfl rfl rfl rfl ?_
    refine xt_pure rfl rfl rfl (st1 := .long 0 :: _) rfl ?_
    refine zt_lc rfl rfl rfl (fun hb => ?_) (fun hb => ?_)
    · replace h := zif_t (p := x1 ≠ (0 : Int64)) hb h
      refine xt_pure rfl rfl rfl (st1 := .long 0 :: _) rfl ?_
      cases h
      exact xt_lret rfl rfl rfl ⟨rfl, rfl⟩
    · replace h := zif_f (p := x1 ≠ (0 : Int64)) hb h
      refine xt_pure rfl rfl rfl (st1 := .long 1 :: _) rfl ?_
      refine xt_pure rfl rfl rfl rfl ?_
      cases h
      exact xt_lret rfl rfl rfl ⟨rfl, rfl⟩
  replace h := zif_f (p := v1 = 17) hw6 h
  have hxhw4 : ¬ v1.toInt = 15 := fun h => hw4 (by rw [xi32_eq, h]; rfl)
  have hxhw5 : ¬ v1.toInt = 16 := fun h => hw5 (by rw [xi32_eq, h]; rfl)
  have hxhw6 : ¬ v1.toInt = 17 := fun h => hw6 (by rw [xi32_eq, h]; rfl)
  refine yt_tsd rfl rfl (by omega) rfl ?_
  refine xt_pure rfl rfl rfl rfl ?_
  obtain ⟨x7, S8, hc9, h⟩ := zbi h
  refine zt_Vl rfl rfl rfl rfl (xmC 142 rfl) ⟨rfl, rfl, yle rfl, yle rfl⟩ (m := 1) rfl ⟨by omega, by omega⟩ (tcE_pop hW2 hW3 hL0 hL1 hG hA0 hA1 (by omega) (by omega) hc9) (fr1 := fr - 1) (lo1 := lo - 20) ?_
  refine xt_pure rfl rfl rfl (L1 := [_, _, _, _, _, _]) rfl ?_
  refine xt_pure rfl rfl rfl rfl ?_
  by_cases hw10 : v1 = 18
  · replace h := zif_t (p := v1 = 18) hw10 h
    refine zt_sw (tg := 29) rfl rfl rfl hw10 rfl ?_
    refine xt_pure rfl rfl rfl rfl ?_
    refine xt_pure rfl rfl rfl rfl ?_
    refine zt_lc rfl rfl rfl (fun hb => ?_) (fun hb => ?_)
    · replace h := zif_t (p := x7 ≠ x1) hb h
      refine xt_pure rfl rfl rfl (st1 := .long 0 :: _) rfl ?_
      cases h
      exact xt_lret rfl rfl rfl ⟨rfl, rfl⟩
    · replace h := zif_f (p := x7 ≠ x1) hb h
      refine xt_pure rfl rfl rfl (st1 := .long 1 :: _) rfl ?_
      refine xt_pure rfl rfl rfl rfl ?_
      cases h
      exact xt_lret rfl rfl rfl ⟨rfl, rfl⟩
  replace h := zif_f (p := v1 = 18) hw10 h
  by_cases hw11 : v1 = 19
  · replace h := zif_t (p := v1 = 19) hw11 h
    refine zt_sw (tg := 37) rfl rfl rfl hw11 rfl ?_
    refine xt_pure rfl rfl rfl rfl ?_
    refine xt_pure rfl rfl rfl rfl ?_
    refine zt_lc rfl rfl rfl (fun hb => ?_) (fun hb => ?_)
    · replace h := zif_t (p := x1.toInt ≤ x7.toInt) hb h
      refine xt_pure rfl rfl rfl (st1 := .long 0 :: _) rfl ?_
      cases h
      exact xt_lret rfl rfl rfl ⟨rfl, rfl⟩
    · replace h := zif_f (p := x1.toInt ≤ x7.toInt) hb h
      refine xt_pure rfl rfl rfl (st1 := .long 1 :: _) rfl ?_
      refine xt_pure rfl rfl rfl rfl ?_
      cases h
      exact xt_lret rfl rfl rfl ⟨rfl, rfl⟩
  replace h := zif_f (p := v1 = 19) hw11 h
  by_cases hw12 : v1 = 20
  · replace h := zif_t (p := v1 = 20) hw12 h
    refine zt_sw (tg := 45) rfl rfl rfl hw12 rfl ?_
    refine xt_pure rfl rfl rfl rfl ?_
    refine xt_pure rfl rfl rfl rfl ?_
    refine zt_lc rfl rfl rfl (fun hb => ?_) (fun hb => ?_)
    · replace h := zif_t (p := x7.toInt ≤ x1.toInt) hb h
      refine xt_pure rfl rfl rfl (st1 := .long 0 :: _) rfl ?_
      cases h
      exact xt_lret rfl rfl rfl ⟨rfl, rfl⟩
    · replace h := zif_f (p := x7.toInt ≤ x1.toInt) hb h
      refine xt_pure rfl rfl rfl (st1 := .long 1 :: _) rfl ?_
      refine xt_pure rfl rfl rfl rfl ?_
      cases h
      exact xt_lret rfl rfl rfl ⟨rfl, rfl⟩
  replace h := zif_f (p := v1 = 20) hw12 h
  by_cases hw13 : v1 = 21
  · replace h := zif_t (p := v1 = 21) hw13 h
    refine zt_sw (tg := 53) rfl rfl rfl hw13 rfl ?_
    refine xt_pure rfl rfl rfl rfl ?_
    refine xt_pure rfl rfl rfl rfl ?_
    refine xt_pure rfl rfl rfl rfl ?_
    cases h
    exact xt_lret rfl rfl rfl ⟨rfl, rfl⟩
  replace h := zif_f (p := v1 = 21) hw13 h
  by_cases hw14 : v1 = 22
  · replace h := zif_t (p := v1 = 22) hw14 h
    refine zt_sw (tg := 57) rfl rfl rfl hw14 rfl ?_
    refine xt_pure rfl rfl rfl rfl ?_
    refine xt_pure rfl rfl rfl rfl ?_
    refine xt_pure rfl rfl rfl rfl ?_
    cases h
    exact xt_lret rfl rfl rfl ⟨rfl, rfl⟩
  replace h := zif_f (p := v1 = 22) hw14 h
  by_cases hw15 : v1 = 23
  · replace h := zif_t (p := v1 = 23) hw15 h
    refine zt_sw (tg := 61) rfl rfl rfl hw15 rfl ?_
    refine xt_pure rfl rfl rfl rfl ?_
    refine xt_pure rfl rfl rfl rfl ?_
    refine xt_pure rfl rfl rfl rfl ?_
    cases h
    exact xt_lret rfl rfl rfl ⟨rfl, rfl⟩
  replace h := zif_f (p := v1 = 23) hw15 h
  have hxhw10 : ¬ v1.toInt = 18 := fun h => hw10 (by rw [xi32_eq, h]; rfl)
  have hxhw11 : ¬ v1.toInt = 19 := fun h => hw11 (by rw [xi32_eq, h]; rfl)
  have hxhw12 : ¬ v1.toInt = 20 := fun h => hw12 (by rw [xi32_eq, h]; rfl)
  have hxhw13 : ¬ v1.toInt = 21 := fun h => hw13 (by rw [xi32_eq, h]; rfl)
  have hxhw14 : ¬ v1.toInt = 22 := fun h => hw14 (by rw [xi32_eq, h]; rfl)
  have hxhw15 : ¬ v1.toInt = 23 := fun h => hw15 (by rw [xi32_eq, h]; rfl)
  refine yt_tsd rfl rfl (by omega) rfl ?_
  refine xt_pure rfl rfl rfl rfl ?_
  refine xt_pure rfl rfl rfl (st1 := .long 0 :: _) rfl ?_
  refine zt_lc rfl rfl rfl (fun hb => ?_) (fun hb => ?_)
  · replace h := zif_t (p := x1 ≠ (0 : Int64)) hb h
    refine xt_pure rfl rfl rfl rfl ?_
    refine xt_pure rfl rfl rfl (st1 := .int 24 :: _) rfl ?_
    refine xt_ic rfl rfl (fun hb => ?_) (fun hb => ?_)
    · replace h := zif_t (p := v1 ≠ (24 : Int32)) hb h
      refine xt_pure rfl rfl rfl rfl ?_
      refine xt_pure rfl rfl rfl rfl ?_
      obtain ⟨hz, h⟩ := zgd h
      refine xt_pure rfl rfl rfl (if_neg hz) ?_
      cases h
      exact xt_lret rfl rfl rfl ⟨rfl, rfl⟩
    · replace h := zif_f (p := v1 ≠ (24 : Int32)) hb h
      refine xt_pure rfl rfl rfl rfl ?_
      refine xt_pure rfl rfl rfl rfl ?_
      obtain ⟨hz, h⟩ := zgd h
      refine xt_pure rfl rfl rfl (if_neg hz) ?_
      refine xt_pure rfl rfl rfl rfl ?_
      cases h
      exact xt_lret rfl rfl rfl ⟨rfl, rfl⟩
  · replace h := zif_f (p := x1 ≠ (0 : Int64)) hb h
    refine xt_pure rfl rfl rfl rfl ?_
    refine xt_pure rfl rfl rfl (st1 := .int 4 :: _) rfl ?_
    obtain ⟨_, S17, hc18, h⟩ := zbi h
    refine zt_Vv rfl rfl rfl rfl (xmC 142 rfl) ⟨rfl, rfl, yle rfl, yle rfl⟩ (m := 2) rfl ⟨by omega, by omega⟩ (tcE_fail hW2 hW3 hL0 hL1 hG hA0 hA1 (by omega) (by omega) hc18) (fr1 := fr - 1) (lo1 := lo - 21) ?_
    refine xt_pure rfl rfl rfl (st1 := .long 0 :: _) rfl ?_
    cases h
    exact xt_lret rfl rfl rfl ⟨rfl, rfl⟩
def cE_isOf (gi : Nat → Int32) (ga : Nat → List Int32) (As : List (Option zO)) (ne : Int32) (am : List Int64)  (N : Nat) (op0 : zO) (v1 : Int32) (S : zS) : Option (Int32 × zS) := (if op0.1 = v1 then some (1, S) else (if op0.1 ≠ (6 : Int32) then some (0, S) else (if v1 ≠ (5 : Int32) then some (0, S) else some (1, S))))
theorem tcE_isOf {X : List Int32} {D0 : List xE} {fa aa : Nat} {p : Nat → Nat} {gi : Nat → Int32} {ga : Nat → List Int32} {refs : List Value} {As : List (Option zO)} {ne : Int32} {am : List Int64} (hW2 : ((110, .inl (10, 2, .ref fa)) : xE) ∈ D0) (hW3 : ((110, .inl (10, 3, .ref aa)) : xE) ∈ D0) (hL0 : ((106, .inl (5, 2, .int ne)) : xE) ∈ D0) (hL1 : ((107, .inr (1, am.map Value.long)) : xE) ∈ D0) (hG : ∀ e ∈ zgE fa p gi ga, e ∈ D0) (hA0 : ((aa, .inr (7, refs)) : xE) ∈ D0) (hA1 : ∀ {j : Int32} {z : Option zO}, gI As j = some z → ∃ v, gI refs j = some v ∧ zVC D0 v z)  {N fr lo : Nat} (hf : 0 ≤ fr) (hl : 0 ≤ lo) {oap0 : Nat} {op0 : zO}  {v1 : Int32} {S S2 : zS} {r : Int32} (hop0 : zOC D0 oap0 op0) (h : cE_isOf gi ga As ne am N op0 v1 S = some (r, S2)) : yK X fr lo 102 [.ref oap0, .int v1] (zD zTE zaE S D0) 0 0 (zQi zTE zaE D0 r S2) := by
  unfold cE_isOf at h
  have hkp0 := hop0
  obtain ⟨iap0, rap0, rrp0, q0p0, q1p0, q2p0, q3p0, q4p0, q5p0, q6p0⟩ := hkp0
  refine yK.of rfl (yle rfl) (L := [_, _]) rfl ?_
  refine xt_pure rfl rfl rfl rfl ?_
  refine xt_getf rfl rfl (zmr q0p0) ?_
  refine xt_pure rfl rfl rfl rfl ?_
  refine xt_ic rfl rfl (fun hb => ?_) (fun hb => ?_)
  · replace h := zif_t (p := op0.1 = v1) hb h
    refine xt_pure rfl rfl rfl (st1 := .int 1 :: _) rfl ?_
    refine xt_pure rfl rfl rfl rfl ?_
    cases h
    exact xt_iret rfl rfl rfl rfl ⟨rfl, rfl⟩
  · replace h := zif_f (p := op0.1 = v1) hb h
    refine xt_pure rfl rfl rfl rfl ?_
    refine xt_getf rfl rfl (zmr q0p0) ?_
    refine xt_pure rfl rfl rfl (st1 := .int 6 :: _) rfl ?_
    refine xt_ic rfl rfl (fun hb => ?_) (fun hb => ?_)
    · replace h := zif_t (p := op0.1 ≠ (6 : Int32)) hb h
      refine xt_pure rfl rfl rfl (st1 := .int 0 :: _) rfl ?_
      cases h
      exact xt_iret rfl rfl rfl rfl ⟨rfl, rfl⟩
    · replace h := zif_f (p := op0.1 ≠ (6 : Int32)) hb h
      refine xt_pure rfl rfl rfl rfl ?_
      refine xt_pure rfl rfl rfl (st1 := .int 5 :: _) rfl ?_
      refine xt_ic rfl rfl (fun hb => ?_) (fun hb => ?_)
      · replace h := zif_t (p := v1 ≠ (5 : Int32)) hb h
        refine xt_pure rfl rfl rfl (st1 := .int 0 :: _) rfl ?_
        cases h
        exact xt_iret rfl rfl rfl rfl ⟨rfl, rfl⟩
      · replace h := zif_f (p := v1 ≠ (5 : Int32)) hb h
        refine xt_pure rfl rfl rfl (st1 := .int 1 :: _) rfl ?_
        refine xt_pure rfl rfl rfl rfl ?_
        cases h
        exact xt_iret rfl rfl rfl rfl ⟨rfl, rfl⟩
def cE_holds (gi : Nat → Int32) (ga : Nat → List Int32) (As : List (Option zO)) (ne : Int32) (am : List Int64)  (N : Nat) (op0 : zO) (v1 : Int32) (S : zS) : Option (Int32 × zS) := (if v1.toInt < 0 then some (0, S) else (if op0.2.1.toInt ≤ v1.toInt then some (0, S) else some (1, S)))
theorem tcE_holds {X : List Int32} {D0 : List xE} {fa aa : Nat} {p : Nat → Nat} {gi : Nat → Int32} {ga : Nat → List Int32} {refs : List Value} {As : List (Option zO)} {ne : Int32} {am : List Int64} (hW2 : ((110, .inl (10, 2, .ref fa)) : xE) ∈ D0) (hW3 : ((110, .inl (10, 3, .ref aa)) : xE) ∈ D0) (hL0 : ((106, .inl (5, 2, .int ne)) : xE) ∈ D0) (hL1 : ((107, .inr (1, am.map Value.long)) : xE) ∈ D0) (hG : ∀ e ∈ zgE fa p gi ga, e ∈ D0) (hA0 : ((aa, .inr (7, refs)) : xE) ∈ D0) (hA1 : ∀ {j : Int32} {z : Option zO}, gI As j = some z → ∃ v, gI refs j = some v ∧ zVC D0 v z)  {N fr lo : Nat} (hf : 0 ≤ fr) (hl : 0 ≤ lo) {oap0 : Nat} {op0 : zO}  {v1 : Int32} {S S2 : zS} {r : Int32} (hop0 : zOC D0 oap0 op0) (h : cE_holds gi ga As ne am N op0 v1 S = some (r, S2)) : yK X fr lo 99 [.ref oap0, .int v1] (zD zTE zaE S D0) 0 0 (zQi zTE zaE D0 r S2) := by
  unfold cE_holds at h
  have hkp0 := hop0
  obtain ⟨iap0, rap0, rrp0, q0p0, q1p0, q2p0, q3p0, q4p0, q5p0, q6p0⟩ := hkp0
  refine yK.of rfl (yle rfl) (L := [_, _]) rfl ?_
  refine xt_pure rfl rfl rfl rfl ?_
  refine xt_if rfl rfl (fun hb => ?_) (fun hb => ?_)
  · replace h := zif_t (p := v1.toInt < 0) hb h
    refine xt_pure rfl rfl rfl (st1 := .int 0 :: _) rfl ?_
    cases h
    exact xt_iret rfl rfl rfl rfl ⟨rfl, rfl⟩
  · replace h := zif_f (p := v1.toInt < 0) hb h
    refine xt_pure rfl rfl rfl rfl ?_
    refine xt_pure rfl rfl rfl rfl ?_
    refine xt_getf rfl rfl (zmr q1p0) ?_
    refine xt_ic rfl rfl (fun hb => ?_) (fun hb => ?_)
    · replace h := zif_t (p := op0.2.1.toInt ≤ v1.toInt) hb h
      refine xt_pure rfl rfl rfl (st1 := .int 0 :: _) rfl ?_
      cases h
      exact xt_iret rfl rfl rfl rfl ⟨rfl, rfl⟩
    · replace h := zif_f (p := op0.2.1.toInt ≤ v1.toInt) hb h
      refine xt_pure rfl rfl rfl (st1 := .int 1 :: _) rfl ?_
      refine xt_pure rfl rfl rfl rfl ?_
      cases h
      exact xt_iret rfl rfl rfl rfl ⟨rfl, rfl⟩
def cE_trues_4 (gi : Nat → Int32) (ga : Nat → List Int32) (As : List (Option zO)) (ne : Int32) (am : List Int64)  (N : Nat)  : Nat → zO → Int32 → Int32 → zS → Option (Int32 × zS)
  | 0, _, _, _, _ => none
  | n + 1, ol0, l1, l2, S => (if ol0.2.1.toInt ≤ l2.toInt then some (l1, S) else (if (Int32.ofNat ol0.2.2.1.length).toInt ≤ l2.toInt then some (l1, S) else (zg (gI ol0.2.2.1 l2) fun x1 => (if x1 = (0 : Int64) then (cE_trues_4 gi ga As ne am N n) ol0 (l1 + 0) (l2 + 1) S else (cE_trues_4 gi ga As ne am N n) ol0 (l1 + 1) (l2 + 1) S))))
theorem tcE_trues_4 {X : List Int32} {D0 : List xE} {fa aa : Nat} {p : Nat → Nat} {gi : Nat → Int32} {ga : Nat → List Int32} {refs : List Value} {As : List (Option zO)} {ne : Int32} {am : List Int64} (hW2 : ((110, .inl (10, 2, .ref fa)) : xE) ∈ D0) (hW3 : ((110, .inl (10, 3, .ref aa)) : xE) ∈ D0) (hL0 : ((106, .inl (5, 2, .int ne)) : xE) ∈ D0) (hL1 : ((107, .inr (1, am.map Value.long)) : xE) ∈ D0) (hG : ∀ e ∈ zgE fa p gi ga, e ∈ D0) (hA0 : ((aa, .inr (7, refs)) : xE) ∈ D0) (hA1 : ∀ {j : Int32} {z : Option zO}, gI As j = some z → ∃ v, gI refs j = some v ∧ zVC D0 v z)  {N fr lo : Nat}   (hf : 0 ≤ fr) (hl : 0 ≤ lo)  : ∀ {n : Nat} {oal0 : Nat} {ol0 : zO}  {l1 : Int32} {l2 : Int32}  {S S2 : zS} {r : Int32} (hol0 : zOC D0 oal0 ol0), cE_trues_4 gi ga As ne am N n ol0 l1 l2 S = some (r, S2) → yT X fr lo 148 4 [some (.ref oal0), some (.int l1), some (.int l2)] [] (zD zTE zaE S D0) 0 0 (zQi zTE zaE D0 r S2) := by
  intro n
  induction n with
  | zero =>
    intro oal0 ol0 l1 l2  S S2 r hol0  h
    have h : (none : Option (Int32 × zS)) = some (r, S2) := h
    cases h
  | succ n ih =>
    intro oal0 ol0 l1 l2  S S2 r hol0  h
    rw [cE_trues_4] at h
    have hkl0 := hol0
    obtain ⟨ial0, ral0, rrl0, q0l0, q1l0, q2l0, q3l0, q4l0, q5l0, q6l0⟩ := hkl0
    refine xt_pure rfl rfl rfl rfl ?_
    refine xt_pure rfl rfl rfl rfl ?_
    refine xt_getf rfl rfl (zmr q1l0) ?_
    refine xt_ic rfl rfl (fun hb => ?_) (fun hb => ?_)
    · replace h := zif_t (p := ol0.2.1.toInt ≤ l2.toInt) hb h
      refine xt_pure rfl rfl rfl rfl ?_
      cases h
      exact xt_iret rfl rfl rfl rfl ⟨rfl, rfl⟩
    · replace h := zif_f (p := ol0.2.1.toInt ≤ l2.toInt) hb h
      refine xt_pure rfl rfl rfl rfl ?_
      refine xt_pure rfl rfl rfl rfl ?_
      refine xt_getf rfl rfl (zmr q2l0) ?_
      refine zr_lenJ (l := ol0.2.2.1) rfl rfl (zmr q4l0) rfl ?_
      refine xt_ic rfl rfl (fun hb => ?_) (fun hb => ?_)
      · replace h := zif_t (p := (Int32.ofNat ol0.2.2.1.length).toInt ≤ l2.toInt) hb h
        refine xt_pure rfl rfl rfl rfl ?_
        cases h
        exact xt_iret rfl rfl rfl rfl ⟨rfl, rfl⟩
      · replace h := zif_f (p := (Int32.ofNat ol0.2.2.1.length).toInt ≤ l2.toInt) hb h
        refine xt_pure rfl rfl rfl rfl ?_
        refine xt_pure rfl rfl rfl rfl ?_
        refine xt_getf rfl rfl (zmr q2l0) ?_
        refine xt_pure rfl rfl rfl rfl ?_
        obtain ⟨x1, hx1, h⟩ := zgi h
        refine zr_lld (l := ol0.2.2.1) rfl rfl (zmr q4l0) hx1 ?_
        refine xt_pure rfl rfl rfl (st1 := .long 0 :: _) rfl ?_
        refine zt_lc rfl rfl rfl (fun hb => ?_) (fun hb => ?_)
        · replace h := zif_t (p := x1 = (0 : Int64)) hb h
          refine xt_pure rfl rfl rfl (st1 := .int 0 :: _) rfl ?_
          refine xt_pure rfl rfl rfl rfl ?_
          refine xt_pure rfl rfl rfl (L1 := [_, _, _]) rfl ?_
          refine xt_pure rfl rfl rfl (L1 := [_, _, some (.int (_ + 1))]) rfl ?_
          refine xt_pure rfl rfl rfl rfl ?_
          exact ih hol0 h
        · replace h := zif_f (p := x1 = (0 : Int64)) hb h
          refine xt_pure rfl rfl rfl (st1 := .int 1 :: _) rfl ?_
          refine xt_pure rfl rfl rfl rfl ?_
          refine xt_pure rfl rfl rfl rfl ?_
          refine xt_pure rfl rfl rfl (L1 := [_, _, _]) rfl ?_
          refine xt_pure rfl rfl rfl (L1 := [_, _, some (.int (_ + 1))]) rfl ?_
          refine xt_pure rfl rfl rfl rfl ?_
          exact ih hol0 h
def cE_trues (gi : Nat → Int32) (ga : Nat → List Int32) (As : List (Option zO)) (ne : Int32) (am : List Int64)  (N : Nat) (op0 : zO) (S : zS) : Option (Int32 × zS) := cE_trues_4 gi ga As ne am N N op0 0 0 S
theorem tcE_trues {X : List Int32} {D0 : List xE} {fa aa : Nat} {p : Nat → Nat} {gi : Nat → Int32} {ga : Nat → List Int32} {refs : List Value} {As : List (Option zO)} {ne : Int32} {am : List Int64} (hW2 : ((110, .inl (10, 2, .ref fa)) : xE) ∈ D0) (hW3 : ((110, .inl (10, 3, .ref aa)) : xE) ∈ D0) (hL0 : ((106, .inl (5, 2, .int ne)) : xE) ∈ D0) (hL1 : ((107, .inr (1, am.map Value.long)) : xE) ∈ D0) (hG : ∀ e ∈ zgE fa p gi ga, e ∈ D0) (hA0 : ((aa, .inr (7, refs)) : xE) ∈ D0) (hA1 : ∀ {j : Int32} {z : Option zO}, gI As j = some z → ∃ v, gI refs j = some v ∧ zVC D0 v z)  {N fr lo : Nat} (hf : 0 ≤ fr) (hl : 0 ≤ lo) {oap0 : Nat} {op0 : zO}  {S S2 : zS} {r : Int32} (hop0 : zOC D0 oap0 op0) (h : cE_trues gi ga As ne am N op0 S = some (r, S2)) : yK X fr lo 148 [.ref oap0] (zD zTE zaE S D0) 0 0 (zQi zTE zaE D0 r S2) := by
  unfold cE_trues at h
  have hkp0 := hop0
  obtain ⟨iap0, rap0, rrp0, q0p0, q1p0, q2p0, q3p0, q4p0, q5p0, q6p0⟩ := hkp0
  refine yK.of rfl (yle rfl) (L := [_, _, _]) rfl ?_
  refine xt_pure rfl rfl rfl (st1 := .int 0 :: _) rfl ?_
  refine xt_pure rfl rfl rfl (L1 := [_, _, _]) rfl ?_
  refine xt_pure rfl rfl rfl (st1 := .int 0 :: _) rfl ?_
  refine xt_pure rfl rfl rfl (L1 := [_, _, _]) rfl ?_
  exact tcE_trues_4 hW2 hW3 hL0 hL1 hG hA0 hA1 hf hl hop0 h
def cE_isOfSort (gi : Nat → Int32) (ga : Nat → List Int32) (As : List (Option zO)) (ne : Int32) (am : List Int64)  (N : Nat) (zp0 : Option zO) (v1 : Int32) (S : zS) : Option (Int32 × zS) := (zo zp0 (some (0, S)) fun op0 => (zb (cE_isOf gi ga As ne am N op0 v1 S) fun x1 S2 => (if x1 = (0 : Int32) then some (0, S2) else some (1, S2))))
theorem tcE_isOfSort {X : List Int32} {D0 : List xE} {fa aa : Nat} {p : Nat → Nat} {gi : Nat → Int32} {ga : Nat → List Int32} {refs : List Value} {As : List (Option zO)} {ne : Int32} {am : List Int64} (hW2 : ((110, .inl (10, 2, .ref fa)) : xE) ∈ D0) (hW3 : ((110, .inl (10, 3, .ref aa)) : xE) ∈ D0) (hL0 : ((106, .inl (5, 2, .int ne)) : xE) ∈ D0) (hL1 : ((107, .inr (1, am.map Value.long)) : xE) ∈ D0) (hG : ∀ e ∈ zgE fa p gi ga, e ∈ D0) (hA0 : ((aa, .inr (7, refs)) : xE) ∈ D0) (hA1 : ∀ {j : Int32} {z : Option zO}, gI As j = some z → ∃ v, gI refs j = some v ∧ zVC D0 v z)  {N fr lo : Nat} (hf : 1 ≤ fr) (hl : 21 ≤ lo) {vp0 : Value} {zp0 : Option zO}  {v1 : Int32} {S S2 : zS} {r : Int32} (hvp0 : zVC D0 vp0 zp0) (h : cE_isOfSort gi ga As ne am N zp0 v1 S = some (r, S2)) : yK X fr lo 139 [vp0, .int v1] (zD zTE zaE S D0) 0 0 (zQi zTE zaE D0 r S2) := by
  unfold cE_isOfSort at h
  rcases zp0 with _ | op0
  · obtain rfl : vp0 = Value.null := hvp0
    replace h := zon h
    refine yK.of rfl (yle rfl) (L := [_, _]) rfl ?_
    refine xt_pure rfl rfl rfl rfl ?_
    refine xt_pure rfl rfl rfl rfl ?_
    refine xt_pure rfl rfl rfl (st1 := .int 0 :: _) rfl ?_
    cases h
    exact xt_iret rfl rfl rfl rfl ⟨rfl, rfl⟩
  · obtain ⟨oap0, rfl, hop0⟩ := hvp0
    replace h := zos h
    have hkp0 := hop0
    obtain ⟨iap0, rap0, rrp0, q0p0, q1p0, q2p0, q3p0, q4p0, q5p0, q6p0⟩ := hkp0
    refine yK.of rfl (yle rfl) (L := [_, _]) rfl ?_
    refine xt_pure rfl rfl rfl rfl ?_
    refine xt_pure rfl rfl rfl rfl ?_
    refine xt_pure rfl rfl rfl rfl ?_
    refine xt_pure rfl rfl rfl rfl ?_
    obtain ⟨x1, S2, hc3, h⟩ := zbi h
    refine zt_Vi rfl rfl rfl rfl (zmr q0p0) ⟨rfl, rfl, yle rfl, yle rfl⟩ (m := 2) rfl ⟨by omega, by omega⟩ (tcE_isOf hW2 hW3 hL0 hL1 hG hA0 hA1 (by omega) (by omega) hop0 hc3) (fr1 := fr - 1) (lo1 := lo - 21) ?_
    refine xt_if rfl rfl (fun hb => ?_) (fun hb => ?_)
    · replace h := zif_t (p := x1 = (0 : Int32)) hb h
      refine xt_pure rfl rfl rfl (st1 := .int 0 :: _) rfl ?_
      cases h
      exact xt_iret rfl rfl rfl rfl ⟨rfl, rfl⟩
    · replace h := zif_f (p := x1 = (0 : Int32)) hb h
      refine xt_pure rfl rfl rfl (st1 := .int 1 :: _) rfl ?_
      refine xt_pure rfl rfl rfl rfl ?_
      cases h
      exact xt_iret rfl rfl rfl rfl ⟨rfl, rfl⟩
def cE_wanted (gi : Nat → Int32) (ga : Nat → List Int32) (As : List (Option zO)) (ne : Int32) (am : List Int64)  (N : Nat) (v0 : Int32) (v1 : Int32) (S : zS) : Option (Int32 × zS) := (if v0 = (13 : Int32) then some (4, S) else (if v0 ≠ (14 : Int32) then (if v0 ≠ (7 : Int32) then (zg (gI xas v1) fun x1 => some (x1, S)) else (if v1 ≠ (10 : Int32) then (zg (gI xas v1) fun x2 => some (x2, S)) else some (7, S))) else some (4, S)))
theorem tcE_wanted {X : List Int32} {D0 : List xE} {fa aa : Nat} {p : Nat → Nat} {gi : Nat → Int32} {ga : Nat → List Int32} {refs : List Value} {As : List (Option zO)} {ne : Int32} {am : List Int64} (hW2 : ((110, .inl (10, 2, .ref fa)) : xE) ∈ D0) (hW3 : ((110, .inl (10, 3, .ref aa)) : xE) ∈ D0) (hL0 : ((106, .inl (5, 2, .int ne)) : xE) ∈ D0) (hL1 : ((107, .inr (1, am.map Value.long)) : xE) ∈ D0) (hG : ∀ e ∈ zgE fa p gi ga, e ∈ D0) (hA0 : ((aa, .inr (7, refs)) : xE) ∈ D0) (hA1 : ∀ {j : Int32} {z : Option zO}, gI As j = some z → ∃ v, gI refs j = some v ∧ zVC D0 v z)  {N fr lo : Nat} (hf : 0 ≤ fr) (hl : 0 ≤ lo) {v0 : Int32} {v1 : Int32} {S S2 : zS} {r : Int32}  (h : cE_wanted gi ga As ne am N v0 v1 S = some (r, S2)) : yK X fr lo 141 [.int v0, .int v1] (zD zTE zaE S D0) 0 0 (zQi zTE zaE D0 r S2) := by
  unfold cE_wanted at h
  refine yK.of rfl (yle rfl) (L := [_, _]) rfl ?_
  refine xt_pure rfl rfl rfl rfl ?_
  refine xt_pure rfl rfl rfl (st1 := .int 13 :: _) rfl ?_
  refine xt_ic rfl rfl (fun hb => ?_) (fun hb => ?_)
  · replace h := zif_t (p := v0 = (13 : Int32)) hb h
    refine xt_pure rfl rfl rfl (st1 := .int 4 :: _) rfl ?_
    cases h
    exact xt_iret rfl rfl rfl rfl ⟨rfl, rfl⟩
  · replace h := zif_f (p := v0 = (13 : Int32)) hb h
    refine xt_pure rfl rfl rfl rfl ?_
    refine xt_pure rfl rfl rfl (st1 := .int 14 :: _) rfl ?_
    refine xt_ic rfl rfl (fun hb => ?_) (fun hb => ?_)
    · replace h := zif_t (p := v0 ≠ (14 : Int32)) hb h
      refine xt_pure rfl rfl rfl rfl ?_
      refine xt_pure rfl rfl rfl (st1 := .int 7 :: _) rfl ?_
      refine xt_ic rfl rfl (fun hb => ?_) (fun hb => ?_)
      · replace h := zif_t (p := v0 ≠ (7 : Int32)) hb h
        refine xt_gets rfl rfl rfl ?_
        refine xt_pure rfl rfl rfl rfl ?_
        obtain ⟨x1, hx1, h⟩ := zgi h
        refine zr_ild (l := xas) rfl rfl (xmC 0 rfl) hx1 ?_
        cases h
        exact xt_iret rfl rfl rfl rfl ⟨rfl, rfl⟩
      · replace h := zif_f (p := v0 ≠ (7 : Int32)) hb h
        refine xt_pure rfl rfl rfl rfl ?_
        refine xt_pure rfl rfl rfl (st1 := .int 10 :: _) rfl ?_
        refine xt_ic rfl rfl (fun hb => ?_) (fun hb => ?_)
        · replace h := zif_t (p := v1 ≠ (10 : Int32)) hb h
          refine xt_gets rfl rfl rfl ?_
          refine xt_pure rfl rfl rfl rfl ?_
          obtain ⟨x2, hx2, h⟩ := zgi h
          refine zr_ild (l := xas) rfl rfl (xmC 0 rfl) hx2 ?_
          cases h
          exact xt_iret rfl rfl rfl rfl ⟨rfl, rfl⟩
        · replace h := zif_f (p := v1 ≠ (10 : Int32)) hb h
          refine xt_pure rfl rfl rfl (st1 := .int 7 :: _) rfl ?_
          refine xt_pure rfl rfl rfl rfl ?_
          cases h
          exact xt_iret rfl rfl rfl rfl ⟨rfl, rfl⟩
    · replace h := zif_f (p := v0 ≠ (14 : Int32)) hb h
      refine xt_pure rfl rfl rfl (st1 := .int 4 :: _) rfl ?_
      cases h
      exact xt_iret rfl rfl rfl rfl ⟨rfl, rfl⟩
def cE_sumOf_4 (gi : Nat → Int32) (ga : Nat → List Int32) (As : List (Option zO)) (ne : Int32) (am : List Int64)  (N : Nat)  : Nat → List Int32 → Int64 → Int32 → zS → Option (Int64 × zS)
  | 0, _, _, _, _ => none
  | n + 1, ol0, l1, l3, S => (if (Int32.ofNat ol0.length).toInt ≤ l3.toInt then some (l1, S) else (zg (gI ol0 l3) fun x1 => (cE_sumOf_4 gi ga As ne am N n) ol0 (l1 + x1.toInt64) (l3 + 1) S))
theorem tcE_sumOf_4 {X : List Int32} {D0 : List xE} {fa aa : Nat} {p : Nat → Nat} {gi : Nat → Int32} {ga : Nat → List Int32} {refs : List Value} {As : List (Option zO)} {ne : Int32} {am : List Int64} (hW2 : ((110, .inl (10, 2, .ref fa)) : xE) ∈ D0) (hW3 : ((110, .inl (10, 3, .ref aa)) : xE) ∈ D0) (hL0 : ((106, .inl (5, 2, .int ne)) : xE) ∈ D0) (hL1 : ((107, .inr (1, am.map Value.long)) : xE) ∈ D0) (hG : ∀ e ∈ zgE fa p gi ga, e ∈ D0) (hA0 : ((aa, .inr (7, refs)) : xE) ∈ D0) (hA1 : ∀ {j : Int32} {z : Option zO}, gI As j = some z → ∃ v, gI refs j = some v ∧ zVC D0 v z)  {N fr lo : Nat}   (hf : 0 ≤ fr) (hl : 0 ≤ lo)  : ∀ {n : Nat} {oal0 : Nat} {ol0 : List Int32}  {l1 : Int64} {l3 : Int32}  {S S2 : zS} {r : Int64} (hol0 : zOW D0 oal0 ol0), cE_sumOf_4 gi ga As ne am N n ol0 l1 l3 S = some (r, S2) → yT X fr lo 144 4 [some (.ref oal0), some (.long l1), none, some (.int l3)] [] (zD zTE zaE S D0) 0 0 (zQl zTE zaE D0 r S2) := by
  intro n
  induction n with
  | zero =>
    intro oal0 ol0 l1 l3  S S2 r hol0  h
    have h : (none : Option (Int64 × zS)) = some (r, S2) := h
    cases h
  | succ n ih =>
    intro oal0 ol0 l1 l3  S S2 r hol0  h
    rw [cE_sumOf_4] at h
    refine xt_pure rfl rfl rfl rfl ?_
    refine xt_pure rfl rfl rfl rfl ?_
    refine zr_lenI (l := ol0) rfl rfl (zmr hol0) rfl ?_
    refine xt_ic rfl rfl (fun hb => ?_) (fun hb => ?_)
    · replace h := zif_t (p := (Int32.ofNat ol0.length).toInt ≤ l3.toInt) hb h
      refine xt_pure rfl rfl rfl rfl ?_
      cases h
      exact xt_lret rfl rfl rfl ⟨rfl, rfl⟩
    · replace h := zif_f (p := (Int32.ofNat ol0.length).toInt ≤ l3.toInt) hb h
      refine xt_pure rfl rfl rfl rfl ?_
      refine xt_pure rfl rfl rfl rfl ?_
      refine xt_pure rfl rfl rfl rfl ?_
      obtain ⟨x1, hx1, h⟩ := zgi h
      refine zr_ild (l := ol0) rfl rfl (zmr hol0) hx1 ?_
      refine xt_pure rfl rfl rfl rfl ?_
      refine xt_pure rfl rfl rfl rfl ?_
      refine xt_pure rfl rfl rfl (L1 := [_, _, _, _]) rfl ?_
      refine xt_pure rfl rfl rfl (L1 := [_, _, _, some (.int (_ + 1))]) rfl ?_
      refine xt_pure rfl rfl rfl rfl ?_
      exact ih hol0 h
def cE_sumOf (gi : Nat → Int32) (ga : Nat → List Int32) (As : List (Option zO)) (ne : Int32) (am : List Int64)  (N : Nat) (op0 : List Int32) (S : zS) : Option (Int64 × zS) := cE_sumOf_4 gi ga As ne am N N op0 0 0 S
theorem tcE_sumOf {X : List Int32} {D0 : List xE} {fa aa : Nat} {p : Nat → Nat} {gi : Nat → Int32} {ga : Nat → List Int32} {refs : List Value} {As : List (Option zO)} {ne : Int32} {am : List Int64} (hW2 : ((110, .inl (10, 2, .ref fa)) : xE) ∈ D0) (hW3 : ((110, .inl (10, 3, .ref aa)) : xE) ∈ D0) (hL0 : ((106, .inl (5, 2, .int ne)) : xE) ∈ D0) (hL1 : ((107, .inr (1, am.map Value.long)) : xE) ∈ D0) (hG : ∀ e ∈ zgE fa p gi ga, e ∈ D0) (hA0 : ((aa, .inr (7, refs)) : xE) ∈ D0) (hA1 : ∀ {j : Int32} {z : Option zO}, gI As j = some z → ∃ v, gI refs j = some v ∧ zVC D0 v z)  {N fr lo : Nat} (hf : 0 ≤ fr) (hl : 0 ≤ lo) {oap0 : Nat} {op0 : List Int32}  {S S2 : zS} {r : Int64} (hop0 : zOW D0 oap0 op0) (h : cE_sumOf gi ga As ne am N op0 S = some (r, S2)) : yK X fr lo 144 [.ref oap0] (zD zTE zaE S D0) 0 0 (zQl zTE zaE D0 r S2) := by
  unfold cE_sumOf at h
  refine yK.of rfl (yle rfl) (L := [_, _, _, _]) rfl ?_
  refine xt_pure rfl rfl rfl (st1 := .long 0 :: _) rfl ?_
  refine xt_pure rfl rfl rfl (L1 := [_, _, _, _]) rfl ?_
  refine xt_pure rfl rfl rfl (st1 := .int 0 :: _) rfl ?_
  refine xt_pure rfl rfl rfl (L1 := [_, _, _, _]) rfl ?_
  exact tcE_sumOf_4 hW2 hW3 hL0 hL1 hG hA0 hA1 hf hl hop0 h
def cE_worthAt_33 (gi : Nat → Int32) (ga : Nat → List Int32) (As : List (Option zO)) (ne : Int32) (am : List Int64)  (N : Nat)  (ol1 : zO) (l2 : Int32) (s1 : Int32) (S : zS) : Option (Int64 × zS) := (zg (gI ol1.2.2.2 l2) fun z4 => (zo z4 (some (0, (zsI S 1 s1))) fun o4 => (zg (gI ol1.2.2.2 l2) fun z5 => (zo z5 (none) fun o5 => some ((Int32.ofNat o5.length).toInt64, (zsI S 1 s1))))))
theorem tcE_worthAt_33 {X : List Int32} {D0 : List xE} {fa aa : Nat} {p : Nat → Nat} {gi : Nat → Int32} {ga : Nat → List Int32} {refs : List Value} {As : List (Option zO)} {ne : Int32} {am : List Int64} (hW2 : ((110, .inl (10, 2, .ref fa)) : xE) ∈ D0) (hW3 : ((110, .inl (10, 3, .ref aa)) : xE) ∈ D0) (hL0 : ((106, .inl (5, 2, .int ne)) : xE) ∈ D0) (hL1 : ((107, .inr (1, am.map Value.long)) : xE) ∈ D0) (hG : ∀ e ∈ zgE fa p gi ga, e ∈ D0) (hA0 : ((aa, .inr (7, refs)) : xE) ∈ D0) (hA1 : ∀ {j : Int32} {z : Option zO}, gI As j = some z → ∃ v, gI refs j = some v ∧ zVC D0 v z)  {N fr lo : Nat}   (hf : 0 ≤ fr) (hl : 0 ≤ lo) {oal1 : Nat} {ol1 : zO}  {l2 : Int32} {s1 : Int32}  {S S2 : zS} {r : Int64} (hol1 : zOC D0 oal1 ol1) (h : cE_worthAt_33 gi ga As ne am N ol1 l2 s1 S = some (r, S2)) : yT X fr lo 143 33 [some (.ref 110), some (.ref oal1), some (.int l2), none, none] [.int s1, .ref 110] (zD zTE zaE S D0) 0 0 (zQl zTE zaE D0 r S2) := by
  unfold cE_worthAt_33 at h
  have hkl1 := hol1
  obtain ⟨ial1, ral1, rrl1, q0l1, q1l1, q2l1, q3l1, q4l1, q5l1, q6l1⟩ := hkl1
  refine zt_pI 1 rfl rfl rfl rfl rfl rfl ?_
  refine xt_pure rfl rfl rfl rfl ?_
  refine xt_getf rfl rfl (zmr q3l1) ?_
  refine xt_pure rfl rfl rfl rfl ?_
  obtain ⟨z4, hz4, h⟩ := zgi h
  obtain ⟨v4, hw4, hv4⟩ := q6l1 hz4
  refine zr_ald (l := rrl1) rfl rfl ⟨by decide, rfl⟩ (zmr q5l1) hw4 ?_
  rcases z4 with _ | o4
  · obtain rfl : v4 = Value.null := hv4
    replace h := zon h
    refine xt_pure rfl rfl rfl rfl ?_
    refine xt_pure rfl rfl rfl (st1 := .long 0 :: _) rfl ?_
    refine xt_pure rfl rfl rfl rfl ?_
    cases h
    exact xt_lret rfl rfl rfl ⟨rfl, rfl⟩
  · obtain ⟨oa4, rfl, ho4⟩ := hv4
    replace h := zos h
    refine xt_pure rfl rfl rfl rfl ?_
    refine xt_pure rfl rfl rfl rfl ?_
    refine xt_getf rfl rfl (zmr q3l1) ?_
    refine xt_pure rfl rfl rfl rfl ?_
    obtain ⟨z5, hz5, h⟩ := zgi h
    obtain ⟨v5, hw5, hv5⟩ := q6l1 hz5
    refine zr_ald (l := rrl1) rfl rfl ⟨by decide, rfl⟩ (zmr q5l1) hw5 ?_
    rcases z5 with _ | o5
    · obtain rfl : v5 = Value.null := hv5
      replace h := zon h
      cases h
    · obtain ⟨oa5, rfl, ho5⟩ := hv5
      replace h := zos h
      refine zr_lenI (l := o5) rfl rfl (zmr ho5) rfl ?_
      refine xt_pure rfl rfl rfl rfl ?_
      cases h
      exact xt_lret rfl rfl rfl ⟨rfl, rfl⟩
def cE_worthAt (gi : Nat → Int32) (ga : Nat → List Int32) (As : List (Option zO)) (ne : Int32) (am : List Int64)  (N : Nat) (op1 : zO) (v2 : Int32) (S : zS) : Option (Int64 × zS) := (if v2.toInt < 0 then some (0, (zsI S 1 3)) else (if v2.toInt < op1.2.1.toInt then (if 4 ≤ op1.1.toInt then (if op1.1 ≠ (4 : Int32) then (zg (gI op1.2.2.1 v2) fun x1 => (if x1.toInt < 0 then some (0, (zsI S 1 1)) else (if x1.toInt < ne.toInt64.toInt then (zg (gI am x1.toInt32) fun x2 => some (x2, S)) else some (0, (zsI S 1 1))))) else (zg (gI op1.2.2.2 v2) fun z3 => (zo z3 (cE_worthAt_33 gi ga As ne am N op1 v2 1 S) fun o3 => cE_worthAt_33 gi ga As ne am N op1 v2 0 S))) else (zg (gI op1.2.2.1 v2) fun x6 => some (x6, S))) else some (0, (zsI S 1 3))))
theorem tcE_worthAt {X : List Int32} {D0 : List xE} {fa aa : Nat} {p : Nat → Nat} {gi : Nat → Int32} {ga : Nat → List Int32} {refs : List Value} {As : List (Option zO)} {ne : Int32} {am : List Int64} (hW2 : ((110, .inl (10, 2, .ref fa)) : xE) ∈ D0) (hW3 : ((110, .inl (10, 3, .ref aa)) : xE) ∈ D0) (hL0 : ((106, .inl (5, 2, .int ne)) : xE) ∈ D0) (hL1 : ((107, .inr (1, am.map Value.long)) : xE) ∈ D0) (hG : ∀ e ∈ zgE fa p gi ga, e ∈ D0) (hA0 : ((aa, .inr (7, refs)) : xE) ∈ D0) (hA1 : ∀ {j : Int32} {z : Option zO}, gI As j = some z → ∃ v, gI refs j = some v ∧ zVC D0 v z)  {N fr lo : Nat} (hf : 0 ≤ fr) (hl : 0 ≤ lo) {oap1 : Nat} {op1 : zO}  {v2 : Int32} {S S2 : zS} {r : Int64} (hop1 : zOC D0 oap1 op1) (h : cE_worthAt gi ga As ne am N op1 v2 S = some (r, S2)) : yK X fr lo 143 [.ref 110, .ref oap1, .int v2] (zD zTE zaE S D0) 0 0 (zQl zTE zaE D0 r S2) := by
  unfold cE_worthAt at h
  have hkp1 := hop1
  obtain ⟨iap1, rap1, rrp1, q0p1, q1p1, q2p1, q3p1, q4p1, q5p1, q6p1⟩ := hkp1
  refine yK.of rfl (yle rfl) (L := [_, _, _, _, _]) rfl ?_
  refine xt_pure rfl rfl rfl rfl ?_
  refine xt_if rfl rfl (fun hb => ?_) (fun hb => ?_)
  · replace h := zif_t (p := v2.toInt < 0) hb h
    refine xt_pure rfl rfl rfl rfl ?_
    refine xt_pure rfl rfl rfl (st1 := .int 3 :: _) rfl ?_
    refine zt_pI 1 rfl rfl rfl rfl rfl rfl ?_
    refine xt_pure rfl rfl rfl (st1 := .long 0 :: _) rfl ?_
    cases h
    exact xt_lret rfl rfl rfl ⟨rfl, rfl⟩
  · replace h := zif_f (p := v2.toInt < 0) hb h
    refine xt_pure rfl rfl rfl rfl ?_
    refine xt_pure rfl rfl rfl rfl ?_
    refine xt_getf rfl rfl (zmr q1p1) ?_
    refine xt_ic rfl rfl (fun hb => ?_) (fun hb => ?_)
    · replace h := zif_t (p := v2.toInt < op1.2.1.toInt) hb h
      refine xt_pure rfl rfl rfl rfl ?_
      refine xt_getf rfl rfl (zmr q0p1) ?_
      refine xt_pure rfl rfl rfl (st1 := .int 4 :: _) rfl ?_
      refine xt_ic rfl rfl (fun hb => ?_) (fun hb => ?_)
      · replace h := zif_t (p := 4 ≤ op1.1.toInt) hb h
        refine xt_pure rfl rfl rfl rfl ?_
        refine xt_getf rfl rfl (zmr q0p1) ?_
        refine xt_pure rfl rfl rfl (st1 := .int 4 :: _) rfl ?_
        refine xt_ic rfl rfl (fun hb => ?_) (fun hb => ?_)
        · replace h := zif_t (p := op1.1 ≠ (4 : Int32)) hb h
          refine xt_pure rfl rfl rfl rfl ?_
          refine xt_getf rfl rfl (zmr q2p1) ?_
          refine xt_pure rfl rfl rfl rfl ?_
          obtain ⟨x1, hx1, h⟩ := zgi h
          refine zr_lld (l := op1.2.2.1) rfl rfl (zmr q4p1) hx1 ?_
          refine xt_pure rfl rfl rfl (L1 := [_, _, _, _, _]) rfl ?_
          refine xt_pure rfl rfl rfl rfl ?_
          refine xt_pure rfl rfl rfl (st1 := .long 0 :: _) rfl ?_
          refine zt_lc rfl rfl rfl (fun hb => ?_) (fun hb => ?_)
          · replace h := zif_t (p := x1.toInt < 0) hb h
            refine xt_pure rfl rfl rfl rfl ?_
            refine xt_pure rfl rfl rfl (st1 := .int 1 :: _) rfl ?_
            refine zt_pI 1 rfl rfl rfl rfl rfl rfl ?_
            refine xt_pure rfl rfl rfl (st1 := .long 0 :: _) rfl ?_
            cases h
            exact xt_lret rfl rfl rfl ⟨rfl, rfl⟩
          · replace h := zif_f (p := x1.toInt < 0) hb h
            refine xt_pure rfl rfl rfl rfl ?_
            refine xt_pure rfl rfl rfl rfl ?_
            refine xt_getf rfl rfl (xmC 142 rfl) ?_
            refine xt_getf rfl rfl (zmr hL0) ?_
            refine xt_pure rfl rfl rfl rfl ?_
            refine zt_lc rfl rfl rfl (fun hb => ?_) (fun hb => ?_)
            · replace h := zif_t (p := x1.toInt < ne.toInt64.toInt) hb h
              refine xt_pure rfl rfl rfl rfl ?_
              refine xt_getf rfl rfl (xmC 142 rfl) ?_
              refine xt_getf rfl rfl (xmC 140 rfl) ?_
              refine xt_pure rfl rfl rfl rfl ?_
              refine xt_pure rfl rfl rfl rfl ?_
              obtain ⟨x2, hx2, h⟩ := zgi h
              refine zr_lld (l := am) rfl rfl (zmr hL1) hx2 ?_
              cases h
              exact xt_lret rfl rfl rfl ⟨rfl, rfl⟩
            · replace h := zif_f (p := x1.toInt < ne.toInt64.toInt) hb h
              refine xt_pure rfl rfl rfl rfl ?_
              refine xt_pure rfl rfl rfl (st1 := .int 1 :: _) rfl ?_
              refine zt_pI 1 rfl rfl rfl rfl rfl rfl ?_
              refine xt_pure rfl rfl rfl (st1 := .long 0 :: _) rfl ?_
              cases h
              exact xt_lret rfl rfl rfl ⟨rfl, rfl⟩
        · replace h := zif_f (p := op1.1 ≠ (4 : Int32)) hb h
          refine xt_pure rfl rfl rfl rfl ?_
          refine xt_pure rfl rfl rfl rfl ?_
          refine xt_getf rfl rfl (zmr q3p1) ?_
          refine xt_pure rfl rfl rfl rfl ?_
          obtain ⟨z3, hz3, h⟩ := zgi h
          obtain ⟨v3, hw3, hv3⟩ := q6p1 hz3
          refine zr_ald (l := rrp1) rfl rfl ⟨by decide, rfl⟩ (zmr q5p1) hw3 ?_
          rcases z3 with _ | o3
          · obtain rfl : v3 = Value.null := hv3
            replace h := zon h
            refine xt_pure rfl rfl rfl rfl ?_
            refine xt_pure rfl rfl rfl (st1 := .int 1 :: _) rfl ?_
            refine xt_pure rfl rfl rfl rfl ?_
            exact tcE_worthAt_33 hW2 hW3 hL0 hL1 hG hA0 hA1 hf hl hop1 h
          · obtain ⟨oa3, rfl, ho3⟩ := hv3
            replace h := zos h
            refine xt_pure rfl rfl rfl rfl ?_
            refine xt_pure rfl rfl rfl (st1 := .int 0 :: _) rfl ?_
            exact tcE_worthAt_33 hW2 hW3 hL0 hL1 hG hA0 hA1 hf hl hop1 h
      · replace h := zif_f (p := 4 ≤ op1.1.toInt) hb h
        refine xt_pure rfl rfl rfl rfl ?_
        refine xt_getf rfl rfl (zmr q2p1) ?_
        refine xt_pure rfl rfl rfl rfl ?_
        obtain ⟨x6, hx6, h⟩ := zgi h
        refine zr_lld (l := op1.2.2.1) rfl rfl (zmr q4p1) hx6 ?_
        cases h
        exact xt_lret rfl rfl rfl ⟨rfl, rfl⟩
    · replace h := zif_f (p := v2.toInt < op1.2.1.toInt) hb h
      refine xt_pure rfl rfl rfl rfl ?_
      refine xt_pure rfl rfl rfl (st1 := .int 3 :: _) rfl ?_
      refine zt_pI 1 rfl rfl rfl rfl rfl rfl ?_
      refine xt_pure rfl rfl rfl (st1 := .long 0 :: _) rfl ?_
      cases h
      exact xt_lret rfl rfl rfl ⟨rfl, rfl⟩
def cE_cellAt (gi : Nat → Int32) (ga : Nat → List Int32) (As : List (Option zO)) (ne : Int32) (am : List Int64)  (N : Nat) (op1 : zO) (v2 : Int32) (v3 : Int32) (S : zS) : Option (Int64 × zS) := (if v2.toInt < 0 then some (0, (zsI S 1 3)) else (if v2.toInt < op1.2.1.toInt then (zg (gI op1.2.2.2 v2) fun z1 => (zo z1 (some (0, (zsI S 1 1))) fun o1 => (if v3.toInt < 0 then some (0, (zsI S 1 3)) else (if v3.toInt < (Int32.ofNat o1.length).toInt then (zg (gI o1 v3) fun x2 => some (x2.toInt64, S)) else some (0, (zsI S 1 3)))))) else some (0, (zsI S 1 3))))
theorem tcE_cellAt {X : List Int32} {D0 : List xE} {fa aa : Nat} {p : Nat → Nat} {gi : Nat → Int32} {ga : Nat → List Int32} {refs : List Value} {As : List (Option zO)} {ne : Int32} {am : List Int64} (hW2 : ((110, .inl (10, 2, .ref fa)) : xE) ∈ D0) (hW3 : ((110, .inl (10, 3, .ref aa)) : xE) ∈ D0) (hL0 : ((106, .inl (5, 2, .int ne)) : xE) ∈ D0) (hL1 : ((107, .inr (1, am.map Value.long)) : xE) ∈ D0) (hG : ∀ e ∈ zgE fa p gi ga, e ∈ D0) (hA0 : ((aa, .inr (7, refs)) : xE) ∈ D0) (hA1 : ∀ {j : Int32} {z : Option zO}, gI As j = some z → ∃ v, gI refs j = some v ∧ zVC D0 v z)  {N fr lo : Nat} (hf : 0 ≤ fr) (hl : 0 ≤ lo) {oap1 : Nat} {op1 : zO}  {v2 : Int32} {v3 : Int32} {S S2 : zS} {r : Int64} (hop1 : zOC D0 oap1 op1) (h : cE_cellAt gi ga As ne am N op1 v2 v3 S = some (r, S2)) : yK X fr lo 146 [.ref 110, .ref oap1, .int v2, .int v3] (zD zTE zaE S D0) 0 0 (zQl zTE zaE D0 r S2) := by
  unfold cE_cellAt at h
  have hkp1 := hop1
  obtain ⟨iap1, rap1, rrp1, q0p1, q1p1, q2p1, q3p1, q4p1, q5p1, q6p1⟩ := hkp1
  refine yK.of rfl (yle rfl) (L := [_, _, _, _, _]) rfl ?_
  refine xt_pure rfl rfl rfl rfl ?_
  refine xt_if rfl rfl (fun hb => ?_) (fun hb => ?_)
  · replace h := zif_t (p := v2.toInt < 0) hb h
    refine xt_pure rfl rfl rfl rfl ?_
    refine xt_pure rfl rfl rfl (st1 := .int 3 :: _) rfl ?_
    refine zt_pI 1 rfl rfl rfl rfl rfl rfl ?_
    refine xt_pure rfl rfl rfl (st1 := .long 0 :: _) rfl ?_
    cases h
    exact xt_lret rfl rfl rfl ⟨rfl, rfl⟩
  · replace h := zif_f (p := v2.toInt < 0) hb h
    refine xt_pure rfl rfl rfl rfl ?_
    refine xt_pure rfl rfl rfl rfl ?_
    refine xt_getf rfl rfl (zmr q1p1) ?_
    refine xt_ic rfl rfl (fun hb => ?_) (fun hb => ?_)
    · replace h := zif_t (p := v2.toInt < op1.2.1.toInt) hb h
      refine xt_pure rfl rfl rfl rfl ?_
      refine xt_getf rfl rfl (zmr q3p1) ?_
      refine xt_pure rfl rfl rfl rfl ?_
      obtain ⟨z1, hz1, h⟩ := zgi h
      obtain ⟨v1, hw1, hv1⟩ := q6p1 hz1
      refine zr_ald (l := rrp1) rfl rfl ⟨by decide, rfl⟩ (zmr q5p1) hw1 ?_
      rcases z1 with _ | o1
      · obtain rfl : v1 = Value.null := hv1
        replace h := zon h
        refine xt_pure rfl rfl rfl (L1 := [_, _, _, _, _]) rfl ?_
        refine xt_pure rfl rfl rfl rfl ?_
        refine xt_pure rfl rfl rfl rfl ?_
        refine xt_pure rfl rfl rfl rfl ?_
        refine xt_pure rfl rfl rfl (st1 := .int 1 :: _) rfl ?_
        refine zt_pI 1 rfl rfl rfl rfl rfl rfl ?_
        refine xt_pure rfl rfl rfl (st1 := .long 0 :: _) rfl ?_
        cases h
        exact xt_lret rfl rfl rfl ⟨rfl, rfl⟩
      · obtain ⟨oa1, rfl, ho1⟩ := hv1
        replace h := zos h
        refine xt_pure rfl rfl rfl (L1 := [_, _, _, _, _]) rfl ?_
        refine xt_pure rfl rfl rfl rfl ?_
        refine xt_pure rfl rfl rfl rfl ?_
        refine xt_pure rfl rfl rfl rfl ?_
        refine xt_if rfl rfl (fun hb => ?_) (fun hb => ?_)
        · replace h := zif_t (p := v3.toInt < 0) hb h
          refine xt_pure rfl rfl rfl rfl ?_
          refine xt_pure rfl rfl rfl (st1 := .int 3 :: _) rfl ?_
          refine zt_pI 1 rfl rfl rfl rfl rfl rfl ?_
          refine xt_pure rfl rfl rfl (st1 := .long 0 :: _) rfl ?_
          cases h
          exact xt_lret rfl rfl rfl ⟨rfl, rfl⟩
        · replace h := zif_f (p := v3.toInt < 0) hb h
          refine xt_pure rfl rfl rfl rfl ?_
          refine xt_pure rfl rfl rfl rfl ?_
          refine zr_lenI (l := o1) rfl rfl (zmr ho1) rfl ?_
          refine xt_ic rfl rfl (fun hb => ?_) (fun hb => ?_)
          · replace h := zif_t (p := v3.toInt < (Int32.ofNat o1.length).toInt) hb h
            refine xt_pure rfl rfl rfl rfl ?_
            refine xt_pure rfl rfl rfl rfl ?_
            obtain ⟨x2, hx2, h⟩ := zgi h
            refine zr_ild (l := o1) rfl rfl (zmr ho1) hx2 ?_
            refine xt_pure rfl rfl rfl rfl ?_
            cases h
            exact xt_lret rfl rfl rfl ⟨rfl, rfl⟩
          · replace h := zif_f (p := v3.toInt < (Int32.ofNat o1.length).toInt) hb h
            refine xt_pure rfl rfl rfl rfl ?_
            refine xt_pure rfl rfl rfl (st1 := .int 3 :: _) rfl ?_
            refine zt_pI 1 rfl rfl rfl rfl rfl rfl ?_
            refine xt_pure rfl rfl rfl (st1 := .long 0 :: _) rfl ?_
            cases h
            exact xt_lret rfl rfl rfl ⟨rfl, rfl⟩
    · replace h := zif_f (p := v2.toInt < op1.2.1.toInt) hb h
      refine xt_pure rfl rfl rfl rfl ?_
      refine xt_pure rfl rfl rfl (st1 := .int 3 :: _) rfl ?_
      refine zt_pI 1 rfl rfl rfl rfl rfl rfl ?_
      refine xt_pure rfl rfl rfl (st1 := .long 0 :: _) rfl ?_
      cases h
      exact xt_lret rfl rfl rfl ⟨rfl, rfl⟩
def cE_columnOf_4 (gi : Nat → Int32) (ga : Nat → List Int32) (As : List (Option zO)) (ne : Int32) (am : List Int64)  (N : Nat)  : Nat → zO → Int32 → Int64 → Int32 → zS → Option (Int64 × zS)
  | 0, _, _, _, _, _ => none
  | n + 1, ol1, l2, l3, l5, S => (if ol1.2.1.toInt ≤ l5.toInt then some (l3, S) else (if (zI S 1) ≠ (0 : Int32) then some (l3, S) else (zb (cE_cellAt gi ga As ne am N ol1 l5 l2 S) fun x1 S2 => (cE_columnOf_4 gi ga As ne am N n) ol1 l2 (l3 + x1) (l5 + 1) S2)))
theorem tcE_columnOf_4 {X : List Int32} {D0 : List xE} {fa aa : Nat} {p : Nat → Nat} {gi : Nat → Int32} {ga : Nat → List Int32} {refs : List Value} {As : List (Option zO)} {ne : Int32} {am : List Int64} (hW2 : ((110, .inl (10, 2, .ref fa)) : xE) ∈ D0) (hW3 : ((110, .inl (10, 3, .ref aa)) : xE) ∈ D0) (hL0 : ((106, .inl (5, 2, .int ne)) : xE) ∈ D0) (hL1 : ((107, .inr (1, am.map Value.long)) : xE) ∈ D0) (hG : ∀ e ∈ zgE fa p gi ga, e ∈ D0) (hA0 : ((aa, .inr (7, refs)) : xE) ∈ D0) (hA1 : ∀ {j : Int32} {z : Option zO}, gI As j = some z → ∃ v, gI refs j = some v ∧ zVC D0 v z)  {N fr lo : Nat}   (hf : 1 ≤ fr) (hl : 24 ≤ lo)  : ∀ {n : Nat} {oal1 : Nat} {ol1 : zO}  {l2 : Int32} {l3 : Int64} {l5 : Int32}  {S S2 : zS} {r : Int64} (hol1 : zOC D0 oal1 ol1), cE_columnOf_4 gi ga As ne am N n ol1 l2 l3 l5 S = some (r, S2) → yT X fr lo 145 4 [some (.ref 110), some (.ref oal1), some (.int l2), some (.long l3), none, some (.int l5)] [] (zD zTE zaE S D0) 0 0 (zQl zTE zaE D0 r S2) := by
  intro n
  induction n with
  | zero =>
    intro oal1 ol1 l2 l3 l5  S S2 r hol1  h
    have h : (none : Option (Int64 × zS)) = some (r, S2) := h
    cases h
  | succ n ih =>
    intro oal1 ol1 l2 l3 l5  S S2 r hol1  h
    rw [cE_columnOf_4] at h
    have hkl1 := hol1
    obtain ⟨ial1, ral1, rrl1, q0l1, q1l1, q2l1, q3l1, q4l1, q5l1, q6l1⟩ := hkl1
    refine xt_pure rfl rfl rfl rfl ?_
    refine xt_pure rfl rfl rfl rfl ?_
    refine xt_getf rfl rfl (zmr q1l1) ?_
    refine xt_ic rfl rfl (fun hb => ?_) (fun hb => ?_)
    · replace h := zif_t (p := ol1.2.1.toInt ≤ l5.toInt) hb h
      refine xt_pure rfl rfl rfl rfl ?_
      cases h
      exact xt_lret rfl rfl rfl ⟨rfl, rfl⟩
    · replace h := zif_f (p := ol1.2.1.toInt ≤ l5.toInt) hb h
      refine xt_pure rfl rfl rfl rfl ?_
      refine zt_gI 1 rfl rfl rfl rfl (x := (zI S 1)) rfl ?_
      refine xt_if rfl rfl (fun hb => ?_) (fun hb => ?_)
      · replace h := zif_t (p := (zI S 1) ≠ (0 : Int32)) hb h
        refine xt_pure rfl rfl rfl rfl ?_
        cases h
        exact xt_lret rfl rfl rfl ⟨rfl, rfl⟩
      · replace h := zif_f (p := (zI S 1) ≠ (0 : Int32)) hb h
        refine xt_pure rfl rfl rfl rfl ?_
        refine xt_pure rfl rfl rfl rfl ?_
        refine xt_pure rfl rfl rfl rfl ?_
        refine xt_pure rfl rfl rfl rfl ?_
        refine xt_pure rfl rfl rfl rfl ?_
        obtain ⟨x1, S2, hc3, h⟩ := zbi h
        refine zt_Vl rfl rfl rfl rfl (xmC 142 rfl) ⟨rfl, rfl, yle rfl, yle rfl⟩ (m := 5) rfl ⟨by omega, by omega⟩ (tcE_cellAt hW2 hW3 hL0 hL1 hG hA0 hA1 (by omega) (by omega) hol1 hc3) (fr1 := fr - 1) (lo1 := lo - 24) ?_
        refine xt_pure rfl rfl rfl rfl ?_
        refine xt_pure rfl rfl rfl (L1 := [_, _, _, _, _, _]) rfl ?_
        refine xt_pure rfl rfl rfl (L1 := [_, _, _, _, _, some (.int (_ + 1))]) rfl ?_
        refine xt_pure rfl rfl rfl rfl ?_
        exact ih hol1 h
def cE_columnOf (gi : Nat → Int32) (ga : Nat → List Int32) (As : List (Option zO)) (ne : Int32) (am : List Int64)  (N : Nat) (op1 : zO) (v2 : Int32) (S : zS) : Option (Int64 × zS) := cE_columnOf_4 gi ga As ne am N N op1 v2 0 0 S
theorem tcE_columnOf {X : List Int32} {D0 : List xE} {fa aa : Nat} {p : Nat → Nat} {gi : Nat → Int32} {ga : Nat → List Int32} {refs : List Value} {As : List (Option zO)} {ne : Int32} {am : List Int64} (hW2 : ((110, .inl (10, 2, .ref fa)) : xE) ∈ D0) (hW3 : ((110, .inl (10, 3, .ref aa)) : xE) ∈ D0) (hL0 : ((106, .inl (5, 2, .int ne)) : xE) ∈ D0) (hL1 : ((107, .inr (1, am.map Value.long)) : xE) ∈ D0) (hG : ∀ e ∈ zgE fa p gi ga, e ∈ D0) (hA0 : ((aa, .inr (7, refs)) : xE) ∈ D0) (hA1 : ∀ {j : Int32} {z : Option zO}, gI As j = some z → ∃ v, gI refs j = some v ∧ zVC D0 v z)  {N fr lo : Nat} (hf : 1 ≤ fr) (hl : 24 ≤ lo) {oap1 : Nat} {op1 : zO}  {v2 : Int32} {S S2 : zS} {r : Int64} (hop1 : zOC D0 oap1 op1) (h : cE_columnOf gi ga As ne am N op1 v2 S = some (r, S2)) : yK X fr lo 145 [.ref 110, .ref oap1, .int v2] (zD zTE zaE S D0) 0 0 (zQl zTE zaE D0 r S2) := by
  unfold cE_columnOf at h
  have hkp1 := hop1
  obtain ⟨iap1, rap1, rrp1, q0p1, q1p1, q2p1, q3p1, q4p1, q5p1, q6p1⟩ := hkp1
  refine yK.of rfl (yle rfl) (L := [_, _, _, _, _, _]) rfl ?_
  refine xt_pure rfl rfl rfl (st1 := .long 0 :: _) rfl ?_
  refine xt_pure rfl rfl rfl (L1 := [_, _, _, _, _, _]) rfl ?_
  refine xt_pure rfl rfl rfl (st1 := .int 0 :: _) rfl ?_
  refine xt_pure rfl rfl rfl (L1 := [_, _, _, _, _, _]) rfl ?_
  exact tcE_columnOf_4 hW2 hW3 hL0 hL1 hG hA0 hA1 hf hl hop1 h
def cE_totalOf_4 (gi : Nat → Int32) (ga : Nat → List Int32) (As : List (Option zO)) (ne : Int32) (am : List Int64)  (N : Nat)  : Nat → zO → Int64 → Int32 → zS → Option (Int64 × zS)
  | 0, _, _, _, _ => none
  | n + 1, ol1, l2, l4, S => (if ol1.2.1.toInt ≤ l4.toInt then some (l2, S) else (if (zI S 1) ≠ (0 : Int32) then some (l2, S) else (if ol1.1 = (4 : Int32) then (zg (gI ol1.2.2.2 l4) fun z1 => (zo z1 ((cE_totalOf_4 gi ga As ne am N n) ol1 l2 (l4 + 1) (zsI S 1 1)) fun o1 => (zg (gI ol1.2.2.2 l4) fun z2 => (zo z2 (none) fun o2 => (zb (cE_sumOf gi ga As ne am N o2 S) fun x3 S4 => (cE_totalOf_4 gi ga As ne am N n) ol1 (l2 + x3) (l4 + 1) S4))))) else (zb (cE_worthAt gi ga As ne am N ol1 l4 S) fun x6 S7 => (cE_totalOf_4 gi ga As ne am N n) ol1 (l2 + x6) (l4 + 1) S7))))
theorem tcE_totalOf_4 {X : List Int32} {D0 : List xE} {fa aa : Nat} {p : Nat → Nat} {gi : Nat → Int32} {ga : Nat → List Int32} {refs : List Value} {As : List (Option zO)} {ne : Int32} {am : List Int64} (hW2 : ((110, .inl (10, 2, .ref fa)) : xE) ∈ D0) (hW3 : ((110, .inl (10, 3, .ref aa)) : xE) ∈ D0) (hL0 : ((106, .inl (5, 2, .int ne)) : xE) ∈ D0) (hL1 : ((107, .inr (1, am.map Value.long)) : xE) ∈ D0) (hG : ∀ e ∈ zgE fa p gi ga, e ∈ D0) (hA0 : ((aa, .inr (7, refs)) : xE) ∈ D0) (hA1 : ∀ {j : Int32} {z : Option zO}, gI As j = some z → ∃ v, gI refs j = some v ∧ zVC D0 v z)  {N fr lo : Nat}   (hf : 1 ≤ fr) (hl : 24 ≤ lo)  : ∀ {n : Nat} {oal1 : Nat} {ol1 : zO}  {l2 : Int64} {l4 : Int32}  {S S2 : zS} {r : Int64} (hol1 : zOC D0 oal1 ol1), cE_totalOf_4 gi ga As ne am N n ol1 l2 l4 S = some (r, S2) → yT X fr lo 142 4 [some (.ref 110), some (.ref oal1), some (.long l2), none, some (.int l4)] [] (zD zTE zaE S D0) 0 0 (zQl zTE zaE D0 r S2) := by
  intro n
  induction n with
  | zero =>
    intro oal1 ol1 l2 l4  S S2 r hol1  h
    have h : (none : Option (Int64 × zS)) = some (r, S2) := h
    cases h
  | succ n ih =>
    intro oal1 ol1 l2 l4  S S2 r hol1  h
    rw [cE_totalOf_4] at h
    have hkl1 := hol1
    obtain ⟨ial1, ral1, rrl1, q0l1, q1l1, q2l1, q3l1, q4l1, q5l1, q6l1⟩ := hkl1
    refine xt_pure rfl rfl rfl rfl ?_
    refine xt_pure rfl rfl rfl rfl ?_
    refine xt_getf rfl rfl (zmr q1l1) ?_
    refine xt_ic rfl rfl (fun hb => ?_) (fun hb => ?_)
    · replace h := zif_t (p := ol1.2.1.toInt ≤ l4.toInt) hb h
      refine xt_pure rfl rfl rfl rfl ?_
      cases h
      exact xt_lret rfl rfl rfl ⟨rfl, rfl⟩
    · replace h := zif_f (p := ol1.2.1.toInt ≤ l4.toInt) hb h
      refine xt_pure rfl rfl rfl rfl ?_
      refine zt_gI 1 rfl rfl rfl rfl (x := (zI S 1)) rfl ?_
      refine xt_if rfl rfl (fun hb => ?_) (fun hb => ?_)
      · replace h := zif_t (p := (zI S 1) ≠ (0 : Int32)) hb h
        refine xt_pure rfl rfl rfl rfl ?_
        cases h
        exact xt_lret rfl rfl rfl ⟨rfl, rfl⟩
      · replace h := zif_f (p := (zI S 1) ≠ (0 : Int32)) hb h
        refine xt_pure rfl rfl rfl rfl ?_
        refine xt_getf rfl rfl (zmr q0l1) ?_
        refine xt_pure rfl rfl rfl (st1 := .int 4 :: _) rfl ?_
        refine xt_ic rfl rfl (fun hb => ?_) (fun hb => ?_)
        · replace h := zif_t (p := ol1.1 = (4 : Int32)) hb h
          refine xt_pure rfl rfl rfl rfl ?_
          refine xt_getf rfl rfl (zmr q3l1) ?_
          refine xt_pure rfl rfl rfl rfl ?_
          obtain ⟨z1, hz1, h⟩ := zgi h
          obtain ⟨v1, hw1, hv1⟩ := q6l1 hz1
          refine zr_ald (l := rrl1) rfl rfl ⟨by decide, rfl⟩ (zmr q5l1) hw1 ?_
          rcases z1 with _ | o1
          · obtain rfl : v1 = Value.null := hv1
            replace h := zon h
            refine xt_pure rfl rfl rfl rfl ?_
            refine xt_pure rfl rfl rfl rfl ?_
            refine xt_pure rfl rfl rfl (st1 := .int 1 :: _) rfl ?_
            refine zt_pI 1 rfl rfl rfl rfl rfl rfl ?_
            refine xt_pure rfl rfl rfl rfl ?_
            refine xt_pure rfl rfl rfl (L1 := [_, _, _, _, some (.int (_ + 1))]) rfl ?_
            refine xt_pure rfl rfl rfl rfl ?_
            exact ih hol1 h
          · obtain ⟨oa1, rfl, ho1⟩ := hv1
            replace h := zos h
            refine xt_pure rfl rfl rfl rfl ?_
            refine xt_pure rfl rfl rfl rfl ?_
            refine xt_pure rfl rfl rfl rfl ?_
            refine xt_getf rfl rfl (zmr q3l1) ?_
            refine xt_pure rfl rfl rfl rfl ?_
            obtain ⟨z2, hz2, h⟩ := zgi h
            obtain ⟨v2, hw2, hv2⟩ := q6l1 hz2
            refine zr_ald (l := rrl1) rfl rfl ⟨by decide, rfl⟩ (zmr q5l1) hw2 ?_
            rcases z2 with _ | o2
            · obtain rfl : v2 = Value.null := hv2
              replace h := zon h
              cases h
            · obtain ⟨oa2, rfl, ho2⟩ := hv2
              replace h := zos h
              obtain ⟨x3, S4, hc5, h⟩ := zbi h
              refine zt_Sl rfl rfl (by decide) rfl rfl ⟨rfl, yle rfl, yle rfl⟩ (m := 4) rfl ⟨by omega, by omega⟩ (tcE_sumOf hW2 hW3 hL0 hL1 hG hA0 hA1 (by omega) (by omega) ho2 hc5) (fr1 := fr - 1) (lo1 := lo - 23) ?_
              refine xt_pure rfl rfl rfl rfl ?_
              refine xt_pure rfl rfl rfl (L1 := [_, _, _, _, _]) rfl ?_
              refine xt_pure rfl rfl rfl (L1 := [_, _, _, _, some (.int (_ + 1))]) rfl ?_
              refine xt_pure rfl rfl rfl rfl ?_
              exact ih hol1 h
        · replace h := zif_f (p := ol1.1 = (4 : Int32)) hb h
          refine xt_pure rfl rfl rfl rfl ?_
          refine xt_pure rfl rfl rfl rfl ?_
          refine xt_pure rfl rfl rfl rfl ?_
          refine xt_pure rfl rfl rfl rfl ?_
          obtain ⟨x6, S7, hc8, h⟩ := zbi h
          refine zt_Vl rfl rfl rfl rfl (xmC 142 rfl) ⟨rfl, rfl, yle rfl, yle rfl⟩ (m := 5) rfl ⟨by omega, by omega⟩ (tcE_worthAt hW2 hW3 hL0 hL1 hG hA0 hA1 (by omega) (by omega) hol1 hc8) (fr1 := fr - 1) (lo1 := lo - 24) ?_
          refine xt_pure rfl rfl rfl rfl ?_
          refine xt_pure rfl rfl rfl (L1 := [_, _, _, _, _]) rfl ?_
          refine xt_pure rfl rfl rfl rfl ?_
          refine xt_pure rfl rfl rfl (L1 := [_, _, _, _, some (.int (_ + 1))]) rfl ?_
          refine xt_pure rfl rfl rfl rfl ?_
          exact ih hol1 h
def cE_totalOf (gi : Nat → Int32) (ga : Nat → List Int32) (As : List (Option zO)) (ne : Int32) (am : List Int64)  (N : Nat) (op1 : zO) (S : zS) : Option (Int64 × zS) := cE_totalOf_4 gi ga As ne am N N op1 0 0 S
theorem tcE_totalOf {X : List Int32} {D0 : List xE} {fa aa : Nat} {p : Nat → Nat} {gi : Nat → Int32} {ga : Nat → List Int32} {refs : List Value} {As : List (Option zO)} {ne : Int32} {am : List Int64} (hW2 : ((110, .inl (10, 2, .ref fa)) : xE) ∈ D0) (hW3 : ((110, .inl (10, 3, .ref aa)) : xE) ∈ D0) (hL0 : ((106, .inl (5, 2, .int ne)) : xE) ∈ D0) (hL1 : ((107, .inr (1, am.map Value.long)) : xE) ∈ D0) (hG : ∀ e ∈ zgE fa p gi ga, e ∈ D0) (hA0 : ((aa, .inr (7, refs)) : xE) ∈ D0) (hA1 : ∀ {j : Int32} {z : Option zO}, gI As j = some z → ∃ v, gI refs j = some v ∧ zVC D0 v z)  {N fr lo : Nat} (hf : 1 ≤ fr) (hl : 24 ≤ lo) {oap1 : Nat} {op1 : zO}  {S S2 : zS} {r : Int64} (hop1 : zOC D0 oap1 op1) (h : cE_totalOf gi ga As ne am N op1 S = some (r, S2)) : yK X fr lo 142 [.ref 110, .ref oap1] (zD zTE zaE S D0) 0 0 (zQl zTE zaE D0 r S2) := by
  unfold cE_totalOf at h
  have hkp1 := hop1
  obtain ⟨iap1, rap1, rrp1, q0p1, q1p1, q2p1, q3p1, q4p1, q5p1, q6p1⟩ := hkp1
  refine yK.of rfl (yle rfl) (L := [_, _, _, _, _]) rfl ?_
  refine xt_pure rfl rfl rfl (st1 := .long 0 :: _) rfl ?_
  refine xt_pure rfl rfl rfl (L1 := [_, _, _, _, _]) rfl ?_
  refine xt_pure rfl rfl rfl (st1 := .int 0 :: _) rfl ?_
  refine xt_pure rfl rfl rfl (L1 := [_, _, _, _, _]) rfl ?_
  exact tcE_totalOf_4 hW2 hW3 hL0 hL1 hG hA0 hA1 hf hl hop1 h
def cE_nameOf (gi : Nat → Int32) (ga : Nat → List Int32) (As : List (Option zO)) (ne : Int32) (am : List Int64)  (N : Nat) (op1 : zO) (v2 : Int32) (S : zS) : Option (Int64 × zS) := (if v2 = 5 then (zb (cE_trues gi ga As ne am N op1 S) fun x1 S2 => some (x1.toInt64, S2)) else if v2 = 6 then some (op1.2.1.toInt64, S) else if v2 = 7 then some (op1.2.1.toInt64, S) else if v2 = 8 then some (op1.2.1.toInt64, S) else if v2 = 9 then some (op1.2.1.toInt64, S) else (zb (cE_worthAt gi ga As ne am N op1 0 S) fun x9 S10 => some (x9, S10)))
set_option maxRecDepth 20000 in
theorem tcE_nameOf {X : List Int32} {D0 : List xE} {fa aa : Nat} {p : Nat → Nat} {gi : Nat → Int32} {ga : Nat → List Int32} {refs : List Value} {As : List (Option zO)} {ne : Int32} {am : List Int64} (hW2 : ((110, .inl (10, 2, .ref fa)) : xE) ∈ D0) (hW3 : ((110, .inl (10, 3, .ref aa)) : xE) ∈ D0) (hL0 : ((106, .inl (5, 2, .int ne)) : xE) ∈ D0) (hL1 : ((107, .inr (1, am.map Value.long)) : xE) ∈ D0) (hG : ∀ e ∈ zgE fa p gi ga, e ∈ D0) (hA0 : ((aa, .inr (7, refs)) : xE) ∈ D0) (hA1 : ∀ {j : Int32} {z : Option zO}, gI As j = some z → ∃ v, gI refs j = some v ∧ zVC D0 v z)  {N fr lo : Nat} (hf : 1 ≤ fr) (hl : 24 ≤ lo) {oap1 : Nat} {op1 : zO}  {v2 : Int32} {S S2 : zS} {r : Int64} (hop1 : zOC D0 oap1 op1) (h : cE_nameOf gi ga As ne am N op1 v2 S = some (r, S2)) : yK X fr lo 147 [.ref 110, .ref oap1, .int v2] (zD zTE zaE S D0) 0 0 (zQl zTE zaE D0 r S2) := by
  unfold cE_nameOf at h
  have hkp1 := hop1
  obtain ⟨iap1, rap1, rrp1, q0p1, q1p1, q2p1, q3p1, q4p1, q5p1, q6p1⟩ := hkp1
  refine yK.of rfl (yle rfl) (L := [_, _, _]) rfl ?_
  refine xt_pure rfl rfl rfl rfl ?_
  by_cases hw4 : v2 = 5
  · replace h := zif_t (p := v2 = 5) hw4 h
    refine zt_sw (tg := 2) rfl rfl rfl hw4 rfl ?_
    refine xt_pure rfl rfl rfl rfl ?_
    obtain ⟨x1, S2, hc3, h⟩ := zbi h
    refine zt_Vi rfl rfl rfl rfl (zmr q0p1) ⟨rfl, rfl, yle rfl, yle rfl⟩ (m := 3) rfl ⟨by omega, by omega⟩ (tcE_trues hW2 hW3 hL0 hL1 hG hA0 hA1 (by omega) (by omega) hop1 hc3) (fr1 := fr - 1) (lo1 := lo - 22) ?_
    refine xt_pure rfl rfl rfl rfl ?_
    cases h
    exact xt_lret rfl rfl rfl ⟨rfl, rfl⟩
  replace h := zif_f (p := v2 = 5) hw4 h
  by_cases hw5 : v2 = 6
  · replace h := zif_t (p := v2 = 6) hw5 h
    refine zt_sw (tg := 6) rfl rfl rfl hw5 rfl ?_
    refine xt_pure rfl rfl rfl rfl ?_
    refine xt_getf rfl rfl (zmr q1p1) ?_
    refine xt_pure rfl rfl rfl rfl ?_
    cases h
    exact xt_lret rfl rfl rfl ⟨rfl, rfl⟩
  replace h := zif_f (p := v2 = 6) hw5 h
  by_cases hw6 : v2 = 7
  · replace h := zif_t (p := v2 = 7) hw6 h
    refine zt_sw (tg := 6) rfl rfl rfl hw6 rfl ?_
    refine xt_pure rfl rfl rfl rfl ?_
    refine xt_getf rfl rfl (zmr q1p1) ?_
    refine xt_pure rfl rfl rfl rfl ?_
    cases h
    exact xt_lret rfl rfl rfl ⟨rfl, rfl⟩
  replace h := zif_f (p := v2 = 7) hw6 h
  by_cases hw7 : v2 = 8
  · replace h := zif_t (p := v2 = 8) hw7 h
    refine zt_sw (tg := 6) rfl rfl rfl hw7 rfl ?_
    refine xt_pure rfl rfl rfl rfl ?_
    refine xt_getf rfl rfl (zmr q1p1) ?_
    refine xt_pure rfl rfl rfl rfl ?_
    cases h
    exact xt_lret rfl rfl rfl ⟨rfl, rfl⟩
  replace h := zif_f (p := v2 = 8) hw7 h
  by_cases hw8 : v2 = 9
  · replace h := zif_t (p := v2 = 9) hw8 h
    refine zt_sw (tg := 6) rfl rfl rfl hw8 rfl ?_
    refine xt_pure rfl rfl rfl rfl ?_
    refine xt_getf rfl rfl (zmr q1p1) ?_
    refine xt_pure rfl rfl rfl rfl ?_
    cases h
    exact xt_lret rfl rfl rfl ⟨rfl, rfl⟩
  replace h := zif_f (p := v2 = 9) hw8 h
  have hxhw4 : ¬ v2.toInt = 5 := fun h => hw4 (by rw [xi32_eq, h]; rfl)
  have hxhw5 : ¬ v2.toInt = 6 := fun h => hw5 (by rw [xi32_eq, h]; rfl)
  have hxhw6 : ¬ v2.toInt = 7 := fun h => hw6 (by rw [xi32_eq, h]; rfl)
  have hxhw7 : ¬ v2.toInt = 8 := fun h => hw7 (by rw [xi32_eq, h]; rfl)
  have hxhw8 : ¬ v2.toInt = 9 := fun h => hw8 (by rw [xi32_eq, h]; rfl)
  refine yt_tsd rfl rfl (by omega) rfl ?_
  refine xt_pure rfl rfl rfl rfl ?_
  refine xt_pure rfl rfl rfl rfl ?_
  refine xt_pure rfl rfl rfl (st1 := .int 0 :: _) rfl ?_
  obtain ⟨x9, S10, hc11, h⟩ := zbi h
  refine zt_Vl rfl rfl rfl rfl (xmC 142 rfl) ⟨rfl, rfl, yle rfl, yle rfl⟩ (m := 5) rfl ⟨by omega, by omega⟩ (tcE_worthAt hW2 hW3 hL0 hL1 hG hA0 hA1 (by omega) (by omega) hop1 hc11) (fr1 := fr - 1) (lo1 := lo - 24) ?_
  cases h
  exact xt_lret rfl rfl rfl ⟨rfl, rfl⟩
def cE_ask_78 (gi : Nat → Int32) (ga : Nat → List Int32) (As : List (Option zO)) (ne : Int32) (am : List Int64)  (N : Nat)  (l5 : Int32) (ol6 : zO) (S : zS) : Option (Int64 × zS) := (zb (cE_nameOf gi ga As ne am N ol6 l5 S) fun x44 S45 => (if (zI S45 1) = (0 : Int32) then some (x44, S45) else (zb (cE_fail gi ga As ne am N (zI S45 1) S45) fun _ S48 => some (x44, S48))))
theorem tcE_ask_78 {X : List Int32} {D0 : List xE} {fa aa : Nat} {p : Nat → Nat} {gi : Nat → Int32} {ga : Nat → List Int32} {refs : List Value} {As : List (Option zO)} {ne : Int32} {am : List Int64} (hW2 : ((110, .inl (10, 2, .ref fa)) : xE) ∈ D0) (hW3 : ((110, .inl (10, 3, .ref aa)) : xE) ∈ D0) (hL0 : ((106, .inl (5, 2, .int ne)) : xE) ∈ D0) (hL1 : ((107, .inr (1, am.map Value.long)) : xE) ∈ D0) (hG : ∀ e ∈ zgE fa p gi ga, e ∈ D0) (hA0 : ((aa, .inr (7, refs)) : xE) ∈ D0) (hA1 : ∀ {j : Int32} {z : Option zO}, gI As j = some z → ∃ v, gI refs j = some v ∧ zVC D0 v z)  {N fr lo : Nat}   (hf : 2 ≤ fr) (hl : 49 ≤ lo) {l5 : Int32} {oal6 : Nat} {ol6 : zO}  {d1 : Int32} {d2 : Int32} {d3 : Int32} {d4 : Int32} {d7 : Int64} {S S2 : zS} {r : Int64} (hol6 : zOC D0 oal6 ol6) (h : cE_ask_78 gi ga As ne am N l5 ol6 S = some (r, S2)) : yT X fr lo 140 78 [some (.ref 110), some (.int d1), some (.int d2), some (.int d3), some (.int d4), some (.int l5), some (.ref oal6), some (.long d7), none] [] (zD zTE zaE S D0) 0 0 (zQl zTE zaE D0 r S2) := by
  unfold cE_ask_78 at h
  have hkl6 := hol6
  obtain ⟨ial6, ral6, rrl6, q0l6, q1l6, q2l6, q3l6, q4l6, q5l6, q6l6⟩ := hkl6
  refine xt_pure rfl rfl rfl rfl ?_
  refine xt_pure rfl rfl rfl rfl ?_
  refine xt_pure rfl rfl rfl rfl ?_
  obtain ⟨x44, S45, hc46, h⟩ := zbi h
  refine zt_Vl rfl rfl rfl rfl (xmC 142 rfl) ⟨rfl, rfl, yle rfl, yle rfl⟩ (m := 3) rfl ⟨by omega, by omega⟩ (tcE_nameOf hW2 hW3 hL0 hL1 hG hA0 hA1 (by omega) (by omega) hol6 hc46) (fr1 := fr - 1) (lo1 := lo - 22) ?_
  refine xt_pure rfl rfl rfl (L1 := [_, _, _, _, _, _, _, _, _]) rfl ?_
  refine xt_pure rfl rfl rfl rfl ?_
  refine zt_gI 1 rfl rfl rfl rfl (x := (zI S45 1)) rfl ?_
  refine xt_if rfl rfl (fun hb => ?_) (fun hb => ?_)
  · replace h := zif_t (p := (zI S45 1) = (0 : Int32)) hb h
    refine xt_pure rfl rfl rfl rfl ?_
    cases h
    exact xt_lret rfl rfl rfl ⟨rfl, rfl⟩
  · replace h := zif_f (p := (zI S45 1) = (0 : Int32)) hb h
    refine xt_pure rfl rfl rfl rfl ?_
    refine xt_pure rfl rfl rfl rfl ?_
    refine zt_gI 1 rfl rfl rfl rfl (x := (zI S45 1)) rfl ?_
    obtain ⟨_, S48, hc49, h⟩ := zbi h
    refine zt_Vv rfl rfl rfl rfl (xmC 142 rfl) ⟨rfl, rfl, yle rfl, yle rfl⟩ (m := 2) rfl ⟨by omega, by omega⟩ (tcE_fail hW2 hW3 hL0 hL1 hG hA0 hA1 (by omega) (by omega) hc49) (fr1 := fr - 1) (lo1 := lo - 21) ?_
    refine xt_pure rfl rfl rfl rfl ?_
    cases h
    exact xt_lret rfl rfl rfl ⟨rfl, rfl⟩
def cE_ask_17 (gi : Nat → Int32) (ga : Nat → List Int32) (As : List (Option zO)) (ne : Int32) (am : List Int64)  (N : Nat)  (l1 : Int32) (l2 : Int32) (l3 : Int32) (s0 : Int32) (S : zS) : Option (Int64 × zS) := (zg (gI (ga 1) l2) fun x1 => (zg (gI As l2) fun z2 => (zo z2 ((zb (cE_fail gi ga As ne am N 1 (zsI S 1 1)) fun _ S4 => some (0, S4))) fun o2 => (zb (cE_wanted gi ga As ne am N l1 x1 S) fun x6 S7 => (zb (cE_isOf gi ga As ne am N o2 x6 S7) fun x9 S10 => (if x9 ≠ (0 : Int32) then (if l1 = 8 then (if (zI S10 1) = (0 : Int32) then some (o2.2.1.toInt64, S10) else (zb (cE_fail gi ga As ne am N (zI S10 1) S10) fun _ S13 => some (o2.2.1.toInt64, S13))) else if l1 = 11 then (zb (cE_totalOf gi ga As ne am N o2 S10) fun x16 S17 => (if (zI S17 1) = (0 : Int32) then some (x16, S17) else (zb (cE_fail gi ga As ne am N (zI S17 1) S17) fun _ S20 => some (x16, S20)))) else if l1 = 12 then (zb (cE_worthAt gi ga As ne am N o2 s0 S10) fun x23 S24 => (if (zI S24 1) = (0 : Int32) then some (x23, S24) else (zb (cE_fail gi ga As ne am N (zI S24 1) S24) fun _ S27 => some (x23, S27)))) else if l1 = 13 then (zb (cE_cellAt gi ga As ne am N o2 s0 l3 S10) fun x30 S31 => (if (zI S31 1) = (0 : Int32) then some (x30, S31) else (zb (cE_fail gi ga As ne am N (zI S31 1) S31) fun _ S34 => some (x30, S34)))) else if l1 = 14 then (zb (cE_columnOf gi ga As ne am N o2 s0 S10) fun x37 S38 => (if (zI S38 1) = (0 : Int32) then some (x37, S38) else (zb (cE_fail gi ga As ne am N (zI S38 1) S38) fun _ S41 => some (x37, S41)))) else cE_ask_78 gi ga As ne am N x1 o2 S10) else (zb (cE_fail gi ga As ne am N 2 (zsI S10 1 2)) fun _ S53 => some (0, S53))))))))
set_option maxRecDepth 20000 in
theorem tcE_ask_17 {X : List Int32} {D0 : List xE} {fa aa : Nat} {p : Nat → Nat} {gi : Nat → Int32} {ga : Nat → List Int32} {refs : List Value} {As : List (Option zO)} {ne : Int32} {am : List Int64} (hW2 : ((110, .inl (10, 2, .ref fa)) : xE) ∈ D0) (hW3 : ((110, .inl (10, 3, .ref aa)) : xE) ∈ D0) (hL0 : ((106, .inl (5, 2, .int ne)) : xE) ∈ D0) (hL1 : ((107, .inr (1, am.map Value.long)) : xE) ∈ D0) (hG : ∀ e ∈ zgE fa p gi ga, e ∈ D0) (hA0 : ((aa, .inr (7, refs)) : xE) ∈ D0) (hA1 : ∀ {j : Int32} {z : Option zO}, gI As j = some z → ∃ v, gI refs j = some v ∧ zVC D0 v z)  {N fr lo : Nat}   (hf : 2 ≤ fr) (hl : 49 ≤ lo) {l1 : Int32} {l2 : Int32} {l3 : Int32} {s0 : Int32}  {S S2 : zS} {r : Int64}  (h : cE_ask_17 gi ga As ne am N l1 l2 l3 s0 S = some (r, S2)) : yT X fr lo 140 17 [some (.ref 110), some (.int l1), some (.int l2), some (.int l3), none, none, none, none, none] [.int s0] (zD zTE zaE S D0) 0 0 (zQl zTE zaE D0 r S2) := by
  unfold cE_ask_17 at h
  refine xt_pure rfl rfl rfl (L1 := [_, _, _, _, _, _, _, _, _]) rfl ?_
  refine xt_pure rfl rfl rfl rfl ?_
  refine xt_getf rfl rfl (zmr hW2) ?_
  refine xt_getf rfl rfl (zmr (ymm hG 1 rfl)) ?_
  refine xt_pure rfl rfl rfl rfl ?_
  obtain ⟨x1, hx1, h⟩ := zgi h
  refine zr_ild (l := (ga 1)) rfl rfl (zmr (ymm hG 19 rfl)) hx1 ?_
  refine xt_pure rfl rfl rfl (L1 := [_, _, _, _, _, _, _, _, _]) rfl ?_
  refine xt_pure rfl rfl rfl rfl ?_
  refine xt_getf rfl rfl (zmr hW3) ?_
  refine xt_pure rfl rfl rfl rfl ?_
  obtain ⟨z2, hz2, h⟩ := zgi h
  obtain ⟨v2, hw2, hv2⟩ := hA1 hz2
  refine zr_ald (l := refs) rfl rfl ⟨by decide, rfl⟩ (zmr hA0) hw2 ?_
  rcases z2 with _ | o2
  · obtain rfl : v2 = Value.null := hv2
    replace h := zon h
    refine xt_pure rfl rfl rfl (L1 := [_, _, _, _, _, _, _, _, _]) rfl ?_
    refine xt_pure rfl rfl rfl (st1 := .long 0 :: _) rfl ?_
    refine xt_pure rfl rfl rfl (L1 := [_, _, _, _, _, _, _, _, _]) rfl ?_
    refine xt_pure rfl rfl rfl rfl ?_
    refine xt_pure rfl rfl rfl rfl ?_
    refine xt_pure rfl rfl rfl rfl ?_
    refine xt_pure rfl rfl rfl (st1 := .int 1 :: _) rfl ?_
    refine zt_pI 1 rfl rfl rfl rfl rfl rfl ?_
    refine xt_pure rfl rfl rfl rfl ?_
    refine xt_pure rfl rfl rfl rfl ?_
    refine zt_gI 1 rfl rfl rfl rfl (x := 1) rfl ?_
    refine xt_pure rfl rfl rfl rfl ?_
    refine xt_pure rfl rfl rfl rfl ?_
    refine xt_pure rfl rfl rfl rfl ?_
    refine zt_gI 1 rfl rfl rfl rfl (x := 1) rfl ?_
    obtain ⟨_, S4, hc5, h⟩ := zbi h
    refine zt_Vv rfl rfl rfl rfl (xmC 142 rfl) ⟨rfl, rfl, yle rfl, yle rfl⟩ (m := 2) rfl ⟨by omega, by omega⟩ (tcE_fail hW2 hW3 hL0 hL1 hG hA0 hA1 (by omega) (by omega) hc5) (fr1 := fr - 1) (lo1 := lo - 21) ?_
    refine xt_pure rfl rfl rfl rfl ?_
    cases h
    exact xt_lret rfl rfl rfl ⟨rfl, rfl⟩
  · obtain ⟨oa2, rfl, ho2⟩ := hv2
    replace h := zos h
    have hk2 := ho2
    obtain ⟨ia2, ra2, rr2, q02, q12, q22, q32, q42, q52, q62⟩ := hk2
    refine xt_pure rfl rfl rfl (L1 := [_, _, _, _, _, _, _, _, _]) rfl ?_
    refine xt_pure rfl rfl rfl (st1 := .long 0 :: _) rfl ?_
    refine xt_pure rfl rfl rfl (L1 := [_, _, _, _, _, _, _, _, _]) rfl ?_
    refine xt_pure rfl rfl rfl rfl ?_
    refine xt_pure rfl rfl rfl rfl ?_
    refine xt_pure rfl rfl rfl rfl ?_
    refine xt_pure rfl rfl rfl rfl ?_
    refine xt_pure rfl rfl rfl rfl ?_
    obtain ⟨x6, S7, hc8, h⟩ := zbi h
    refine zt_Si rfl rfl (by decide) rfl rfl ⟨rfl, yle rfl, yle rfl⟩ (m := 2) rfl ⟨by omega, by omega⟩ (tcE_wanted hW2 hW3 hL0 hL1 hG hA0 hA1 (by omega) (by omega) hc8) (fr1 := fr - 1) (lo1 := lo - 21) ?_
    obtain ⟨x9, S10, hc11, h⟩ := zbi h
    refine zt_Vi rfl rfl rfl rfl (zmr q02) ⟨rfl, rfl, yle rfl, yle rfl⟩ (m := 2) rfl ⟨by omega, by omega⟩ (tcE_isOf hW2 hW3 hL0 hL1 hG hA0 hA1 (by omega) (by omega) ho2 hc11) (fr1 := fr - 1) (lo1 := lo - 21) ?_
    refine xt_if rfl rfl (fun hb => ?_) (fun hb => ?_)
    · replace h := zif_t (p := x9 ≠ (0 : Int32)) hb h
      refine xt_pure rfl rfl rfl rfl ?_
      by_cases hw15 : l1 = 8
      · replace h := zif_t (p := l1 = 8) hw15 h
        refine zt_sw (tg := 49) rfl rfl rfl hw15 rfl ?_
        refine xt_pure rfl rfl rfl rfl ?_
        refine xt_getf rfl rfl (zmr q12) ?_
        refine xt_pure rfl rfl rfl rfl ?_
        refine xt_pure rfl rfl rfl (L1 := [_, _, _, _, _, _, _, _, _]) rfl ?_
        refine xt_pure rfl rfl rfl rfl ?_
        refine xt_pure rfl rfl rfl rfl ?_
        refine zt_gI 1 rfl rfl rfl rfl (x := (zI S10 1)) rfl ?_
        refine xt_if rfl rfl (fun hb => ?_) (fun hb => ?_)
        · replace h := zif_t (p := (zI S10 1) = (0 : Int32)) hb h
          refine xt_pure rfl rfl rfl rfl ?_
          cases h
          exact xt_lret rfl rfl rfl ⟨rfl, rfl⟩
        · replace h := zif_f (p := (zI S10 1) = (0 : Int32)) hb h
          refine xt_pure rfl rfl rfl rfl ?_
          refine xt_pure rfl rfl rfl rfl ?_
          refine zt_gI 1 rfl rfl rfl rfl (x := (zI S10 1)) rfl ?_
          obtain ⟨_, S13, hc14, h⟩ := zbi h
          refine zt_Vv rfl rfl rfl rfl (xmC 142 rfl) ⟨rfl, rfl, yle rfl, yle rfl⟩ (m := 2) rfl ⟨by omega, by omega⟩ (tcE_fail hW2 hW3 hL0 hL1 hG hA0 hA1 (by omega) (by omega) hc14) (fr1 := fr - 1) (lo1 := lo - 21) ?_
          refine xt_pure rfl rfl rfl rfl ?_
          cases h
          exact xt_lret rfl rfl rfl ⟨rfl, rfl⟩
      replace h := zif_f (p := l1 = 8) hw15 h
      by_cases hw22 : l1 = 11
      · replace h := zif_t (p := l1 = 11) hw22 h
        refine zt_sw (tg := 54) rfl rfl rfl hw22 rfl ?_
        refine xt_pure rfl rfl rfl rfl ?_
        refine xt_pure rfl rfl rfl rfl ?_
        obtain ⟨x16, S17, hc18, h⟩ := zbi h
        refine zt_Vl rfl rfl rfl rfl (xmC 142 rfl) ⟨rfl, rfl, yle rfl, yle rfl⟩ (m := 5) rfl ⟨by omega, by omega⟩ (tcE_totalOf hW2 hW3 hL0 hL1 hG hA0 hA1 (by omega) (by omega) ho2 hc18) (fr1 := fr - 1) (lo1 := lo - 24) ?_
        refine xt_pure rfl rfl rfl (L1 := [_, _, _, _, _, _, _, _, _]) rfl ?_
        refine xt_pure rfl rfl rfl rfl ?_
        refine xt_pure rfl rfl rfl rfl ?_
        refine zt_gI 1 rfl rfl rfl rfl (x := (zI S17 1)) rfl ?_
        refine xt_if rfl rfl (fun hb => ?_) (fun hb => ?_)
        · replace h := zif_t (p := (zI S17 1) = (0 : Int32)) hb h
          refine xt_pure rfl rfl rfl rfl ?_
          cases h
          exact xt_lret rfl rfl rfl ⟨rfl, rfl⟩
        · replace h := zif_f (p := (zI S17 1) = (0 : Int32)) hb h
          refine xt_pure rfl rfl rfl rfl ?_
          refine xt_pure rfl rfl rfl rfl ?_
          refine zt_gI 1 rfl rfl rfl rfl (x := (zI S17 1)) rfl ?_
          obtain ⟨_, S20, hc21, h⟩ := zbi h
          refine zt_Vv rfl rfl rfl rfl (xmC 142 rfl) ⟨rfl, rfl, yle rfl, yle rfl⟩ (m := 2) rfl ⟨by omega, by omega⟩ (tcE_fail hW2 hW3 hL0 hL1 hG hA0 hA1 (by omega) (by omega) hc21) (fr1 := fr - 1) (lo1 := lo - 21) ?_
          refine xt_pure rfl rfl rfl rfl ?_
          cases h
          exact xt_lret rfl rfl rfl ⟨rfl, rfl⟩
      replace h := zif_f (p := l1 = 11) hw22 h
      by_cases hw29 : l1 = 12
      · replace h := zif_t (p := l1 = 12) hw29 h
        refine zt_sw (tg := 59) rfl rfl rfl hw29 rfl ?_
        refine xt_pure rfl rfl rfl rfl ?_
        refine xt_pure rfl rfl rfl rfl ?_
        refine xt_pure rfl rfl rfl rfl ?_
        obtain ⟨x23, S24, hc25, h⟩ := zbi h
        refine zt_Vl rfl rfl rfl rfl (xmC 142 rfl) ⟨rfl, rfl, yle rfl, yle rfl⟩ (m := 5) rfl ⟨by omega, by omega⟩ (tcE_worthAt hW2 hW3 hL0 hL1 hG hA0 hA1 (by omega) (by omega) ho2 hc25) (fr1 := fr - 1) (lo1 := lo - 24) ?_
        refine xt_pure rfl rfl rfl (L1 := [_, _, _, _, _, _, _, _, _]) rfl ?_
        refine xt_pure rfl rfl rfl rfl ?_
        refine xt_pure rfl rfl rfl rfl ?_
        refine zt_gI 1 rfl rfl rfl rfl (x := (zI S24 1)) rfl ?_
        refine xt_if rfl rfl (fun hb => ?_) (fun hb => ?_)
        · replace h := zif_t (p := (zI S24 1) = (0 : Int32)) hb h
          refine xt_pure rfl rfl rfl rfl ?_
          cases h
          exact xt_lret rfl rfl rfl ⟨rfl, rfl⟩
        · replace h := zif_f (p := (zI S24 1) = (0 : Int32)) hb h
          refine xt_pure rfl rfl rfl rfl ?_
          refine xt_pure rfl rfl rfl rfl ?_
          refine zt_gI 1 rfl rfl rfl rfl (x := (zI S24 1)) rfl ?_
          obtain ⟨_, S27, hc28, h⟩ := zbi h
          refine zt_Vv rfl rfl rfl rfl (xmC 142 rfl) ⟨rfl, rfl, yle rfl, yle rfl⟩ (m := 2) rfl ⟨by omega, by omega⟩ (tcE_fail hW2 hW3 hL0 hL1 hG hA0 hA1 (by omega) (by omega) hc28) (fr1 := fr - 1) (lo1 := lo - 21) ?_
          refine xt_pure rfl rfl rfl rfl ?_
          cases h
          exact xt_lret rfl rfl rfl ⟨rfl, rfl⟩
      replace h := zif_f (p := l1 = 12) hw29 h
      by_cases hw36 : l1 = 13
      · replace h := zif_t (p := l1 = 13) hw36 h
        refine zt_sw (tg := 71) rfl rfl rfl hw36 rfl ?_
        refine xt_pure rfl rfl rfl rfl ?_
        refine xt_pure rfl rfl rfl rfl ?_
        refine xt_pure rfl rfl rfl rfl ?_
        refine xt_pure rfl rfl rfl rfl ?_
        obtain ⟨x30, S31, hc32, h⟩ := zbi h
        refine zt_Vl rfl rfl rfl rfl (xmC 142 rfl) ⟨rfl, rfl, yle rfl, yle rfl⟩ (m := 5) rfl ⟨by omega, by omega⟩ (tcE_cellAt hW2 hW3 hL0 hL1 hG hA0 hA1 (by omega) (by omega) ho2 hc32) (fr1 := fr - 1) (lo1 := lo - 24) ?_
        refine xt_pure rfl rfl rfl (L1 := [_, _, _, _, _, _, _, _, _]) rfl ?_
        refine xt_pure rfl rfl rfl rfl ?_
        refine xt_pure rfl rfl rfl rfl ?_
        refine zt_gI 1 rfl rfl rfl rfl (x := (zI S31 1)) rfl ?_
        refine xt_if rfl rfl (fun hb => ?_) (fun hb => ?_)
        · replace h := zif_t (p := (zI S31 1) = (0 : Int32)) hb h
          refine xt_pure rfl rfl rfl rfl ?_
          cases h
          exact xt_lret rfl rfl rfl ⟨rfl, rfl⟩
        · replace h := zif_f (p := (zI S31 1) = (0 : Int32)) hb h
          refine xt_pure rfl rfl rfl rfl ?_
          refine xt_pure rfl rfl rfl rfl ?_
          refine zt_gI 1 rfl rfl rfl rfl (x := (zI S31 1)) rfl ?_
          obtain ⟨_, S34, hc35, h⟩ := zbi h
          refine zt_Vv rfl rfl rfl rfl (xmC 142 rfl) ⟨rfl, rfl, yle rfl, yle rfl⟩ (m := 2) rfl ⟨by omega, by omega⟩ (tcE_fail hW2 hW3 hL0 hL1 hG hA0 hA1 (by omega) (by omega) hc35) (fr1 := fr - 1) (lo1 := lo - 21) ?_
          refine xt_pure rfl rfl rfl rfl ?_
          cases h
          exact xt_lret rfl rfl rfl ⟨rfl, rfl⟩
      replace h := zif_f (p := l1 = 13) hw36 h
      by_cases hw43 : l1 = 14
      · replace h := zif_t (p := l1 = 14) hw43 h
        refine zt_sw (tg := 65) rfl rfl rfl hw43 rfl ?_
        refine xt_pure rfl rfl rfl rfl ?_
        refine xt_pure rfl rfl rfl rfl ?_
        refine xt_pure rfl rfl rfl rfl ?_
        obtain ⟨x37, S38, hc39, h⟩ := zbi h
        refine zt_Vl rfl rfl rfl rfl (xmC 142 rfl) ⟨rfl, rfl, yle rfl, yle rfl⟩ (m := 6) rfl ⟨by omega, by omega⟩ (tcE_columnOf hW2 hW3 hL0 hL1 hG hA0 hA1 (by omega) (by omega) ho2 hc39) (fr1 := fr - 1) (lo1 := lo - 25) ?_
        refine xt_pure rfl rfl rfl (L1 := [_, _, _, _, _, _, _, _, _]) rfl ?_
        refine xt_pure rfl rfl rfl rfl ?_
        refine xt_pure rfl rfl rfl rfl ?_
        refine zt_gI 1 rfl rfl rfl rfl (x := (zI S38 1)) rfl ?_
        refine xt_if rfl rfl (fun hb => ?_) (fun hb => ?_)
        · replace h := zif_t (p := (zI S38 1) = (0 : Int32)) hb h
          refine xt_pure rfl rfl rfl rfl ?_
          cases h
          exact xt_lret rfl rfl rfl ⟨rfl, rfl⟩
        · replace h := zif_f (p := (zI S38 1) = (0 : Int32)) hb h
          refine xt_pure rfl rfl rfl rfl ?_
          refine xt_pure rfl rfl rfl rfl ?_
          refine zt_gI 1 rfl rfl rfl rfl (x := (zI S38 1)) rfl ?_
          obtain ⟨_, S41, hc42, h⟩ := zbi h
          refine zt_Vv rfl rfl rfl rfl (xmC 142 rfl) ⟨rfl, rfl, yle rfl, yle rfl⟩ (m := 2) rfl ⟨by omega, by omega⟩ (tcE_fail hW2 hW3 hL0 hL1 hG hA0 hA1 (by omega) (by omega) hc42) (fr1 := fr - 1) (lo1 := lo - 21) ?_
          refine xt_pure rfl rfl rfl rfl ?_
          cases h
          exact xt_lret rfl rfl rfl ⟨rfl, rfl⟩
      replace h := zif_f (p := l1 = 14) hw43 h
      by_cases hw50 : l1 = 9
      · refine zt_sw (tg := 78) rfl rfl rfl hw50 rfl ?_
        exact tcE_ask_78 hW2 hW3 hL0 hL1 hG hA0 hA1 hf hl ho2 h
      by_cases hw51 : l1 = 10
      · refine zt_sw (tg := 78) rfl rfl rfl hw51 rfl ?_
        exact tcE_ask_78 hW2 hW3 hL0 hL1 hG hA0 hA1 hf hl ho2 h
      have hxhw15 : ¬ l1.toInt = 8 := fun h => hw15 (by rw [xi32_eq, h]; rfl)
      have hxhw22 : ¬ l1.toInt = 11 := fun h => hw22 (by rw [xi32_eq, h]; rfl)
      have hxhw29 : ¬ l1.toInt = 12 := fun h => hw29 (by rw [xi32_eq, h]; rfl)
      have hxhw36 : ¬ l1.toInt = 13 := fun h => hw36 (by rw [xi32_eq, h]; rfl)
      have hxhw43 : ¬ l1.toInt = 14 := fun h => hw43 (by rw [xi32_eq, h]; rfl)
      have hxhw50 : ¬ l1.toInt = 9 := fun h => hw50 (by rw [xi32_eq, h]; rfl)
      have hxhw51 : ¬ l1.toInt = 10 := fun h => hw51 (by rw [xi32_eq, h]; rfl)
      refine yt_tsd rfl rfl (by omega) rfl ?_
      exact tcE_ask_78 hW2 hW3 hL0 hL1 hG hA0 hA1 hf hl ho2 h
    · replace h := zif_f (p := x9 ≠ (0 : Int32)) hb h
      refine xt_pure rfl rfl rfl rfl ?_
      refine xt_pure rfl rfl rfl (st1 := .int 2 :: _) rfl ?_
      refine zt_pI 1 rfl rfl rfl rfl rfl rfl ?_
      refine xt_pure rfl rfl rfl rfl ?_
      refine xt_pure rfl rfl rfl rfl ?_
      refine zt_gI 1 rfl rfl rfl rfl (x := 2) rfl ?_
      refine xt_pure rfl rfl rfl rfl ?_
      refine xt_pure rfl rfl rfl rfl ?_
      refine xt_pure rfl rfl rfl rfl ?_
      refine zt_gI 1 rfl rfl rfl rfl (x := 2) rfl ?_
      obtain ⟨_, S53, hc54, h⟩ := zbi h
      refine zt_Vv rfl rfl rfl rfl (xmC 142 rfl) ⟨rfl, rfl, yle rfl, yle rfl⟩ (m := 2) rfl ⟨by omega, by omega⟩ (tcE_fail hW2 hW3 hL0 hL1 hG hA0 hA1 (by omega) (by omega) hc54) (fr1 := fr - 1) (lo1 := lo - 21) ?_
      refine xt_pure rfl rfl rfl rfl ?_
      cases h
      exact xt_lret rfl rfl rfl ⟨rfl, rfl⟩
def cE_ask (gi : Nat → Int32) (ga : Nat → List Int32) (As : List (Option zO)) (ne : Int32) (am : List Int64)  (N : Nat) (v1 : Int32) (v2 : Int32) (S : zS) : Option (Int64 × zS) := (if v1 ≠ (13 : Int32) then (if v1.toInt < 12 then cE_ask_17 gi ga As ne am N v1 v2 0 0 S else (zb (cE_pop gi ga As ne am N  S) fun x55 S56 => cE_ask_17 gi ga As ne am N v1 v2 0 x55.toInt32 S56)) else (zb (cE_pop gi ga As ne am N  S) fun x58 S59 => (if v1.toInt < 12 then cE_ask_17 gi ga As ne am N v1 v2 x58.toInt32 0 S59 else (zb (cE_pop gi ga As ne am N  S59) fun x61 S62 => cE_ask_17 gi ga As ne am N v1 v2 x58.toInt32 x61.toInt32 S62))))
theorem tcE_ask {X : List Int32} {D0 : List xE} {fa aa : Nat} {p : Nat → Nat} {gi : Nat → Int32} {ga : Nat → List Int32} {refs : List Value} {As : List (Option zO)} {ne : Int32} {am : List Int64} (hW2 : ((110, .inl (10, 2, .ref fa)) : xE) ∈ D0) (hW3 : ((110, .inl (10, 3, .ref aa)) : xE) ∈ D0) (hL0 : ((106, .inl (5, 2, .int ne)) : xE) ∈ D0) (hL1 : ((107, .inr (1, am.map Value.long)) : xE) ∈ D0) (hG : ∀ e ∈ zgE fa p gi ga, e ∈ D0) (hA0 : ((aa, .inr (7, refs)) : xE) ∈ D0) (hA1 : ∀ {j : Int32} {z : Option zO}, gI As j = some z → ∃ v, gI refs j = some v ∧ zVC D0 v z)  {N fr lo : Nat} (hf : 2 ≤ fr) (hl : 49 ≤ lo) {v1 : Int32} {v2 : Int32} {S S2 : zS} {r : Int64}  (h : cE_ask gi ga As ne am N v1 v2 S = some (r, S2)) : yK X fr lo 140 [.ref 110, .int v1, .int v2] (zD zTE zaE S D0) 0 0 (zQl zTE zaE D0 r S2) := by
  unfold cE_ask at h
  refine yK.of rfl (yle rfl) (L := [_, _, _, _, _, _, _, _, _]) rfl ?_
  refine xt_pure rfl rfl rfl rfl ?_
  refine xt_pure rfl rfl rfl (st1 := .int 13 :: _) rfl ?_
  refine xt_ic rfl rfl (fun hb => ?_) (fun hb => ?_)
  · replace h := zif_t (p := v1 ≠ (13 : Int32)) hb h
    refine xt_pure rfl rfl rfl (st1 := .int 0 :: _) rfl ?_
    refine xt_pure rfl rfl rfl (L1 := [_, _, _, _, _, _, _, _, _]) rfl ?_
    refine xt_pure rfl rfl rfl rfl ?_
    refine xt_pure rfl rfl rfl (st1 := .int 12 :: _) rfl ?_
    refine xt_ic rfl rfl (fun hb => ?_) (fun hb => ?_)
    · replace h := zif_t (p := v1.toInt < 12) hb h
      refine xt_pure rfl rfl rfl (st1 := .int 0 :: _) rfl ?_
      exact tcE_ask_17 hW2 hW3 hL0 hL1 hG hA0 hA1 hf hl h
    · replace h := zif_f (p := v1.toInt < 12) hb h
      refine xt_pure rfl rfl rfl rfl ?_
      obtain ⟨x55, S56, hc57, h⟩ := zbi h
      refine zt_Vl rfl rfl rfl rfl (xmC 142 rfl) ⟨rfl, rfl, yle rfl, yle rfl⟩ (m := 1) rfl ⟨by omega, by omega⟩ (tcE_pop hW2 hW3 hL0 hL1 hG hA0 hA1 (by omega) (by omega) hc57) (fr1 := fr - 1) (lo1 := lo - 20) ?_
      refine xt_pure rfl rfl rfl rfl ?_
      refine xt_pure rfl rfl rfl rfl ?_
      exact tcE_ask_17 hW2 hW3 hL0 hL1 hG hA0 hA1 hf hl h
  · replace h := zif_f (p := v1 ≠ (13 : Int32)) hb h
    refine xt_pure rfl rfl rfl rfl ?_
    obtain ⟨x58, S59, hc60, h⟩ := zbi h
    refine zt_Vl rfl rfl rfl rfl (xmC 142 rfl) ⟨rfl, rfl, yle rfl, yle rfl⟩ (m := 1) rfl ⟨by omega, by omega⟩ (tcE_pop hW2 hW3 hL0 hL1 hG hA0 hA1 (by omega) (by omega) hc60) (fr1 := fr - 1) (lo1 := lo - 20) ?_
    refine xt_pure rfl rfl rfl rfl ?_
    refine xt_pure rfl rfl rfl rfl ?_
    refine xt_pure rfl rfl rfl (L1 := [_, _, _, _, _, _, _, _, _]) rfl ?_
    refine xt_pure rfl rfl rfl rfl ?_
    refine xt_pure rfl rfl rfl (st1 := .int 12 :: _) rfl ?_
    refine xt_ic rfl rfl (fun hb => ?_) (fun hb => ?_)
    · replace h := zif_t (p := v1.toInt < 12) hb h
      refine xt_pure rfl rfl rfl (st1 := .int 0 :: _) rfl ?_
      exact tcE_ask_17 hW2 hW3 hL0 hL1 hG hA0 hA1 hf hl h
    · replace h := zif_f (p := v1.toInt < 12) hb h
      refine xt_pure rfl rfl rfl rfl ?_
      obtain ⟨x61, S62, hc63, h⟩ := zbi h
      refine zt_Vl rfl rfl rfl rfl (xmC 142 rfl) ⟨rfl, rfl, yle rfl, yle rfl⟩ (m := 1) rfl ⟨by omega, by omega⟩ (tcE_pop hW2 hW3 hL0 hL1 hG hA0 hA1 (by omega) (by omega) hc63) (fr1 := fr - 1) (lo1 := lo - 20) ?_
      refine xt_pure rfl rfl rfl rfl ?_
      refine xt_pure rfl rfl rfl rfl ?_
      exact tcE_ask_17 hW2 hW3 hL0 hL1 hG hA0 hA1 hf hl h
