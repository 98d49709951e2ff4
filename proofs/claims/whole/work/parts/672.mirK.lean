/-! MIRRORS: working, the knot -/
def cE_worthOf_8 (gi : Nat → Int32) (ga : Nat → List Int32) (As : List (Option zO)) (ne : Int32) (am : List Int64) (rc132 : Int32 → Int32 → zS → Option (Int64 × zS))  (N : Nat)  (l1 : Int32) (S : zS) : Option (Int64 × zS) := (zg (gI (zA S 14) l1) fun x2 => (zg (gI (zA S 15) l1) fun x3 => (zg (gI (zB S 13) l1) fun x4 => some (x4, (zsI (zsI S 1 x2) 2 x3)))))
theorem tcE_worthOf_8 {X : List Int32} {D0 : List xE} {fa aa : Nat} {p : Nat → Nat} {gi : Nat → Int32} {ga : Nat → List Int32} {refs : List Value} {As : List (Option zO)} {ne : Int32} {am : List Int64} (hW2 : ((110, .inl (10, 2, .ref fa)) : xE) ∈ D0) (hW3 : ((110, .inl (10, 3, .ref aa)) : xE) ∈ D0) (hL0 : ((106, .inl (5, 2, .int ne)) : xE) ∈ D0) (hL1 : ((107, .inr (1, am.map Value.long)) : xE) ∈ D0) (hG : ∀ e ∈ zgE fa p gi ga, e ∈ D0) (hA0 : ((aa, .inr (7, refs)) : xE) ∈ D0) (hA1 : ∀ {j : Int32} {z : Option zO}, gI As j = some z → ∃ v, gI refs j = some v ∧ zVC D0 v z) {fr0 lo0 : Nat} {rc132 : Int32 → Int32 → zS → Option (Int64 × zS)} (hrc132 : ∀ {b0 : Int32} {b1 : Int32} {S S2 : zS} {r : Int64}, rc132 b0 b1 S = some (r, S2) → yK X fr0 lo0 132 [.ref 110, .int b0, .int b1] (zD zTE zaE S D0) 0 0 (zQl zTE zaE D0 r S2))  {N fr lo : Nat}   (hf0 : fr0 + 1 ≤ fr) (hl0 : lo0 + 26 ≤ lo) (hf : 0 ≤ fr) (hl : 0 ≤ lo) {l1 : Int32} {d2 : Int32} {S S2 : zS} {r : Int64}  (h : cE_worthOf_8 gi ga As ne am rc132 N l1 S = some (r, S2)) : yT X fr lo 135 8 [some (.ref 110), some (.int l1), some (.int d2), none] [] (zD zTE zaE S D0) 0 0 (zQl zTE zaE D0 r S2) := by
  unfold cE_worthOf_8 at h
  refine xt_pure rfl rfl rfl rfl ?_
  refine xt_pure rfl rfl rfl rfl ?_
  refine xt_getf rfl rfl (xmC 148 rfl) ?_
  refine xt_pure rfl rfl rfl rfl ?_
  obtain ⟨x2, hx2, h⟩ := zgi h
  refine zr_ild (l := (zA S 14)) rfl rfl (zmA 14 rfl rfl (l := (zA S 14)) rfl) hx2 ?_
  refine zt_pI 1 rfl rfl rfl rfl rfl rfl ?_
  refine xt_pure rfl rfl rfl rfl ?_
  refine xt_pure rfl rfl rfl rfl ?_
  refine xt_getf rfl rfl (xmC 149 rfl) ?_
  refine xt_pure rfl rfl rfl rfl ?_
  obtain ⟨x3, hx3, h⟩ := zgi h
  refine zr_ild (l := (zA S 15)) rfl rfl (zmA 15 rfl rfl (l := (zA S 15)) rfl) hx3 ?_
  refine zt_pI 2 rfl rfl rfl rfl rfl rfl ?_
  refine xt_pure rfl rfl rfl rfl ?_
  refine xt_getf rfl rfl (xmC 147 rfl) ?_
  refine xt_pure rfl rfl rfl rfl ?_
  obtain ⟨x4, hx4, h⟩ := zgi h
  refine zr_lld (l := (zB S 13)) rfl rfl (zmB 13 rfl rfl (l := (zB S 13)) rfl) hx4 ?_
  cases h
  exact xt_lret rfl rfl rfl ⟨rfl, rfl⟩
def cE_worthOf (gi : Nat → Int32) (ga : Nat → List Int32) (As : List (Option zO)) (ne : Int32) (am : List Int64) (rc132 : Int32 → Int32 → zS → Option (Int64 × zS))  (N : Nat) (v1 : Int32) (v2 : Int32) (S : zS) : Option (Int64 × zS) := (zg (gI (zA S 12) v1) fun x1 => (if x1 ≠ (0 : Int32) then cE_worthOf_8 gi ga As ne am rc132 N v1 S else (if v2.toInt < 12 then (zg (gI (ga 9) v1) fun x5 => (zb (rc132 x5 (v2 + 1) (zsI (zsI S 3 v1) 4 ((zI S 4) + 1))) fun x6 S7 => (if zok (zB S7 13) v1 then (if zok (zA S7 12) v1 then (if zok (zA S7 14) v1 then (if zok (zA S7 15) v1 then (zg (gI (zs (zB S7 13) v1 x6) v1) fun x9 => some (x9, (zsA (zsA (zsA (zsI (zsI (zsB S7 13 (zs (zB S7 13) v1 x6)) 5 ((zI S7 5) + 1)) 3 (zI S 3)) 12 (zs (zA S7 12) v1 1)) 14 (zs (zA S7 14) v1 (zI S7 1))) 15 (zs (zA S7 15) v1 (zI S7 2))))) else none) else none) else none) else none))) else cE_worthOf_8 gi ga As ne am rc132 N v1 S)))
theorem tcE_worthOf {X : List Int32} {D0 : List xE} {fa aa : Nat} {p : Nat → Nat} {gi : Nat → Int32} {ga : Nat → List Int32} {refs : List Value} {As : List (Option zO)} {ne : Int32} {am : List Int64} (hW2 : ((110, .inl (10, 2, .ref fa)) : xE) ∈ D0) (hW3 : ((110, .inl (10, 3, .ref aa)) : xE) ∈ D0) (hL0 : ((106, .inl (5, 2, .int ne)) : xE) ∈ D0) (hL1 : ((107, .inr (1, am.map Value.long)) : xE) ∈ D0) (hG : ∀ e ∈ zgE fa p gi ga, e ∈ D0) (hA0 : ((aa, .inr (7, refs)) : xE) ∈ D0) (hA1 : ∀ {j : Int32} {z : Option zO}, gI As j = some z → ∃ v, gI refs j = some v ∧ zVC D0 v z) {fr0 lo0 : Nat} {rc132 : Int32 → Int32 → zS → Option (Int64 × zS)} (hrc132 : ∀ {b0 : Int32} {b1 : Int32} {S S2 : zS} {r : Int64}, rc132 b0 b1 S = some (r, S2) → yK X fr0 lo0 132 [.ref 110, .int b0, .int b1] (zD zTE zaE S D0) 0 0 (zQl zTE zaE D0 r S2))  {N fr lo : Nat} (hf0 : fr0 + 1 ≤ fr) (hl0 : lo0 + 26 ≤ lo) (hf : 0 ≤ fr) (hl : 0 ≤ lo) {v1 : Int32} {v2 : Int32} {S S2 : zS} {r : Int64}  (h : cE_worthOf gi ga As ne am rc132 N v1 v2 S = some (r, S2)) : yK X fr lo 135 [.ref 110, .int v1, .int v2] (zD zTE zaE S D0) 0 0 (zQl zTE zaE D0 r S2) := by
  unfold cE_worthOf at h
  refine yK.of rfl (yle rfl) (L := [_, _, _, _]) rfl ?_
  refine xt_pure rfl rfl rfl rfl ?_
  refine xt_getf rfl rfl (xmC 146 rfl) ?_
  refine xt_pure rfl rfl rfl rfl ?_
  obtain ⟨x1, hx1, h⟩ := zgi h
  refine zr_bld (l := (zA S 12)) rfl rfl (by decide) (zmA 12 rfl rfl (l := (zA S 12)) rfl) hx1 ?_
  refine xt_if rfl rfl (fun hb => ?_) (fun hb => ?_)
  · replace h := zif_t (p := x1 ≠ (0 : Int32)) hb h
    exact tcE_worthOf_8 hW2 hW3 hL0 hL1 hG hA0 hA1 hrc132 hf0 hl0 hf hl h
  · replace h := zif_f (p := x1 ≠ (0 : Int32)) hb h
    refine xt_pure rfl rfl rfl rfl ?_
    refine xt_pure rfl rfl rfl (st1 := .int 12 :: _) rfl ?_
    refine xt_ic rfl rfl (fun hb => ?_) (fun hb => ?_)
    · replace h := zif_t (p := v2.toInt < 12) hb h
      refine xt_pure rfl rfl rfl rfl ?_
      refine zt_gI 3 rfl rfl rfl rfl (x := (zI S 3)) rfl ?_
      refine xt_pure rfl rfl rfl (L1 := [_, _, _, _]) rfl ?_
      refine xt_pure rfl rfl rfl rfl ?_
      refine xt_pure rfl rfl rfl rfl ?_
      refine zt_pI 3 rfl rfl rfl rfl rfl rfl ?_
      refine xt_pure rfl rfl rfl rfl ?_
      refine xt_pure rfl rfl rfl rfl ?_
      refine zt_gI 4 rfl rfl rfl rfl (x := (zI S 4)) rfl ?_
      refine xt_pure rfl rfl rfl (st1 := .int 1 :: _) rfl ?_
      refine xt_pure rfl rfl rfl rfl ?_
      refine zt_pI 4 rfl rfl rfl rfl rfl rfl ?_
      refine xt_pure rfl rfl rfl rfl ?_
      refine xt_getf rfl rfl (xmC 147 rfl) ?_
      refine xt_pure rfl rfl rfl rfl ?_
      refine xt_pure rfl rfl rfl rfl ?_
      refine xt_pure rfl rfl rfl rfl ?_
      refine xt_getf rfl rfl (zmr hW2) ?_
      refine xt_getf rfl rfl (zmr (ymm hG 9 rfl)) ?_
      refine xt_pure rfl rfl rfl rfl ?_
      obtain ⟨x5, hx5, h⟩ := zgi h
      refine zr_ild (l := (ga 9)) rfl rfl (zmr (ymm hG 26 rfl)) hx5 ?_
      refine xt_pure rfl rfl rfl rfl ?_
      refine xt_pure rfl rfl rfl (st1 := .int 1 :: _) rfl ?_
      refine xt_pure rfl rfl rfl rfl ?_
      obtain ⟨x6, S7, hc8, h⟩ := zbi h
      refine zt_Vl rfl rfl rfl rfl (xmC 142 rfl) ⟨rfl, rfl, yle rfl, yle rfl⟩ (m := 7) rfl ⟨by omega, by omega⟩ (hrc132 hc8) (fr1 := fr0) (lo1 := lo0) ?_
      obtain ⟨hg, h⟩ := zgd h
      refine zt_lst 13 rfl rfl rfl rfl (l := (zB S7 13)) rfl hg ?_
      refine xt_pure rfl rfl rfl rfl ?_
      refine xt_pure rfl rfl rfl rfl ?_
      refine zt_gI 5 rfl rfl rfl rfl (x := (zI S7 5)) rfl ?_
      refine xt_pure rfl rfl rfl (st1 := .int 1 :: _) rfl ?_
      refine xt_pure rfl rfl rfl rfl ?_
      refine zt_pI 5 rfl rfl rfl rfl rfl rfl ?_
      refine xt_pure rfl rfl rfl rfl ?_
      refine xt_pure rfl rfl rfl rfl ?_
      refine zt_pI 3 rfl rfl rfl rfl rfl rfl ?_
      refine xt_pure rfl rfl rfl rfl ?_
      refine xt_getf rfl rfl (xmC 146 rfl) ?_
      refine xt_pure rfl rfl rfl rfl ?_
      refine xt_pure rfl rfl rfl (st1 := .int 1 :: _) rfl ?_
      obtain ⟨hg, h⟩ := zgd h
      refine zt_bst 12 rfl rfl (by decide) rfl rfl (l := (zA S7 12)) rfl hg ?_
      refine xt_pure rfl rfl rfl rfl ?_
      refine xt_getf rfl rfl (xmC 148 rfl) ?_
      refine xt_pure rfl rfl rfl rfl ?_
      refine xt_pure rfl rfl rfl rfl ?_
      refine zt_gI 1 rfl rfl rfl rfl (x := (zI S7 1)) rfl ?_
      obtain ⟨hg, h⟩ := zgd h
      refine zt_ist 14 rfl rfl rfl rfl (l := (zA S7 14)) rfl hg ?_
      refine xt_pure rfl rfl rfl rfl ?_
      refine xt_getf rfl rfl (xmC 149 rfl) ?_
      refine xt_pure rfl rfl rfl rfl ?_
      refine xt_pure rfl rfl rfl rfl ?_
      refine zt_gI 2 rfl rfl rfl rfl (x := (zI S7 2)) rfl ?_
      obtain ⟨hg, h⟩ := zgd h
      refine zt_ist 15 rfl rfl rfl rfl (l := (zA S7 15)) rfl hg ?_
      refine xt_pure rfl rfl rfl rfl ?_
      refine xt_getf rfl rfl (xmC 147 rfl) ?_
      refine xt_pure rfl rfl rfl rfl ?_
      obtain ⟨x9, hx9, h⟩ := zgi h
      refine zr_lld (l := (zs (zB S7 13) v1 x6)) rfl rfl (zmB 13 rfl rfl (l := (zs (zB S7 13) v1 x6)) rfl) hx9 ?_
      cases h
      exact xt_lret rfl rfl rfl ⟨rfl, rfl⟩
    · replace h := zif_f (p := v2.toInt < 12) hb h
      exact tcE_worthOf_8 hW2 hW3 hL0 hL1 hG hA0 hA1 hrc132 hf0 hl0 hf hl h
def cE_step_32 (gi : Nat → Int32) (ga : Nat → List Int32) (As : List (Option zO)) (ne : Int32) (am : List Int64) (rc132 : Int32 → Int32 → zS → Option (Int64 × zS))  (N : Nat)  (l1 : Int32) (l3 : Int32) (l4 : Int32) (S : zS) : Option (Int32 × zS) := (if l3 ≠ (3 : Int32) then (zb (cE_decide gi ga As ne am N 0 l1 l4 S) fun x14 S15 => some (x14, S15)) else (zb (cE_decide gi ga As ne am N 1 l1 l4 S) fun x17 S18 => some (x17, S18)))
theorem tcE_step_32 {X : List Int32} {D0 : List xE} {fa aa : Nat} {p : Nat → Nat} {gi : Nat → Int32} {ga : Nat → List Int32} {refs : List Value} {As : List (Option zO)} {ne : Int32} {am : List Int64} (hW2 : ((110, .inl (10, 2, .ref fa)) : xE) ∈ D0) (hW3 : ((110, .inl (10, 3, .ref aa)) : xE) ∈ D0) (hL0 : ((106, .inl (5, 2, .int ne)) : xE) ∈ D0) (hL1 : ((107, .inr (1, am.map Value.long)) : xE) ∈ D0) (hG : ∀ e ∈ zgE fa p gi ga, e ∈ D0) (hA0 : ((aa, .inr (7, refs)) : xE) ∈ D0) (hA1 : ∀ {j : Int32} {z : Option zO}, gI As j = some z → ∃ v, gI refs j = some v ∧ zVC D0 v z) {fr0 lo0 : Nat} {rc132 : Int32 → Int32 → zS → Option (Int64 × zS)} (hrc132 : ∀ {b0 : Int32} {b1 : Int32} {S S2 : zS} {r : Int64}, rc132 b0 b1 S = some (r, S2) → yK X fr0 lo0 132 [.ref 110, .int b0, .int b1] (zD zTE zaE S D0) 0 0 (zQl zTE zaE D0 r S2))  {N fr lo : Nat}   (hf0 : fr0 + 2 ≤ fr) (hl0 : lo0 + 49 ≤ lo) (hf : 3 ≤ fr) (hl : 77 ≤ lo) {l1 : Int32} {l3 : Int32} {l4 : Int32} {d2 : Int32} {S S2 : zS} {r : Int32}  (h : cE_step_32 gi ga As ne am rc132 N l1 l3 l4 S = some (r, S2)) : yT X fr lo 133 32 [some (.ref 110), some (.int l1), some (.int d2), some (.int l3), some (.int l4)] [] (zD zTE zaE S D0) 0 0 (zQi zTE zaE D0 r S2) := by
  unfold cE_step_32 at h
  refine xt_pure rfl rfl rfl rfl ?_
  refine xt_pure rfl rfl rfl rfl ?_
  refine xt_pure rfl rfl rfl (st1 := .int 3 :: _) rfl ?_
  refine xt_ic rfl rfl (fun hb => ?_) (fun hb => ?_)
  · replace h := zif_t (p := l3 ≠ (3 : Int32)) hb h
    refine xt_pure rfl rfl rfl (st1 := .int 0 :: _) rfl ?_
    refine xt_pure rfl rfl rfl rfl ?_
    refine xt_pure rfl rfl rfl rfl ?_
    obtain ⟨x14, S15, hc16, h⟩ := zbi h
    refine zt_Vi rfl rfl rfl rfl (xmC 142 rfl) ⟨rfl, rfl, yle rfl, yle rfl⟩ (m := 5) rfl ⟨by omega, by omega⟩ (tcE_decide hW2 hW3 hL0 hL1 hG hA0 hA1 (by omega) (by omega) hc16) (fr1 := fr - 1) (lo1 := lo - 24) ?_
    cases h
    exact xt_iret rfl rfl rfl rfl ⟨rfl, rfl⟩
  · replace h := zif_f (p := l3 ≠ (3 : Int32)) hb h
    refine xt_pure rfl rfl rfl (st1 := .int 1 :: _) rfl ?_
    refine xt_pure rfl rfl rfl rfl ?_
    refine xt_pure rfl rfl rfl rfl ?_
    refine xt_pure rfl rfl rfl rfl ?_
    obtain ⟨x17, S18, hc19, h⟩ := zbi h
    refine zt_Vi rfl rfl rfl rfl (xmC 142 rfl) ⟨rfl, rfl, yle rfl, yle rfl⟩ (m := 5) rfl ⟨by omega, by omega⟩ (tcE_decide hW2 hW3 hL0 hL1 hG hA0 hA1 (by omega) (by omega) hc19) (fr1 := fr - 1) (lo1 := lo - 24) ?_
    cases h
    exact xt_iret rfl rfl rfl rfl ⟨rfl, rfl⟩
def cE_step_94 (gi : Nat → Int32) (ga : Nat → List Int32) (As : List (Option zO)) (ne : Int32) (am : List Int64) (rc132 : Int32 → Int32 → zS → Option (Int64 × zS))  (N : Nat)  (l1 : Int32) (l3 : Int32) (l4 : Int32) (S : zS) : Option (Int32 × zS) := (if 15 ≤ l3.toInt then (zb (cE_reckon gi ga As ne am N l3 S) fun x55 S56 => (zb (cE_push gi ga As ne am N x55 S56) fun _ S59 => some ((l1 + 1), S59))) else (zb (cE_ask gi ga As ne am N l3 (l4 >>> ((3 : Int32) &&& 31)) S) fun x61 S62 => (zb (cE_push gi ga As ne am N x61 S62) fun _ S65 => some ((l1 + 1), S65))))
theorem tcE_step_94 {X : List Int32} {D0 : List xE} {fa aa : Nat} {p : Nat → Nat} {gi : Nat → Int32} {ga : Nat → List Int32} {refs : List Value} {As : List (Option zO)} {ne : Int32} {am : List Int64} (hW2 : ((110, .inl (10, 2, .ref fa)) : xE) ∈ D0) (hW3 : ((110, .inl (10, 3, .ref aa)) : xE) ∈ D0) (hL0 : ((106, .inl (5, 2, .int ne)) : xE) ∈ D0) (hL1 : ((107, .inr (1, am.map Value.long)) : xE) ∈ D0) (hG : ∀ e ∈ zgE fa p gi ga, e ∈ D0) (hA0 : ((aa, .inr (7, refs)) : xE) ∈ D0) (hA1 : ∀ {j : Int32} {z : Option zO}, gI As j = some z → ∃ v, gI refs j = some v ∧ zVC D0 v z) {fr0 lo0 : Nat} {rc132 : Int32 → Int32 → zS → Option (Int64 × zS)} (hrc132 : ∀ {b0 : Int32} {b1 : Int32} {S S2 : zS} {r : Int64}, rc132 b0 b1 S = some (r, S2) → yK X fr0 lo0 132 [.ref 110, .int b0, .int b1] (zD zTE zaE S D0) 0 0 (zQl zTE zaE D0 r S2))  {N fr lo : Nat}   (hf0 : fr0 + 2 ≤ fr) (hl0 : lo0 + 49 ≤ lo) (hf : 3 ≤ fr) (hl : 77 ≤ lo) {l1 : Int32} {l3 : Int32} {l4 : Int32} {d2 : Int32} {S S2 : zS} {r : Int32}  (h : cE_step_94 gi ga As ne am rc132 N l1 l3 l4 S = some (r, S2)) : yT X fr lo 133 94 [some (.ref 110), some (.int l1), some (.int d2), some (.int l3), some (.int l4)] [] (zD zTE zaE S D0) 0 0 (zQi zTE zaE D0 r S2) := by
  unfold cE_step_94 at h
  refine xt_pure rfl rfl rfl rfl ?_
  refine xt_pure rfl rfl rfl rfl ?_
  refine xt_pure rfl rfl rfl (st1 := .int 15 :: _) rfl ?_
  refine xt_ic rfl rfl (fun hb => ?_) (fun hb => ?_)
  · replace h := zif_t (p := 15 ≤ l3.toInt) hb h
    refine xt_pure rfl rfl rfl rfl ?_
    refine xt_pure rfl rfl rfl rfl ?_
    obtain ⟨x55, S56, hc57, h⟩ := zbi h
    refine zt_Vl rfl rfl rfl rfl (xmC 142 rfl) ⟨rfl, rfl, yle rfl, yle rfl⟩ (m := 6) rfl ⟨by omega, by omega⟩ (tcE_reckon hW2 hW3 hL0 hL1 hG hA0 hA1 (by omega) (by omega) hc57) (fr1 := fr - 1) (lo1 := lo - 25) ?_
    obtain ⟨_, S59, hc60, h⟩ := zbi h
    refine zt_Vv rfl rfl rfl rfl (xmC 142 rfl) ⟨rfl, rfl, yle rfl, yle rfl⟩ (m := 3) rfl ⟨by omega, by omega⟩ (tcE_push hW2 hW3 hL0 hL1 hG hA0 hA1 (by omega) (by omega) hc60) (fr1 := fr - 1) (lo1 := lo - 22) ?_
    refine xt_pure rfl rfl rfl rfl ?_
    refine xt_pure rfl rfl rfl (st1 := .int 1 :: _) rfl ?_
    refine xt_pure rfl rfl rfl rfl ?_
    cases h
    exact xt_iret rfl rfl rfl rfl ⟨rfl, rfl⟩
  · replace h := zif_f (p := 15 ≤ l3.toInt) hb h
    refine xt_pure rfl rfl rfl rfl ?_
    refine xt_pure rfl rfl rfl rfl ?_
    refine xt_pure rfl rfl rfl rfl ?_
    refine xt_pure rfl rfl rfl (st1 := .int 3 :: _) rfl ?_
    refine xt_pure rfl rfl rfl rfl ?_
    obtain ⟨x61, S62, hc63, h⟩ := zbi h
    refine zt_Vl rfl rfl rfl rfl (xmC 142 rfl) ⟨rfl, rfl, yle rfl, yle rfl⟩ (m := 9) rfl ⟨by omega, by omega⟩ (tcE_ask hW2 hW3 hL0 hL1 hG hA0 hA1 (by omega) (by omega) hc63) (fr1 := fr - 1) (lo1 := lo - 28) ?_
    refine xt_pure rfl rfl rfl rfl ?_
    obtain ⟨_, S65, hc66, h⟩ := zbi h
    refine zt_Vv rfl rfl rfl rfl (xmC 142 rfl) ⟨rfl, rfl, yle rfl, yle rfl⟩ (m := 3) rfl ⟨by omega, by omega⟩ (tcE_push hW2 hW3 hL0 hL1 hG hA0 hA1 (by omega) (by omega) hc66) (fr1 := fr - 1) (lo1 := lo - 22) ?_
    refine xt_pure rfl rfl rfl rfl ?_
    refine xt_pure rfl rfl rfl (st1 := .int 1 :: _) rfl ?_
    refine xt_pure rfl rfl rfl rfl ?_
    cases h
    exact xt_iret rfl rfl rfl rfl ⟨rfl, rfl⟩
def cE_step (gi : Nat → Int32) (ga : Nat → List Int32) (As : List (Option zO)) (ne : Int32) (am : List Int64) (rc132 : Int32 → Int32 → zS → Option (Int64 × zS))  (N : Nat) (v1 : Int32) (v2 : Int32) (S : zS) : Option (Int32 × zS) := (zg (gI (ga 16) v1) fun x1 => (zg (gI (ga 17) v1) fun x2 => (if x1 = 1 then (zb (cE_push gi ga As ne am N x2.toInt64 S) fun _ S4 => some ((v1 + 1), S4)) else if x1 = 2 then (zb (cE_worthOf gi ga As ne am rc132 N x2 v2 S) fun x7 S8 => (zb (cE_push gi ga As ne am N x7 S8) fun _ S11 => some ((v1 + 1), S11))) else if x1 = 3 then cE_step_32 gi ga As ne am rc132 N v1 x1 x2 S else if x1 = 4 then cE_step_32 gi ga As ne am rc132 N v1 x1 x2 S else if x1 = 5 then (zb (cE_beginTry gi ga As ne am N x2 S) fun _ S23 => some ((v1 + 1), S23)) else if x1 = 6 then some (x2, (zsI S 8 ((zI S 8) - 1))) else if x1 = 9 then (zg (gI As (x2 >>> ((3 : Int32) &&& 31))) fun z27 => (zo z27 ((zb (cE_push gi ga As ne am N 0 S) fun _ S29 => some ((v1 + 1), S29))) fun o27 => (zb (cE_push gi ga As ne am N 1 S) fun _ S32 => some ((v1 + 1), S32)))) else if x1 = 10 then (zg (gI As (x2 >>> ((3 : Int32) &&& 31))) fun z35 => (zo z35 ((zb (cE_isOfSort gi ga As ne am N none (x2 &&& 7) S) fun x36 S37 => (if x36 = (0 : Int32) then (zb (cE_push gi ga As ne am N 0 S37) fun _ S40 => some ((v1 + 1), S40)) else (zb (cE_push gi ga As ne am N 1 S37) fun _ S43 => some ((v1 + 1), S43))))) fun o35 => (zb (cE_isOfSort gi ga As ne am N (some o35) (x2 &&& 7) S) fun x45 S46 => (if x45 = (0 : Int32) then (zb (cE_push gi ga As ne am N 0 S46) fun _ S49 => some ((v1 + 1), S49)) else (zb (cE_push gi ga As ne am N 1 S46) fun _ S52 => some ((v1 + 1), S52)))))) else cE_step_94 gi ga As ne am rc132 N v1 x1 x2 S)))
set_option maxRecDepth 20000 in
theorem tcE_step {X : List Int32} {D0 : List xE} {fa aa : Nat} {p : Nat → Nat} {gi : Nat → Int32} {ga : Nat → List Int32} {refs : List Value} {As : List (Option zO)} {ne : Int32} {am : List Int64} (hW2 : ((110, .inl (10, 2, .ref fa)) : xE) ∈ D0) (hW3 : ((110, .inl (10, 3, .ref aa)) : xE) ∈ D0) (hL0 : ((106, .inl (5, 2, .int ne)) : xE) ∈ D0) (hL1 : ((107, .inr (1, am.map Value.long)) : xE) ∈ D0) (hG : ∀ e ∈ zgE fa p gi ga, e ∈ D0) (hA0 : ((aa, .inr (7, refs)) : xE) ∈ D0) (hA1 : ∀ {j : Int32} {z : Option zO}, gI As j = some z → ∃ v, gI refs j = some v ∧ zVC D0 v z) {fr0 lo0 : Nat} {rc132 : Int32 → Int32 → zS → Option (Int64 × zS)} (hrc132 : ∀ {b0 : Int32} {b1 : Int32} {S S2 : zS} {r : Int64}, rc132 b0 b1 S = some (r, S2) → yK X fr0 lo0 132 [.ref 110, .int b0, .int b1] (zD zTE zaE S D0) 0 0 (zQl zTE zaE D0 r S2))  {N fr lo : Nat} (hf0 : fr0 + 2 ≤ fr) (hl0 : lo0 + 49 ≤ lo) (hf : 3 ≤ fr) (hl : 77 ≤ lo) {v1 : Int32} {v2 : Int32} {S S2 : zS} {r : Int32}  (h : cE_step gi ga As ne am rc132 N v1 v2 S = some (r, S2)) : yK X fr lo 133 [.ref 110, .int v1, .int v2] (zD zTE zaE S D0) 0 0 (zQi zTE zaE D0 r S2) := by
  unfold cE_step at h
  refine yK.of rfl (yle rfl) (L := [_, _, _, _, _]) rfl ?_
  refine xt_pure rfl rfl rfl rfl ?_
  refine xt_getf rfl rfl (zmr hW2) ?_
  refine xt_getf rfl rfl (zmr (ymm hG 16 rfl)) ?_
  refine xt_pure rfl rfl rfl rfl ?_
  obtain ⟨x1, hx1, h⟩ := zgi h
  refine zr_ild (l := (ga 16)) rfl rfl (zmr (ymm hG 29 rfl)) hx1 ?_
  refine xt_pure rfl rfl rfl (L1 := [_, _, _, _, _]) rfl ?_
  refine xt_pure rfl rfl rfl rfl ?_
  refine xt_getf rfl rfl (zmr hW2) ?_
  refine xt_getf rfl rfl (zmr (ymm hG 17 rfl)) ?_
  refine xt_pure rfl rfl rfl rfl ?_
  obtain ⟨x2, hx2, h⟩ := zgi h
  refine zr_ild (l := (ga 17)) rfl rfl (zmr (ymm hG 30 rfl)) hx2 ?_
  refine xt_pure rfl rfl rfl (L1 := [_, _, _, _, _]) rfl ?_
  refine xt_pure rfl rfl rfl rfl ?_
  by_cases hw6 : x1 = 1
  · replace h := zif_t (p := x1 = 1) hw6 h
    refine zt_sw (tg := 14) rfl rfl rfl hw6 rfl ?_
    refine xt_pure rfl rfl rfl rfl ?_
    refine xt_pure rfl rfl rfl rfl ?_
    refine xt_pure rfl rfl rfl rfl ?_
    obtain ⟨_, S4, hc5, h⟩ := zbi h
    refine zt_Vv rfl rfl rfl rfl (xmC 142 rfl) ⟨rfl, rfl, yle rfl, yle rfl⟩ (m := 3) rfl ⟨by omega, by omega⟩ (tcE_push hW2 hW3 hL0 hL1 hG hA0 hA1 (by omega) (by omega) hc5) (fr1 := fr - 1) (lo1 := lo - 22) ?_
    refine xt_pure rfl rfl rfl rfl ?_
    refine xt_pure rfl rfl rfl (st1 := .int 1 :: _) rfl ?_
    refine xt_pure rfl rfl rfl rfl ?_
    cases h
    exact xt_iret rfl rfl rfl rfl ⟨rfl, rfl⟩
  replace h := zif_f (p := x1 = 1) hw6 h
  by_cases hw13 : x1 = 2
  · replace h := zif_t (p := x1 = 2) hw13 h
    refine zt_sw (tg := 22) rfl rfl rfl hw13 rfl ?_
    refine xt_pure rfl rfl rfl rfl ?_
    refine xt_pure rfl rfl rfl rfl ?_
    refine xt_pure rfl rfl rfl rfl ?_
    refine xt_pure rfl rfl rfl rfl ?_
    obtain ⟨x7, S8, hc9, h⟩ := zbi h
    refine zt_Vl rfl rfl rfl rfl (xmC 142 rfl) ⟨rfl, rfl, yle rfl, yle rfl⟩ (m := 4) rfl ⟨by omega, by omega⟩ (tcE_worthOf hW2 hW3 hL0 hL1 hG hA0 hA1 hrc132 (by omega) (by omega) (by omega) (by omega) hc9) (fr1 := fr - 1) (lo1 := lo - 23) ?_
    obtain ⟨_, S11, hc12, h⟩ := zbi h
    refine zt_Vv rfl rfl rfl rfl (xmC 142 rfl) ⟨rfl, rfl, yle rfl, yle rfl⟩ (m := 3) rfl ⟨by omega, by omega⟩ (tcE_push hW2 hW3 hL0 hL1 hG hA0 hA1 (by omega) (by omega) hc12) (fr1 := fr - 1) (lo1 := lo - 22) ?_
    refine xt_pure rfl rfl rfl rfl ?_
    refine xt_pure rfl rfl rfl (st1 := .int 1 :: _) rfl ?_
    refine xt_pure rfl rfl rfl rfl ?_
    cases h
    exact xt_iret rfl rfl rfl rfl ⟨rfl, rfl⟩
  replace h := zif_f (p := x1 = 2) hw13 h
  by_cases hw20 : x1 = 3
  · replace h := zif_t (p := x1 = 3) hw20 h
    refine zt_sw (tg := 32) rfl rfl rfl hw20 rfl ?_
    exact tcE_step_32 hW2 hW3 hL0 hL1 hG hA0 hA1 hrc132 hf0 hl0 hf hl h
  replace h := zif_f (p := x1 = 3) hw20 h
  by_cases hw21 : x1 = 4
  · replace h := zif_t (p := x1 = 4) hw21 h
    refine zt_sw (tg := 32) rfl rfl rfl hw21 rfl ?_
    exact tcE_step_32 hW2 hW3 hL0 hL1 hG hA0 hA1 hrc132 hf0 hl0 hf hl h
  replace h := zif_f (p := x1 = 4) hw21 h
  by_cases hw25 : x1 = 5
  · replace h := zif_t (p := x1 = 5) hw25 h
    refine zt_sw (tg := 43) rfl rfl rfl hw25 rfl ?_
    refine xt_pure rfl rfl rfl rfl ?_
    refine xt_pure rfl rfl rfl rfl ?_
    obtain ⟨_, S23, hc24, h⟩ := zbi h
    refine zt_Vv rfl rfl rfl rfl (xmC 142 rfl) ⟨rfl, rfl, yle rfl, yle rfl⟩ (m := 2) rfl ⟨by omega, by omega⟩ (tcE_beginTry hW2 hW3 hL0 hL1 hG hA0 hA1 (by omega) (by omega) hc24) (fr1 := fr - 1) (lo1 := lo - 21) ?_
    refine xt_pure rfl rfl rfl rfl ?_
    refine xt_pure rfl rfl rfl (st1 := .int 1 :: _) rfl ?_
    refine xt_pure rfl rfl rfl rfl ?_
    cases h
    exact xt_iret rfl rfl rfl rfl ⟨rfl, rfl⟩
  replace h := zif_f (p := x1 = 5) hw25 h
  by_cases hw26 : x1 = 6
  · replace h := zif_t (p := x1 = 6) hw26 h
    refine zt_sw (tg := 50) rfl rfl rfl hw26 rfl ?_
    refine xt_pure rfl rfl rfl rfl ?_
    refine xt_pure rfl rfl rfl rfl ?_
    refine zt_gI 8 rfl rfl rfl rfl (x := (zI S 8)) rfl ?_
    refine xt_pure rfl rfl rfl (st1 := .int 1 :: _) rfl ?_
    refine xt_pure rfl rfl rfl rfl ?_
    refine zt_pI 8 rfl rfl rfl rfl rfl rfl ?_
    refine xt_pure rfl rfl rfl rfl ?_
    cases h
    exact xt_iret rfl rfl rfl rfl ⟨rfl, rfl⟩
  replace h := zif_f (p := x1 = 6) hw26 h
  by_cases hw34 : x1 = 9
  · replace h := zif_t (p := x1 = 9) hw34 h
    refine zt_sw (tg := 58) rfl rfl rfl hw34 rfl ?_
    refine xt_pure rfl rfl rfl rfl ?_
    refine xt_pure rfl rfl rfl rfl ?_
    refine xt_getf rfl rfl (zmr hW3) ?_
    refine xt_pure rfl rfl rfl rfl ?_
    refine xt_pure rfl rfl rfl (st1 := .int 3 :: _) rfl ?_
    refine xt_pure rfl rfl rfl rfl ?_
    obtain ⟨z27, hz27, h⟩ := zgi h
    obtain ⟨v27, hw27, hv27⟩ := hA1 hz27
    refine zr_ald (l := refs) rfl rfl ⟨by decide, rfl⟩ (zmr hA0) hw27 ?_
    rcases z27 with _ | o27
    · obtain rfl : v27 = Value.null := hv27
      replace h := zon h
      refine xt_pure rfl rfl rfl rfl ?_
      refine xt_pure rfl rfl rfl (st1 := .long 0 :: _) rfl ?_
      obtain ⟨_, S29, hc30, h⟩ := zbi h
      refine zt_Vv rfl rfl rfl rfl (xmC 142 rfl) ⟨rfl, rfl, yle rfl, yle rfl⟩ (m := 3) rfl ⟨by omega, by omega⟩ (tcE_push hW2 hW3 hL0 hL1 hG hA0 hA1 (by omega) (by omega) hc30) (fr1 := fr - 1) (lo1 := lo - 22) ?_
      refine xt_pure rfl rfl rfl rfl ?_
      refine xt_pure rfl rfl rfl (st1 := .int 1 :: _) rfl ?_
      refine xt_pure rfl rfl rfl rfl ?_
      cases h
      exact xt_iret rfl rfl rfl rfl ⟨rfl, rfl⟩
    · obtain ⟨oa27, rfl, ho27⟩ := hv27
      replace h := zos h
      have hk27 := ho27
      obtain ⟨ia27, ra27, rr27, q027, q127, q227, q327, q427, q527, q627⟩ := hk27
      refine xt_pure rfl rfl rfl rfl ?_
      refine xt_pure rfl rfl rfl (st1 := .long 1 :: _) rfl ?_
      refine xt_pure rfl rfl rfl rfl ?_
      obtain ⟨_, S32, hc33, h⟩ := zbi h
      refine zt_Vv rfl rfl rfl rfl (xmC 142 rfl) ⟨rfl, rfl, yle rfl, yle rfl⟩ (m := 3) rfl ⟨by omega, by omega⟩ (tcE_push hW2 hW3 hL0 hL1 hG hA0 hA1 (by omega) (by omega) hc33) (fr1 := fr - 1) (lo1 := lo - 22) ?_
      refine xt_pure rfl rfl rfl rfl ?_
      refine xt_pure rfl rfl rfl (st1 := .int 1 :: _) rfl ?_
      refine xt_pure rfl rfl rfl rfl ?_
      cases h
      exact xt_iret rfl rfl rfl rfl ⟨rfl, rfl⟩
  replace h := zif_f (p := x1 = 9) hw34 h
  by_cases hw54 : x1 = 10
  · replace h := zif_t (p := x1 = 10) hw54 h
    refine zt_sw (tg := 74) rfl rfl rfl hw54 rfl ?_
    refine xt_pure rfl rfl rfl rfl ?_
    refine xt_pure rfl rfl rfl rfl ?_
    refine xt_getf rfl rfl (zmr hW3) ?_
    refine xt_pure rfl rfl rfl rfl ?_
    refine xt_pure rfl rfl rfl (st1 := .int 3 :: _) rfl ?_
    refine xt_pure rfl rfl rfl rfl ?_
    obtain ⟨z35, hz35, h⟩ := zgi h
    obtain ⟨v35, hw35, hv35⟩ := hA1 hz35
    refine zr_ald (l := refs) rfl rfl ⟨by decide, rfl⟩ (zmr hA0) hw35 ?_
    rcases z35 with _ | o35
    · obtain rfl : v35 = Value.null := hv35
      replace h := zon h
      refine xt_pure rfl rfl rfl rfl ?_
      refine xt_pure rfl rfl rfl (st1 := .int 7 :: _) rfl ?_
      refine xt_pure rfl rfl rfl rfl ?_
      obtain ⟨x36, S37, hc38, h⟩ := zbi h
      refine zt_Si rfl rfl (by decide) rfl rfl ⟨rfl, yle rfl, yle rfl⟩ (m := 2) rfl ⟨by omega, by omega⟩ (tcE_isOfSort hW2 hW3 hL0 hL1 hG hA0 hA1 (by omega) (by omega) zvnC hc38) (fr1 := fr - 1) (lo1 := lo - 21) ?_
      refine xt_if rfl rfl (fun hb => ?_) (fun hb => ?_)
      · replace h := zif_t (p := x36 = (0 : Int32)) hb h
        refine xt_pure rfl rfl rfl (st1 := .long 0 :: _) rfl ?_
        obtain ⟨_, S40, hc41, h⟩ := zbi h
        refine zt_Vv rfl rfl rfl rfl (xmC 142 rfl) ⟨rfl, rfl, yle rfl, yle rfl⟩ (m := 3) rfl ⟨by omega, by omega⟩ (tcE_push hW2 hW3 hL0 hL1 hG hA0 hA1 (by omega) (by omega) hc41) (fr1 := fr - 1) (lo1 := lo - 22) ?_
        refine xt_pure rfl rfl rfl rfl ?_
        refine xt_pure rfl rfl rfl (st1 := .int 1 :: _) rfl ?_
        refine xt_pure rfl rfl rfl rfl ?_
        cases h
        exact xt_iret rfl rfl rfl rfl ⟨rfl, rfl⟩
      · replace h := zif_f (p := x36 = (0 : Int32)) hb h
        refine xt_pure rfl rfl rfl (st1 := .long 1 :: _) rfl ?_
        refine xt_pure rfl rfl rfl rfl ?_
        obtain ⟨_, S43, hc44, h⟩ := zbi h
        refine zt_Vv rfl rfl rfl rfl (xmC 142 rfl) ⟨rfl, rfl, yle rfl, yle rfl⟩ (m := 3) rfl ⟨by omega, by omega⟩ (tcE_push hW2 hW3 hL0 hL1 hG hA0 hA1 (by omega) (by omega) hc44) (fr1 := fr - 1) (lo1 := lo - 22) ?_
        refine xt_pure rfl rfl rfl rfl ?_
        refine xt_pure rfl rfl rfl (st1 := .int 1 :: _) rfl ?_
        refine xt_pure rfl rfl rfl rfl ?_
        cases h
        exact xt_iret rfl rfl rfl rfl ⟨rfl, rfl⟩
    · obtain ⟨oa35, rfl, ho35⟩ := hv35
      replace h := zos h
      have hk35 := ho35
      obtain ⟨ia35, ra35, rr35, q035, q135, q235, q335, q435, q535, q635⟩ := hk35
      refine xt_pure rfl rfl rfl rfl ?_
      refine xt_pure rfl rfl rfl (st1 := .int 7 :: _) rfl ?_
      refine xt_pure rfl rfl rfl rfl ?_
      obtain ⟨x45, S46, hc47, h⟩ := zbi h
      refine zt_Si rfl rfl (by decide) rfl rfl ⟨rfl, yle rfl, yle rfl⟩ (m := 2) rfl ⟨by omega, by omega⟩ (tcE_isOfSort hW2 hW3 hL0 hL1 hG hA0 hA1 (by omega) (by omega) (zvsC ho35) hc47) (fr1 := fr - 1) (lo1 := lo - 21) ?_
      refine xt_if rfl rfl (fun hb => ?_) (fun hb => ?_)
      · replace h := zif_t (p := x45 = (0 : Int32)) hb h
        refine xt_pure rfl rfl rfl (st1 := .long 0 :: _) rfl ?_
        obtain ⟨_, S49, hc50, h⟩ := zbi h
        refine zt_Vv rfl rfl rfl rfl (xmC 142 rfl) ⟨rfl, rfl, yle rfl, yle rfl⟩ (m := 3) rfl ⟨by omega, by omega⟩ (tcE_push hW2 hW3 hL0 hL1 hG hA0 hA1 (by omega) (by omega) hc50) (fr1 := fr - 1) (lo1 := lo - 22) ?_
        refine xt_pure rfl rfl rfl rfl ?_
        refine xt_pure rfl rfl rfl (st1 := .int 1 :: _) rfl ?_
        refine xt_pure rfl rfl rfl rfl ?_
        cases h
        exact xt_iret rfl rfl rfl rfl ⟨rfl, rfl⟩
      · replace h := zif_f (p := x45 = (0 : Int32)) hb h
        refine xt_pure rfl rfl rfl (st1 := .long 1 :: _) rfl ?_
        refine xt_pure rfl rfl rfl rfl ?_
        obtain ⟨_, S52, hc53, h⟩ := zbi h
        refine zt_Vv rfl rfl rfl rfl (xmC 142 rfl) ⟨rfl, rfl, yle rfl, yle rfl⟩ (m := 3) rfl ⟨by omega, by omega⟩ (tcE_push hW2 hW3 hL0 hL1 hG hA0 hA1 (by omega) (by omega) hc53) (fr1 := fr - 1) (lo1 := lo - 22) ?_
        refine xt_pure rfl rfl rfl rfl ?_
        refine xt_pure rfl rfl rfl (st1 := .int 1 :: _) rfl ?_
        refine xt_pure rfl rfl rfl rfl ?_
        cases h
        exact xt_iret rfl rfl rfl rfl ⟨rfl, rfl⟩
  replace h := zif_f (p := x1 = 10) hw54 h
  by_cases hw67 : x1 = 7
  · refine zt_sw (tg := 94) rfl rfl rfl hw67 rfl ?_
    exact tcE_step_94 hW2 hW3 hL0 hL1 hG hA0 hA1 hrc132 hf0 hl0 hf hl h
  by_cases hw68 : x1 = 8
  · refine zt_sw (tg := 94) rfl rfl rfl hw68 rfl ?_
    exact tcE_step_94 hW2 hW3 hL0 hL1 hG hA0 hA1 hrc132 hf0 hl0 hf hl h
  have hxhw6 : ¬ x1.toInt = 1 := fun h => hw6 (by rw [xi32_eq, h]; rfl)
  have hxhw13 : ¬ x1.toInt = 2 := fun h => hw13 (by rw [xi32_eq, h]; rfl)
  have hxhw20 : ¬ x1.toInt = 3 := fun h => hw20 (by rw [xi32_eq, h]; rfl)
  have hxhw21 : ¬ x1.toInt = 4 := fun h => hw21 (by rw [xi32_eq, h]; rfl)
  have hxhw25 : ¬ x1.toInt = 5 := fun h => hw25 (by rw [xi32_eq, h]; rfl)
  have hxhw26 : ¬ x1.toInt = 6 := fun h => hw26 (by rw [xi32_eq, h]; rfl)
  have hxhw34 : ¬ x1.toInt = 9 := fun h => hw34 (by rw [xi32_eq, h]; rfl)
  have hxhw54 : ¬ x1.toInt = 10 := fun h => hw54 (by rw [xi32_eq, h]; rfl)
  have hxhw67 : ¬ x1.toInt = 7 := fun h => hw67 (by rw [xi32_eq, h]; rfl)
  have hxhw68 : ¬ x1.toInt = 8 := fun h => hw68 (by rw [xi32_eq, h]; rfl)
  refine yt_tsd rfl rfl (by omega) rfl ?_
  exact tcE_step_94 hW2 hW3 hL0 hL1 hG hA0 hA1 hrc132 hf0 hl0 hf hl h
def cE_work_15 (gi : Nat → Int32) (ga : Nat → List Int32) (As : List (Option zO)) (ne : Int32) (am : List Int64) (rc132 : Int32 → Int32 → zS → Option (Int64 × zS))  (N : Nat)  : Nat → Int32 → Int32 → Int32 → Int32 → Int32 → zS → Option (Int64 × zS)
  | 0, _, _, _, _, _, _ => none
  | n + 1, l2, l3, l4, l5, l6, S => (if 560 ≤ l6.toInt then (zb (cE_pop gi ga As ne am N  S) fun x1 S2 => some (x1, S2)) else (if (gi 18).toInt ≤ l5.toInt then (zb (cE_pop gi ga As ne am N  S) fun x4 S5 => some (x4, S5)) else (zg (gI (ga 16) l5) fun x7 => (if x7 = (0 : Int32) then (zb (cE_pop gi ga As ne am N  S) fun x8 S9 => some (x8, S9)) else (zb (cE_step gi ga As ne am rc132 N l5 l2 S) fun x11 S12 => (if (zI S12 1) = (0 : Int32) then (if (zI S12 1) = (0 : Int32) then (cE_work_15 gi ga As ne am rc132 N n) l2 l3 l4 x11 (l6 + 1) S12 else (zb (cE_takeElse gi ga As ne am N  S12) fun x14 S15 => (cE_work_15 gi ga As ne am rc132 N n) l2 l3 l4 x14 (l6 + 1) S15)) else (if (zI S12 8) ≠ l4 then (if (zI S12 1) = (0 : Int32) then (cE_work_15 gi ga As ne am rc132 N n) l2 l3 l4 x11 (l6 + 1) S12 else (zb (cE_takeElse gi ga As ne am N  S12) fun x17 S18 => (cE_work_15 gi ga As ne am rc132 N n) l2 l3 l4 x17 (l6 + 1) S18)) else some (0, (zsI S12 7 l3)))))))))
theorem tcE_work_15 {X : List Int32} {D0 : List xE} {fa aa : Nat} {p : Nat → Nat} {gi : Nat → Int32} {ga : Nat → List Int32} {refs : List Value} {As : List (Option zO)} {ne : Int32} {am : List Int64} (hW2 : ((110, .inl (10, 2, .ref fa)) : xE) ∈ D0) (hW3 : ((110, .inl (10, 3, .ref aa)) : xE) ∈ D0) (hL0 : ((106, .inl (5, 2, .int ne)) : xE) ∈ D0) (hL1 : ((107, .inr (1, am.map Value.long)) : xE) ∈ D0) (hG : ∀ e ∈ zgE fa p gi ga, e ∈ D0) (hA0 : ((aa, .inr (7, refs)) : xE) ∈ D0) (hA1 : ∀ {j : Int32} {z : Option zO}, gI As j = some z → ∃ v, gI refs j = some v ∧ zVC D0 v z) {fr0 lo0 : Nat} {rc132 : Int32 → Int32 → zS → Option (Int64 × zS)} (hrc132 : ∀ {b0 : Int32} {b1 : Int32} {S S2 : zS} {r : Int64}, rc132 b0 b1 S = some (r, S2) → yK X fr0 lo0 132 [.ref 110, .int b0, .int b1] (zD zTE zaE S D0) 0 0 (zQl zTE zaE D0 r S2))  {N fr lo : Nat}   (hf0 : fr0 + 3 ≤ fr) (hl0 : lo0 + 73 ≤ lo) (hf : 4 ≤ fr) (hl : 101 ≤ lo)  : ∀ {n : Nat} {l2 : Int32} {l3 : Int32} {l4 : Int32} {l5 : Int32} {l6 : Int32} {d1 : Int32} {S S2 : zS} {r : Int64} , cE_work_15 gi ga As ne am rc132 N n l2 l3 l4 l5 l6 S = some (r, S2) → yT X fr lo 132 15 [some (.ref 110), some (.int d1), some (.int l2), some (.int l3), some (.int l4), some (.int l5), some (.int l6)] [] (zD zTE zaE S D0) 0 0 (zQl zTE zaE D0 r S2) := by
  intro n
  induction n with
  | zero =>
    intro l2 l3 l4 l5 l6 d1 S S2 r  h
    have h : (none : Option (Int64 × zS)) = some (r, S2) := h
    cases h
  | succ n ih =>
    intro l2 l3 l4 l5 l6 d1 S S2 r  h
    rw [cE_work_15] at h
    refine xt_pure rfl rfl rfl rfl ?_
    refine xt_pure rfl rfl rfl (st1 := .int 560 :: _) rfl ?_
    refine xt_ic rfl rfl (fun hb => ?_) (fun hb => ?_)
    · replace h := zif_t (p := 560 ≤ l6.toInt) hb h
      refine xt_pure rfl rfl rfl rfl ?_
      obtain ⟨x1, S2, hc3, h⟩ := zbi h
      refine zt_Vl rfl rfl rfl rfl (xmC 142 rfl) ⟨rfl, rfl, yle rfl, yle rfl⟩ (m := 1) rfl ⟨by omega, by omega⟩ (tcE_pop hW2 hW3 hL0 hL1 hG hA0 hA1 (by omega) (by omega) hc3) (fr1 := fr - 1) (lo1 := lo - 20) ?_
      cases h
      exact xt_lret rfl rfl rfl ⟨rfl, rfl⟩
    · replace h := zif_f (p := 560 ≤ l6.toInt) hb h
      refine xt_pure rfl rfl rfl rfl ?_
      refine xt_pure rfl rfl rfl rfl ?_
      refine xt_getf rfl rfl (zmr hW2) ?_
      refine xt_getf rfl rfl (zmr (ymm hG 18 rfl)) ?_
      refine xt_ic rfl rfl (fun hb => ?_) (fun hb => ?_)
      · replace h := zif_t (p := (gi 18).toInt ≤ l5.toInt) hb h
        refine xt_pure rfl rfl rfl rfl ?_
        obtain ⟨x4, S5, hc6, h⟩ := zbi h
        refine zt_Vl rfl rfl rfl rfl (xmC 142 rfl) ⟨rfl, rfl, yle rfl, yle rfl⟩ (m := 1) rfl ⟨by omega, by omega⟩ (tcE_pop hW2 hW3 hL0 hL1 hG hA0 hA1 (by omega) (by omega) hc6) (fr1 := fr - 1) (lo1 := lo - 20) ?_
        cases h
        exact xt_lret rfl rfl rfl ⟨rfl, rfl⟩
      · replace h := zif_f (p := (gi 18).toInt ≤ l5.toInt) hb h
        refine xt_pure rfl rfl rfl rfl ?_
        refine xt_getf rfl rfl (zmr hW2) ?_
        refine xt_getf rfl rfl (zmr (ymm hG 16 rfl)) ?_
        refine xt_pure rfl rfl rfl rfl ?_
        obtain ⟨x7, hx7, h⟩ := zgi h
        refine zr_ild (l := (ga 16)) rfl rfl (zmr (ymm hG 29 rfl)) hx7 ?_
        refine xt_if rfl rfl (fun hb => ?_) (fun hb => ?_)
        · replace h := zif_t (p := x7 = (0 : Int32)) hb h
          refine xt_pure rfl rfl rfl rfl ?_
          obtain ⟨x8, S9, hc10, h⟩ := zbi h
          refine zt_Vl rfl rfl rfl rfl (xmC 142 rfl) ⟨rfl, rfl, yle rfl, yle rfl⟩ (m := 1) rfl ⟨by omega, by omega⟩ (tcE_pop hW2 hW3 hL0 hL1 hG hA0 hA1 (by omega) (by omega) hc10) (fr1 := fr - 1) (lo1 := lo - 20) ?_
          cases h
          exact xt_lret rfl rfl rfl ⟨rfl, rfl⟩
        · replace h := zif_f (p := x7 = (0 : Int32)) hb h
          refine xt_pure rfl rfl rfl rfl ?_
          refine xt_pure rfl rfl rfl rfl ?_
          refine xt_pure rfl rfl rfl rfl ?_
          obtain ⟨x11, S12, hc13, h⟩ := zbi h
          refine zt_Vi rfl rfl rfl rfl (xmC 142 rfl) ⟨rfl, rfl, yle rfl, yle rfl⟩ (m := 5) rfl ⟨by omega, by omega⟩ (tcE_step hW2 hW3 hL0 hL1 hG hA0 hA1 hrc132 (by omega) (by omega) (by omega) (by omega) hc13) (fr1 := fr - 1) (lo1 := lo - 24) ?_
          refine xt_pure rfl rfl rfl (L1 := [_, _, _, _, _, _, _]) rfl ?_
          refine xt_pure rfl rfl rfl rfl ?_
          refine zt_gI 1 rfl rfl rfl rfl (x := (zI S12 1)) rfl ?_
          refine xt_if rfl rfl (fun hb => ?_) (fun hb => ?_)
          · replace h := zif_t (p := (zI S12 1) = (0 : Int32)) hb h
            refine xt_pure rfl rfl rfl rfl ?_
            refine zt_gI 1 rfl rfl rfl rfl (x := (zI S12 1)) rfl ?_
            refine xt_if rfl rfl (fun hb => ?_) (fun hb => ?_)
            · replace h := zif_t (p := (zI S12 1) = (0 : Int32)) hb h
              refine xt_pure rfl rfl rfl (L1 := [_, _, _, _, _, _, some (.int (_ + 1))]) rfl ?_
              refine xt_pure rfl rfl rfl rfl ?_
              exact ih h
            · replace h := zif_f (p := (zI S12 1) = (0 : Int32)) hb h
              refine xt_pure rfl rfl rfl rfl ?_
              obtain ⟨x14, S15, hc16, h⟩ := zbi h
              refine zt_Vi rfl rfl rfl rfl (xmC 142 rfl) ⟨rfl, rfl, yle rfl, yle rfl⟩ (m := 1) rfl ⟨by omega, by omega⟩ (tcE_takeElse hW2 hW3 hL0 hL1 hG hA0 hA1 (by omega) (by omega) hc16) (fr1 := fr - 1) (lo1 := lo - 20) ?_
              refine xt_pure rfl rfl rfl (L1 := [_, _, _, _, _, _, _]) rfl ?_
              refine xt_pure rfl rfl rfl (L1 := [_, _, _, _, _, _, some (.int (_ + 1))]) rfl ?_
              refine xt_pure rfl rfl rfl rfl ?_
              exact ih h
          · replace h := zif_f (p := (zI S12 1) = (0 : Int32)) hb h
            refine xt_pure rfl rfl rfl rfl ?_
            refine zt_gI 8 rfl rfl rfl rfl (x := (zI S12 8)) rfl ?_
            refine xt_pure rfl rfl rfl rfl ?_
            refine xt_ic rfl rfl (fun hb => ?_) (fun hb => ?_)
            · replace h := zif_t (p := (zI S12 8) ≠ l4) hb h
              refine xt_pure rfl rfl rfl rfl ?_
              refine zt_gI 1 rfl rfl rfl rfl (x := (zI S12 1)) rfl ?_
              refine xt_if rfl rfl (fun hb => ?_) (fun hb => ?_)
              · replace h := zif_t (p := (zI S12 1) = (0 : Int32)) hb h
                refine xt_pure rfl rfl rfl (L1 := [_, _, _, _, _, _, some (.int (_ + 1))]) rfl ?_
                refine xt_pure rfl rfl rfl rfl ?_
                exact ih h
              · replace h := zif_f (p := (zI S12 1) = (0 : Int32)) hb h
                refine xt_pure rfl rfl rfl rfl ?_
                obtain ⟨x17, S18, hc19, h⟩ := zbi h
                refine zt_Vi rfl rfl rfl rfl (xmC 142 rfl) ⟨rfl, rfl, yle rfl, yle rfl⟩ (m := 1) rfl ⟨by omega, by omega⟩ (tcE_takeElse hW2 hW3 hL0 hL1 hG hA0 hA1 (by omega) (by omega) hc19) (fr1 := fr - 1) (lo1 := lo - 20) ?_
                refine xt_pure rfl rfl rfl (L1 := [_, _, _, _, _, _, _]) rfl ?_
                refine xt_pure rfl rfl rfl (L1 := [_, _, _, _, _, _, some (.int (_ + 1))]) rfl ?_
                refine xt_pure rfl rfl rfl rfl ?_
                exact ih h
            · replace h := zif_f (p := (zI S12 8) ≠ l4) hb h
              refine xt_pure rfl rfl rfl rfl ?_
              refine xt_pure rfl rfl rfl rfl ?_
              refine zt_pI 7 rfl rfl rfl rfl rfl rfl ?_
              refine xt_pure rfl rfl rfl (st1 := .long 0 :: _) rfl ?_
              cases h
              exact xt_lret rfl rfl rfl ⟨rfl, rfl⟩
def cE_work (gi : Nat → Int32) (ga : Nat → List Int32) (As : List (Option zO)) (ne : Int32) (am : List Int64) (rc132 : Int32 → Int32 → zS → Option (Int64 × zS))  (N : Nat) (v1 : Int32) (v2 : Int32) (S : zS) : Option (Int64 × zS) := (if v2 ≠ (0 : Int32) then cE_work_15 gi ga As ne am rc132 N N v2 (zI S 7) (zI S 8) v1 0 S else cE_work_15 gi ga As ne am rc132 N N v2 (zI S 7) (zI S 8) v1 0 (zsI S 1 0))
theorem tcE_work {X : List Int32} {D0 : List xE} {fa aa : Nat} {p : Nat → Nat} {gi : Nat → Int32} {ga : Nat → List Int32} {refs : List Value} {As : List (Option zO)} {ne : Int32} {am : List Int64} (hW2 : ((110, .inl (10, 2, .ref fa)) : xE) ∈ D0) (hW3 : ((110, .inl (10, 3, .ref aa)) : xE) ∈ D0) (hL0 : ((106, .inl (5, 2, .int ne)) : xE) ∈ D0) (hL1 : ((107, .inr (1, am.map Value.long)) : xE) ∈ D0) (hG : ∀ e ∈ zgE fa p gi ga, e ∈ D0) (hA0 : ((aa, .inr (7, refs)) : xE) ∈ D0) (hA1 : ∀ {j : Int32} {z : Option zO}, gI As j = some z → ∃ v, gI refs j = some v ∧ zVC D0 v z) {fr0 lo0 : Nat} {rc132 : Int32 → Int32 → zS → Option (Int64 × zS)} (hrc132 : ∀ {b0 : Int32} {b1 : Int32} {S S2 : zS} {r : Int64}, rc132 b0 b1 S = some (r, S2) → yK X fr0 lo0 132 [.ref 110, .int b0, .int b1] (zD zTE zaE S D0) 0 0 (zQl zTE zaE D0 r S2))  {N fr lo : Nat} (hf0 : fr0 + 3 ≤ fr) (hl0 : lo0 + 73 ≤ lo) (hf : 4 ≤ fr) (hl : 101 ≤ lo) {v1 : Int32} {v2 : Int32} {S S2 : zS} {r : Int64}  (h : cE_work gi ga As ne am rc132 N v1 v2 S = some (r, S2)) : yK X fr lo 132 [.ref 110, .int v1, .int v2] (zD zTE zaE S D0) 0 0 (zQl zTE zaE D0 r S2) := by
  unfold cE_work at h
  refine yK.of rfl (yle rfl) (L := [_, _, _, _, _, _, _]) rfl ?_
  refine xt_pure rfl rfl rfl rfl ?_
  refine xt_if rfl rfl (fun hb => ?_) (fun hb => ?_)
  · replace h := zif_t (p := v2 ≠ (0 : Int32)) hb h
    refine xt_pure rfl rfl rfl rfl ?_
    refine zt_gI 7 rfl rfl rfl rfl (x := (zI S 7)) rfl ?_
    refine xt_pure rfl rfl rfl (L1 := [_, _, _, _, _, _, _]) rfl ?_
    refine xt_pure rfl rfl rfl rfl ?_
    refine zt_gI 8 rfl rfl rfl rfl (x := (zI S 8)) rfl ?_
    refine xt_pure rfl rfl rfl (L1 := [_, _, _, _, _, _, _]) rfl ?_
    refine xt_pure rfl rfl rfl rfl ?_
    refine xt_pure rfl rfl rfl (L1 := [_, _, _, _, _, _, _]) rfl ?_
    refine xt_pure rfl rfl rfl (st1 := .int 0 :: _) rfl ?_
    refine xt_pure rfl rfl rfl (L1 := [_, _, _, _, _, _, _]) rfl ?_
    exact tcE_work_15 hW2 hW3 hL0 hL1 hG hA0 hA1 hrc132 hf0 hl0 hf hl h
  · replace h := zif_f (p := v2 ≠ (0 : Int32)) hb h
    refine xt_pure rfl rfl rfl rfl ?_
    refine xt_pure rfl rfl rfl (st1 := .int 0 :: _) rfl ?_
    refine zt_pI 1 rfl rfl rfl rfl rfl rfl ?_
    refine xt_pure rfl rfl rfl rfl ?_
    refine zt_gI 7 rfl rfl rfl rfl (x := (zI S 7)) rfl ?_
    refine xt_pure rfl rfl rfl (L1 := [_, _, _, _, _, _, _]) rfl ?_
    refine xt_pure rfl rfl rfl rfl ?_
    refine zt_gI 8 rfl rfl rfl rfl (x := (zI S 8)) rfl ?_
    refine xt_pure rfl rfl rfl (L1 := [_, _, _, _, _, _, _]) rfl ?_
    refine xt_pure rfl rfl rfl rfl ?_
    refine xt_pure rfl rfl rfl (L1 := [_, _, _, _, _, _, _]) rfl ?_
    refine xt_pure rfl rfl rfl (st1 := .int 0 :: _) rfl ?_
    refine xt_pure rfl rfl rfl (L1 := [_, _, _, _, _, _, _]) rfl ?_
    exact tcE_work_15 hW2 hW3 hL0 hL1 hG hA0 hA1 hrc132 hf0 hl0 hf hl h
def cE_fix (gi : Nat → Int32) (ga : Nat → List Int32) (As : List (Option zO)) (ne : Int32) (am : List Int64) (N : Nat) : Nat → (Int32 → Int32 → zS → Option (Int64 × zS))
  | 0 => fun _ _ _ => none
  | n + 1 => fun y0 y1 S => cE_work gi ga As ne am (cE_fix gi ga As ne am N n) N y0 y1 S
theorem tcE_fix {X : List Int32} {D0 : List xE} {fa aa : Nat} {p : Nat → Nat} {gi : Nat → Int32} {ga : Nat → List Int32} {refs : List Value} {As : List (Option zO)} {ne : Int32} {am : List Int64} (hW2 : ((110, .inl (10, 2, .ref fa)) : xE) ∈ D0) (hW3 : ((110, .inl (10, 3, .ref aa)) : xE) ∈ D0) (hL0 : ((106, .inl (5, 2, .int ne)) : xE) ∈ D0) (hL1 : ((107, .inr (1, am.map Value.long)) : xE) ∈ D0) (hG : ∀ e ∈ zgE fa p gi ga, e ∈ D0) (hA0 : ((aa, .inr (7, refs)) : xE) ∈ D0) (hA1 : ∀ {j : Int32} {z : Option zO}, gI As j = some z → ∃ v, gI refs j = some v ∧ zVC D0 v z) {N : Nat} : ∀ {n fr lo : Nat}, 4 + 3 * n ≤ fr → 101 + 73 * n ≤ lo → (∀ {b0 : Int32} {b1 : Int32} {S S2 : zS} {r : Int64}, cE_fix gi ga As ne am N n b0 b1 S = some (r, S2) → yK X fr lo 132 [.ref 110, .int b0, .int b1] (zD zTE zaE S D0) 0 0 (zQl zTE zaE D0 r S2)) := by
  intro n
  induction n with
  | zero =>
    intro fr lo hf hl
    exact fun h => absurd h (by intro h; cases h)
  | succ n ih =>
    intro fr lo hf hl
    exact fun h => tcE_work hW2 hW3 hL0 hL1 hG hA0 hA1 (fun h => (ih (fr := fr - 3) (lo := lo - 73) (by omega) (by omega)) h) (by omega) (by omega) (by omega) (by omega) h
