/-! MIRRORS: working, the reference, its knot -/
def rF_figureValue (gi : Nat → Int32) (ga : Nat → List Int32) (vl : List Int64) (Bs : List (Option zH)) (am : List Int64) (rc297 : Int32 → zS → Option (Int64 × zS))  (N : Nat) (v1 : Int32) (S : zS) : Option (Int64 × zS) := (zg (gI (zA S 13) v1) fun x1 => (if x1 ≠ (0 : Int32) then (zg (gI (zA S 15) v1) fun x2 => (if x2 = (0 : Int32) then (zg (gI (zB S 14) v1) fun x3 => some (x3, S)) else (zg (gI (zA S 15) v1) fun x4 => (zg (gI (zA S 16) v1) fun x5 => (zg (gI (zB S 14) v1) fun x6 => some (x6, (zsI (zsI S 2 x4) 3 x5))))))) else (if zok (zA S 13) v1 then (zg (gI (ga 11) v1) fun x7 => (zb (rc297 x7 (zsI (zsA (zsI S 5 ((zI S 5) + 1)) 13 (zs (zA S 13) v1 1)) 4 v1)) fun x8 S9 => (if zok (zB S9 14) v1 then (if zok (zA S9 15) v1 then (if zok (zA S9 16) v1 then (zg (gI (zs (zB S9 14) v1 x8) v1) fun x11 => some (x11, (zsA (zsA (zsI (zsB S9 14 (zs (zB S9 14) v1 x8)) 4 (zI S 4)) 15 (zs (zA S9 15) v1 (zI S9 2))) 16 (zs (zA S9 16) v1 (zI S9 3))))) else none) else none) else none))) else none)))
theorem trF_figureValue {X : List Int32} {D0 : List xE} {fa : Nat} {p : Nat → Nat} {gi : Nat → Int32} {ga : Nat → List Int32} {vl : List Int64} {refs : List Value} {Bs : List (Option zH)} {am : List Int64} (hW : ((209, .inl (14, 46, .ref fa)) : xE) ∈ D0) (hL : ((235, .inr (1, am.map Value.long)) : xE) ∈ D0) (hG : ∀ e ∈ zgF fa p gi ga vl, e ∈ D0) (hA0 : ((239, .inr (10, refs)) : xE) ∈ D0) (hA1 : ∀ {j : Int32} {z : Option zH}, gI Bs j = some z → ∃ v, gI refs j = some v ∧ zVM D0 v z) {fr0 lo0 : Nat} {rc297 : Int32 → zS → Option (Int64 × zS)} (hrc297 : ∀ {b0 : Int32} {S S2 : zS} {r : Int64}, rc297 b0 S = some (r, S2) → yK X fr0 lo0 297 [.ref 209, .int b0] (zD zTF zaF S D0) 0 0 (zQl zTF zaF D0 r S2))  {N fr lo : Nat} (hf0 : fr0 + 1 ≤ fr) (hl0 : lo0 + 29 ≤ lo) (hf : 0 ≤ fr) (hl : 0 ≤ lo) {v1 : Int32} {S S2 : zS} {r : Int64}  (h : rF_figureValue gi ga vl Bs am rc297 N v1 S = some (r, S2)) : yK X fr lo 305 [.ref 209, .int v1] (zD zTF zaF S D0) 0 0 (zQl zTF zaF D0 r S2) := by
  unfold rF_figureValue at h
  refine yK.of rfl (yle rfl) (L := [_, _, _]) rfl ?_
  refine xt_pure rfl rfl rfl rfl ?_
  refine xt_getf rfl rfl (xmC 198 rfl) ?_
  refine xt_pure rfl rfl rfl rfl ?_
  obtain ⟨x1, hx1, h⟩ := zgi h
  refine zr_ild (l := (zA S 13)) rfl rfl (zmA 13 rfl rfl (l := (zA S 13)) rfl) hx1 ?_
  refine xt_if rfl rfl (fun hb => ?_) (fun hb => ?_)
  · replace h := zif_t (p := x1 ≠ (0 : Int32)) hb h
    refine xt_pure rfl rfl rfl rfl ?_
    refine xt_getf rfl rfl (xmC 200 rfl) ?_
    refine xt_pure rfl rfl rfl rfl ?_
    obtain ⟨x2, hx2, h⟩ := zgi h
    refine zr_ild (l := (zA S 15)) rfl rfl (zmA 15 rfl rfl (l := (zA S 15)) rfl) hx2 ?_
    refine xt_if rfl rfl (fun hb => ?_) (fun hb => ?_)
    · replace h := zif_t (p := x2 = (0 : Int32)) hb h
      refine xt_pure rfl rfl rfl rfl ?_
      refine xt_getf rfl rfl (xmC 199 rfl) ?_
      refine xt_pure rfl rfl rfl rfl ?_
      obtain ⟨x3, hx3, h⟩ := zgi h
      refine zr_lld (l := (zB S 14)) rfl rfl (zmB 14 rfl rfl (l := (zB S 14)) rfl) hx3 ?_
      cases h
      exact xt_lret rfl rfl rfl ⟨rfl, rfl⟩
    · replace h := zif_f (p := x2 = (0 : Int32)) hb h
      refine xt_pure rfl rfl rfl rfl ?_
      refine xt_pure rfl rfl rfl rfl ?_
      refine xt_getf rfl rfl (xmC 200 rfl) ?_
      refine xt_pure rfl rfl rfl rfl ?_
      obtain ⟨x4, hx4, h⟩ := zgi h
      refine zr_ild (l := (zA S 15)) rfl rfl (zmA 15 rfl rfl (l := (zA S 15)) rfl) hx4 ?_
      refine zt_pI 2 rfl rfl rfl rfl rfl rfl ?_
      refine xt_pure rfl rfl rfl rfl ?_
      refine xt_pure rfl rfl rfl rfl ?_
      refine xt_getf rfl rfl (xmC 201 rfl) ?_
      refine xt_pure rfl rfl rfl rfl ?_
      obtain ⟨x5, hx5, h⟩ := zgi h
      refine zr_ild (l := (zA S 16)) rfl rfl (zmA 16 rfl rfl (l := (zA S 16)) rfl) hx5 ?_
      refine zt_pI 3 rfl rfl rfl rfl rfl rfl ?_
      refine xt_pure rfl rfl rfl rfl ?_
      refine xt_getf rfl rfl (xmC 199 rfl) ?_
      refine xt_pure rfl rfl rfl rfl ?_
      obtain ⟨x6, hx6, h⟩ := zgi h
      refine zr_lld (l := (zB S 14)) rfl rfl (zmB 14 rfl rfl (l := (zB S 14)) rfl) hx6 ?_
      cases h
      exact xt_lret rfl rfl rfl ⟨rfl, rfl⟩
  · replace h := zif_f (p := x1 ≠ (0 : Int32)) hb h
    refine xt_pure rfl rfl rfl rfl ?_
    refine xt_pure rfl rfl rfl rfl ?_
    refine zt_gI 5 rfl rfl rfl rfl (x := (zI S 5)) rfl ?_
    refine xt_pure rfl rfl rfl (st1 := .int 1 :: _) rfl ?_
    refine xt_pure rfl rfl rfl rfl ?_
    refine zt_pI 5 rfl rfl rfl rfl rfl rfl ?_
    refine xt_pure rfl rfl rfl rfl ?_
    refine xt_getf rfl rfl (xmC 198 rfl) ?_
    refine xt_pure rfl rfl rfl rfl ?_
    refine xt_pure rfl rfl rfl (st1 := .int 1 :: _) rfl ?_
    obtain ⟨hg, h⟩ := zgd h
    refine zt_ist 13 rfl rfl rfl rfl (l := (zA S 13)) rfl hg ?_
    refine xt_pure rfl rfl rfl rfl ?_
    refine zt_gI 4 rfl rfl rfl rfl (x := (zI S 4)) rfl ?_
    refine xt_pure rfl rfl rfl (L1 := [_, _, _]) rfl ?_
    refine xt_pure rfl rfl rfl rfl ?_
    refine xt_pure rfl rfl rfl rfl ?_
    refine zt_pI 4 rfl rfl rfl rfl rfl rfl ?_
    refine xt_pure rfl rfl rfl rfl ?_
    refine xt_getf rfl rfl (xmC 199 rfl) ?_
    refine xt_pure rfl rfl rfl rfl ?_
    refine xt_pure rfl rfl rfl rfl ?_
    refine xt_pure rfl rfl rfl rfl ?_
    refine xt_getf rfl rfl (zmr hW) ?_
    refine xt_getf rfl rfl (zmr (ymm hG 11 rfl)) ?_
    refine xt_pure rfl rfl rfl rfl ?_
    obtain ⟨x7, hx7, h⟩ := zgi h
    refine zr_ild (l := (ga 11)) rfl rfl (zmr (ymm hG 30 rfl)) hx7 ?_
    obtain ⟨x8, S9, hc10, h⟩ := zbi h
    refine zt_Vl rfl rfl rfl rfl (xmC 176 rfl) ⟨rfl, rfl, yle rfl, yle rfl⟩ (m := 10) rfl ⟨by omega, by omega⟩ (hrc297 hc10) (fr1 := fr0) (lo1 := lo0) ?_
    obtain ⟨hg, h⟩ := zgd h
    refine zt_lst 14 rfl rfl rfl rfl (l := (zB S9 14)) rfl hg ?_
    refine xt_pure rfl rfl rfl rfl ?_
    refine xt_pure rfl rfl rfl rfl ?_
    refine zt_pI 4 rfl rfl rfl rfl rfl rfl ?_
    refine xt_pure rfl rfl rfl rfl ?_
    refine xt_getf rfl rfl (xmC 200 rfl) ?_
    refine xt_pure rfl rfl rfl rfl ?_
    refine xt_pure rfl rfl rfl rfl ?_
    refine zt_gI 2 rfl rfl rfl rfl (x := (zI S9 2)) rfl ?_
    obtain ⟨hg, h⟩ := zgd h
    refine zt_ist 15 rfl rfl rfl rfl (l := (zA S9 15)) rfl hg ?_
    refine xt_pure rfl rfl rfl rfl ?_
    refine xt_getf rfl rfl (xmC 201 rfl) ?_
    refine xt_pure rfl rfl rfl rfl ?_
    refine xt_pure rfl rfl rfl rfl ?_
    refine zt_gI 3 rfl rfl rfl rfl (x := (zI S9 3)) rfl ?_
    obtain ⟨hg, h⟩ := zgd h
    refine zt_ist 16 rfl rfl rfl rfl (l := (zA S9 16)) rfl hg ?_
    refine xt_pure rfl rfl rfl rfl ?_
    refine xt_pure rfl rfl rfl rfl ?_
    refine xt_getf rfl rfl (xmC 199 rfl) ?_
    refine xt_pure rfl rfl rfl rfl ?_
    obtain ⟨x11, hx11, h⟩ := zgi h
    refine zr_lld (l := (zs (zB S9 14) v1 x8)) rfl rfl (zmB 14 rfl rfl (l := (zs (zB S9 14) v1 x8)) rfl) hx11 ?_
    cases h
    exact xt_lret rfl rfl rfl ⟨rfl, rfl⟩
def rF_workItem (gi : Nat → Int32) (ga : Nat → List Int32) (vl : List Int64) (Bs : List (Option zH)) (am : List Int64) (rc297 : Int32 → zS → Option (Int64 × zS))  (N : Nat) (v1 : Int32) (v2 : Int32) (S : zS) : Option (Int64 × zS) := (zb (rc297 v2 S) fun x1 S2 => (if (zI S2 2) = (0 : Int32) then (zg (gI (ga 2) v1) fun x4 => (zb (rF_sortOf gi ga vl Bs am N x4 S2) fun x5 S6 => (zb (rF_as gi ga vl Bs am N v1 x5 S6) fun z11 S9 => (zo z11 ((if (zI S9 2) = (0 : Int32) then none else some (0, S9))) fun o11 => (if (zI S9 2) = (0 : Int32) then (zb (rF_itemOf gi ga vl Bs am N o11 x1.toInt32.toInt64 S9) fun x12 S13 => some (x12, S13)) else some (0, S9)))))) else some (0, S2)))
theorem trF_workItem {X : List Int32} {D0 : List xE} {fa : Nat} {p : Nat → Nat} {gi : Nat → Int32} {ga : Nat → List Int32} {vl : List Int64} {refs : List Value} {Bs : List (Option zH)} {am : List Int64} (hW : ((209, .inl (14, 46, .ref fa)) : xE) ∈ D0) (hL : ((235, .inr (1, am.map Value.long)) : xE) ∈ D0) (hG : ∀ e ∈ zgF fa p gi ga vl, e ∈ D0) (hA0 : ((239, .inr (10, refs)) : xE) ∈ D0) (hA1 : ∀ {j : Int32} {z : Option zH}, gI Bs j = some z → ∃ v, gI refs j = some v ∧ zVM D0 v z) {fr0 lo0 : Nat} {rc297 : Int32 → zS → Option (Int64 × zS)} (hrc297 : ∀ {b0 : Int32} {S S2 : zS} {r : Int64}, rc297 b0 S = some (r, S2) → yK X fr0 lo0 297 [.ref 209, .int b0] (zD zTF zaF S D0) 0 0 (zQl zTF zaF D0 r S2))  {N fr lo : Nat} (hf0 : fr0 + 1 ≤ fr) (hl0 : lo0 + 29 ≤ lo) (hf : 2 ≤ fr) (hl : 50 ≤ lo) {v1 : Int32} {v2 : Int32} {S S2 : zS} {r : Int64}  (h : rF_workItem gi ga vl Bs am rc297 N v1 v2 S = some (r, S2)) : yK X fr lo 306 [.ref 209, .int v1, .int v2] (zD zTF zaF S D0) 0 0 (zQl zTF zaF D0 r S2) := by
  unfold rF_workItem at h
  refine yK.of rfl (yle rfl) (L := [_, _, _, _, _, _]) rfl ?_
  refine xt_pure rfl rfl rfl rfl ?_
  refine xt_pure rfl rfl rfl rfl ?_
  obtain ⟨x1, S2, hc3, h⟩ := zbi h
  refine zt_Vl rfl rfl rfl rfl (xmC 176 rfl) ⟨rfl, rfl, yle rfl, yle rfl⟩ (m := 10) rfl ⟨by omega, by omega⟩ (hrc297 hc3) (fr1 := fr0) (lo1 := lo0) ?_
  refine xt_pure rfl rfl rfl (L1 := [_, _, _, _, _, _]) rfl ?_
  refine xt_pure rfl rfl rfl rfl ?_
  refine zt_gI 2 rfl rfl rfl rfl (x := (zI S2 2)) rfl ?_
  refine xt_if rfl rfl (fun hb => ?_) (fun hb => ?_)
  · replace h := zif_t (p := (zI S2 2) = (0 : Int32)) hb h
    refine xt_pure rfl rfl rfl rfl ?_
    refine xt_pure rfl rfl rfl rfl ?_
    refine xt_pure rfl rfl rfl rfl ?_
    refine xt_getf rfl rfl (zmr hW) ?_
    refine xt_getf rfl rfl (zmr (ymm hG 2 rfl)) ?_
    refine xt_pure rfl rfl rfl rfl ?_
    obtain ⟨x4, hx4, h⟩ := zgi h
    refine zr_ild (l := (ga 2)) rfl rfl (zmr (ymm hG 23 rfl)) hx4 ?_
    obtain ⟨x5, S6, hc7, h⟩ := zbi h
    refine zt_Si rfl rfl (by decide) rfl rfl ⟨rfl, yle rfl, yle rfl⟩ (m := 1) rfl ⟨by omega, by omega⟩ (trF_sortOf hW hL hG hA0 hA1 (by omega) (by omega) hc7) (fr1 := fr - 1) (lo1 := lo - 20) ?_
    obtain ⟨z11, S9, hc10, h⟩ := zbi h
    refine zt_Vz rfl rfl rfl rfl (xmC 176 rfl) ⟨rfl, rfl, yle rfl, yle rfl⟩ (m := 4) rfl ⟨by omega, by omega⟩ (trF_as hW hL hG hA0 hA1 (by omega) (by omega) hc10) (fr1 := fr - 1) (lo1 := lo - 23) (fun v11 hv11 => ?_)
    rcases z11 with _ | o11
    · obtain rfl : v11 = Value.null := hv11
      replace h := zon h
      refine xt_pure rfl rfl rfl (L1 := [_, _, _, _, _, _]) rfl ?_
      refine xt_pure rfl rfl rfl rfl ?_
      refine zt_gI 2 rfl rfl rfl rfl (x := (zI S9 2)) rfl ?_
      refine xt_if rfl rfl (fun hb => ?_) (fun hb => ?_)
      · replace h := zif_t (p := (zI S9 2) = (0 : Int32)) hb h
        refine xt_pure rfl rfl rfl rfl ?_
        refine xt_pure rfl rfl rfl rfl ?_
        refine xt_pure rfl rfl rfl rfl ?_
        refine xt_pure rfl rfl rfl rfl ?_
        refine xt_pure rfl rfl rfl rfl ?_
        cases h
      · replace h := zif_f (p := (zI S9 2) = (0 : Int32)) hb h
        refine xt_pure rfl rfl rfl (st1 := .long 0 :: _) rfl ?_
        refine xt_pure rfl rfl rfl rfl ?_
        cases h
        exact xt_lret rfl rfl rfl ⟨rfl, rfl⟩
    · obtain ⟨oa11, rfl, ho11⟩ := hv11
      replace h := zos h
      have hk11 := ho11
      obtain ⟨ia11, ra11, ca11, q011, q111, q211, q311, q411, q511, q611, q711⟩ := hk11
      refine xt_pure rfl rfl rfl (L1 := [_, _, _, _, _, _]) rfl ?_
      refine xt_pure rfl rfl rfl rfl ?_
      refine zt_gI 2 rfl rfl rfl rfl (x := (zI S9 2)) rfl ?_
      refine xt_if rfl rfl (fun hb => ?_) (fun hb => ?_)
      · replace h := zif_t (p := (zI S9 2) = (0 : Int32)) hb h
        refine xt_pure rfl rfl rfl rfl ?_
        refine xt_pure rfl rfl rfl rfl ?_
        refine xt_pure rfl rfl rfl rfl ?_
        refine xt_pure rfl rfl rfl rfl ?_
        refine xt_pure rfl rfl rfl rfl ?_
        obtain ⟨x12, S13, hc14, h⟩ := zbi h
        refine zt_Vl rfl rfl rfl rfl (xmC 176 rfl) ⟨rfl, rfl, yle rfl, yle rfl⟩ (m := 6) rfl ⟨by omega, by omega⟩ (trF_itemOf hW hL hG hA0 hA1 (by omega) (by omega) ho11 hc14) (fr1 := fr - 1) (lo1 := lo - 25) ?_
        cases h
        exact xt_lret rfl rfl rfl ⟨rfl, rfl⟩
      · replace h := zif_f (p := (zI S9 2) = (0 : Int32)) hb h
        refine xt_pure rfl rfl rfl (st1 := .long 0 :: _) rfl ?_
        refine xt_pure rfl rfl rfl rfl ?_
        cases h
        exact xt_lret rfl rfl rfl ⟨rfl, rfl⟩
  · replace h := zif_f (p := (zI S2 2) = (0 : Int32)) hb h
    refine xt_pure rfl rfl rfl (st1 := .long 0 :: _) rfl ?_
    cases h
    exact xt_lret rfl rfl rfl ⟨rfl, rfl⟩
def rF_workCell_12 (gi : Nat → Int32) (ga : Nat → List Int32) (vl : List Int64) (Bs : List (Option zH)) (am : List Int64) (rc297 : Int32 → zS → Option (Int64 × zS))  (N : Nat)  (l1 : Int32) (l4 : Int64) (s0 : Int64) (S : zS) : Option (Int64 × zS) := (if (zI S 2) = (0 : Int32) then (zb (rF_as gi ga vl Bs am N l1 4 S) fun z10 S8 => (zo z10 ((if (zI S8 2) = (0 : Int32) then none else some (0, S8))) fun o10 => (if (zI S8 2) = (0 : Int32) then (zb (rF_cellAt gi ga vl Bs am N o10 l4.toInt32 s0.toInt32 S8) fun x11 S12 => some (x11, S12)) else some (0, S8)))) else some (0, S))
theorem trF_workCell_12 {X : List Int32} {D0 : List xE} {fa : Nat} {p : Nat → Nat} {gi : Nat → Int32} {ga : Nat → List Int32} {vl : List Int64} {refs : List Value} {Bs : List (Option zH)} {am : List Int64} (hW : ((209, .inl (14, 46, .ref fa)) : xE) ∈ D0) (hL : ((235, .inr (1, am.map Value.long)) : xE) ∈ D0) (hG : ∀ e ∈ zgF fa p gi ga vl, e ∈ D0) (hA0 : ((239, .inr (10, refs)) : xE) ∈ D0) (hA1 : ∀ {j : Int32} {z : Option zH}, gI Bs j = some z → ∃ v, gI refs j = some v ∧ zVM D0 v z) {fr0 lo0 : Nat} {rc297 : Int32 → zS → Option (Int64 × zS)} (hrc297 : ∀ {b0 : Int32} {S S2 : zS} {r : Int64}, rc297 b0 S = some (r, S2) → yK X fr0 lo0 297 [.ref 209, .int b0] (zD zTF zaF S D0) 0 0 (zQl zTF zaF D0 r S2))  {N fr lo : Nat}   (hf0 : fr0 + 1 ≤ fr) (hl0 : lo0 + 29 ≤ lo) (hf : 2 ≤ fr) (hl : 48 ≤ lo) {l1 : Int32} {l4 : Int64} {s0 : Int64} {d2 : Int32} {d3 : Int32} {S S2 : zS} {r : Int64}  (h : rF_workCell_12 gi ga vl Bs am rc297 N l1 l4 s0 S = some (r, S2)) : yT X fr lo 307 12 [some (.ref 209), some (.int l1), some (.int d2), some (.int d3), some (.long l4), none, none, none, none] [.long s0] (zD zTF zaF S D0) 0 0 (zQl zTF zaF D0 r S2) := by
  unfold rF_workCell_12 at h
  refine xt_pure rfl rfl rfl (L1 := [_, _, _, _, _, _, _, _, _]) rfl ?_
  refine xt_pure rfl rfl rfl rfl ?_
  refine zt_gI 2 rfl rfl rfl rfl (x := (zI S 2)) rfl ?_
  refine xt_if rfl rfl (fun hb => ?_) (fun hb => ?_)
  · replace h := zif_t (p := (zI S 2) = (0 : Int32)) hb h
    refine xt_pure rfl rfl rfl rfl ?_
    refine xt_pure rfl rfl rfl rfl ?_
    refine xt_pure rfl rfl rfl (st1 := .int 4 :: _) rfl ?_
    obtain ⟨z10, S8, hc9, h⟩ := zbi h
    refine zt_Vz rfl rfl rfl rfl (xmC 176 rfl) ⟨rfl, rfl, yle rfl, yle rfl⟩ (m := 4) rfl ⟨by omega, by omega⟩ (trF_as hW hL hG hA0 hA1 (by omega) (by omega) hc9) (fr1 := fr - 1) (lo1 := lo - 23) (fun v10 hv10 => ?_)
    rcases z10 with _ | o10
    · obtain rfl : v10 = Value.null := hv10
      replace h := zon h
      refine xt_pure rfl rfl rfl (L1 := [_, _, _, _, _, _, _, _, _]) rfl ?_
      refine xt_pure rfl rfl rfl rfl ?_
      refine zt_gI 2 rfl rfl rfl rfl (x := (zI S8 2)) rfl ?_
      refine xt_if rfl rfl (fun hb => ?_) (fun hb => ?_)
      · replace h := zif_t (p := (zI S8 2) = (0 : Int32)) hb h
        refine xt_pure rfl rfl rfl rfl ?_
        refine xt_pure rfl rfl rfl rfl ?_
        refine xt_pure rfl rfl rfl rfl ?_
        refine xt_pure rfl rfl rfl rfl ?_
        refine xt_pure rfl rfl rfl rfl ?_
        refine xt_pure rfl rfl rfl rfl ?_
        cases h
      · replace h := zif_f (p := (zI S8 2) = (0 : Int32)) hb h
        refine xt_pure rfl rfl rfl (st1 := .long 0 :: _) rfl ?_
        refine xt_pure rfl rfl rfl rfl ?_
        cases h
        exact xt_lret rfl rfl rfl ⟨rfl, rfl⟩
    · obtain ⟨oa10, rfl, ho10⟩ := hv10
      replace h := zos h
      have hk10 := ho10
      obtain ⟨ia10, ra10, ca10, q010, q110, q210, q310, q410, q510, q610, q710⟩ := hk10
      refine xt_pure rfl rfl rfl (L1 := [_, _, _, _, _, _, _, _, _]) rfl ?_
      refine xt_pure rfl rfl rfl rfl ?_
      refine zt_gI 2 rfl rfl rfl rfl (x := (zI S8 2)) rfl ?_
      refine xt_if rfl rfl (fun hb => ?_) (fun hb => ?_)
      · replace h := zif_t (p := (zI S8 2) = (0 : Int32)) hb h
        refine xt_pure rfl rfl rfl rfl ?_
        refine xt_pure rfl rfl rfl rfl ?_
        refine xt_pure rfl rfl rfl rfl ?_
        refine xt_pure rfl rfl rfl rfl ?_
        refine xt_pure rfl rfl rfl rfl ?_
        refine xt_pure rfl rfl rfl rfl ?_
        obtain ⟨x11, S12, hc13, h⟩ := zbi h
        refine zt_Vl rfl rfl rfl rfl (xmC 176 rfl) ⟨rfl, rfl, yle rfl, yle rfl⟩ (m := 4) rfl ⟨by omega, by omega⟩ (trF_cellAt hW hL hG hA0 hA1 (by omega) (by omega) ho10 hc13) (fr1 := fr - 1) (lo1 := lo - 23) ?_
        cases h
        exact xt_lret rfl rfl rfl ⟨rfl, rfl⟩
      · replace h := zif_f (p := (zI S8 2) = (0 : Int32)) hb h
        refine xt_pure rfl rfl rfl (st1 := .long 0 :: _) rfl ?_
        refine xt_pure rfl rfl rfl rfl ?_
        cases h
        exact xt_lret rfl rfl rfl ⟨rfl, rfl⟩
  · replace h := zif_f (p := (zI S 2) = (0 : Int32)) hb h
    refine xt_pure rfl rfl rfl (st1 := .long 0 :: _) rfl ?_
    cases h
    exact xt_lret rfl rfl rfl ⟨rfl, rfl⟩
def rF_workCell (gi : Nat → Int32) (ga : Nat → List Int32) (vl : List Int64) (Bs : List (Option zH)) (am : List Int64) (rc297 : Int32 → zS → Option (Int64 × zS))  (N : Nat) (v1 : Int32) (v2 : Int32) (v3 : Int32) (S : zS) : Option (Int64 × zS) := (zb (rc297 v2 S) fun x1 S2 => (if (zI S2 2) = (0 : Int32) then (zb (rc297 v3 S2) fun x4 S5 => rF_workCell_12 gi ga vl Bs am rc297 N v1 x1 x4 S5) else rF_workCell_12 gi ga vl Bs am rc297 N v1 x1 0 S2))
theorem trF_workCell {X : List Int32} {D0 : List xE} {fa : Nat} {p : Nat → Nat} {gi : Nat → Int32} {ga : Nat → List Int32} {vl : List Int64} {refs : List Value} {Bs : List (Option zH)} {am : List Int64} (hW : ((209, .inl (14, 46, .ref fa)) : xE) ∈ D0) (hL : ((235, .inr (1, am.map Value.long)) : xE) ∈ D0) (hG : ∀ e ∈ zgF fa p gi ga vl, e ∈ D0) (hA0 : ((239, .inr (10, refs)) : xE) ∈ D0) (hA1 : ∀ {j : Int32} {z : Option zH}, gI Bs j = some z → ∃ v, gI refs j = some v ∧ zVM D0 v z) {fr0 lo0 : Nat} {rc297 : Int32 → zS → Option (Int64 × zS)} (hrc297 : ∀ {b0 : Int32} {S S2 : zS} {r : Int64}, rc297 b0 S = some (r, S2) → yK X fr0 lo0 297 [.ref 209, .int b0] (zD zTF zaF S D0) 0 0 (zQl zTF zaF D0 r S2))  {N fr lo : Nat} (hf0 : fr0 + 1 ≤ fr) (hl0 : lo0 + 29 ≤ lo) (hf : 2 ≤ fr) (hl : 48 ≤ lo) {v1 : Int32} {v2 : Int32} {v3 : Int32} {S S2 : zS} {r : Int64}  (h : rF_workCell gi ga vl Bs am rc297 N v1 v2 v3 S = some (r, S2)) : yK X fr lo 307 [.ref 209, .int v1, .int v2, .int v3] (zD zTF zaF S D0) 0 0 (zQl zTF zaF D0 r S2) := by
  unfold rF_workCell at h
  refine yK.of rfl (yle rfl) (L := [_, _, _, _, _, _, _, _, _]) rfl ?_
  refine xt_pure rfl rfl rfl rfl ?_
  refine xt_pure rfl rfl rfl rfl ?_
  obtain ⟨x1, S2, hc3, h⟩ := zbi h
  refine zt_Vl rfl rfl rfl rfl (xmC 176 rfl) ⟨rfl, rfl, yle rfl, yle rfl⟩ (m := 10) rfl ⟨by omega, by omega⟩ (hrc297 hc3) (fr1 := fr0) (lo1 := lo0) ?_
  refine xt_pure rfl rfl rfl (L1 := [_, _, _, _, _, _, _, _, _]) rfl ?_
  refine xt_pure rfl rfl rfl rfl ?_
  refine zt_gI 2 rfl rfl rfl rfl (x := (zI S2 2)) rfl ?_
  refine xt_if rfl rfl (fun hb => ?_) (fun hb => ?_)
  · replace h := zif_t (p := (zI S2 2) = (0 : Int32)) hb h
    refine xt_pure rfl rfl rfl rfl ?_
    refine xt_pure rfl rfl rfl rfl ?_
    obtain ⟨x4, S5, hc6, h⟩ := zbi h
    refine zt_Vl rfl rfl rfl rfl (xmC 176 rfl) ⟨rfl, rfl, yle rfl, yle rfl⟩ (m := 10) rfl ⟨by omega, by omega⟩ (hrc297 hc6) (fr1 := fr0) (lo1 := lo0) ?_
    exact trF_workCell_12 hW hL hG hA0 hA1 hrc297 hf0 hl0 hf hl h
  · replace h := zif_f (p := (zI S2 2) = (0 : Int32)) hb h
    refine xt_pure rfl rfl rfl (st1 := .long 0 :: _) rfl ?_
    refine xt_pure rfl rfl rfl rfl ?_
    exact trF_workCell_12 hW hL hG hA0 hA1 hrc297 hf0 hl0 hf hl h
def rF_paired_30 (gi : Nat → Int32) (ga : Nat → List Int32) (vl : List Int64) (Bs : List (Option zH)) (am : List Int64) (rc297 : Int32 → zS → Option (Int64 × zS))  (N : Nat)  (l1 : Int32) (l3 : Int32) (l4 : Int64) (S : zS) : Option (Int64 × zS) := (zb (rc297 l3 S) fun x4 S5 => (if (zI S5 2) = (0 : Int32) then (if l1 = 11 then (if x4 = (0 : Int64) then some (0, S5) else some (1, S5)) else if l1 = 12 then (if x4 = (0 : Int64) then some (0, S5) else some (1, S5)) else if l1 = 15 then some ((l4 + x4), S5) else if l1 = 16 then some ((l4 - x4), S5) else if l1 = 17 then some ((l4 * x4), S5) else if l1 = 18 then (if x4 ≠ (0 : Int64) then if ¬ x4 = 0 then some ((l4 / x4), S5) else none else (zb (rF_fails gi ga vl Bs am N 4 S5) fun x12 S13 => some (x12, S13))) else if l1 = 19 then (if x4 ≠ (0 : Int64) then if ¬ x4 = 0 then some ((l4 - l4 / x4 * x4), S5) else none else (zb (rF_fails gi ga vl Bs am N 4 S5) fun x16 S17 => some (x16, S17))) else if l1 = 20 then (if l4 ≠ x4 then some (0, S5) else some (1, S5)) else if l1 = 21 then (if x4.toInt ≤ l4.toInt then some (0, S5) else some (1, S5)) else (if l4.toInt ≤ x4.toInt then some (0, S5) else some (1, S5))) else some (0, S5)))
set_option maxRecDepth 20000 in
theorem trF_paired_30 {X : List Int32} {D0 : List xE} {fa : Nat} {p : Nat → Nat} {gi : Nat → Int32} {ga : Nat → List Int32} {vl : List Int64} {refs : List Value} {Bs : List (Option zH)} {am : List Int64} (hW : ((209, .inl (14, 46, .ref fa)) : xE) ∈ D0) (hL : ((235, .inr (1, am.map Value.long)) : xE) ∈ D0) (hG : ∀ e ∈ zgF fa p gi ga vl, e ∈ D0) (hA0 : ((239, .inr (10, refs)) : xE) ∈ D0) (hA1 : ∀ {j : Int32} {z : Option zH}, gI Bs j = some z → ∃ v, gI refs j = some v ∧ zVM D0 v z) {fr0 lo0 : Nat} {rc297 : Int32 → zS → Option (Int64 × zS)} (hrc297 : ∀ {b0 : Int32} {S S2 : zS} {r : Int64}, rc297 b0 S = some (r, S2) → yK X fr0 lo0 297 [.ref 209, .int b0] (zD zTF zaF S D0) 0 0 (zQl zTF zaF D0 r S2))  {N fr lo : Nat}   (hf0 : fr0 + 1 ≤ fr) (hl0 : lo0 + 29 ≤ lo) (hf : 1 ≤ fr) (hl : 21 ≤ lo) {l1 : Int32} {l3 : Int32} {l4 : Int64} {d2 : Int32} {S S2 : zS} {r : Int64}  (h : rF_paired_30 gi ga vl Bs am rc297 N l1 l3 l4 S = some (r, S2)) : yT X fr lo 312 30 [some (.ref 209), some (.int l1), some (.int d2), some (.int l3), some (.long l4), none, none, none] [] (zD zTF zaF S D0) 0 0 (zQl zTF zaF D0 r S2) := by
  unfold rF_paired_30 at h
  refine xt_pure rfl rfl rfl rfl ?_
  refine xt_pure rfl rfl rfl rfl ?_
  obtain ⟨x4, S5, hc6, h⟩ := zbi h
  refine zt_Vl rfl rfl rfl rfl (xmC 176 rfl) ⟨rfl, rfl, yle rfl, yle rfl⟩ (m := 10) rfl ⟨by omega, by omega⟩ (hrc297 hc6) (fr1 := fr0) (lo1 := lo0) ?_
  refine xt_pure rfl rfl rfl (L1 := [_, _, _, _, _, _, _, _]) rfl ?_
  refine xt_pure rfl rfl rfl rfl ?_
  refine zt_gI 2 rfl rfl rfl rfl (x := (zI S5 2)) rfl ?_
  refine xt_if rfl rfl (fun hb => ?_) (fun hb => ?_)
  · replace h := zif_t (p := (zI S5 2) = (0 : Int32)) hb h
    refine xt_pure rfl rfl rfl rfl ?_
    by_cases hw7 : l1 = 11
    · replace h := zif_t (p := l1 = 11) hw7 h
      refine zt_sw (tg := 41) rfl rfl rfl hw7 rfl ?_
      refine xt_pure rfl rfl rfl rfl ?_
      refine xt_pure rfl rfl rfl (st1 := .long 0 :: _) rfl ?_
      refine zt_lc rfl rfl rfl (fun hb => ?_) (fun hb => ?_)
      · replace h := zif_t (p := x4 = (0 : Int64)) hb h
        refine xt_pure rfl rfl rfl (st1 := .long 0 :: _) rfl ?_
        cases h
        exact xt_lret rfl rfl rfl ⟨rfl, rfl⟩
      · replace h := zif_f (p := x4 = (0 : Int64)) hb h
        refine xt_pure rfl rfl rfl (st1 := .long 1 :: _) rfl ?_
        refine xt_pure rfl rfl rfl rfl ?_
        cases h
        exact xt_lret rfl rfl rfl ⟨rfl, rfl⟩
    replace h := zif_f (p := l1 = 11) hw7 h
    by_cases hw8 : l1 = 12
    · replace h := zif_t (p := l1 = 12) hw8 h
      refine zt_sw (tg := 41) rfl rfl rfl hw8 rfl ?_
      refine xt_pure rfl rfl rfl rfl ?_
      refine xt_pure rfl rfl rfl (st1 := .long 0 :: _) rfl ?_
      refine zt_lc rfl rfl rfl (fun hb => ?_) (fun hb => ?_)
      · replace h := zif_t (p := x4 = (0 : Int64)) hb h
        refine xt_pure rfl rfl rfl (st1 := .long 0 :: _) rfl ?_
        cases h
        exact xt_lret rfl rfl rfl ⟨rfl, rfl⟩
      · replace h := zif_f (p := x4 = (0 : Int64)) hb h
        refine xt_pure rfl rfl rfl (st1 := .long 1 :: _) rfl ?_
        refine xt_pure rfl rfl rfl rfl ?_
        cases h
        exact xt_lret rfl rfl rfl ⟨rfl, rfl⟩
    replace h := zif_f (p := l1 = 12) hw8 h
    by_cases hw9 : l1 = 15
    · replace h := zif_t (p := l1 = 15) hw9 h
      refine zt_sw (tg := 49) rfl rfl rfl hw9 rfl ?_
      refine xt_pure rfl rfl rfl rfl ?_
      refine xt_pure rfl rfl rfl rfl ?_
      refine xt_pure rfl rfl rfl rfl ?_
      cases h
      exact xt_lret rfl rfl rfl ⟨rfl, rfl⟩
    replace h := zif_f (p := l1 = 15) hw9 h
    by_cases hw10 : l1 = 16
    · replace h := zif_t (p := l1 = 16) hw10 h
      refine zt_sw (tg := 53) rfl rfl rfl hw10 rfl ?_
      refine xt_pure rfl rfl rfl rfl ?_
      refine xt_pure rfl rfl rfl rfl ?_
      refine xt_pure rfl rfl rfl rfl ?_
      cases h
      exact xt_lret rfl rfl rfl ⟨rfl, rfl⟩
    replace h := zif_f (p := l1 = 16) hw10 h
    by_cases hw11 : l1 = 17
    · replace h := zif_t (p := l1 = 17) hw11 h
      refine zt_sw (tg := 57) rfl rfl rfl hw11 rfl ?_
      refine xt_pure rfl rfl rfl rfl ?_
      refine xt_pure rfl rfl rfl rfl ?_
      refine xt_pure rfl rfl rfl rfl ?_
      cases h
      exact xt_lret rfl rfl rfl ⟨rfl, rfl⟩
    replace h := zif_f (p := l1 = 17) hw11 h
    by_cases hw15 : l1 = 18
    · replace h := zif_t (p := l1 = 18) hw15 h
      refine zt_sw (tg := 61) rfl rfl rfl hw15 rfl ?_
      refine xt_pure rfl rfl rfl rfl ?_
      refine xt_pure rfl rfl rfl (st1 := .long 0 :: _) rfl ?_
      refine zt_lc rfl rfl rfl (fun hb => ?_) (fun hb => ?_)
      · replace h := zif_t (p := x4 ≠ (0 : Int64)) hb h
        refine xt_pure rfl rfl rfl rfl ?_
        refine xt_pure rfl rfl rfl rfl ?_
        obtain ⟨hz, h⟩ := zgd h
        refine xt_pure rfl rfl rfl (if_neg hz) ?_
        cases h
        exact xt_lret rfl rfl rfl ⟨rfl, rfl⟩
      · replace h := zif_f (p := x4 ≠ (0 : Int64)) hb h
        refine xt_pure rfl rfl rfl rfl ?_
        refine xt_pure rfl rfl rfl (st1 := .int 4 :: _) rfl ?_
        obtain ⟨x12, S13, hc14, h⟩ := zbi h
        refine zt_Vl rfl rfl rfl rfl (xmC 176 rfl) ⟨rfl, rfl, yle rfl, yle rfl⟩ (m := 2) rfl ⟨by omega, by omega⟩ (trF_fails hW hL hG hA0 hA1 (by omega) (by omega) hc14) (fr1 := fr - 1) (lo1 := lo - 21) ?_
        refine xt_pure rfl rfl rfl rfl ?_
        cases h
        exact xt_lret rfl rfl rfl ⟨rfl, rfl⟩
    replace h := zif_f (p := l1 = 18) hw15 h
    by_cases hw19 : l1 = 19
    · replace h := zif_t (p := l1 = 19) hw19 h
      refine zt_sw (tg := 73) rfl rfl rfl hw19 rfl ?_
      refine xt_pure rfl rfl rfl rfl ?_
      refine xt_pure rfl rfl rfl (st1 := .long 0 :: _) rfl ?_
      refine zt_lc rfl rfl rfl (fun hb => ?_) (fun hb => ?_)
      · replace h := zif_t (p := x4 ≠ (0 : Int64)) hb h
        refine xt_pure rfl rfl rfl rfl ?_
        refine xt_pure rfl rfl rfl rfl ?_
        obtain ⟨hz, h⟩ := zgd h
        refine xt_pure rfl rfl rfl (if_neg hz) ?_
        cases h
        exact xt_lret rfl rfl rfl ⟨rfl, rfl⟩
      · replace h := zif_f (p := x4 ≠ (0 : Int64)) hb h
        refine xt_pure rfl rfl rfl rfl ?_
        refine xt_pure rfl rfl rfl (st1 := .int 4 :: _) rfl ?_
        obtain ⟨x16, S17, hc18, h⟩ := zbi h
        refine zt_Vl rfl rfl rfl rfl (xmC 176 rfl) ⟨rfl, rfl, yle rfl, yle rfl⟩ (m := 2) rfl ⟨by omega, by omega⟩ (trF_fails hW hL hG hA0 hA1 (by omega) (by omega) hc18) (fr1 := fr - 1) (lo1 := lo - 21) ?_
        refine xt_pure rfl rfl rfl rfl ?_
        cases h
        exact xt_lret rfl rfl rfl ⟨rfl, rfl⟩
    replace h := zif_f (p := l1 = 19) hw19 h
    by_cases hw20 : l1 = 20
    · replace h := zif_t (p := l1 = 20) hw20 h
      refine zt_sw (tg := 85) rfl rfl rfl hw20 rfl ?_
      refine xt_pure rfl rfl rfl rfl ?_
      refine xt_pure rfl rfl rfl rfl ?_
      refine zt_lc rfl rfl rfl (fun hb => ?_) (fun hb => ?_)
      · replace h := zif_t (p := l4 ≠ x4) hb h
        refine xt_pure rfl rfl rfl (st1 := .long 0 :: _) rfl ?_
        cases h
        exact xt_lret rfl rfl rfl ⟨rfl, rfl⟩
      · replace h := zif_f (p := l4 ≠ x4) hb h
        refine xt_pure rfl rfl rfl (st1 := .long 1 :: _) rfl ?_
        refine xt_pure rfl rfl rfl rfl ?_
        cases h
        exact xt_lret rfl rfl rfl ⟨rfl, rfl⟩
    replace h := zif_f (p := l1 = 20) hw20 h
    by_cases hw21 : l1 = 21
    · replace h := zif_t (p := l1 = 21) hw21 h
      refine zt_sw (tg := 93) rfl rfl rfl hw21 rfl ?_
      refine xt_pure rfl rfl rfl rfl ?_
      refine xt_pure rfl rfl rfl rfl ?_
      refine zt_lc rfl rfl rfl (fun hb => ?_) (fun hb => ?_)
      · replace h := zif_t (p := x4.toInt ≤ l4.toInt) hb h
        refine xt_pure rfl rfl rfl (st1 := .long 0 :: _) rfl ?_
        cases h
        exact xt_lret rfl rfl rfl ⟨rfl, rfl⟩
      · replace h := zif_f (p := x4.toInt ≤ l4.toInt) hb h
        refine xt_pure rfl rfl rfl (st1 := .long 1 :: _) rfl ?_
        refine xt_pure rfl rfl rfl rfl ?_
        cases h
        exact xt_lret rfl rfl rfl ⟨rfl, rfl⟩
    replace h := zif_f (p := l1 = 21) hw21 h
    by_cases hw22 : l1 = 13
    · refine zt_sw (tg := 101) rfl rfl rfl hw22 rfl ?_
      refine xt_pure rfl rfl rfl rfl ?_
      refine xt_pure rfl rfl rfl rfl ?_
      refine zt_lc rfl rfl rfl (fun hb => ?_) (fun hb => ?_)
      · replace h := zif_t (p := l4.toInt ≤ x4.toInt) hb h
        refine xt_pure rfl rfl rfl (st1 := .long 0 :: _) rfl ?_
        cases h
        exact xt_lret rfl rfl rfl ⟨rfl, rfl⟩
      · replace h := zif_f (p := l4.toInt ≤ x4.toInt) hb h
        refine xt_pure rfl rfl rfl (st1 := .long 1 :: _) rfl ?_
        refine xt_pure rfl rfl rfl rfl ?_
        cases h
        exact xt_lret rfl rfl rfl ⟨rfl, rfl⟩
    by_cases hw23 : l1 = 14
    · refine zt_sw (tg := 101) rfl rfl rfl hw23 rfl ?_
      refine xt_pure rfl rfl rfl rfl ?_
      refine xt_pure rfl rfl rfl rfl ?_
      refine zt_lc rfl rfl rfl (fun hb => ?_) (fun hb => ?_)
      · replace h := zif_t (p := l4.toInt ≤ x4.toInt) hb h
        refine xt_pure rfl rfl rfl (st1 := .long 0 :: _) rfl ?_
        cases h
        exact xt_lret rfl rfl rfl ⟨rfl, rfl⟩
      · replace h := zif_f (p := l4.toInt ≤ x4.toInt) hb h
        refine xt_pure rfl rfl rfl (st1 := .long 1 :: _) rfl ?_
        refine xt_pure rfl rfl rfl rfl ?_
        cases h
        exact xt_lret rfl rfl rfl ⟨rfl, rfl⟩
    have hxhw7 : ¬ l1.toInt = 11 := fun h => hw7 (by rw [xi32_eq, h]; rfl)
    have hxhw8 : ¬ l1.toInt = 12 := fun h => hw8 (by rw [xi32_eq, h]; rfl)
    have hxhw9 : ¬ l1.toInt = 15 := fun h => hw9 (by rw [xi32_eq, h]; rfl)
    have hxhw10 : ¬ l1.toInt = 16 := fun h => hw10 (by rw [xi32_eq, h]; rfl)
    have hxhw11 : ¬ l1.toInt = 17 := fun h => hw11 (by rw [xi32_eq, h]; rfl)
    have hxhw15 : ¬ l1.toInt = 18 := fun h => hw15 (by rw [xi32_eq, h]; rfl)
    have hxhw19 : ¬ l1.toInt = 19 := fun h => hw19 (by rw [xi32_eq, h]; rfl)
    have hxhw20 : ¬ l1.toInt = 20 := fun h => hw20 (by rw [xi32_eq, h]; rfl)
    have hxhw21 : ¬ l1.toInt = 21 := fun h => hw21 (by rw [xi32_eq, h]; rfl)
    have hxhw22 : ¬ l1.toInt = 13 := fun h => hw22 (by rw [xi32_eq, h]; rfl)
    have hxhw23 : ¬ l1.toInt = 14 := fun h => hw23 (by rw [xi32_eq, h]; rfl)
    refine yt_tsd rfl rfl (by omega) rfl ?_
    refine xt_pure rfl rfl rfl rfl ?_
    refine xt_pure rfl rfl rfl rfl ?_
    refine zt_lc rfl rfl rfl (fun hb => ?_) (fun hb => ?_)
    · replace h := zif_t (p := l4.toInt ≤ x4.toInt) hb h
      refine xt_pure rfl rfl rfl (st1 := .long 0 :: _) rfl ?_
      cases h
      exact xt_lret rfl rfl rfl ⟨rfl, rfl⟩
    · replace h := zif_f (p := l4.toInt ≤ x4.toInt) hb h
      refine xt_pure rfl rfl rfl (st1 := .long 1 :: _) rfl ?_
      refine xt_pure rfl rfl rfl rfl ?_
      cases h
      exact xt_lret rfl rfl rfl ⟨rfl, rfl⟩
  · replace h := zif_f (p := (zI S5 2) = (0 : Int32)) hb h
    refine xt_pure rfl rfl rfl (st1 := .long 0 :: _) rfl ?_
    cases h
    exact xt_lret rfl rfl rfl ⟨rfl, rfl⟩
def rF_paired_16 (gi : Nat → Int32) (ga : Nat → List Int32) (vl : List Int64) (Bs : List (Option zH)) (am : List Int64) (rc297 : Int32 → zS → Option (Int64 × zS))  (N : Nat)  (l1 : Int32) (l3 : Int32) (l4 : Int64) (S : zS) : Option (Int64 × zS) := (if l1 ≠ (12 : Int32) then rF_paired_30 gi ga vl Bs am rc297 N l1 l3 l4 S else (if l4 ≠ (0 : Int64) then rF_paired_30 gi ga vl Bs am rc297 N l1 l3 l4 S else (if l1 ≠ (11 : Int32) then some (0, S) else some (1, S))))
theorem trF_paired_16 {X : List Int32} {D0 : List xE} {fa : Nat} {p : Nat → Nat} {gi : Nat → Int32} {ga : Nat → List Int32} {vl : List Int64} {refs : List Value} {Bs : List (Option zH)} {am : List Int64} (hW : ((209, .inl (14, 46, .ref fa)) : xE) ∈ D0) (hL : ((235, .inr (1, am.map Value.long)) : xE) ∈ D0) (hG : ∀ e ∈ zgF fa p gi ga vl, e ∈ D0) (hA0 : ((239, .inr (10, refs)) : xE) ∈ D0) (hA1 : ∀ {j : Int32} {z : Option zH}, gI Bs j = some z → ∃ v, gI refs j = some v ∧ zVM D0 v z) {fr0 lo0 : Nat} {rc297 : Int32 → zS → Option (Int64 × zS)} (hrc297 : ∀ {b0 : Int32} {S S2 : zS} {r : Int64}, rc297 b0 S = some (r, S2) → yK X fr0 lo0 297 [.ref 209, .int b0] (zD zTF zaF S D0) 0 0 (zQl zTF zaF D0 r S2))  {N fr lo : Nat}   (hf0 : fr0 + 1 ≤ fr) (hl0 : lo0 + 29 ≤ lo) (hf : 1 ≤ fr) (hl : 21 ≤ lo) {l1 : Int32} {l3 : Int32} {l4 : Int64} {d2 : Int32} {S S2 : zS} {r : Int64}  (h : rF_paired_16 gi ga vl Bs am rc297 N l1 l3 l4 S = some (r, S2)) : yT X fr lo 312 16 [some (.ref 209), some (.int l1), some (.int d2), some (.int l3), some (.long l4), none, none, none] [] (zD zTF zaF S D0) 0 0 (zQl zTF zaF D0 r S2) := by
  unfold rF_paired_16 at h
  refine xt_pure rfl rfl rfl rfl ?_
  refine xt_pure rfl rfl rfl (st1 := .int 12 :: _) rfl ?_
  refine xt_ic rfl rfl (fun hb => ?_) (fun hb => ?_)
  · replace h := zif_t (p := l1 ≠ (12 : Int32)) hb h
    exact trF_paired_30 hW hL hG hA0 hA1 hrc297 hf0 hl0 hf hl h
  · replace h := zif_f (p := l1 ≠ (12 : Int32)) hb h
    refine xt_pure rfl rfl rfl rfl ?_
    refine xt_pure rfl rfl rfl (st1 := .long 0 :: _) rfl ?_
    refine zt_lc rfl rfl rfl (fun hb => ?_) (fun hb => ?_)
    · replace h := zif_t (p := l4 ≠ (0 : Int64)) hb h
      exact trF_paired_30 hW hL hG hA0 hA1 hrc297 hf0 hl0 hf hl h
    · replace h := zif_f (p := l4 ≠ (0 : Int64)) hb h
      refine xt_pure rfl rfl rfl rfl ?_
      refine xt_pure rfl rfl rfl (st1 := .int 11 :: _) rfl ?_
      refine xt_ic rfl rfl (fun hb => ?_) (fun hb => ?_)
      · replace h := zif_t (p := l1 ≠ (11 : Int32)) hb h
        refine xt_pure rfl rfl rfl (st1 := .long 0 :: _) rfl ?_
        cases h
        exact xt_lret rfl rfl rfl ⟨rfl, rfl⟩
      · replace h := zif_f (p := l1 ≠ (11 : Int32)) hb h
        refine xt_pure rfl rfl rfl (st1 := .long 1 :: _) rfl ?_
        refine xt_pure rfl rfl rfl rfl ?_
        cases h
        exact xt_lret rfl rfl rfl ⟨rfl, rfl⟩
def rF_paired (gi : Nat → Int32) (ga : Nat → List Int32) (vl : List Int64) (Bs : List (Option zH)) (am : List Int64) (rc297 : Int32 → zS → Option (Int64 × zS))  (N : Nat) (v1 : Int32) (v2 : Int32) (v3 : Int32) (S : zS) : Option (Int64 × zS) := (zb (rc297 v2 S) fun x1 S2 => (if (zI S2 2) = (0 : Int32) then (if v1 ≠ (11 : Int32) then rF_paired_16 gi ga vl Bs am rc297 N v1 v3 x1 S2 else (if x1 ≠ (0 : Int64) then (if v1 ≠ (11 : Int32) then some (0, S2) else some (1, S2)) else rF_paired_16 gi ga vl Bs am rc297 N v1 v3 x1 S2)) else some (0, S2)))
theorem trF_paired {X : List Int32} {D0 : List xE} {fa : Nat} {p : Nat → Nat} {gi : Nat → Int32} {ga : Nat → List Int32} {vl : List Int64} {refs : List Value} {Bs : List (Option zH)} {am : List Int64} (hW : ((209, .inl (14, 46, .ref fa)) : xE) ∈ D0) (hL : ((235, .inr (1, am.map Value.long)) : xE) ∈ D0) (hG : ∀ e ∈ zgF fa p gi ga vl, e ∈ D0) (hA0 : ((239, .inr (10, refs)) : xE) ∈ D0) (hA1 : ∀ {j : Int32} {z : Option zH}, gI Bs j = some z → ∃ v, gI refs j = some v ∧ zVM D0 v z) {fr0 lo0 : Nat} {rc297 : Int32 → zS → Option (Int64 × zS)} (hrc297 : ∀ {b0 : Int32} {S S2 : zS} {r : Int64}, rc297 b0 S = some (r, S2) → yK X fr0 lo0 297 [.ref 209, .int b0] (zD zTF zaF S D0) 0 0 (zQl zTF zaF D0 r S2))  {N fr lo : Nat} (hf0 : fr0 + 1 ≤ fr) (hl0 : lo0 + 29 ≤ lo) (hf : 1 ≤ fr) (hl : 21 ≤ lo) {v1 : Int32} {v2 : Int32} {v3 : Int32} {S S2 : zS} {r : Int64}  (h : rF_paired gi ga vl Bs am rc297 N v1 v2 v3 S = some (r, S2)) : yK X fr lo 312 [.ref 209, .int v1, .int v2, .int v3] (zD zTF zaF S D0) 0 0 (zQl zTF zaF D0 r S2) := by
  unfold rF_paired at h
  refine yK.of rfl (yle rfl) (L := [_, _, _, _, _, _, _, _]) rfl ?_
  refine xt_pure rfl rfl rfl rfl ?_
  refine xt_pure rfl rfl rfl rfl ?_
  obtain ⟨x1, S2, hc3, h⟩ := zbi h
  refine zt_Vl rfl rfl rfl rfl (xmC 176 rfl) ⟨rfl, rfl, yle rfl, yle rfl⟩ (m := 10) rfl ⟨by omega, by omega⟩ (hrc297 hc3) (fr1 := fr0) (lo1 := lo0) ?_
  refine xt_pure rfl rfl rfl (L1 := [_, _, _, _, _, _, _, _]) rfl ?_
  refine xt_pure rfl rfl rfl rfl ?_
  refine zt_gI 2 rfl rfl rfl rfl (x := (zI S2 2)) rfl ?_
  refine xt_if rfl rfl (fun hb => ?_) (fun hb => ?_)
  · replace h := zif_t (p := (zI S2 2) = (0 : Int32)) hb h
    refine xt_pure rfl rfl rfl rfl ?_
    refine xt_pure rfl rfl rfl (st1 := .int 11 :: _) rfl ?_
    refine xt_ic rfl rfl (fun hb => ?_) (fun hb => ?_)
    · replace h := zif_t (p := v1 ≠ (11 : Int32)) hb h
      exact trF_paired_16 hW hL hG hA0 hA1 hrc297 hf0 hl0 hf hl h
    · replace h := zif_f (p := v1 ≠ (11 : Int32)) hb h
      refine xt_pure rfl rfl rfl rfl ?_
      refine xt_pure rfl rfl rfl (st1 := .long 0 :: _) rfl ?_
      refine zt_lc rfl rfl rfl (fun hb => ?_) (fun hb => ?_)
      · replace h := zif_t (p := x1 ≠ (0 : Int64)) hb h
        refine xt_pure rfl rfl rfl rfl ?_
        refine xt_pure rfl rfl rfl (st1 := .int 11 :: _) rfl ?_
        refine xt_ic rfl rfl (fun hb => ?_) (fun hb => ?_)
        · replace h := zif_t (p := v1 ≠ (11 : Int32)) hb h
          refine xt_pure rfl rfl rfl (st1 := .long 0 :: _) rfl ?_
          cases h
          exact xt_lret rfl rfl rfl ⟨rfl, rfl⟩
        · replace h := zif_f (p := v1 ≠ (11 : Int32)) hb h
          refine xt_pure rfl rfl rfl (st1 := .long 1 :: _) rfl ?_
          refine xt_pure rfl rfl rfl rfl ?_
          cases h
          exact xt_lret rfl rfl rfl ⟨rfl, rfl⟩
      · replace h := zif_f (p := x1 ≠ (0 : Int64)) hb h
        exact trF_paired_16 hW hL hG hA0 hA1 hrc297 hf0 hl0 hf hl h
  · replace h := zif_f (p := (zI S2 2) = (0 : Int32)) hb h
    refine xt_pure rfl rfl rfl (st1 := .long 0 :: _) rfl ?_
    cases h
    exact xt_lret rfl rfl rfl ⟨rfl, rfl⟩
def rF_work (gi : Nat → Int32) (ga : Nat → List Int32) (vl : List Int64) (Bs : List (Option zH)) (am : List Int64) (rc297 : Int32 → zS → Option (Int64 × zS))  (N : Nat) (v1 : Int32) (S : zS) : Option (Int64 × zS) := (zg (gI (ga 19) v1) fun x1 => (zg (gI (ga 21) v1) fun x2 => (zg (gI (ga 22) v1) fun x3 => (if x1 = 0 then (zg (gI vl v1) fun x4 => some (x4, S)) else if x1 = 1 then (zb (rF_named gi ga vl Bs am N x2 S) fun x6 S7 => some (x6, S7)) else if x1 = 2 then (zb (rF_figureValue gi ga vl Bs am rc297 N x2 S) fun x10 S11 => some (x10, S11)) else if x1 = 3 then (zb (rF_workItem gi ga vl Bs am rc297 N x2 x3 S) fun x14 S15 => some (x14, S15)) else if x1 = 4 then (zg (gI vl v1) fun x18 => (zb (rF_workCell gi ga vl Bs am rc297 N x2 x3 x18.toInt32 S) fun x19 S20 => some (x19, S20))) else if x1 = 5 then (zg (gI (ga 2) x2) fun x23 => (zb (rF_sortOf gi ga vl Bs am N x23 S) fun x24 S25 => (zb (rF_as gi ga vl Bs am N x2 x24 S25) fun z30 S28 => (zo z30 ((if (zI S28 2) = (0 : Int32) then none else some (0, S28))) fun o30 => (if (zI S28 2) = (0 : Int32) then some (o30.2.1.toInt64, S28) else some (0, S28)))))) else if x1 = 6 then (zb (rF_answer gi ga vl Bs am N x2 S) fun z35 S33 => (zo z35 (some (0, S33)) fun o35 => some (1, S33))) else if x1 = 7 then (zb (rF_isSort gi ga vl Bs am N x2 x3 S) fun x37 S38 => (if x37 = (0 : Int32) then some (0, S38) else some (1, S38))) else if x1 = 8 then (zb (rF_total gi ga vl Bs am N x2 S) fun x41 S42 => some (x41, S42)) else if x1 = 9 then (zb (rc297 x3 S) fun x45 S46 => (if (zI S46 2) = (0 : Int32) then (zb (rF_column gi ga vl Bs am N x2 x45.toInt32 S46) fun x48 S49 => some (x48, S49)) else some (0, S46))) else if x1 = 10 then (zb (rc297 x2 S) fun x52 S53 => (if (zI S53 2) ≠ (0 : Int32) then (zb (rc297 x3 (zsI (zsI S53 6 ((zI S53 6) + 1)) 2 0)) fun x55 S56 => some (x55, S56)) else some (x52, S53))) else if x1 = 13 then (zb (rc297 x2 S) fun x59 S60 => (if x59 ≠ (0 : Int64) then some (0, S60) else some (1, S60))) else if x1 = 14 then (zb (rc297 x2 S) fun x63 S64 => some ((-x63), S64)) else (zb (rF_paired gi ga vl Bs am rc297 N x1 x2 x3 S) fun x75 S76 => some (x75, S76))))))
set_option maxRecDepth 20000 in
theorem trF_work {X : List Int32} {D0 : List xE} {fa : Nat} {p : Nat → Nat} {gi : Nat → Int32} {ga : Nat → List Int32} {vl : List Int64} {refs : List Value} {Bs : List (Option zH)} {am : List Int64} (hW : ((209, .inl (14, 46, .ref fa)) : xE) ∈ D0) (hL : ((235, .inr (1, am.map Value.long)) : xE) ∈ D0) (hG : ∀ e ∈ zgF fa p gi ga vl, e ∈ D0) (hA0 : ((239, .inr (10, refs)) : xE) ∈ D0) (hA1 : ∀ {j : Int32} {z : Option zH}, gI Bs j = some z → ∃ v, gI refs j = some v ∧ zVM D0 v z) {fr0 lo0 : Nat} {rc297 : Int32 → zS → Option (Int64 × zS)} (hrc297 : ∀ {b0 : Int32} {S S2 : zS} {r : Int64}, rc297 b0 S = some (r, S2) → yK X fr0 lo0 297 [.ref 209, .int b0] (zD zTF zaF S D0) 0 0 (zQl zTF zaF D0 r S2))  {N fr lo : Nat} (hf0 : fr0 + 2 ≤ fr) (hl0 : lo0 + 57 ≤ lo) (hf : 3 ≤ fr) (hl : 76 ≤ lo) {v1 : Int32} {S S2 : zS} {r : Int64}  (h : rF_work gi ga vl Bs am rc297 N v1 S = some (r, S2)) : yK X fr lo 297 [.ref 209, .int v1] (zD zTF zaF S D0) 0 0 (zQl zTF zaF D0 r S2) := by
  unfold rF_work at h
  refine yK.of rfl (yle rfl) (L := [_, _, _, _, _, _, _, _, _, _]) rfl ?_
  refine xt_pure rfl rfl rfl rfl ?_
  refine xt_getf rfl rfl (zmr hW) ?_
  refine xt_getf rfl rfl (zmr (ymm hG 19 rfl)) ?_
  refine xt_pure rfl rfl rfl rfl ?_
  obtain ⟨x1, hx1, h⟩ := zgi h
  refine zr_ild (l := (ga 19)) rfl rfl (zmr (ymm hG 33 rfl)) hx1 ?_
  refine xt_pure rfl rfl rfl (L1 := [_, _, _, _, _, _, _, _, _, _]) rfl ?_
  refine xt_pure rfl rfl rfl rfl ?_
  refine xt_getf rfl rfl (zmr hW) ?_
  refine xt_getf rfl rfl (zmr (ymm hG 21 rfl)) ?_
  refine xt_pure rfl rfl rfl rfl ?_
  obtain ⟨x2, hx2, h⟩ := zgi h
  refine zr_ild (l := (ga 21)) rfl rfl (zmr (ymm hG 35 rfl)) hx2 ?_
  refine xt_pure rfl rfl rfl (L1 := [_, _, _, _, _, _, _, _, _, _]) rfl ?_
  refine xt_pure rfl rfl rfl rfl ?_
  refine xt_getf rfl rfl (zmr hW) ?_
  refine xt_getf rfl rfl (zmr (ymm hG 22 rfl)) ?_
  refine xt_pure rfl rfl rfl rfl ?_
  obtain ⟨x3, hx3, h⟩ := zgi h
  refine zr_ild (l := (ga 22)) rfl rfl (zmr (ymm hG 36 rfl)) hx3 ?_
  refine xt_pure rfl rfl rfl (L1 := [_, _, _, _, _, _, _, _, _, _]) rfl ?_
  refine xt_pure rfl rfl rfl rfl ?_
  by_cases hw5 : x1 = 0
  · replace h := zif_t (p := x1 = 0) hw5 h
    refine zt_sw (tg := 20) rfl rfl rfl hw5 rfl ?_
    refine xt_pure rfl rfl rfl rfl ?_
    refine xt_getf rfl rfl (zmr hW) ?_
    refine xt_getf rfl rfl (zmr (ymm hG 20 rfl)) ?_
    refine xt_pure rfl rfl rfl rfl ?_
    obtain ⟨x4, hx4, h⟩ := zgi h
    refine zr_lld (l := vl) rfl rfl (zmr (ymm hG 34 rfl)) hx4 ?_
    cases h
    exact xt_lret rfl rfl rfl ⟨rfl, rfl⟩
  replace h := zif_f (p := x1 = 0) hw5 h
  by_cases hw9 : x1 = 1
  · replace h := zif_t (p := x1 = 1) hw9 h
    refine zt_sw (tg := 26) rfl rfl rfl hw9 rfl ?_
    refine xt_pure rfl rfl rfl rfl ?_
    refine xt_pure rfl rfl rfl rfl ?_
    obtain ⟨x6, S7, hc8, h⟩ := zbi h
    refine zt_Vl rfl rfl rfl rfl (xmC 176 rfl) ⟨rfl, rfl, yle rfl, yle rfl⟩ (m := 4) rfl ⟨by omega, by omega⟩ (trF_named hW hL hG hA0 hA1 (by omega) (by omega) hc8) (fr1 := fr - 1) (lo1 := lo - 23) ?_
    cases h
    exact xt_lret rfl rfl rfl ⟨rfl, rfl⟩
  replace h := zif_f (p := x1 = 1) hw9 h
  by_cases hw13 : x1 = 2
  · replace h := zif_t (p := x1 = 2) hw13 h
    refine zt_sw (tg := 30) rfl rfl rfl hw13 rfl ?_
    refine xt_pure rfl rfl rfl rfl ?_
    refine xt_pure rfl rfl rfl rfl ?_
    obtain ⟨x10, S11, hc12, h⟩ := zbi h
    refine zt_Vl rfl rfl rfl rfl (xmC 176 rfl) ⟨rfl, rfl, yle rfl, yle rfl⟩ (m := 3) rfl ⟨by omega, by omega⟩ (trF_figureValue hW hL hG hA0 hA1 hrc297 (by omega) (by omega) (by omega) (by omega) hc12) (fr1 := fr - 1) (lo1 := lo - 22) ?_
    cases h
    exact xt_lret rfl rfl rfl ⟨rfl, rfl⟩
  replace h := zif_f (p := x1 = 2) hw13 h
  by_cases hw17 : x1 = 3
  · replace h := zif_t (p := x1 = 3) hw17 h
    refine zt_sw (tg := 34) rfl rfl rfl hw17 rfl ?_
    refine xt_pure rfl rfl rfl rfl ?_
    refine xt_pure rfl rfl rfl rfl ?_
    refine xt_pure rfl rfl rfl rfl ?_
    obtain ⟨x14, S15, hc16, h⟩ := zbi h
    refine zt_Vl rfl rfl rfl rfl (xmC 176 rfl) ⟨rfl, rfl, yle rfl, yle rfl⟩ (m := 6) rfl ⟨by omega, by omega⟩ (trF_workItem hW hL hG hA0 hA1 hrc297 (by omega) (by omega) (by omega) (by omega) hc16) (fr1 := fr - 1) (lo1 := lo - 25) ?_
    cases h
    exact xt_lret rfl rfl rfl ⟨rfl, rfl⟩
  replace h := zif_f (p := x1 = 3) hw17 h
  by_cases hw22 : x1 = 4
  · replace h := zif_t (p := x1 = 4) hw22 h
    refine zt_sw (tg := 39) rfl rfl rfl hw22 rfl ?_
    refine xt_pure rfl rfl rfl rfl ?_
    refine xt_pure rfl rfl rfl rfl ?_
    refine xt_pure rfl rfl rfl rfl ?_
    refine xt_pure rfl rfl rfl rfl ?_
    refine xt_getf rfl rfl (zmr hW) ?_
    refine xt_getf rfl rfl (zmr (ymm hG 20 rfl)) ?_
    refine xt_pure rfl rfl rfl rfl ?_
    obtain ⟨x18, hx18, h⟩ := zgi h
    refine zr_lld (l := vl) rfl rfl (zmr (ymm hG 34 rfl)) hx18 ?_
    refine xt_pure rfl rfl rfl rfl ?_
    obtain ⟨x19, S20, hc21, h⟩ := zbi h
    refine zt_Vl rfl rfl rfl rfl (xmC 176 rfl) ⟨rfl, rfl, yle rfl, yle rfl⟩ (m := 9) rfl ⟨by omega, by omega⟩ (trF_workCell hW hL hG hA0 hA1 hrc297 (by omega) (by omega) (by omega) (by omega) hc21) (fr1 := fr - 1) (lo1 := lo - 28) ?_
    cases h
    exact xt_lret rfl rfl rfl ⟨rfl, rfl⟩
  replace h := zif_f (p := x1 = 4) hw22 h
  by_cases hw31 : x1 = 5
  · replace h := zif_t (p := x1 = 5) hw31 h
    refine zt_sw (tg := 50) rfl rfl rfl hw31 rfl ?_
    refine xt_pure rfl rfl rfl rfl ?_
    refine xt_pure rfl rfl rfl rfl ?_
    refine xt_pure rfl rfl rfl rfl ?_
    refine xt_getf rfl rfl (zmr hW) ?_
    refine xt_getf rfl rfl (zmr (ymm hG 2 rfl)) ?_
    refine xt_pure rfl rfl rfl rfl ?_
    obtain ⟨x23, hx23, h⟩ := zgi h
    refine zr_ild (l := (ga 2)) rfl rfl (zmr (ymm hG 23 rfl)) hx23 ?_
    obtain ⟨x24, S25, hc26, h⟩ := zbi h
    refine zt_Si rfl rfl (by decide) rfl rfl ⟨rfl, yle rfl, yle rfl⟩ (m := 1) rfl ⟨by omega, by omega⟩ (trF_sortOf hW hL hG hA0 hA1 (by omega) (by omega) hc26) (fr1 := fr - 1) (lo1 := lo - 20) ?_
    obtain ⟨z30, S28, hc29, h⟩ := zbi h
    refine zt_Vz rfl rfl rfl rfl (xmC 176 rfl) ⟨rfl, rfl, yle rfl, yle rfl⟩ (m := 4) rfl ⟨by omega, by omega⟩ (trF_as hW hL hG hA0 hA1 (by omega) (by omega) hc29) (fr1 := fr - 1) (lo1 := lo - 23) (fun v30 hv30 => ?_)
    rcases z30 with _ | o30
    · obtain rfl : v30 = Value.null := hv30
      replace h := zon h
      refine xt_pure rfl rfl rfl (L1 := [_, _, _, _, _, _, _, _, _, _]) rfl ?_
      refine xt_pure rfl rfl rfl rfl ?_
      refine zt_gI 2 rfl rfl rfl rfl (x := (zI S28 2)) rfl ?_
      refine xt_if rfl rfl (fun hb => ?_) (fun hb => ?_)
      · replace h := zif_t (p := (zI S28 2) = (0 : Int32)) hb h
        refine xt_pure rfl rfl rfl rfl ?_
        cases h
      · replace h := zif_f (p := (zI S28 2) = (0 : Int32)) hb h
        refine xt_pure rfl rfl rfl (st1 := .long 0 :: _) rfl ?_
        refine xt_pure rfl rfl rfl rfl ?_
        cases h
        exact xt_lret rfl rfl rfl ⟨rfl, rfl⟩
    · obtain ⟨oa30, rfl, ho30⟩ := hv30
      replace h := zos h
      have hk30 := ho30
      obtain ⟨ia30, ra30, ca30, q030, q130, q230, q330, q430, q530, q630, q730⟩ := hk30
      refine xt_pure rfl rfl rfl (L1 := [_, _, _, _, _, _, _, _, _, _]) rfl ?_
      refine xt_pure rfl rfl rfl rfl ?_
      refine zt_gI 2 rfl rfl rfl rfl (x := (zI S28 2)) rfl ?_
      refine xt_if rfl rfl (fun hb => ?_) (fun hb => ?_)
      · replace h := zif_t (p := (zI S28 2) = (0 : Int32)) hb h
        refine xt_pure rfl rfl rfl rfl ?_
        refine xt_getf rfl rfl (zmr q130) ?_
        refine xt_pure rfl rfl rfl rfl ?_
        cases h
        exact xt_lret rfl rfl rfl ⟨rfl, rfl⟩
      · replace h := zif_f (p := (zI S28 2) = (0 : Int32)) hb h
        refine xt_pure rfl rfl rfl (st1 := .long 0 :: _) rfl ?_
        refine xt_pure rfl rfl rfl rfl ?_
        cases h
        exact xt_lret rfl rfl rfl ⟨rfl, rfl⟩
  replace h := zif_f (p := x1 = 5) hw31 h
  by_cases hw36 : x1 = 6
  · replace h := zif_t (p := x1 = 6) hw36 h
    refine zt_sw (tg := 69) rfl rfl rfl hw36 rfl ?_
    refine xt_pure rfl rfl rfl rfl ?_
    refine xt_pure rfl rfl rfl rfl ?_
    obtain ⟨z35, S33, hc34, h⟩ := zbi h
    refine zt_Vz rfl rfl rfl rfl (xmC 176 rfl) ⟨rfl, rfl, yle rfl, yle rfl⟩ (m := 2) rfl ⟨by omega, by omega⟩ (trF_answer hW hL hG hA0 hA1 (by omega) (by omega) hc34) (fr1 := fr - 1) (lo1 := lo - 21) (fun v35 hv35 => ?_)
    rcases z35 with _ | o35
    · obtain rfl : v35 = Value.null := hv35
      replace h := zon h
      refine xt_pure rfl rfl rfl rfl ?_
      refine xt_pure rfl rfl rfl (st1 := .long 0 :: _) rfl ?_
      cases h
      exact xt_lret rfl rfl rfl ⟨rfl, rfl⟩
    · obtain ⟨oa35, rfl, ho35⟩ := hv35
      replace h := zos h
      have hk35 := ho35
      obtain ⟨ia35, ra35, ca35, q035, q135, q235, q335, q435, q535, q635, q735⟩ := hk35
      refine xt_pure rfl rfl rfl rfl ?_
      refine xt_pure rfl rfl rfl (st1 := .long 1 :: _) rfl ?_
      refine xt_pure rfl rfl rfl rfl ?_
      cases h
      exact xt_lret rfl rfl rfl ⟨rfl, rfl⟩
  replace h := zif_f (p := x1 = 6) hw36 h
  by_cases hw40 : x1 = 7
  · replace h := zif_t (p := x1 = 7) hw40 h
    refine zt_sw (tg := 77) rfl rfl rfl hw40 rfl ?_
    refine xt_pure rfl rfl rfl rfl ?_
    refine xt_pure rfl rfl rfl rfl ?_
    refine xt_pure rfl rfl rfl rfl ?_
    obtain ⟨x37, S38, hc39, h⟩ := zbi h
    refine zt_Vi rfl rfl rfl rfl (xmC 176 rfl) ⟨rfl, rfl, yle rfl, yle rfl⟩ (m := 4) rfl ⟨by omega, by omega⟩ (trF_isSort hW hL hG hA0 hA1 (by omega) (by omega) hc39) (fr1 := fr - 1) (lo1 := lo - 23) ?_
    refine xt_if rfl rfl (fun hb => ?_) (fun hb => ?_)
    · replace h := zif_t (p := x37 = (0 : Int32)) hb h
      refine xt_pure rfl rfl rfl (st1 := .long 0 :: _) rfl ?_
      cases h
      exact xt_lret rfl rfl rfl ⟨rfl, rfl⟩
    · replace h := zif_f (p := x37 = (0 : Int32)) hb h
      refine xt_pure rfl rfl rfl (st1 := .long 1 :: _) rfl ?_
      refine xt_pure rfl rfl rfl rfl ?_
      cases h
      exact xt_lret rfl rfl rfl ⟨rfl, rfl⟩
  replace h := zif_f (p := x1 = 7) hw40 h
  by_cases hw44 : x1 = 8
  · replace h := zif_t (p := x1 = 8) hw44 h
    refine zt_sw (tg := 86) rfl rfl rfl hw44 rfl ?_
    refine xt_pure rfl rfl rfl rfl ?_
    refine xt_pure rfl rfl rfl rfl ?_
    obtain ⟨x41, S42, hc43, h⟩ := zbi h
    refine zt_Vl rfl rfl rfl rfl (xmC 176 rfl) ⟨rfl, rfl, yle rfl, yle rfl⟩ (m := 7) rfl ⟨by omega, by omega⟩ (trF_total hW hL hG hA0 hA1 (by omega) (by omega) hc43) (fr1 := fr - 1) (lo1 := lo - 26) ?_
    cases h
    exact xt_lret rfl rfl rfl ⟨rfl, rfl⟩
  replace h := zif_f (p := x1 = 8) hw44 h
  by_cases hw51 : x1 = 9
  · replace h := zif_t (p := x1 = 9) hw51 h
    refine zt_sw (tg := 90) rfl rfl rfl hw51 rfl ?_
    refine xt_pure rfl rfl rfl rfl ?_
    refine xt_pure rfl rfl rfl rfl ?_
    obtain ⟨x45, S46, hc47, h⟩ := zbi h
    refine zt_Vl rfl rfl rfl rfl (xmC 176 rfl) ⟨rfl, rfl, yle rfl, yle rfl⟩ (m := 10) rfl ⟨by omega, by omega⟩ (hrc297 hc47) (fr1 := fr0) (lo1 := lo0) ?_
    refine xt_pure rfl rfl rfl (L1 := [_, _, _, _, _, _, _, _, _, _]) rfl ?_
    refine xt_pure rfl rfl rfl rfl ?_
    refine zt_gI 2 rfl rfl rfl rfl (x := (zI S46 2)) rfl ?_
    refine xt_if rfl rfl (fun hb => ?_) (fun hb => ?_)
    · replace h := zif_t (p := (zI S46 2) = (0 : Int32)) hb h
      refine xt_pure rfl rfl rfl rfl ?_
      refine xt_pure rfl rfl rfl rfl ?_
      refine xt_pure rfl rfl rfl rfl ?_
      refine xt_pure rfl rfl rfl rfl ?_
      obtain ⟨x48, S49, hc50, h⟩ := zbi h
      refine zt_Vl rfl rfl rfl rfl (xmC 176 rfl) ⟨rfl, rfl, yle rfl, yle rfl⟩ (m := 7) rfl ⟨by omega, by omega⟩ (trF_column hW hL hG hA0 hA1 (by omega) (by omega) hc50) (fr1 := fr - 1) (lo1 := lo - 26) ?_
      cases h
      exact xt_lret rfl rfl rfl ⟨rfl, rfl⟩
    · replace h := zif_f (p := (zI S46 2) = (0 : Int32)) hb h
      refine xt_pure rfl rfl rfl (st1 := .long 0 :: _) rfl ?_
      refine xt_pure rfl rfl rfl rfl ?_
      cases h
      exact xt_lret rfl rfl rfl ⟨rfl, rfl⟩
  replace h := zif_f (p := x1 = 9) hw51 h
  by_cases hw58 : x1 = 10
  · replace h := zif_t (p := x1 = 10) hw58 h
    refine zt_sw (tg := 105) rfl rfl rfl hw58 rfl ?_
    refine xt_pure rfl rfl rfl rfl ?_
    refine xt_pure rfl rfl rfl rfl ?_
    obtain ⟨x52, S53, hc54, h⟩ := zbi h
    refine zt_Vl rfl rfl rfl rfl (xmC 176 rfl) ⟨rfl, rfl, yle rfl, yle rfl⟩ (m := 10) rfl ⟨by omega, by omega⟩ (hrc297 hc54) (fr1 := fr0) (lo1 := lo0) ?_
    refine xt_pure rfl rfl rfl (L1 := [_, _, _, _, _, _, _, _, _, _]) rfl ?_
    refine xt_pure rfl rfl rfl rfl ?_
    refine zt_gI 2 rfl rfl rfl rfl (x := (zI S53 2)) rfl ?_
    refine xt_if rfl rfl (fun hb => ?_) (fun hb => ?_)
    · replace h := zif_t (p := (zI S53 2) ≠ (0 : Int32)) hb h
      refine xt_pure rfl rfl rfl rfl ?_
      refine xt_pure rfl rfl rfl rfl ?_
      refine zt_gI 6 rfl rfl rfl rfl (x := (zI S53 6)) rfl ?_
      refine xt_pure rfl rfl rfl (st1 := .int 1 :: _) rfl ?_
      refine xt_pure rfl rfl rfl rfl ?_
      refine zt_pI 6 rfl rfl rfl rfl rfl rfl ?_
      refine xt_pure rfl rfl rfl rfl ?_
      refine xt_pure rfl rfl rfl (st1 := .int 0 :: _) rfl ?_
      refine zt_pI 2 rfl rfl rfl rfl rfl rfl ?_
      refine xt_pure rfl rfl rfl rfl ?_
      refine xt_pure rfl rfl rfl rfl ?_
      obtain ⟨x55, S56, hc57, h⟩ := zbi h
      refine zt_Vl rfl rfl rfl rfl (xmC 176 rfl) ⟨rfl, rfl, yle rfl, yle rfl⟩ (m := 10) rfl ⟨by omega, by omega⟩ (hrc297 hc57) (fr1 := fr0) (lo1 := lo0) ?_
      cases h
      exact xt_lret rfl rfl rfl ⟨rfl, rfl⟩
    · replace h := zif_f (p := (zI S53 2) ≠ (0 : Int32)) hb h
      refine xt_pure rfl rfl rfl rfl ?_
      cases h
      exact xt_lret rfl rfl rfl ⟨rfl, rfl⟩
  replace h := zif_f (p := x1 = 10) hw58 h
  by_cases hw62 : x1 = 13
  · replace h := zif_t (p := x1 = 13) hw62 h
    refine zt_sw (tg := 132) rfl rfl rfl hw62 rfl ?_
    refine xt_pure rfl rfl rfl rfl ?_
    refine xt_pure rfl rfl rfl rfl ?_
    obtain ⟨x59, S60, hc61, h⟩ := zbi h
    refine zt_Vl rfl rfl rfl rfl (xmC 176 rfl) ⟨rfl, rfl, yle rfl, yle rfl⟩ (m := 10) rfl ⟨by omega, by omega⟩ (hrc297 hc61) (fr1 := fr0) (lo1 := lo0) ?_
    refine xt_pure rfl rfl rfl (st1 := .long 0 :: _) rfl ?_
    refine zt_lc rfl rfl rfl (fun hb => ?_) (fun hb => ?_)
    · replace h := zif_t (p := x59 ≠ (0 : Int64)) hb h
      refine xt_pure rfl rfl rfl (st1 := .long 0 :: _) rfl ?_
      cases h
      exact xt_lret rfl rfl rfl ⟨rfl, rfl⟩
    · replace h := zif_f (p := x59 ≠ (0 : Int64)) hb h
      refine xt_pure rfl rfl rfl (st1 := .long 1 :: _) rfl ?_
      refine xt_pure rfl rfl rfl rfl ?_
      cases h
      exact xt_lret rfl rfl rfl ⟨rfl, rfl⟩
  replace h := zif_f (p := x1 = 13) hw62 h
  by_cases hw66 : x1 = 14
  · replace h := zif_t (p := x1 = 14) hw66 h
    refine zt_sw (tg := 127) rfl rfl rfl hw66 rfl ?_
    refine xt_pure rfl rfl rfl rfl ?_
    refine xt_pure rfl rfl rfl rfl ?_
    obtain ⟨x63, S64, hc65, h⟩ := zbi h
    refine zt_Vl rfl rfl rfl rfl (xmC 176 rfl) ⟨rfl, rfl, yle rfl, yle rfl⟩ (m := 10) rfl ⟨by omega, by omega⟩ (hrc297 hc65) (fr1 := fr0) (lo1 := lo0) ?_
    refine xt_pure rfl rfl rfl rfl ?_
    cases h
    exact xt_lret rfl rfl rfl ⟨rfl, rfl⟩
  replace h := zif_f (p := x1 = 14) hw66 h
  by_cases hw70 : x1 = 11
  · refine zt_sw (tg := 142) rfl rfl rfl hw70 rfl ?_
    refine xt_pure rfl rfl rfl rfl ?_
    refine xt_pure rfl rfl rfl rfl ?_
    refine xt_pure rfl rfl rfl rfl ?_
    refine xt_pure rfl rfl rfl rfl ?_
    obtain ⟨x67, S68, hc69, h⟩ := zbi h
    refine zt_Vl rfl rfl rfl rfl (xmC 176 rfl) ⟨rfl, rfl, yle rfl, yle rfl⟩ (m := 8) rfl ⟨by omega, by omega⟩ (trF_paired hW hL hG hA0 hA1 hrc297 (by omega) (by omega) (by omega) (by omega) hc69) (fr1 := fr - 1) (lo1 := lo - 27) ?_
    cases h
    exact xt_lret rfl rfl rfl ⟨rfl, rfl⟩
  by_cases hw74 : x1 = 12
  · refine zt_sw (tg := 142) rfl rfl rfl hw74 rfl ?_
    refine xt_pure rfl rfl rfl rfl ?_
    refine xt_pure rfl rfl rfl rfl ?_
    refine xt_pure rfl rfl rfl rfl ?_
    refine xt_pure rfl rfl rfl rfl ?_
    obtain ⟨x71, S72, hc73, h⟩ := zbi h
    refine zt_Vl rfl rfl rfl rfl (xmC 176 rfl) ⟨rfl, rfl, yle rfl, yle rfl⟩ (m := 8) rfl ⟨by omega, by omega⟩ (trF_paired hW hL hG hA0 hA1 hrc297 (by omega) (by omega) (by omega) (by omega) hc73) (fr1 := fr - 1) (lo1 := lo - 27) ?_
    cases h
    exact xt_lret rfl rfl rfl ⟨rfl, rfl⟩
  have hxhw5 : ¬ x1.toInt = 0 := fun h => hw5 (by rw [xi32_eq, h]; rfl)
  have hxhw9 : ¬ x1.toInt = 1 := fun h => hw9 (by rw [xi32_eq, h]; rfl)
  have hxhw13 : ¬ x1.toInt = 2 := fun h => hw13 (by rw [xi32_eq, h]; rfl)
  have hxhw17 : ¬ x1.toInt = 3 := fun h => hw17 (by rw [xi32_eq, h]; rfl)
  have hxhw22 : ¬ x1.toInt = 4 := fun h => hw22 (by rw [xi32_eq, h]; rfl)
  have hxhw31 : ¬ x1.toInt = 5 := fun h => hw31 (by rw [xi32_eq, h]; rfl)
  have hxhw36 : ¬ x1.toInt = 6 := fun h => hw36 (by rw [xi32_eq, h]; rfl)
  have hxhw40 : ¬ x1.toInt = 7 := fun h => hw40 (by rw [xi32_eq, h]; rfl)
  have hxhw44 : ¬ x1.toInt = 8 := fun h => hw44 (by rw [xi32_eq, h]; rfl)
  have hxhw51 : ¬ x1.toInt = 9 := fun h => hw51 (by rw [xi32_eq, h]; rfl)
  have hxhw58 : ¬ x1.toInt = 10 := fun h => hw58 (by rw [xi32_eq, h]; rfl)
  have hxhw62 : ¬ x1.toInt = 13 := fun h => hw62 (by rw [xi32_eq, h]; rfl)
  have hxhw66 : ¬ x1.toInt = 14 := fun h => hw66 (by rw [xi32_eq, h]; rfl)
  have hxhw70 : ¬ x1.toInt = 11 := fun h => hw70 (by rw [xi32_eq, h]; rfl)
  have hxhw74 : ¬ x1.toInt = 12 := fun h => hw74 (by rw [xi32_eq, h]; rfl)
  refine yt_tsd rfl rfl (by omega) rfl ?_
  refine xt_pure rfl rfl rfl rfl ?_
  refine xt_pure rfl rfl rfl rfl ?_
  refine xt_pure rfl rfl rfl rfl ?_
  refine xt_pure rfl rfl rfl rfl ?_
  obtain ⟨x75, S76, hc77, h⟩ := zbi h
  refine zt_Vl rfl rfl rfl rfl (xmC 176 rfl) ⟨rfl, rfl, yle rfl, yle rfl⟩ (m := 8) rfl ⟨by omega, by omega⟩ (trF_paired hW hL hG hA0 hA1 hrc297 (by omega) (by omega) (by omega) (by omega) hc77) (fr1 := fr - 1) (lo1 := lo - 27) ?_
  cases h
  exact xt_lret rfl rfl rfl ⟨rfl, rfl⟩
def rF_fix (gi : Nat → Int32) (ga : Nat → List Int32) (vl : List Int64) (Bs : List (Option zH)) (am : List Int64) (N : Nat) : Nat → (Int32 → zS → Option (Int64 × zS))
  | 0 => fun _ _ => none
  | n + 1 => fun y0 S => rF_work gi ga vl Bs am (rF_fix gi ga vl Bs am N n) N y0 S
theorem trF_fix {X : List Int32} {D0 : List xE} {fa : Nat} {p : Nat → Nat} {gi : Nat → Int32} {ga : Nat → List Int32} {vl : List Int64} {refs : List Value} {Bs : List (Option zH)} {am : List Int64} (hW : ((209, .inl (14, 46, .ref fa)) : xE) ∈ D0) (hL : ((235, .inr (1, am.map Value.long)) : xE) ∈ D0) (hG : ∀ e ∈ zgF fa p gi ga vl, e ∈ D0) (hA0 : ((239, .inr (10, refs)) : xE) ∈ D0) (hA1 : ∀ {j : Int32} {z : Option zH}, gI Bs j = some z → ∃ v, gI refs j = some v ∧ zVM D0 v z) {N : Nat} : ∀ {n fr lo : Nat}, 3 + 2 * n ≤ fr → 76 + 57 * n ≤ lo → (∀ {b0 : Int32} {S S2 : zS} {r : Int64}, rF_fix gi ga vl Bs am N n b0 S = some (r, S2) → yK X fr lo 297 [.ref 209, .int b0] (zD zTF zaF S D0) 0 0 (zQl zTF zaF D0 r S2)) := by
  intro n
  induction n with
  | zero =>
    intro fr lo hf hl
    exact fun h => absurd h (by intro h; cases h)
  | succ n ih =>
    intro fr lo hf hl
    exact fun h => trF_work hW hL hG hA0 hA1 (fun h => (ih (fr := fr - 2) (lo := lo - 57) (by omega) (by omega)) h) (by omega) (by omega) (by omega) (by omega) h
