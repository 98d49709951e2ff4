/-! MIRRORS: working, the reference -/
def zTF : List (Nat × Nat × Nat) := [(0, 14, 24), (0, 14, 45), (0, 14, 47), (0, 14, 48), (0, 14, 49), (0, 14, 50), (0, 14, 51), (0, 14, 56), (0, 14, 57), (0, 14, 58), (1, 14, 59), (0, 14, 60), (0, 14, 62), (3, 0, 0), (4, 1, 0), (3, 0, 0), (3, 0, 0), (3, 0, 0), (3, 0, 0), (3, 3, 0)]
def zaF (i : Nat) : Nat := ([209, 209, 209, 209, 209, 209, 209, 209, 209, 209, 209, 209, 209, 249, 250, 251, 252, 253, 254, 255] : List Nat).getD i 0
def zgF (fa : Nat) (p : Nat → Nat) (gi : Nat → Int32) (ga : Nat → List Int32) (vl : List Int64) : List xE := [(fa, .inl (12, 0, .int (gi 0))), (fa, .inl (12, 1, .ref (p 1))), (fa, .inl (12, 2, .ref (p 2))), (fa, .inl (12, 3, .ref (p 3))), (fa, .inl (12, 4, .ref (p 4))), (fa, .inl (12, 5, .ref (p 5))), (fa, .inl (12, 6, .ref (p 6))), (fa, .inl (12, 7, .ref (p 7))), (fa, .inl (12, 8, .ref (p 8))), (fa, .inl (12, 9, .int (gi 9))), (fa, .inl (12, 10, .ref (p 10))), (fa, .inl (12, 11, .ref (p 11))), (fa, .inl (12, 12, .int (gi 12))), (fa, .inl (12, 13, .ref (p 13))), (fa, .inl (12, 14, .ref (p 14))), (fa, .inl (12, 15, .int (gi 15))), (fa, .inl (12, 16, .int (gi 16))), (fa, .inl (12, 17, .int (gi 17))), (fa, .inl (12, 18, .int (gi 18))), (fa, .inl (12, 19, .ref (p 19))), (fa, .inl (12, 20, .ref (p 20))), (fa, .inl (12, 21, .ref (p 21))), (fa, .inl (12, 22, .ref (p 22))), (p 2, .inr (0, (ga 2).map Value.int)), (p 3, .inr (0, (ga 3).map Value.int)), (p 4, .inr (3, (ga 4).map Value.int)), (p 5, .inr (0, (ga 5).map Value.int)), (p 6, .inr (0, (ga 6).map Value.int)), (p 7, .inr (0, (ga 7).map Value.int)), (p 8, .inr (0, (ga 8).map Value.int)), (p 11, .inr (0, (ga 11).map Value.int)), (p 13, .inr (0, (ga 13).map Value.int)), (p 14, .inr (0, (ga 14).map Value.int)), (p 19, .inr (0, (ga 19).map Value.int)), (p 20, .inr (1, vl.map Value.long)), (p 21, .inr (0, (ga 21).map Value.int)), (p 22, .inr (0, (ga 22).map Value.int))]
def rF_in (gi : Nat → Int32) (ga : Nat → List Int32) (vl : List Int64) (Bs : List (Option zH)) (am : List Int64)  (N : Nat) (v0 : Int64) (v2 : Int64) (v4 : Int64) (S : zS) : Option (Int32 × zS) := (if v0.toInt < v2.toInt then some (0, S) else (if v4.toInt < v0.toInt then some (0, S) else some (1, S)))
theorem trF_in {X : List Int32} {D0 : List xE} {fa : Nat} {p : Nat → Nat} {gi : Nat → Int32} {ga : Nat → List Int32} {vl : List Int64} {refs : List Value} {Bs : List (Option zH)} {am : List Int64} (hW : ((209, .inl (14, 46, .ref fa)) : xE) ∈ D0) (hL : ((235, .inr (1, am.map Value.long)) : xE) ∈ D0) (hG : ∀ e ∈ zgF fa p gi ga vl, e ∈ D0) (hA0 : ((239, .inr (10, refs)) : xE) ∈ D0) (hA1 : ∀ {j : Int32} {z : Option zH}, gI Bs j = some z → ∃ v, gI refs j = some v ∧ zVM D0 v z)  {N fr lo : Nat} (hf : 0 ≤ fr) (hl : 0 ≤ lo) {v0 : Int64} {v2 : Int64} {v4 : Int64} {S S2 : zS} {r : Int32}  (h : rF_in gi ga vl Bs am N v0 v2 v4 S = some (r, S2)) : yK X fr lo 251 [.long v0, .long v2, .long v4] (zD zTF zaF S D0) 0 0 (zQi zTF zaF D0 r S2) := by
  unfold rF_in at h
  refine yK.of rfl (yle rfl) (L := [_, _, _, _, _, _]) rfl ?_
  refine xt_pure rfl rfl rfl rfl ?_
  refine xt_pure rfl rfl rfl rfl ?_
  refine zt_lc rfl rfl rfl (fun hb => ?_) (fun hb => ?_)
  · replace h := zif_t (p := v0.toInt < v2.toInt) hb h
    refine xt_pure rfl rfl rfl (st1 := .int 0 :: _) rfl ?_
    cases h
    exact xt_iret rfl rfl rfl rfl ⟨rfl, rfl⟩
  · replace h := zif_f (p := v0.toInt < v2.toInt) hb h
    refine xt_pure rfl rfl rfl rfl ?_
    refine xt_pure rfl rfl rfl rfl ?_
    refine zt_lc rfl rfl rfl (fun hb => ?_) (fun hb => ?_)
    · replace h := zif_t (p := v4.toInt < v0.toInt) hb h
      refine xt_pure rfl rfl rfl (st1 := .int 0 :: _) rfl ?_
      cases h
      exact xt_iret rfl rfl rfl rfl ⟨rfl, rfl⟩
    · replace h := zif_f (p := v4.toInt < v0.toInt) hb h
      refine xt_pure rfl rfl rfl (st1 := .int 1 :: _) rfl ?_
      refine xt_pure rfl rfl rfl rfl ?_
      cases h
      exact xt_iret rfl rfl rfl rfl ⟨rfl, rfl⟩
def rF_isSpent (gi : Nat → Int32) (ga : Nat → List Int32) (vl : List Int64) (Bs : List (Option zH)) (am : List Int64)  (N : Nat)  (S : zS) : Option (Int32 × zS) := (if (zI S 0).toInt < 10000 then some (0, S) else some (1, S))
theorem trF_isSpent {X : List Int32} {D0 : List xE} {fa : Nat} {p : Nat → Nat} {gi : Nat → Int32} {ga : Nat → List Int32} {vl : List Int64} {refs : List Value} {Bs : List (Option zH)} {am : List Int64} (hW : ((209, .inl (14, 46, .ref fa)) : xE) ∈ D0) (hL : ((235, .inr (1, am.map Value.long)) : xE) ∈ D0) (hG : ∀ e ∈ zgF fa p gi ga vl, e ∈ D0) (hA0 : ((239, .inr (10, refs)) : xE) ∈ D0) (hA1 : ∀ {j : Int32} {z : Option zH}, gI Bs j = some z → ∃ v, gI refs j = some v ∧ zVM D0 v z)  {N fr lo : Nat} (hf : 0 ≤ fr) (hl : 0 ≤ lo)  {S S2 : zS} {r : Int32}  (h : rF_isSpent gi ga vl Bs am N  S = some (r, S2)) : yK X fr lo 256 [.ref 209] (zD zTF zaF S D0) 0 0 (zQi zTF zaF D0 r S2) := by
  unfold rF_isSpent at h
  refine yK.of rfl (yle rfl) (L := [_]) rfl ?_
  refine xt_pure rfl rfl rfl rfl ?_
  refine zt_gI 0 rfl rfl rfl rfl (x := (zI S 0)) rfl ?_
  refine xt_pure rfl rfl rfl (st1 := .int 10000 :: _) rfl ?_
  refine xt_ic rfl rfl (fun hb => ?_) (fun hb => ?_)
  · replace h := zif_t (p := (zI S 0).toInt < 10000) hb h
    refine xt_pure rfl rfl rfl (st1 := .int 0 :: _) rfl ?_
    cases h
    exact xt_iret rfl rfl rfl rfl ⟨rfl, rfl⟩
  · replace h := zif_f (p := (zI S 0).toInt < 10000) hb h
    refine xt_pure rfl rfl rfl (st1 := .int 1 :: _) rfl ?_
    refine xt_pure rfl rfl rfl rfl ?_
    cases h
    exact xt_iret rfl rfl rfl rfl ⟨rfl, rfl⟩
def rF_fails (gi : Nat → Int32) (ga : Nat → List Int32) (vl : List Int64) (Bs : List (Option zH)) (am : List Int64)  (N : Nat) (v1 : Int32) (S : zS) : Option (Int64 × zS) := some (0, (zsI (zsI (zsI S 2 v1) 3 (zI S 4)) 0 ((zI S 0) + 1)))
theorem trF_fails {X : List Int32} {D0 : List xE} {fa : Nat} {p : Nat → Nat} {gi : Nat → Int32} {ga : Nat → List Int32} {vl : List Int64} {refs : List Value} {Bs : List (Option zH)} {am : List Int64} (hW : ((209, .inl (14, 46, .ref fa)) : xE) ∈ D0) (hL : ((235, .inr (1, am.map Value.long)) : xE) ∈ D0) (hG : ∀ e ∈ zgF fa p gi ga vl, e ∈ D0) (hA0 : ((239, .inr (10, refs)) : xE) ∈ D0) (hA1 : ∀ {j : Int32} {z : Option zH}, gI Bs j = some z → ∃ v, gI refs j = some v ∧ zVM D0 v z)  {N fr lo : Nat} (hf : 0 ≤ fr) (hl : 0 ≤ lo) {v1 : Int32} {S S2 : zS} {r : Int64}  (h : rF_fails gi ga vl Bs am N v1 S = some (r, S2)) : yK X fr lo 301 [.ref 209, .int v1] (zD zTF zaF S D0) 0 0 (zQl zTF zaF D0 r S2) := by
  unfold rF_fails at h
  refine yK.of rfl (yle rfl) (L := [_, _]) rfl ?_
  refine xt_pure rfl rfl rfl rfl ?_
  refine xt_pure rfl rfl rfl rfl ?_
  refine zt_pI 2 rfl rfl rfl rfl rfl rfl ?_
  refine xt_pure rfl rfl rfl rfl ?_
  refine xt_pure rfl rfl rfl rfl ?_
  refine zt_gI 4 rfl rfl rfl rfl (x := (zI S 4)) rfl ?_
  refine zt_pI 3 rfl rfl rfl rfl rfl rfl ?_
  refine xt_pure rfl rfl rfl rfl ?_
  refine xt_pure rfl rfl rfl rfl ?_
  refine zt_gI 0 rfl rfl rfl rfl (x := (zI S 0)) rfl ?_
  refine xt_pure rfl rfl rfl (st1 := .int 1 :: _) rfl ?_
  refine xt_pure rfl rfl rfl rfl ?_
  refine zt_pI 0 rfl rfl rfl rfl rfl rfl ?_
  refine xt_pure rfl rfl rfl (st1 := .long 0 :: _) rfl ?_
  cases h
  exact xt_lret rfl rfl rfl ⟨rfl, rfl⟩
def rF_answer (gi : Nat → Int32) (ga : Nat → List Int32) (vl : List Int64) (Bs : List (Option zH)) (am : List Int64)  (N : Nat) (v1 : Int32) (S : zS) : Option (Option zH × zS) := (zg (gI Bs ((20 * (zI S 1)) + v1)) fun z1 => (zo z1 (some (none, S)) fun o1 => some ((some o1), S)))
theorem trF_answer {X : List Int32} {D0 : List xE} {fa : Nat} {p : Nat → Nat} {gi : Nat → Int32} {ga : Nat → List Int32} {vl : List Int64} {refs : List Value} {Bs : List (Option zH)} {am : List Int64} (hW : ((209, .inl (14, 46, .ref fa)) : xE) ∈ D0) (hL : ((235, .inr (1, am.map Value.long)) : xE) ∈ D0) (hG : ∀ e ∈ zgF fa p gi ga vl, e ∈ D0) (hA0 : ((239, .inr (10, refs)) : xE) ∈ D0) (hA1 : ∀ {j : Int32} {z : Option zH}, gI Bs j = some z → ∃ v, gI refs j = some v ∧ zVM D0 v z)  {N fr lo : Nat} (hf : 0 ≤ fr) (hl : 0 ≤ lo) {v1 : Int32} {S S2 : zS} {r : Option zH}  (h : rF_answer gi ga vl Bs am N v1 S = some (r, S2)) : yK X fr lo 300 [.ref 209, .int v1] (zD zTF zaF S D0) 0 0 (zQzM zTF zaF D0 r S2) := by
  unfold rF_answer at h
  refine yK.of rfl (yle rfl) (L := [_, _]) rfl ?_
  refine xt_pure rfl rfl rfl rfl ?_
  refine xt_getf rfl rfl (xmC 188 rfl) ?_
  refine xt_pure rfl rfl rfl (st1 := .int 20 :: _) rfl ?_
  refine xt_pure rfl rfl rfl rfl ?_
  refine zt_gI 1 rfl rfl rfl rfl (x := (zI S 1)) rfl ?_
  refine xt_pure rfl rfl rfl rfl ?_
  refine xt_pure rfl rfl rfl rfl ?_
  refine xt_pure rfl rfl rfl rfl ?_
  obtain ⟨z1, hz1, h⟩ := zgi h
  obtain ⟨v1, hw1, hv1⟩ := hA1 hz1
  refine zr_ald (l := refs) rfl rfl ⟨by decide, rfl⟩ (zmr hA0) hw1 ?_
  rcases z1 with _ | o1
  · obtain rfl : v1 = Value.null := hv1
    replace h := zon h
    cases h
    exact xt_aret rfl rfl rfl rfl rfl ⟨_, rfl, zvnM, rfl⟩
  · obtain ⟨oa1, rfl, ho1⟩ := hv1
    replace h := zos h
    have hk1 := ho1
    obtain ⟨ia1, ra1, ca1, q01, q11, q21, q31, q41, q51, q61, q71⟩ := hk1
    cases h
    exact xt_aret rfl rfl rfl rfl rfl ⟨_, rfl, (zvsM ho1), rfl⟩
def rF_as (gi : Nat → Int32) (ga : Nat → List Int32) (vl : List Int64) (Bs : List (Option zH)) (am : List Int64)  (N : Nat) (v1 : Int32) (v2 : Int32) (S : zS) : Option (Option zH × zS) := (zb (rF_answer gi ga vl Bs am N v1 S) fun z4 S2 => (zo z4 ((zb (rF_fails gi ga vl Bs am N 1 S2) fun x5 S6 => (if (zI S6 2) = (0 : Int32) then some (none, S6) else some (none, S6)))) fun o4 => (if o4.1 = v2 then (if (zI S2 2) = (0 : Int32) then some ((some o4), S2) else some (none, S2)) else (if v2 ≠ (5 : Int32) then (zb (rF_fails gi ga vl Bs am N 2 S2) fun x8 S9 => (if (zI S9 2) = (0 : Int32) then some ((some o4), S9) else some (none, S9))) else (if o4.1 = (6 : Int32) then (if (zI S2 2) = (0 : Int32) then some ((some o4), S2) else some (none, S2)) else (zb (rF_fails gi ga vl Bs am N 2 S2) fun x11 S12 => (if (zI S12 2) = (0 : Int32) then some ((some o4), S12) else some (none, S12))))))))
theorem trF_as {X : List Int32} {D0 : List xE} {fa : Nat} {p : Nat → Nat} {gi : Nat → Int32} {ga : Nat → List Int32} {vl : List Int64} {refs : List Value} {Bs : List (Option zH)} {am : List Int64} (hW : ((209, .inl (14, 46, .ref fa)) : xE) ∈ D0) (hL : ((235, .inr (1, am.map Value.long)) : xE) ∈ D0) (hG : ∀ e ∈ zgF fa p gi ga vl, e ∈ D0) (hA0 : ((239, .inr (10, refs)) : xE) ∈ D0) (hA1 : ∀ {j : Int32} {z : Option zH}, gI Bs j = some z → ∃ v, gI refs j = some v ∧ zVM D0 v z)  {N fr lo : Nat} (hf : 1 ≤ fr) (hl : 21 ≤ lo) {v1 : Int32} {v2 : Int32} {S S2 : zS} {r : Option zH}  (h : rF_as gi ga vl Bs am N v1 v2 S = some (r, S2)) : yK X fr lo 299 [.ref 209, .int v1, .int v2] (zD zTF zaF S D0) 0 0 (zQzM zTF zaF D0 r S2) := by
  unfold rF_as at h
  refine yK.of rfl (yle rfl) (L := [_, _, _, _]) rfl ?_
  refine xt_pure rfl rfl rfl rfl ?_
  refine xt_pure rfl rfl rfl rfl ?_
  obtain ⟨z4, S2, hc3, h⟩ := zbi h
  refine zt_Vz rfl rfl rfl rfl (xmC 176 rfl) ⟨rfl, rfl, yle rfl, yle rfl⟩ (m := 2) rfl ⟨by omega, by omega⟩ (trF_answer hW hL hG hA0 hA1 (by omega) (by omega) hc3) (fr1 := fr - 1) (lo1 := lo - 21) (fun v4 hv4 => ?_)
  rcases z4 with _ | o4
  · obtain rfl : v4 = Value.null := hv4
    replace h := zon h
    refine xt_pure rfl rfl rfl (L1 := [_, _, _, _]) rfl ?_
    refine xt_pure rfl rfl rfl rfl ?_
    refine xt_pure rfl rfl rfl rfl ?_
    refine xt_pure rfl rfl rfl rfl ?_
    refine xt_pure rfl rfl rfl (st1 := .int 1 :: _) rfl ?_
    obtain ⟨x5, S6, hc7, h⟩ := zbi h
    refine zt_Vl rfl rfl rfl rfl (xmC 176 rfl) ⟨rfl, rfl, yle rfl, yle rfl⟩ (m := 2) rfl ⟨by omega, by omega⟩ (trF_fails hW hL hG hA0 hA1 (by omega) (by omega) hc7) (fr1 := fr - 1) (lo1 := lo - 21) ?_
    refine xt_pure rfl rfl rfl rfl ?_
    refine xt_pure rfl rfl rfl rfl ?_
    refine xt_pure rfl rfl rfl rfl ?_
    refine zt_gI 2 rfl rfl rfl rfl (x := (zI S6 2)) rfl ?_
    refine xt_if rfl rfl (fun hb => ?_) (fun hb => ?_)
    · replace h := zif_t (p := (zI S6 2) = (0 : Int32)) hb h
      refine xt_pure rfl rfl rfl rfl ?_
      cases h
      exact xt_aret rfl rfl rfl rfl rfl ⟨_, rfl, zvnM, rfl⟩
    · replace h := zif_f (p := (zI S6 2) = (0 : Int32)) hb h
      refine xt_pure rfl rfl rfl rfl ?_
      refine xt_pure rfl rfl rfl rfl ?_
      cases h
      exact xt_aret rfl rfl rfl rfl rfl ⟨_, rfl, zvnM, rfl⟩
  · obtain ⟨oa4, rfl, ho4⟩ := hv4
    replace h := zos h
    have hk4 := ho4
    obtain ⟨ia4, ra4, ca4, q04, q14, q24, q34, q44, q54, q64, q74⟩ := hk4
    refine xt_pure rfl rfl rfl (L1 := [_, _, _, _]) rfl ?_
    refine xt_pure rfl rfl rfl rfl ?_
    refine xt_pure rfl rfl rfl rfl ?_
    refine xt_pure rfl rfl rfl rfl ?_
    refine xt_getf rfl rfl (zmr q04) ?_
    refine xt_pure rfl rfl rfl rfl ?_
    refine xt_ic rfl rfl (fun hb => ?_) (fun hb => ?_)
    · replace h := zif_t (p := o4.1 = v2) hb h
      refine xt_pure rfl rfl rfl rfl ?_
      refine zt_gI 2 rfl rfl rfl rfl (x := (zI S2 2)) rfl ?_
      refine xt_if rfl rfl (fun hb => ?_) (fun hb => ?_)
      · replace h := zif_t (p := (zI S2 2) = (0 : Int32)) hb h
        refine xt_pure rfl rfl rfl rfl ?_
        cases h
        exact xt_aret rfl rfl rfl rfl rfl ⟨_, rfl, (zvsM ho4), rfl⟩
      · replace h := zif_f (p := (zI S2 2) = (0 : Int32)) hb h
        refine xt_pure rfl rfl rfl rfl ?_
        refine xt_pure rfl rfl rfl rfl ?_
        cases h
        exact xt_aret rfl rfl rfl rfl rfl ⟨_, rfl, zvnM, rfl⟩
    · replace h := zif_f (p := o4.1 = v2) hb h
      refine xt_pure rfl rfl rfl rfl ?_
      refine xt_pure rfl rfl rfl (st1 := .int 5 :: _) rfl ?_
      refine xt_ic rfl rfl (fun hb => ?_) (fun hb => ?_)
      · replace h := zif_t (p := v2 ≠ (5 : Int32)) hb h
        refine xt_pure rfl rfl rfl rfl ?_
        refine xt_pure rfl rfl rfl (st1 := .int 2 :: _) rfl ?_
        obtain ⟨x8, S9, hc10, h⟩ := zbi h
        refine zt_Vl rfl rfl rfl rfl (xmC 176 rfl) ⟨rfl, rfl, yle rfl, yle rfl⟩ (m := 2) rfl ⟨by omega, by omega⟩ (trF_fails hW hL hG hA0 hA1 (by omega) (by omega) hc10) (fr1 := fr - 1) (lo1 := lo - 21) ?_
        refine xt_pure rfl rfl rfl rfl ?_
        refine xt_pure rfl rfl rfl rfl ?_
        refine zt_gI 2 rfl rfl rfl rfl (x := (zI S9 2)) rfl ?_
        refine xt_if rfl rfl (fun hb => ?_) (fun hb => ?_)
        · replace h := zif_t (p := (zI S9 2) = (0 : Int32)) hb h
          refine xt_pure rfl rfl rfl rfl ?_
          cases h
          exact xt_aret rfl rfl rfl rfl rfl ⟨_, rfl, (zvsM ho4), rfl⟩
        · replace h := zif_f (p := (zI S9 2) = (0 : Int32)) hb h
          refine xt_pure rfl rfl rfl rfl ?_
          refine xt_pure rfl rfl rfl rfl ?_
          cases h
          exact xt_aret rfl rfl rfl rfl rfl ⟨_, rfl, zvnM, rfl⟩
      · replace h := zif_f (p := v2 ≠ (5 : Int32)) hb h
        refine xt_pure rfl rfl rfl rfl ?_
        refine xt_getf rfl rfl (zmr q04) ?_
        refine xt_pure rfl rfl rfl (st1 := .int 6 :: _) rfl ?_
        refine xt_ic rfl rfl (fun hb => ?_) (fun hb => ?_)
        · replace h := zif_t (p := o4.1 = (6 : Int32)) hb h
          refine xt_pure rfl rfl rfl rfl ?_
          refine zt_gI 2 rfl rfl rfl rfl (x := (zI S2 2)) rfl ?_
          refine xt_if rfl rfl (fun hb => ?_) (fun hb => ?_)
          · replace h := zif_t (p := (zI S2 2) = (0 : Int32)) hb h
            refine xt_pure rfl rfl rfl rfl ?_
            cases h
            exact xt_aret rfl rfl rfl rfl rfl ⟨_, rfl, (zvsM ho4), rfl⟩
          · replace h := zif_f (p := (zI S2 2) = (0 : Int32)) hb h
            refine xt_pure rfl rfl rfl rfl ?_
            refine xt_pure rfl rfl rfl rfl ?_
            cases h
            exact xt_aret rfl rfl rfl rfl rfl ⟨_, rfl, zvnM, rfl⟩
        · replace h := zif_f (p := o4.1 = (6 : Int32)) hb h
          refine xt_pure rfl rfl rfl rfl ?_
          refine xt_pure rfl rfl rfl (st1 := .int 2 :: _) rfl ?_
          obtain ⟨x11, S12, hc13, h⟩ := zbi h
          refine zt_Vl rfl rfl rfl rfl (xmC 176 rfl) ⟨rfl, rfl, yle rfl, yle rfl⟩ (m := 2) rfl ⟨by omega, by omega⟩ (trF_fails hW hL hG hA0 hA1 (by omega) (by omega) hc13) (fr1 := fr - 1) (lo1 := lo - 21) ?_
          refine xt_pure rfl rfl rfl rfl ?_
          refine xt_pure rfl rfl rfl rfl ?_
          refine zt_gI 2 rfl rfl rfl rfl (x := (zI S12 2)) rfl ?_
          refine xt_if rfl rfl (fun hb => ?_) (fun hb => ?_)
          · replace h := zif_t (p := (zI S12 2) = (0 : Int32)) hb h
            refine xt_pure rfl rfl rfl rfl ?_
            cases h
            exact xt_aret rfl rfl rfl rfl rfl ⟨_, rfl, (zvsM ho4), rfl⟩
          · replace h := zif_f (p := (zI S12 2) = (0 : Int32)) hb h
            refine xt_pure rfl rfl rfl rfl ?_
            refine xt_pure rfl rfl rfl rfl ?_
            cases h
            exact xt_aret rfl rfl rfl rfl rfl ⟨_, rfl, zvnM, rfl⟩
def rF_sortOf (gi : Nat → Int32) (ga : Nat → List Int32) (vl : List Int64) (Bs : List (Option zH)) (am : List Int64)  (N : Nat) (v0 : Int32) (S : zS) : Option (Int32 × zS) := (if v0 = (0 : Int32) then some (0, S) else (if v0 ≠ (5 : Int32) then (if v0 ≠ (2 : Int32) then (if v0 ≠ (6 : Int32) then (if v0 ≠ (7 : Int32) then (if v0 = (8 : Int32) then some (5, S) else (if v0 ≠ (10 : Int32) then (if v0 ≠ (9 : Int32) then some (1, S) else some (6, S)) else some (5, S))) else some (4, S)) else some (3, S)) else some (2, S)) else some (0, S)))
theorem trF_sortOf {X : List Int32} {D0 : List xE} {fa : Nat} {p : Nat → Nat} {gi : Nat → Int32} {ga : Nat → List Int32} {vl : List Int64} {refs : List Value} {Bs : List (Option zH)} {am : List Int64} (hW : ((209, .inl (14, 46, .ref fa)) : xE) ∈ D0) (hL : ((235, .inr (1, am.map Value.long)) : xE) ∈ D0) (hG : ∀ e ∈ zgF fa p gi ga vl, e ∈ D0) (hA0 : ((239, .inr (10, refs)) : xE) ∈ D0) (hA1 : ∀ {j : Int32} {z : Option zH}, gI Bs j = some z → ∃ v, gI refs j = some v ∧ zVM D0 v z)  {N fr lo : Nat} (hf : 0 ≤ fr) (hl : 0 ≤ lo) {v0 : Int32} {S S2 : zS} {r : Int32}  (h : rF_sortOf gi ga vl Bs am N v0 S = some (r, S2)) : yK X fr lo 302 [.int v0] (zD zTF zaF S D0) 0 0 (zQi zTF zaF D0 r S2) := by
  unfold rF_sortOf at h
  refine yK.of rfl (yle rfl) (L := [_]) rfl ?_
  refine xt_pure rfl rfl rfl rfl ?_
  refine xt_if rfl rfl (fun hb => ?_) (fun hb => ?_)
  · replace h := zif_t (p := v0 = (0 : Int32)) hb h
    refine xt_pure rfl rfl rfl (st1 := .int 0 :: _) rfl ?_
    refine xt_pure rfl rfl rfl rfl ?_
    cases h
    exact xt_iret rfl rfl rfl rfl ⟨rfl, rfl⟩
  · replace h := zif_f (p := v0 = (0 : Int32)) hb h
    refine xt_pure rfl rfl rfl rfl ?_
    refine xt_pure rfl rfl rfl (st1 := .int 5 :: _) rfl ?_
    refine xt_ic rfl rfl (fun hb => ?_) (fun hb => ?_)
    · replace h := zif_t (p := v0 ≠ (5 : Int32)) hb h
      refine xt_pure rfl rfl rfl rfl ?_
      refine xt_pure rfl rfl rfl (st1 := .int 2 :: _) rfl ?_
      refine xt_ic rfl rfl (fun hb => ?_) (fun hb => ?_)
      · replace h := zif_t (p := v0 ≠ (2 : Int32)) hb h
        refine xt_pure rfl rfl rfl rfl ?_
        refine xt_pure rfl rfl rfl (st1 := .int 6 :: _) rfl ?_
        refine xt_ic rfl rfl (fun hb => ?_) (fun hb => ?_)
        · replace h := zif_t (p := v0 ≠ (6 : Int32)) hb h
          refine xt_pure rfl rfl rfl rfl ?_
          refine xt_pure rfl rfl rfl (st1 := .int 7 :: _) rfl ?_
          refine xt_ic rfl rfl (fun hb => ?_) (fun hb => ?_)
          · replace h := zif_t (p := v0 ≠ (7 : Int32)) hb h
            refine xt_pure rfl rfl rfl rfl ?_
            refine xt_pure rfl rfl rfl (st1 := .int 8 :: _) rfl ?_
            refine xt_ic rfl rfl (fun hb => ?_) (fun hb => ?_)
            · replace h := zif_t (p := v0 = (8 : Int32)) hb h
              refine xt_pure rfl rfl rfl (st1 := .int 5 :: _) rfl ?_
              refine xt_pure rfl rfl rfl rfl ?_
              cases h
              exact xt_iret rfl rfl rfl rfl ⟨rfl, rfl⟩
            · replace h := zif_f (p := v0 = (8 : Int32)) hb h
              refine xt_pure rfl rfl rfl rfl ?_
              refine xt_pure rfl rfl rfl (st1 := .int 10 :: _) rfl ?_
              refine xt_ic rfl rfl (fun hb => ?_) (fun hb => ?_)
              · replace h := zif_t (p := v0 ≠ (10 : Int32)) hb h
                refine xt_pure rfl rfl rfl rfl ?_
                refine xt_pure rfl rfl rfl (st1 := .int 9 :: _) rfl ?_
                refine xt_ic rfl rfl (fun hb => ?_) (fun hb => ?_)
                · replace h := zif_t (p := v0 ≠ (9 : Int32)) hb h
                  refine xt_pure rfl rfl rfl (st1 := .int 1 :: _) rfl ?_
                  cases h
                  exact xt_iret rfl rfl rfl rfl ⟨rfl, rfl⟩
                · replace h := zif_f (p := v0 ≠ (9 : Int32)) hb h
                  refine xt_pure rfl rfl rfl (st1 := .int 6 :: _) rfl ?_
                  refine xt_pure rfl rfl rfl rfl ?_
                  cases h
                  exact xt_iret rfl rfl rfl rfl ⟨rfl, rfl⟩
              · replace h := zif_f (p := v0 ≠ (10 : Int32)) hb h
                refine xt_pure rfl rfl rfl (st1 := .int 5 :: _) rfl ?_
                refine xt_pure rfl rfl rfl rfl ?_
                cases h
                exact xt_iret rfl rfl rfl rfl ⟨rfl, rfl⟩
          · replace h := zif_f (p := v0 ≠ (7 : Int32)) hb h
            refine xt_pure rfl rfl rfl (st1 := .int 4 :: _) rfl ?_
            refine xt_pure rfl rfl rfl rfl ?_
            cases h
            exact xt_iret rfl rfl rfl rfl ⟨rfl, rfl⟩
        · replace h := zif_f (p := v0 ≠ (6 : Int32)) hb h
          refine xt_pure rfl rfl rfl (st1 := .int 3 :: _) rfl ?_
          refine xt_pure rfl rfl rfl rfl ?_
          cases h
          exact xt_iret rfl rfl rfl rfl ⟨rfl, rfl⟩
      · replace h := zif_f (p := v0 ≠ (2 : Int32)) hb h
        refine xt_pure rfl rfl rfl (st1 := .int 2 :: _) rfl ?_
        refine xt_pure rfl rfl rfl rfl ?_
        cases h
        exact xt_iret rfl rfl rfl rfl ⟨rfl, rfl⟩
    · replace h := zif_f (p := v0 ≠ (5 : Int32)) hb h
      refine xt_pure rfl rfl rfl (st1 := .int 0 :: _) rfl ?_
      refine xt_pure rfl rfl rfl rfl ?_
      cases h
      exact xt_iret rfl rfl rfl rfl ⟨rfl, rfl⟩
def rF_itemOf_29 (gi : Nat → Int32) (ga : Nat → List Int32) (vl : List Int64) (Bs : List (Option zH)) (am : List Int64)  (N : Nat)  (ol1 : zH) (s0 : Int64) (S : zS) : Option (Int64 × zS) := (if ol1.1.toInt ≤ 3 then (if ol1.1.toInt ≤ 4 then some (s0, S) else (zg (gI am s0.toInt32) fun x5 => some (x5, S))) else (if 0 ≤ s0.toInt then (if ol1.1.toInt ≤ 4 then some (s0, S) else (zg (gI am s0.toInt32) fun x6 => some (x6, S))) else (zb (rF_fails gi ga vl Bs am N 1 S) fun x7 S8 => some (x7, S8))))
theorem trF_itemOf_29 {X : List Int32} {D0 : List xE} {fa : Nat} {p : Nat → Nat} {gi : Nat → Int32} {ga : Nat → List Int32} {vl : List Int64} {refs : List Value} {Bs : List (Option zH)} {am : List Int64} (hW : ((209, .inl (14, 46, .ref fa)) : xE) ∈ D0) (hL : ((235, .inr (1, am.map Value.long)) : xE) ∈ D0) (hG : ∀ e ∈ zgF fa p gi ga vl, e ∈ D0) (hA0 : ((239, .inr (10, refs)) : xE) ∈ D0) (hA1 : ∀ {j : Int32} {z : Option zH}, gI Bs j = some z → ∃ v, gI refs j = some v ∧ zVM D0 v z)  {N fr lo : Nat}   (hf : 1 ≤ fr) (hl : 25 ≤ lo) {oal1 : Nat} {ol1 : zH}  {s0 : Int64} {d2 : Int64} {S S2 : zS} {r : Int64} (hol1 : zOM D0 oal1 ol1) (h : rF_itemOf_29 gi ga vl Bs am N ol1 s0 S = some (r, S2)) : yT X fr lo 303 29 [some (.ref 209), some (.ref oal1), some (.long d2), none, none, none] [.long s0] (zD zTF zaF S D0) 0 0 (zQl zTF zaF D0 r S2) := by
  unfold rF_itemOf_29 at h
  have hkl1 := hol1
  obtain ⟨ial1, ral1, cal1, q0l1, q1l1, q2l1, q3l1, q4l1, q5l1, q6l1, q7l1⟩ := hkl1
  refine xt_pure rfl rfl rfl (L1 := [_, _, _, _, _, _]) rfl ?_
  refine xt_pure rfl rfl rfl rfl ?_
  refine xt_getf rfl rfl (zmr q0l1) ?_
  refine xt_pure rfl rfl rfl (st1 := .int 3 :: _) rfl ?_
  refine xt_ic rfl rfl (fun hb => ?_) (fun hb => ?_)
  · replace h := zif_t (p := ol1.1.toInt ≤ 3) hb h
    refine xt_pure rfl rfl rfl rfl ?_
    refine xt_getf rfl rfl (zmr q0l1) ?_
    refine xt_pure rfl rfl rfl (st1 := .int 4 :: _) rfl ?_
    refine xt_ic rfl rfl (fun hb => ?_) (fun hb => ?_)
    · replace h := zif_t (p := ol1.1.toInt ≤ 4) hb h
      refine xt_pure rfl rfl rfl rfl ?_
      cases h
      exact xt_lret rfl rfl rfl ⟨rfl, rfl⟩
    · replace h := zif_f (p := ol1.1.toInt ≤ 4) hb h
      refine xt_pure rfl rfl rfl rfl ?_
      refine xt_getf rfl rfl (xmC 184 rfl) ?_
      refine xt_pure rfl rfl rfl rfl ?_
      refine xt_pure rfl rfl rfl rfl ?_
      obtain ⟨x5, hx5, h⟩ := zgi h
      refine zr_lld (l := am) rfl rfl (zmr hL) hx5 ?_
      refine xt_pure rfl rfl rfl rfl ?_
      cases h
      exact xt_lret rfl rfl rfl ⟨rfl, rfl⟩
  · replace h := zif_f (p := ol1.1.toInt ≤ 3) hb h
    refine xt_pure rfl rfl rfl rfl ?_
    refine xt_pure rfl rfl rfl (st1 := .long 0 :: _) rfl ?_
    refine zt_lc rfl rfl rfl (fun hb => ?_) (fun hb => ?_)
    · replace h := zif_t (p := 0 ≤ s0.toInt) hb h
      refine xt_pure rfl rfl rfl rfl ?_
      refine xt_getf rfl rfl (zmr q0l1) ?_
      refine xt_pure rfl rfl rfl (st1 := .int 4 :: _) rfl ?_
      refine xt_ic rfl rfl (fun hb => ?_) (fun hb => ?_)
      · replace h := zif_t (p := ol1.1.toInt ≤ 4) hb h
        refine xt_pure rfl rfl rfl rfl ?_
        cases h
        exact xt_lret rfl rfl rfl ⟨rfl, rfl⟩
      · replace h := zif_f (p := ol1.1.toInt ≤ 4) hb h
        refine xt_pure rfl rfl rfl rfl ?_
        refine xt_getf rfl rfl (xmC 184 rfl) ?_
        refine xt_pure rfl rfl rfl rfl ?_
        refine xt_pure rfl rfl rfl rfl ?_
        obtain ⟨x6, hx6, h⟩ := zgi h
        refine zr_lld (l := am) rfl rfl (zmr hL) hx6 ?_
        refine xt_pure rfl rfl rfl rfl ?_
        cases h
        exact xt_lret rfl rfl rfl ⟨rfl, rfl⟩
    · replace h := zif_f (p := 0 ≤ s0.toInt) hb h
      refine xt_pure rfl rfl rfl rfl ?_
      refine xt_pure rfl rfl rfl (st1 := .int 1 :: _) rfl ?_
      obtain ⟨x7, S8, hc9, h⟩ := zbi h
      refine zt_Vl rfl rfl rfl rfl (xmC 176 rfl) ⟨rfl, rfl, yle rfl, yle rfl⟩ (m := 2) rfl ⟨by omega, by omega⟩ (trF_fails hW hL hG hA0 hA1 (by omega) (by omega) hc9) (fr1 := fr - 1) (lo1 := lo - 21) ?_
      cases h
      exact xt_lret rfl rfl rfl ⟨rfl, rfl⟩
def rF_itemOf (gi : Nat → Int32) (ga : Nat → List Int32) (vl : List Int64) (Bs : List (Option zH)) (am : List Int64)  (N : Nat) (op1 : zH) (v2 : Int64) (S : zS) : Option (Int64 × zS) := (zb (rF_in gi ga vl Bs am N v2 0 ((op1.2.1 - 1).toInt64) S) fun x1 S2 => (if x1 ≠ (0 : Int32) then (if op1.1 ≠ (4 : Int32) then (zg (gI op1.2.2.1 v2.toInt32) fun x4 => rF_itemOf_29 gi ga vl Bs am N op1 x4 S2) else (zg (gI op1.2.2.2.1 v2.toInt32) fun x10 => rF_itemOf_29 gi ga vl Bs am N op1 x10.toInt64 S2)) else (zb (rF_fails gi ga vl Bs am N 3 S2) fun x11 S12 => some (x11, S12))))
theorem trF_itemOf {X : List Int32} {D0 : List xE} {fa : Nat} {p : Nat → Nat} {gi : Nat → Int32} {ga : Nat → List Int32} {vl : List Int64} {refs : List Value} {Bs : List (Option zH)} {am : List Int64} (hW : ((209, .inl (14, 46, .ref fa)) : xE) ∈ D0) (hL : ((235, .inr (1, am.map Value.long)) : xE) ∈ D0) (hG : ∀ e ∈ zgF fa p gi ga vl, e ∈ D0) (hA0 : ((239, .inr (10, refs)) : xE) ∈ D0) (hA1 : ∀ {j : Int32} {z : Option zH}, gI Bs j = some z → ∃ v, gI refs j = some v ∧ zVM D0 v z)  {N fr lo : Nat} (hf : 1 ≤ fr) (hl : 25 ≤ lo) {oap1 : Nat} {op1 : zH}  {v2 : Int64} {S S2 : zS} {r : Int64} (hop1 : zOM D0 oap1 op1) (h : rF_itemOf gi ga vl Bs am N op1 v2 S = some (r, S2)) : yK X fr lo 303 [.ref 209, .ref oap1, .long v2] (zD zTF zaF S D0) 0 0 (zQl zTF zaF D0 r S2) := by
  unfold rF_itemOf at h
  have hkp1 := hop1
  obtain ⟨iap1, rap1, cap1, q0p1, q1p1, q2p1, q3p1, q4p1, q5p1, q6p1, q7p1⟩ := hkp1
  refine yK.of rfl (yle rfl) (L := [_, _, _, _, _, _]) rfl ?_
  refine xt_pure rfl rfl rfl rfl ?_
  refine xt_pure rfl rfl rfl (st1 := .long 0 :: _) rfl ?_
  refine xt_pure rfl rfl rfl rfl ?_
  refine xt_getf rfl rfl (zmr q1p1) ?_
  refine xt_pure rfl rfl rfl (st1 := .int 1 :: _) rfl ?_
  refine xt_pure rfl rfl rfl rfl ?_
  refine xt_pure rfl rfl rfl rfl ?_
  obtain ⟨x1, S2, hc3, h⟩ := zbi h
  refine zt_Si rfl rfl (by decide) rfl rfl ⟨rfl, yle rfl, yle rfl⟩ (m := 6) rfl ⟨by omega, by omega⟩ (trF_in hW hL hG hA0 hA1 (by omega) (by omega) hc3) (fr1 := fr - 1) (lo1 := lo - 25) ?_
  refine xt_if rfl rfl (fun hb => ?_) (fun hb => ?_)
  · replace h := zif_t (p := x1 ≠ (0 : Int32)) hb h
    refine xt_pure rfl rfl rfl rfl ?_
    refine xt_getf rfl rfl (zmr q0p1) ?_
    refine xt_pure rfl rfl rfl (st1 := .int 4 :: _) rfl ?_
    refine xt_ic rfl rfl (fun hb => ?_) (fun hb => ?_)
    · replace h := zif_t (p := op1.1 ≠ (4 : Int32)) hb h
      refine xt_pure rfl rfl rfl rfl ?_
      refine xt_getf rfl rfl (zmr q2p1) ?_
      refine xt_pure rfl rfl rfl rfl ?_
      refine xt_pure rfl rfl rfl rfl ?_
      obtain ⟨x4, hx4, h⟩ := zgi h
      refine zr_lld (l := op1.2.2.1) rfl rfl (zmr q5p1) hx4 ?_
      exact trF_itemOf_29 hW hL hG hA0 hA1 hf hl hop1 h
    · replace h := zif_f (p := op1.1 ≠ (4 : Int32)) hb h
      refine xt_pure rfl rfl rfl rfl ?_
      refine xt_getf rfl rfl (zmr q3p1) ?_
      refine xt_pure rfl rfl rfl rfl ?_
      refine xt_pure rfl rfl rfl rfl ?_
      obtain ⟨x10, hx10, h⟩ := zgi h
      refine zr_ild (l := op1.2.2.2.1) rfl rfl (zmr q6p1) hx10 ?_
      refine xt_pure rfl rfl rfl rfl ?_
      refine xt_pure rfl rfl rfl rfl ?_
      exact trF_itemOf_29 hW hL hG hA0 hA1 hf hl hop1 h
  · replace h := zif_f (p := x1 ≠ (0 : Int32)) hb h
    refine xt_pure rfl rfl rfl rfl ?_
    refine xt_pure rfl rfl rfl (st1 := .int 3 :: _) rfl ?_
    obtain ⟨x11, S12, hc13, h⟩ := zbi h
    refine zt_Vl rfl rfl rfl rfl (xmC 176 rfl) ⟨rfl, rfl, yle rfl, yle rfl⟩ (m := 2) rfl ⟨by omega, by omega⟩ (trF_fails hW hL hG hA0 hA1 (by omega) (by omega) hc13) (fr1 := fr - 1) (lo1 := lo - 21) ?_
    cases h
    exact xt_lret rfl rfl rfl ⟨rfl, rfl⟩
def rF_trueOf_4 (gi : Nat → Int32) (ga : Nat → List Int32) (vl : List Int64) (Bs : List (Option zH)) (am : List Int64)  (N : Nat)  : Nat → zH → Int32 → Int32 → zS → Option (Int32 × zS)
  | 0, _, _, _, _ => none
  | n + 1, ol0, l1, l2, S => (if ol0.2.1.toInt ≤ l2.toInt then some (l1, S) else (zg (gI ol0.2.2.1 l2) fun x1 => (if x1 = (0 : Int64) then (rF_trueOf_4 gi ga vl Bs am N n) ol0 (l1 + 0) (l2 + 1) S else (rF_trueOf_4 gi ga vl Bs am N n) ol0 (l1 + 1) (l2 + 1) S)))
theorem trF_trueOf_4 {X : List Int32} {D0 : List xE} {fa : Nat} {p : Nat → Nat} {gi : Nat → Int32} {ga : Nat → List Int32} {vl : List Int64} {refs : List Value} {Bs : List (Option zH)} {am : List Int64} (hW : ((209, .inl (14, 46, .ref fa)) : xE) ∈ D0) (hL : ((235, .inr (1, am.map Value.long)) : xE) ∈ D0) (hG : ∀ e ∈ zgF fa p gi ga vl, e ∈ D0) (hA0 : ((239, .inr (10, refs)) : xE) ∈ D0) (hA1 : ∀ {j : Int32} {z : Option zH}, gI Bs j = some z → ∃ v, gI refs j = some v ∧ zVM D0 v z)  {N fr lo : Nat}   (hf : 0 ≤ fr) (hl : 0 ≤ lo)  : ∀ {n : Nat} {oal0 : Nat} {ol0 : zH}  {l1 : Int32} {l2 : Int32}  {S S2 : zS} {r : Int32} (hol0 : zOM D0 oal0 ol0), rF_trueOf_4 gi ga vl Bs am N n ol0 l1 l2 S = some (r, S2) → yT X fr lo 304 4 [some (.ref oal0), some (.int l1), some (.int l2)] [] (zD zTF zaF S D0) 0 0 (zQi zTF zaF D0 r S2) := by
  intro n
  induction n with
  | zero =>
    intro oal0 ol0 l1 l2  S S2 r hol0  h
    have h : (none : Option (Int32 × zS)) = some (r, S2) := h
    cases h
  | succ n ih =>
    intro oal0 ol0 l1 l2  S S2 r hol0  h
    rw [rF_trueOf_4] at h
    have hkl0 := hol0
    obtain ⟨ial0, ral0, cal0, q0l0, q1l0, q2l0, q3l0, q4l0, q5l0, q6l0, q7l0⟩ := hkl0
    refine xt_pure rfl rfl rfl rfl ?_
    refine xt_pure rfl rfl rfl rfl ?_
    refine xt_getf rfl rfl (zmr q1l0) ?_
    refine xt_ic rfl rfl (fun hb => ?_) (fun hb => ?_)
    · replace h := zif_t (p := ol0.2.1.toInt ≤ l2.toInt) hb h
      refine xt_pure rfl rfl rfl rfl ?_
      cases h
      exact xt_iret rfl rfl rfl rfl ⟨rfl, rfl⟩
    · replace h := zif_f (p := ol0.2.1.toInt ≤ l2.toInt) hb h
      refine xt_pure rfl rfl rfl rfl ?_
      refine xt_pure rfl rfl rfl rfl ?_
      refine xt_getf rfl rfl (zmr q2l0) ?_
      refine xt_pure rfl rfl rfl rfl ?_
      obtain ⟨x1, hx1, h⟩ := zgi h
      refine zr_lld (l := ol0.2.2.1) rfl rfl (zmr q5l0) hx1 ?_
      refine xt_pure rfl rfl rfl (st1 := .long 0 :: _) rfl ?_
      refine zt_lc rfl rfl rfl (fun hb => ?_) (fun hb => ?_)
      · replace h := zif_t (p := x1 = (0 : Int64)) hb h
        refine xt_pure rfl rfl rfl (st1 := .int 0 :: _) rfl ?_
        refine xt_pure rfl rfl rfl rfl ?_
        refine xt_pure rfl rfl rfl (L1 := [_, _, _]) rfl ?_
        refine xt_pure rfl rfl rfl (L1 := [_, _, some (.int (_ + 1))]) rfl ?_
        refine xt_pure rfl rfl rfl rfl ?_
        exact ih hol0 h
      · replace h := zif_f (p := x1 = (0 : Int64)) hb h
        refine xt_pure rfl rfl rfl (st1 := .int 1 :: _) rfl ?_
        refine xt_pure rfl rfl rfl rfl ?_
        refine xt_pure rfl rfl rfl rfl ?_
        refine xt_pure rfl rfl rfl (L1 := [_, _, _]) rfl ?_
        refine xt_pure rfl rfl rfl (L1 := [_, _, some (.int (_ + 1))]) rfl ?_
        refine xt_pure rfl rfl rfl rfl ?_
        exact ih hol0 h
def rF_trueOf (gi : Nat → Int32) (ga : Nat → List Int32) (vl : List Int64) (Bs : List (Option zH)) (am : List Int64)  (N : Nat) (op0 : zH) (S : zS) : Option (Int32 × zS) := rF_trueOf_4 gi ga vl Bs am N N op0 0 0 S
theorem trF_trueOf {X : List Int32} {D0 : List xE} {fa : Nat} {p : Nat → Nat} {gi : Nat → Int32} {ga : Nat → List Int32} {vl : List Int64} {refs : List Value} {Bs : List (Option zH)} {am : List Int64} (hW : ((209, .inl (14, 46, .ref fa)) : xE) ∈ D0) (hL : ((235, .inr (1, am.map Value.long)) : xE) ∈ D0) (hG : ∀ e ∈ zgF fa p gi ga vl, e ∈ D0) (hA0 : ((239, .inr (10, refs)) : xE) ∈ D0) (hA1 : ∀ {j : Int32} {z : Option zH}, gI Bs j = some z → ∃ v, gI refs j = some v ∧ zVM D0 v z)  {N fr lo : Nat} (hf : 0 ≤ fr) (hl : 0 ≤ lo) {oap0 : Nat} {op0 : zH}  {S S2 : zS} {r : Int32} (hop0 : zOM D0 oap0 op0) (h : rF_trueOf gi ga vl Bs am N op0 S = some (r, S2)) : yK X fr lo 304 [.ref oap0] (zD zTF zaF S D0) 0 0 (zQi zTF zaF D0 r S2) := by
  unfold rF_trueOf at h
  have hkp0 := hop0
  obtain ⟨iap0, rap0, cap0, q0p0, q1p0, q2p0, q3p0, q4p0, q5p0, q6p0, q7p0⟩ := hkp0
  refine yK.of rfl (yle rfl) (L := [_, _, _]) rfl ?_
  refine xt_pure rfl rfl rfl (st1 := .int 0 :: _) rfl ?_
  refine xt_pure rfl rfl rfl (L1 := [_, _, _]) rfl ?_
  refine xt_pure rfl rfl rfl (st1 := .int 0 :: _) rfl ?_
  refine xt_pure rfl rfl rfl (L1 := [_, _, _]) rfl ?_
  exact trF_trueOf_4 hW hL hG hA0 hA1 hf hl hop0 h
def rF_named (gi : Nat → Int32) (ga : Nat → List Int32) (vl : List Int64) (Bs : List (Option zH)) (am : List Int64)  (N : Nat) (v1 : Int32) (S : zS) : Option (Int64 × zS) := (zg (gI (ga 2) v1) fun x1 => (if x1 ≠ (10 : Int32) then (zb (rF_sortOf gi ga vl Bs am N x1 S) fun x2 S3 => (zb (rF_as gi ga vl Bs am N v1 x2 S3) fun z8 S6 => (zo z8 ((if (zI S6 2) = (0 : Int32) then (if 4 < x1.toInt then (if x1 ≠ (5 : Int32) then none else none) else none) else some (0, S6))) fun o8 => (if (zI S6 2) = (0 : Int32) then (if 4 < x1.toInt then (if x1 ≠ (5 : Int32) then some (o8.2.1.toInt64, S6) else (zb (rF_trueOf gi ga vl Bs am N o8 S6) fun x9 S10 => some (x9.toInt64, S10))) else (zb (rF_itemOf gi ga vl Bs am N o8 0 S6) fun x12 S13 => some (x12, S13))) else some (0, S6))))) else (zb (rF_as gi ga vl Bs am N v1 7 S) fun z18 S16 => (zo z18 ((if (zI S16 2) = (0 : Int32) then none else some (0, S16))) fun o18 => (if (zI S16 2) = (0 : Int32) then (zg (gI o18.2.2.1 0) fun x19 => (zg (gI am x19.toInt32) fun x20 => some (x20, S16))) else some (0, S16))))))
theorem trF_named {X : List Int32} {D0 : List xE} {fa : Nat} {p : Nat → Nat} {gi : Nat → Int32} {ga : Nat → List Int32} {vl : List Int64} {refs : List Value} {Bs : List (Option zH)} {am : List Int64} (hW : ((209, .inl (14, 46, .ref fa)) : xE) ∈ D0) (hL : ((235, .inr (1, am.map Value.long)) : xE) ∈ D0) (hG : ∀ e ∈ zgF fa p gi ga vl, e ∈ D0) (hA0 : ((239, .inr (10, refs)) : xE) ∈ D0) (hA1 : ∀ {j : Int32} {z : Option zH}, gI Bs j = some z → ∃ v, gI refs j = some v ∧ zVM D0 v z)  {N fr lo : Nat} (hf : 2 ≤ fr) (hl : 50 ≤ lo) {v1 : Int32} {S S2 : zS} {r : Int64}  (h : rF_named gi ga vl Bs am N v1 S = some (r, S2)) : yK X fr lo 298 [.ref 209, .int v1] (zD zTF zaF S D0) 0 0 (zQl zTF zaF D0 r S2) := by
  unfold rF_named at h
  refine yK.of rfl (yle rfl) (L := [_, _, _, _]) rfl ?_
  refine xt_pure rfl rfl rfl rfl ?_
  refine xt_getf rfl rfl (zmr hW) ?_
  refine xt_getf rfl rfl (zmr (ymm hG 2 rfl)) ?_
  refine xt_pure rfl rfl rfl rfl ?_
  obtain ⟨x1, hx1, h⟩ := zgi h
  refine zr_ild (l := (ga 2)) rfl rfl (zmr (ymm hG 23 rfl)) hx1 ?_
  refine xt_pure rfl rfl rfl (L1 := [_, _, _, _]) rfl ?_
  refine xt_pure rfl rfl rfl rfl ?_
  refine xt_pure rfl rfl rfl (st1 := .int 10 :: _) rfl ?_
  refine xt_ic rfl rfl (fun hb => ?_) (fun hb => ?_)
  · replace h := zif_t (p := x1 ≠ (10 : Int32)) hb h
    refine xt_pure rfl rfl rfl rfl ?_
    refine xt_pure rfl rfl rfl rfl ?_
    refine xt_pure rfl rfl rfl rfl ?_
    obtain ⟨x2, S3, hc4, h⟩ := zbi h
    refine zt_Si rfl rfl (by decide) rfl rfl ⟨rfl, yle rfl, yle rfl⟩ (m := 1) rfl ⟨by omega, by omega⟩ (trF_sortOf hW hL hG hA0 hA1 (by omega) (by omega) hc4) (fr1 := fr - 1) (lo1 := lo - 20) ?_
    obtain ⟨z8, S6, hc7, h⟩ := zbi h
    refine zt_Vz rfl rfl rfl rfl (xmC 176 rfl) ⟨rfl, rfl, yle rfl, yle rfl⟩ (m := 4) rfl ⟨by omega, by omega⟩ (trF_as hW hL hG hA0 hA1 (by omega) (by omega) hc7) (fr1 := fr - 1) (lo1 := lo - 23) (fun v8 hv8 => ?_)
    rcases z8 with _ | o8
    · obtain rfl : v8 = Value.null := hv8
      replace h := zon h
      refine xt_pure rfl rfl rfl (L1 := [_, _, _, _]) rfl ?_
      refine xt_pure rfl rfl rfl rfl ?_
      refine zt_gI 2 rfl rfl rfl rfl (x := (zI S6 2)) rfl ?_
      refine xt_if rfl rfl (fun hb => ?_) (fun hb => ?_)
      · replace h := zif_t (p := (zI S6 2) = (0 : Int32)) hb h
        refine xt_pure rfl rfl rfl rfl ?_
        refine xt_pure rfl rfl rfl (st1 := .int 4 :: _) rfl ?_
        refine xt_ic rfl rfl (fun hb => ?_) (fun hb => ?_)
        · replace h := zif_t (p := 4 < x1.toInt) hb h
          refine xt_pure rfl rfl rfl rfl ?_
          refine xt_pure rfl rfl rfl (st1 := .int 5 :: _) rfl ?_
          refine xt_ic rfl rfl (fun hb => ?_) (fun hb => ?_)
          · replace h := zif_t (p := x1 ≠ (5 : Int32)) hb h
            refine xt_pure rfl rfl rfl rfl ?_
            cases h
          · replace h := zif_f (p := x1 ≠ (5 : Int32)) hb h
            refine xt_pure rfl rfl rfl rfl ?_
            cases h
        · replace h := zif_f (p := 4 < x1.toInt) hb h
          refine xt_pure rfl rfl rfl rfl ?_
          refine xt_pure rfl rfl rfl rfl ?_
          refine xt_pure rfl rfl rfl (st1 := .long 0 :: _) rfl ?_
          cases h
      · replace h := zif_f (p := (zI S6 2) = (0 : Int32)) hb h
        refine xt_pure rfl rfl rfl (st1 := .long 0 :: _) rfl ?_
        cases h
        exact xt_lret rfl rfl rfl ⟨rfl, rfl⟩
    · obtain ⟨oa8, rfl, ho8⟩ := hv8
      replace h := zos h
      have hk8 := ho8
      obtain ⟨ia8, ra8, ca8, q08, q18, q28, q38, q48, q58, q68, q78⟩ := hk8
      refine xt_pure rfl rfl rfl (L1 := [_, _, _, _]) rfl ?_
      refine xt_pure rfl rfl rfl rfl ?_
      refine zt_gI 2 rfl rfl rfl rfl (x := (zI S6 2)) rfl ?_
      refine xt_if rfl rfl (fun hb => ?_) (fun hb => ?_)
      · replace h := zif_t (p := (zI S6 2) = (0 : Int32)) hb h
        refine xt_pure rfl rfl rfl rfl ?_
        refine xt_pure rfl rfl rfl (st1 := .int 4 :: _) rfl ?_
        refine xt_ic rfl rfl (fun hb => ?_) (fun hb => ?_)
        · replace h := zif_t (p := 4 < x1.toInt) hb h
          refine xt_pure rfl rfl rfl rfl ?_
          refine xt_pure rfl rfl rfl (st1 := .int 5 :: _) rfl ?_
          refine xt_ic rfl rfl (fun hb => ?_) (fun hb => ?_)
          · replace h := zif_t (p := x1 ≠ (5 : Int32)) hb h
            refine xt_pure rfl rfl rfl rfl ?_
            refine xt_getf rfl rfl (zmr q18) ?_
            refine xt_pure rfl rfl rfl rfl ?_
            cases h
            exact xt_lret rfl rfl rfl ⟨rfl, rfl⟩
          · replace h := zif_f (p := x1 ≠ (5 : Int32)) hb h
            refine xt_pure rfl rfl rfl rfl ?_
            obtain ⟨x9, S10, hc11, h⟩ := zbi h
            refine zt_Si rfl rfl (by decide) rfl rfl ⟨rfl, yle rfl, yle rfl⟩ (m := 3) rfl ⟨by omega, by omega⟩ (trF_trueOf hW hL hG hA0 hA1 (by omega) (by omega) ho8 hc11) (fr1 := fr - 1) (lo1 := lo - 22) ?_
            refine xt_pure rfl rfl rfl rfl ?_
            refine xt_pure rfl rfl rfl rfl ?_
            cases h
            exact xt_lret rfl rfl rfl ⟨rfl, rfl⟩
        · replace h := zif_f (p := 4 < x1.toInt) hb h
          refine xt_pure rfl rfl rfl rfl ?_
          refine xt_pure rfl rfl rfl rfl ?_
          refine xt_pure rfl rfl rfl (st1 := .long 0 :: _) rfl ?_
          obtain ⟨x12, S13, hc14, h⟩ := zbi h
          refine zt_Vl rfl rfl rfl rfl (xmC 176 rfl) ⟨rfl, rfl, yle rfl, yle rfl⟩ (m := 6) rfl ⟨by omega, by omega⟩ (trF_itemOf hW hL hG hA0 hA1 (by omega) (by omega) ho8 hc14) (fr1 := fr - 1) (lo1 := lo - 25) ?_
          cases h
          exact xt_lret rfl rfl rfl ⟨rfl, rfl⟩
      · replace h := zif_f (p := (zI S6 2) = (0 : Int32)) hb h
        refine xt_pure rfl rfl rfl (st1 := .long 0 :: _) rfl ?_
        cases h
        exact xt_lret rfl rfl rfl ⟨rfl, rfl⟩
  · replace h := zif_f (p := x1 ≠ (10 : Int32)) hb h
    refine xt_pure rfl rfl rfl rfl ?_
    refine xt_pure rfl rfl rfl rfl ?_
    refine xt_pure rfl rfl rfl (st1 := .int 7 :: _) rfl ?_
    obtain ⟨z18, S16, hc17, h⟩ := zbi h
    refine zt_Vz rfl rfl rfl rfl (xmC 176 rfl) ⟨rfl, rfl, yle rfl, yle rfl⟩ (m := 4) rfl ⟨by omega, by omega⟩ (trF_as hW hL hG hA0 hA1 (by omega) (by omega) hc17) (fr1 := fr - 1) (lo1 := lo - 23) (fun v18 hv18 => ?_)
    rcases z18 with _ | o18
    · obtain rfl : v18 = Value.null := hv18
      replace h := zon h
      refine xt_pure rfl rfl rfl (L1 := [_, _, _, _]) rfl ?_
      refine xt_pure rfl rfl rfl rfl ?_
      refine zt_gI 2 rfl rfl rfl rfl (x := (zI S16 2)) rfl ?_
      refine xt_if rfl rfl (fun hb => ?_) (fun hb => ?_)
      · replace h := zif_t (p := (zI S16 2) = (0 : Int32)) hb h
        refine xt_pure rfl rfl rfl rfl ?_
        refine xt_getf rfl rfl (xmC 184 rfl) ?_
        refine xt_pure rfl rfl rfl rfl ?_
        cases h
      · replace h := zif_f (p := (zI S16 2) = (0 : Int32)) hb h
        refine xt_pure rfl rfl rfl (st1 := .long 0 :: _) rfl ?_
        refine xt_pure rfl rfl rfl rfl ?_
        cases h
        exact xt_lret rfl rfl rfl ⟨rfl, rfl⟩
    · obtain ⟨oa18, rfl, ho18⟩ := hv18
      replace h := zos h
      have hk18 := ho18
      obtain ⟨ia18, ra18, ca18, q018, q118, q218, q318, q418, q518, q618, q718⟩ := hk18
      refine xt_pure rfl rfl rfl (L1 := [_, _, _, _]) rfl ?_
      refine xt_pure rfl rfl rfl rfl ?_
      refine zt_gI 2 rfl rfl rfl rfl (x := (zI S16 2)) rfl ?_
      refine xt_if rfl rfl (fun hb => ?_) (fun hb => ?_)
      · replace h := zif_t (p := (zI S16 2) = (0 : Int32)) hb h
        refine xt_pure rfl rfl rfl rfl ?_
        refine xt_getf rfl rfl (xmC 184 rfl) ?_
        refine xt_pure rfl rfl rfl rfl ?_
        refine xt_getf rfl rfl (zmr q218) ?_
        refine xt_pure rfl rfl rfl (st1 := .int 0 :: _) rfl ?_
        obtain ⟨x19, hx19, h⟩ := zgi h
        refine zr_lld (l := o18.2.2.1) rfl rfl (zmr q518) hx19 ?_
        refine xt_pure rfl rfl rfl rfl ?_
        obtain ⟨x20, hx20, h⟩ := zgi h
        refine zr_lld (l := am) rfl rfl (zmr hL) hx20 ?_
        cases h
        exact xt_lret rfl rfl rfl ⟨rfl, rfl⟩
      · replace h := zif_f (p := (zI S16 2) = (0 : Int32)) hb h
        refine xt_pure rfl rfl rfl (st1 := .long 0 :: _) rfl ?_
        refine xt_pure rfl rfl rfl rfl ?_
        cases h
        exact xt_lret rfl rfl rfl ⟨rfl, rfl⟩
def rF_cellAt (gi : Nat → Int32) (ga : Nat → List Int32) (vl : List Int64) (Bs : List (Option zH)) (am : List Int64)  (N : Nat) (op1 : zH) (v2 : Int32) (v3 : Int32) (S : zS) : Option (Int64 × zS) := (zb (rF_in gi ga vl Bs am N v2.toInt64 0 ((op1.2.1 - 1).toInt64) S) fun x1 S2 => (if x1 ≠ (0 : Int32) then (zg (gI op1.2.2.2.1 v2) fun x4 => (if 0 ≤ x4.toInt then (zg (gI op1.2.2.2.1 v2) fun x5 => (zb (rF_in gi ga vl Bs am N v3.toInt64 0 ((x5 - 1).toInt64) S2) fun x6 S7 => (if x6 = (0 : Int32) then (zb (rF_fails gi ga vl Bs am N 3 S7) fun x9 S10 => some (x9, S10)) else (zg (gI op1.2.2.2.2 ((6 * v2) + v3)) fun x12 => some (x12.toInt64, S7))))) else (zb (rF_fails gi ga vl Bs am N 1 S2) fun x13 S14 => some (x13, S14)))) else (zb (rF_fails gi ga vl Bs am N 3 S2) fun x16 S17 => some (x16, S17))))
theorem trF_cellAt {X : List Int32} {D0 : List xE} {fa : Nat} {p : Nat → Nat} {gi : Nat → Int32} {ga : Nat → List Int32} {vl : List Int64} {refs : List Value} {Bs : List (Option zH)} {am : List Int64} (hW : ((209, .inl (14, 46, .ref fa)) : xE) ∈ D0) (hL : ((235, .inr (1, am.map Value.long)) : xE) ∈ D0) (hG : ∀ e ∈ zgF fa p gi ga vl, e ∈ D0) (hA0 : ((239, .inr (10, refs)) : xE) ∈ D0) (hA1 : ∀ {j : Int32} {z : Option zH}, gI Bs j = some z → ∃ v, gI refs j = some v ∧ zVM D0 v z)  {N fr lo : Nat} (hf : 1 ≤ fr) (hl : 25 ≤ lo) {oap1 : Nat} {op1 : zH}  {v2 : Int32} {v3 : Int32} {S S2 : zS} {r : Int64} (hop1 : zOM D0 oap1 op1) (h : rF_cellAt gi ga vl Bs am N op1 v2 v3 S = some (r, S2)) : yK X fr lo 308 [.ref 209, .ref oap1, .int v2, .int v3] (zD zTF zaF S D0) 0 0 (zQl zTF zaF D0 r S2) := by
  unfold rF_cellAt at h
  have hkp1 := hop1
  obtain ⟨iap1, rap1, cap1, q0p1, q1p1, q2p1, q3p1, q4p1, q5p1, q6p1, q7p1⟩ := hkp1
  refine yK.of rfl (yle rfl) (L := [_, _, _, _]) rfl ?_
  refine xt_pure rfl rfl rfl rfl ?_
  refine xt_pure rfl rfl rfl rfl ?_
  refine xt_pure rfl rfl rfl (st1 := .long 0 :: _) rfl ?_
  refine xt_pure rfl rfl rfl rfl ?_
  refine xt_getf rfl rfl (zmr q1p1) ?_
  refine xt_pure rfl rfl rfl (st1 := .int 1 :: _) rfl ?_
  refine xt_pure rfl rfl rfl rfl ?_
  refine xt_pure rfl rfl rfl rfl ?_
  obtain ⟨x1, S2, hc3, h⟩ := zbi h
  refine zt_Si rfl rfl (by decide) rfl rfl ⟨rfl, yle rfl, yle rfl⟩ (m := 6) rfl ⟨by omega, by omega⟩ (trF_in hW hL hG hA0 hA1 (by omega) (by omega) hc3) (fr1 := fr - 1) (lo1 := lo - 25) ?_
  refine xt_if rfl rfl (fun hb => ?_) (fun hb => ?_)
  · replace h := zif_t (p := x1 ≠ (0 : Int32)) hb h
    refine xt_pure rfl rfl rfl rfl ?_
    refine xt_getf rfl rfl (zmr q3p1) ?_
    refine xt_pure rfl rfl rfl rfl ?_
    obtain ⟨x4, hx4, h⟩ := zgi h
    refine zr_ild (l := op1.2.2.2.1) rfl rfl (zmr q6p1) hx4 ?_
    refine xt_if rfl rfl (fun hb => ?_) (fun hb => ?_)
    · replace h := zif_t (p := 0 ≤ x4.toInt) hb h
      refine xt_pure rfl rfl rfl rfl ?_
      refine xt_pure rfl rfl rfl rfl ?_
      refine xt_pure rfl rfl rfl (st1 := .long 0 :: _) rfl ?_
      refine xt_pure rfl rfl rfl rfl ?_
      refine xt_getf rfl rfl (zmr q3p1) ?_
      refine xt_pure rfl rfl rfl rfl ?_
      obtain ⟨x5, hx5, h⟩ := zgi h
      refine zr_ild (l := op1.2.2.2.1) rfl rfl (zmr q6p1) hx5 ?_
      refine xt_pure rfl rfl rfl (st1 := .int 1 :: _) rfl ?_
      refine xt_pure rfl rfl rfl rfl ?_
      refine xt_pure rfl rfl rfl rfl ?_
      obtain ⟨x6, S7, hc8, h⟩ := zbi h
      refine zt_Si rfl rfl (by decide) rfl rfl ⟨rfl, yle rfl, yle rfl⟩ (m := 6) rfl ⟨by omega, by omega⟩ (trF_in hW hL hG hA0 hA1 (by omega) (by omega) hc8) (fr1 := fr - 1) (lo1 := lo - 25) ?_
      refine xt_if rfl rfl (fun hb => ?_) (fun hb => ?_)
      · replace h := zif_t (p := x6 = (0 : Int32)) hb h
        refine xt_pure rfl rfl rfl rfl ?_
        refine xt_pure rfl rfl rfl (st1 := .int 3 :: _) rfl ?_
        obtain ⟨x9, S10, hc11, h⟩ := zbi h
        refine zt_Vl rfl rfl rfl rfl (xmC 176 rfl) ⟨rfl, rfl, yle rfl, yle rfl⟩ (m := 2) rfl ⟨by omega, by omega⟩ (trF_fails hW hL hG hA0 hA1 (by omega) (by omega) hc11) (fr1 := fr - 1) (lo1 := lo - 21) ?_
        cases h
        exact xt_lret rfl rfl rfl ⟨rfl, rfl⟩
      · replace h := zif_f (p := x6 = (0 : Int32)) hb h
        refine xt_pure rfl rfl rfl rfl ?_
        refine xt_getf rfl rfl (zmr q4p1) ?_
        refine xt_pure rfl rfl rfl (st1 := .int 6 :: _) rfl ?_
        refine xt_pure rfl rfl rfl rfl ?_
        refine xt_pure rfl rfl rfl rfl ?_
        refine xt_pure rfl rfl rfl rfl ?_
        refine xt_pure rfl rfl rfl rfl ?_
        obtain ⟨x12, hx12, h⟩ := zgi h
        refine zr_ild (l := op1.2.2.2.2) rfl rfl (zmr q7p1) hx12 ?_
        refine xt_pure rfl rfl rfl rfl ?_
        refine xt_pure rfl rfl rfl rfl ?_
        cases h
        exact xt_lret rfl rfl rfl ⟨rfl, rfl⟩
    · replace h := zif_f (p := 0 ≤ x4.toInt) hb h
      refine xt_pure rfl rfl rfl rfl ?_
      refine xt_pure rfl rfl rfl (st1 := .int 1 :: _) rfl ?_
      obtain ⟨x13, S14, hc15, h⟩ := zbi h
      refine zt_Vl rfl rfl rfl rfl (xmC 176 rfl) ⟨rfl, rfl, yle rfl, yle rfl⟩ (m := 2) rfl ⟨by omega, by omega⟩ (trF_fails hW hL hG hA0 hA1 (by omega) (by omega) hc15) (fr1 := fr - 1) (lo1 := lo - 21) ?_
      cases h
      exact xt_lret rfl rfl rfl ⟨rfl, rfl⟩
  · replace h := zif_f (p := x1 ≠ (0 : Int32)) hb h
    refine xt_pure rfl rfl rfl rfl ?_
    refine xt_pure rfl rfl rfl (st1 := .int 3 :: _) rfl ?_
    obtain ⟨x16, S17, hc18, h⟩ := zbi h
    refine zt_Vl rfl rfl rfl rfl (xmC 176 rfl) ⟨rfl, rfl, yle rfl, yle rfl⟩ (m := 2) rfl ⟨by omega, by omega⟩ (trF_fails hW hL hG hA0 hA1 (by omega) (by omega) hc18) (fr1 := fr - 1) (lo1 := lo - 21) ?_
    cases h
    exact xt_lret rfl rfl rfl ⟨rfl, rfl⟩
def rF_total_46 (gi : Nat → Int32) (ga : Nat → List Int32) (vl : List Int64) (Bs : List (Option zH)) (am : List Int64)  (N : Nat) (k14 : Option zH → Int64 → Int32 → zS → Option (Int64 × zS)) : Nat → zH → Int64 → Int32 → Int32 → zS → Option (Int64 × zS)
  | 0, _, _, _, _, _ => none
  | n + 1, ol2, l3, l5, l6, S => (zg (gI ol2.2.2.2.1 l5) fun x10 => (if x10.toInt ≤ l6.toInt then k14 (some ol2) l3 (l5 + 1) S else (zg (gI ol2.2.2.2.2 ((6 * l5) + l6)) fun x11 => (rF_total_46 gi ga vl Bs am N k14 n) ol2 (l3 + x11.toInt64) l5 (l6 + 1) S)))
theorem trF_total_46 {X : List Int32} {D0 : List xE} {fa : Nat} {p : Nat → Nat} {gi : Nat → Int32} {ga : Nat → List Int32} {vl : List Int64} {refs : List Value} {Bs : List (Option zH)} {am : List Int64} (hW : ((209, .inl (14, 46, .ref fa)) : xE) ∈ D0) (hL : ((235, .inr (1, am.map Value.long)) : xE) ∈ D0) (hG : ∀ e ∈ zgF fa p gi ga vl, e ∈ D0) (hA0 : ((239, .inr (10, refs)) : xE) ∈ D0) (hA1 : ∀ {j : Int32} {z : Option zH}, gI Bs j = some z → ∃ v, gI refs j = some v ∧ zVM D0 v z)  {N fr lo : Nat} {k14 : Option zH → Int64 → Int32 → zS → Option (Int64 × zS)} (hk14 : ∀ {vl2 : Value} {zl2 : Option zH}  {l3 : Int64} {l5 : Int32} {d1 : Int32} {u6 : Option Value} {S S2 : zS} {r : Int64} (hvl2 : zVM D0 vl2 zl2), k14 zl2 l3 l5 S = some (r, S2) → yT X fr lo 310 14 [some (.ref 209), some (.int d1), some (vl2), some (.long l3), none, some (.int l5), u6] [] (zD zTF zaF S D0) 0 0 (zQl zTF zaF D0 r S2)) (hf : 2 ≤ fr) (hl : 50 ≤ lo)  : ∀ {n : Nat} {oal2 : Nat} {ol2 : zH}  {l3 : Int64} {l5 : Int32} {l6 : Int32} {d1 : Int32} {S S2 : zS} {r : Int64} (hol2 : zOM D0 oal2 ol2), rF_total_46 gi ga vl Bs am N k14 n ol2 l3 l5 l6 S = some (r, S2) → yT X fr lo 310 46 [some (.ref 209), some (.int d1), some (.ref oal2), some (.long l3), none, some (.int l5), some (.int l6)] [] (zD zTF zaF S D0) 0 0 (zQl zTF zaF D0 r S2) := by
  intro n
  induction n with
  | zero =>
    intro oal2 ol2 l3 l5 l6 d1 S S2 r hol2  h
    have h : (none : Option (Int64 × zS)) = some (r, S2) := h
    cases h
  | succ n ih =>
    intro oal2 ol2 l3 l5 l6 d1 S S2 r hol2  h
    rw [rF_total_46] at h
    have hkl2 := hol2
    obtain ⟨ial2, ral2, cal2, q0l2, q1l2, q2l2, q3l2, q4l2, q5l2, q6l2, q7l2⟩ := hkl2
    refine xt_pure rfl rfl rfl rfl ?_
    refine xt_pure rfl rfl rfl rfl ?_
    refine xt_getf rfl rfl (zmr q3l2) ?_
    refine xt_pure rfl rfl rfl rfl ?_
    obtain ⟨x10, hx10, h⟩ := zgi h
    refine zr_ild (l := ol2.2.2.2.1) rfl rfl (zmr q6l2) hx10 ?_
    refine xt_ic rfl rfl (fun hb => ?_) (fun hb => ?_)
    · replace h := zif_t (p := x10.toInt ≤ l6.toInt) hb h
      refine xt_pure rfl rfl rfl (L1 := [_, _, _, _, _, some (.int (_ + 1)), _]) rfl ?_
      refine xt_pure rfl rfl rfl rfl ?_
      exact hk14 (zvsM hol2) h
    · replace h := zif_f (p := x10.toInt ≤ l6.toInt) hb h
      refine xt_pure rfl rfl rfl rfl ?_
      refine xt_pure rfl rfl rfl rfl ?_
      refine xt_getf rfl rfl (zmr q4l2) ?_
      refine xt_pure rfl rfl rfl (st1 := .int 6 :: _) rfl ?_
      refine xt_pure rfl rfl rfl rfl ?_
      refine xt_pure rfl rfl rfl rfl ?_
      refine xt_pure rfl rfl rfl rfl ?_
      refine xt_pure rfl rfl rfl rfl ?_
      obtain ⟨x11, hx11, h⟩ := zgi h
      refine zr_ild (l := ol2.2.2.2.2) rfl rfl (zmr q7l2) hx11 ?_
      refine xt_pure rfl rfl rfl rfl ?_
      refine xt_pure rfl rfl rfl rfl ?_
      refine xt_pure rfl rfl rfl (L1 := [_, _, _, _, _, _, _]) rfl ?_
      refine xt_pure rfl rfl rfl (L1 := [_, _, _, _, _, _, some (.int (_ + 1))]) rfl ?_
      refine xt_pure rfl rfl rfl rfl ?_
      exact ih hol2 h
def rF_total_14 (gi : Nat → Int32) (ga : Nat → List Int32) (vl : List Int64) (Bs : List (Option zH)) (am : List Int64)  (N : Nat)  : Nat → Option zH → Int64 → Int32 → zS → Option (Int64 × zS)
  | 0, _, _, _, _ => none
  | n + 1, zl2, l3, l5, S => (zo zl2 ((if (zI S 2) ≠ (0 : Int32) then some (l3, S) else none)) fun ol2 => (if (zI S 2) ≠ (0 : Int32) then some (l3, S) else (if ol2.2.1.toInt ≤ l5.toInt then some (l3, S) else (if ol2.1 = (4 : Int32) then (zg (gI ol2.2.2.2.1 l5) fun x9 => (if 0 ≤ x9.toInt then rF_total_46 gi ga vl Bs am N (rF_total_14 gi ga vl Bs am N n) N ol2 l3 l5 0 S else (zb (rF_fails gi ga vl Bs am N 1 S) fun x12 S13 => (rF_total_14 gi ga vl Bs am N n) (some ol2) l3 (l5 + 1) S13))) else (zb (rF_itemOf gi ga vl Bs am N ol2 l5.toInt64 S) fun x15 S16 => (rF_total_14 gi ga vl Bs am N n) (some ol2) (l3 + x15) (l5 + 1) S16)))))
theorem trF_total_14 {X : List Int32} {D0 : List xE} {fa : Nat} {p : Nat → Nat} {gi : Nat → Int32} {ga : Nat → List Int32} {vl : List Int64} {refs : List Value} {Bs : List (Option zH)} {am : List Int64} (hW : ((209, .inl (14, 46, .ref fa)) : xE) ∈ D0) (hL : ((235, .inr (1, am.map Value.long)) : xE) ∈ D0) (hG : ∀ e ∈ zgF fa p gi ga vl, e ∈ D0) (hA0 : ((239, .inr (10, refs)) : xE) ∈ D0) (hA1 : ∀ {j : Int32} {z : Option zH}, gI Bs j = some z → ∃ v, gI refs j = some v ∧ zVM D0 v z)  {N fr lo : Nat}   (hf : 2 ≤ fr) (hl : 50 ≤ lo)  : ∀ {n : Nat} {vl2 : Value} {zl2 : Option zH}  {l3 : Int64} {l5 : Int32} {d1 : Int32} {u6 : Option Value} {S S2 : zS} {r : Int64} (hvl2 : zVM D0 vl2 zl2), rF_total_14 gi ga vl Bs am N n zl2 l3 l5 S = some (r, S2) → yT X fr lo 310 14 [some (.ref 209), some (.int d1), some (vl2), some (.long l3), none, some (.int l5), u6] [] (zD zTF zaF S D0) 0 0 (zQl zTF zaF D0 r S2) := by
  intro n
  induction n with
  | zero =>
    intro vl2 zl2 l3 l5 d1 u6 S S2 r hvl2  h
    have h : (none : Option (Int64 × zS)) = some (r, S2) := h
    cases h
  | succ n ih =>
    intro vl2 zl2 l3 l5 d1 u6 S S2 r hvl2  h
    rw [rF_total_14] at h
    rcases zl2 with _ | ol2
    · obtain rfl : vl2 = Value.null := hvl2
      replace h := zon h
      refine xt_pure rfl rfl rfl rfl ?_
      refine zt_gI 2 rfl rfl rfl rfl (x := (zI S 2)) rfl ?_
      refine xt_if rfl rfl (fun hb => ?_) (fun hb => ?_)
      · replace h := zif_t (p := (zI S 2) ≠ (0 : Int32)) hb h
        refine xt_pure rfl rfl rfl rfl ?_
        cases h
        exact xt_lret rfl rfl rfl ⟨rfl, rfl⟩
      · replace h := zif_f (p := (zI S 2) ≠ (0 : Int32)) hb h
        refine xt_pure rfl rfl rfl rfl ?_
        refine xt_pure rfl rfl rfl rfl ?_
        cases h
    · obtain ⟨oal2, rfl, hol2⟩ := hvl2
      replace h := zos h
      have hkl2 := hol2
      obtain ⟨ial2, ral2, cal2, q0l2, q1l2, q2l2, q3l2, q4l2, q5l2, q6l2, q7l2⟩ := hkl2
      refine xt_pure rfl rfl rfl rfl ?_
      refine zt_gI 2 rfl rfl rfl rfl (x := (zI S 2)) rfl ?_
      refine xt_if rfl rfl (fun hb => ?_) (fun hb => ?_)
      · replace h := zif_t (p := (zI S 2) ≠ (0 : Int32)) hb h
        refine xt_pure rfl rfl rfl rfl ?_
        cases h
        exact xt_lret rfl rfl rfl ⟨rfl, rfl⟩
      · replace h := zif_f (p := (zI S 2) ≠ (0 : Int32)) hb h
        refine xt_pure rfl rfl rfl rfl ?_
        refine xt_pure rfl rfl rfl rfl ?_
        refine xt_getf rfl rfl (zmr q1l2) ?_
        refine xt_ic rfl rfl (fun hb => ?_) (fun hb => ?_)
        · replace h := zif_t (p := ol2.2.1.toInt ≤ l5.toInt) hb h
          refine xt_pure rfl rfl rfl rfl ?_
          cases h
          exact xt_lret rfl rfl rfl ⟨rfl, rfl⟩
        · replace h := zif_f (p := ol2.2.1.toInt ≤ l5.toInt) hb h
          refine xt_pure rfl rfl rfl rfl ?_
          refine xt_getf rfl rfl (zmr q0l2) ?_
          refine xt_pure rfl rfl rfl (st1 := .int 4 :: _) rfl ?_
          refine xt_ic rfl rfl (fun hb => ?_) (fun hb => ?_)
          · replace h := zif_t (p := ol2.1 = (4 : Int32)) hb h
            refine xt_pure rfl rfl rfl rfl ?_
            refine xt_getf rfl rfl (zmr q3l2) ?_
            refine xt_pure rfl rfl rfl rfl ?_
            obtain ⟨x9, hx9, h⟩ := zgi h
            refine zr_ild (l := ol2.2.2.2.1) rfl rfl (zmr q6l2) hx9 ?_
            refine xt_if rfl rfl (fun hb => ?_) (fun hb => ?_)
            · replace h := zif_t (p := 0 ≤ x9.toInt) hb h
              refine xt_pure rfl rfl rfl (st1 := .int 0 :: _) rfl ?_
              refine xt_pure rfl rfl rfl (L1 := [_, _, _, _, _, _, _]) rfl ?_
              exact trF_total_46 hW hL hG hA0 hA1 (fun hvl2 h => ih hvl2 h) hf hl hol2 h
            · replace h := zif_f (p := 0 ≤ x9.toInt) hb h
              refine xt_pure rfl rfl rfl rfl ?_
              refine xt_pure rfl rfl rfl (st1 := .int 1 :: _) rfl ?_
              obtain ⟨x12, S13, hc14, h⟩ := zbi h
              refine zt_Vl rfl rfl rfl rfl (xmC 176 rfl) ⟨rfl, rfl, yle rfl, yle rfl⟩ (m := 2) rfl ⟨by omega, by omega⟩ (trF_fails hW hL hG hA0 hA1 (by omega) (by omega) hc14) (fr1 := fr - 1) (lo1 := lo - 21) ?_
              refine xt_pure rfl rfl rfl rfl ?_
              refine xt_pure rfl rfl rfl rfl ?_
              refine xt_pure rfl rfl rfl (L1 := [_, _, _, _, _, some (.int (_ + 1)), _]) rfl ?_
              refine xt_pure rfl rfl rfl rfl ?_
              exact ih (zvsM hol2) h
          · replace h := zif_f (p := ol2.1 = (4 : Int32)) hb h
            refine xt_pure rfl rfl rfl rfl ?_
            refine xt_pure rfl rfl rfl rfl ?_
            refine xt_pure rfl rfl rfl rfl ?_
            refine xt_pure rfl rfl rfl rfl ?_
            refine xt_pure rfl rfl rfl rfl ?_
            obtain ⟨x15, S16, hc17, h⟩ := zbi h
            refine zt_Vl rfl rfl rfl rfl (xmC 176 rfl) ⟨rfl, rfl, yle rfl, yle rfl⟩ (m := 6) rfl ⟨by omega, by omega⟩ (trF_itemOf hW hL hG hA0 hA1 (by omega) (by omega) hol2 hc17) (fr1 := fr - 1) (lo1 := lo - 25) ?_
            refine xt_pure rfl rfl rfl rfl ?_
            refine xt_pure rfl rfl rfl (L1 := [_, _, _, _, _, _, _]) rfl ?_
            refine xt_pure rfl rfl rfl rfl ?_
            refine xt_pure rfl rfl rfl (L1 := [_, _, _, _, _, some (.int (_ + 1)), _]) rfl ?_
            refine xt_pure rfl rfl rfl rfl ?_
            exact ih (zvsM hol2) h
def rF_total (gi : Nat → Int32) (ga : Nat → List Int32) (vl : List Int64) (Bs : List (Option zH)) (am : List Int64)  (N : Nat) (v1 : Int32) (S : zS) : Option (Int64 × zS) := (zg (gI (ga 2) v1) fun x1 => (zb (rF_sortOf gi ga vl Bs am N x1 S) fun x2 S3 => (zb (rF_as gi ga vl Bs am N v1 x2 S3) fun z8 S6 => (zo z8 (rF_total_14 gi ga vl Bs am N N none 0 0 S6) fun o8 => rF_total_14 gi ga vl Bs am N N (some o8) 0 0 S6))))
theorem trF_total {X : List Int32} {D0 : List xE} {fa : Nat} {p : Nat → Nat} {gi : Nat → Int32} {ga : Nat → List Int32} {vl : List Int64} {refs : List Value} {Bs : List (Option zH)} {am : List Int64} (hW : ((209, .inl (14, 46, .ref fa)) : xE) ∈ D0) (hL : ((235, .inr (1, am.map Value.long)) : xE) ∈ D0) (hG : ∀ e ∈ zgF fa p gi ga vl, e ∈ D0) (hA0 : ((239, .inr (10, refs)) : xE) ∈ D0) (hA1 : ∀ {j : Int32} {z : Option zH}, gI Bs j = some z → ∃ v, gI refs j = some v ∧ zVM D0 v z)  {N fr lo : Nat} (hf : 2 ≤ fr) (hl : 50 ≤ lo) {v1 : Int32} {S S2 : zS} {r : Int64}  (h : rF_total gi ga vl Bs am N v1 S = some (r, S2)) : yK X fr lo 310 [.ref 209, .int v1] (zD zTF zaF S D0) 0 0 (zQl zTF zaF D0 r S2) := by
  unfold rF_total at h
  refine yK.of rfl (yle rfl) (L := [_, _, _, _, _, _, _]) rfl ?_
  refine xt_pure rfl rfl rfl rfl ?_
  refine xt_pure rfl rfl rfl rfl ?_
  refine xt_pure rfl rfl rfl rfl ?_
  refine xt_getf rfl rfl (zmr hW) ?_
  refine xt_getf rfl rfl (zmr (ymm hG 2 rfl)) ?_
  refine xt_pure rfl rfl rfl rfl ?_
  obtain ⟨x1, hx1, h⟩ := zgi h
  refine zr_ild (l := (ga 2)) rfl rfl (zmr (ymm hG 23 rfl)) hx1 ?_
  obtain ⟨x2, S3, hc4, h⟩ := zbi h
  refine zt_Si rfl rfl (by decide) rfl rfl ⟨rfl, yle rfl, yle rfl⟩ (m := 1) rfl ⟨by omega, by omega⟩ (trF_sortOf hW hL hG hA0 hA1 (by omega) (by omega) hc4) (fr1 := fr - 1) (lo1 := lo - 20) ?_
  obtain ⟨z8, S6, hc7, h⟩ := zbi h
  refine zt_Vz rfl rfl rfl rfl (xmC 176 rfl) ⟨rfl, rfl, yle rfl, yle rfl⟩ (m := 4) rfl ⟨by omega, by omega⟩ (trF_as hW hL hG hA0 hA1 (by omega) (by omega) hc7) (fr1 := fr - 1) (lo1 := lo - 23) (fun v8 hv8 => ?_)
  rcases z8 with _ | o8
  · obtain rfl : v8 = Value.null := hv8
    replace h := zon h
    refine xt_pure rfl rfl rfl (L1 := [_, _, _, _, _, _, _]) rfl ?_
    refine xt_pure rfl rfl rfl (st1 := .long 0 :: _) rfl ?_
    refine xt_pure rfl rfl rfl (L1 := [_, _, _, _, _, _, _]) rfl ?_
    refine xt_pure rfl rfl rfl (st1 := .int 0 :: _) rfl ?_
    refine xt_pure rfl rfl rfl (L1 := [_, _, _, _, _, _, _]) rfl ?_
    exact trF_total_14 hW hL hG hA0 hA1 hf hl zvnM h
  · obtain ⟨oa8, rfl, ho8⟩ := hv8
    replace h := zos h
    have hk8 := ho8
    obtain ⟨ia8, ra8, ca8, q08, q18, q28, q38, q48, q58, q68, q78⟩ := hk8
    refine xt_pure rfl rfl rfl (L1 := [_, _, _, _, _, _, _]) rfl ?_
    refine xt_pure rfl rfl rfl (st1 := .long 0 :: _) rfl ?_
    refine xt_pure rfl rfl rfl (L1 := [_, _, _, _, _, _, _]) rfl ?_
    refine xt_pure rfl rfl rfl (st1 := .int 0 :: _) rfl ?_
    refine xt_pure rfl rfl rfl (L1 := [_, _, _, _, _, _, _]) rfl ?_
    exact trF_total_14 hW hL hG hA0 hA1 hf hl (zvsM ho8) h
def rF_column_9 (gi : Nat → Int32) (ga : Nat → List Int32) (vl : List Int64) (Bs : List (Option zH)) (am : List Int64)  (N : Nat)  : Nat → Int32 → Option zH → Int64 → Int32 → zS → Option (Int64 × zS)
  | 0, _, _, _, _, _ => none
  | n + 1, l2, zl3, l4, l6, S => (zo zl3 ((if (zI S 2) ≠ (0 : Int32) then some (l4, S) else none)) fun ol3 => (if (zI S 2) ≠ (0 : Int32) then some (l4, S) else (if ol3.2.1.toInt ≤ l6.toInt then some (l4, S) else (zb (rF_cellAt gi ga vl Bs am N ol3 l6 l2 S) fun x5 S6 => (rF_column_9 gi ga vl Bs am N n) l2 (some ol3) (l4 + x5) (l6 + 1) S6))))
theorem trF_column_9 {X : List Int32} {D0 : List xE} {fa : Nat} {p : Nat → Nat} {gi : Nat → Int32} {ga : Nat → List Int32} {vl : List Int64} {refs : List Value} {Bs : List (Option zH)} {am : List Int64} (hW : ((209, .inl (14, 46, .ref fa)) : xE) ∈ D0) (hL : ((235, .inr (1, am.map Value.long)) : xE) ∈ D0) (hG : ∀ e ∈ zgF fa p gi ga vl, e ∈ D0) (hA0 : ((239, .inr (10, refs)) : xE) ∈ D0) (hA1 : ∀ {j : Int32} {z : Option zH}, gI Bs j = some z → ∃ v, gI refs j = some v ∧ zVM D0 v z)  {N fr lo : Nat}   (hf : 2 ≤ fr) (hl : 48 ≤ lo)  : ∀ {n : Nat} {l2 : Int32} {vl3 : Value} {zl3 : Option zH}  {l4 : Int64} {l6 : Int32} {d1 : Int32} {S S2 : zS} {r : Int64} (hvl3 : zVM D0 vl3 zl3), rF_column_9 gi ga vl Bs am N n l2 zl3 l4 l6 S = some (r, S2) → yT X fr lo 311 9 [some (.ref 209), some (.int d1), some (.int l2), some (vl3), some (.long l4), none, some (.int l6)] [] (zD zTF zaF S D0) 0 0 (zQl zTF zaF D0 r S2) := by
  intro n
  induction n with
  | zero =>
    intro l2 vl3 zl3 l4 l6 d1 S S2 r hvl3  h
    have h : (none : Option (Int64 × zS)) = some (r, S2) := h
    cases h
  | succ n ih =>
    intro l2 vl3 zl3 l4 l6 d1 S S2 r hvl3  h
    rw [rF_column_9] at h
    rcases zl3 with _ | ol3
    · obtain rfl : vl3 = Value.null := hvl3
      replace h := zon h
      refine xt_pure rfl rfl rfl rfl ?_
      refine zt_gI 2 rfl rfl rfl rfl (x := (zI S 2)) rfl ?_
      refine xt_if rfl rfl (fun hb => ?_) (fun hb => ?_)
      · replace h := zif_t (p := (zI S 2) ≠ (0 : Int32)) hb h
        refine xt_pure rfl rfl rfl rfl ?_
        cases h
        exact xt_lret rfl rfl rfl ⟨rfl, rfl⟩
      · replace h := zif_f (p := (zI S 2) ≠ (0 : Int32)) hb h
        refine xt_pure rfl rfl rfl rfl ?_
        refine xt_pure rfl rfl rfl rfl ?_
        cases h
    · obtain ⟨oal3, rfl, hol3⟩ := hvl3
      replace h := zos h
      have hkl3 := hol3
      obtain ⟨ial3, ral3, cal3, q0l3, q1l3, q2l3, q3l3, q4l3, q5l3, q6l3, q7l3⟩ := hkl3
      refine xt_pure rfl rfl rfl rfl ?_
      refine zt_gI 2 rfl rfl rfl rfl (x := (zI S 2)) rfl ?_
      refine xt_if rfl rfl (fun hb => ?_) (fun hb => ?_)
      · replace h := zif_t (p := (zI S 2) ≠ (0 : Int32)) hb h
        refine xt_pure rfl rfl rfl rfl ?_
        cases h
        exact xt_lret rfl rfl rfl ⟨rfl, rfl⟩
      · replace h := zif_f (p := (zI S 2) ≠ (0 : Int32)) hb h
        refine xt_pure rfl rfl rfl rfl ?_
        refine xt_pure rfl rfl rfl rfl ?_
        refine xt_getf rfl rfl (zmr q1l3) ?_
        refine xt_ic rfl rfl (fun hb => ?_) (fun hb => ?_)
        · replace h := zif_t (p := ol3.2.1.toInt ≤ l6.toInt) hb h
          refine xt_pure rfl rfl rfl rfl ?_
          cases h
          exact xt_lret rfl rfl rfl ⟨rfl, rfl⟩
        · replace h := zif_f (p := ol3.2.1.toInt ≤ l6.toInt) hb h
          refine xt_pure rfl rfl rfl rfl ?_
          refine xt_pure rfl rfl rfl rfl ?_
          refine xt_pure rfl rfl rfl rfl ?_
          refine xt_pure rfl rfl rfl rfl ?_
          refine xt_pure rfl rfl rfl rfl ?_
          obtain ⟨x5, S6, hc7, h⟩ := zbi h
          refine zt_Vl rfl rfl rfl rfl (xmC 176 rfl) ⟨rfl, rfl, yle rfl, yle rfl⟩ (m := 4) rfl ⟨by omega, by omega⟩ (trF_cellAt hW hL hG hA0 hA1 (by omega) (by omega) hol3 hc7) (fr1 := fr - 1) (lo1 := lo - 23) ?_
          refine xt_pure rfl rfl rfl rfl ?_
          refine xt_pure rfl rfl rfl (L1 := [_, _, _, _, _, _, _]) rfl ?_
          refine xt_pure rfl rfl rfl (L1 := [_, _, _, _, _, _, some (.int (_ + 1))]) rfl ?_
          refine xt_pure rfl rfl rfl rfl ?_
          exact ih (zvsM hol3) h
def rF_column (gi : Nat → Int32) (ga : Nat → List Int32) (vl : List Int64) (Bs : List (Option zH)) (am : List Int64)  (N : Nat) (v1 : Int32) (v2 : Int32) (S : zS) : Option (Int64 × zS) := (zb (rF_as gi ga vl Bs am N v1 4 S) fun z4 S2 => (zo z4 (rF_column_9 gi ga vl Bs am N N v2 none 0 0 S2) fun o4 => rF_column_9 gi ga vl Bs am N N v2 (some o4) 0 0 S2))
theorem trF_column {X : List Int32} {D0 : List xE} {fa : Nat} {p : Nat → Nat} {gi : Nat → Int32} {ga : Nat → List Int32} {vl : List Int64} {refs : List Value} {Bs : List (Option zH)} {am : List Int64} (hW : ((209, .inl (14, 46, .ref fa)) : xE) ∈ D0) (hL : ((235, .inr (1, am.map Value.long)) : xE) ∈ D0) (hG : ∀ e ∈ zgF fa p gi ga vl, e ∈ D0) (hA0 : ((239, .inr (10, refs)) : xE) ∈ D0) (hA1 : ∀ {j : Int32} {z : Option zH}, gI Bs j = some z → ∃ v, gI refs j = some v ∧ zVM D0 v z)  {N fr lo : Nat} (hf : 2 ≤ fr) (hl : 48 ≤ lo) {v1 : Int32} {v2 : Int32} {S S2 : zS} {r : Int64}  (h : rF_column gi ga vl Bs am N v1 v2 S = some (r, S2)) : yK X fr lo 311 [.ref 209, .int v1, .int v2] (zD zTF zaF S D0) 0 0 (zQl zTF zaF D0 r S2) := by
  unfold rF_column at h
  refine yK.of rfl (yle rfl) (L := [_, _, _, _, _, _, _]) rfl ?_
  refine xt_pure rfl rfl rfl rfl ?_
  refine xt_pure rfl rfl rfl rfl ?_
  refine xt_pure rfl rfl rfl (st1 := .int 4 :: _) rfl ?_
  obtain ⟨z4, S2, hc3, h⟩ := zbi h
  refine zt_Vz rfl rfl rfl rfl (xmC 176 rfl) ⟨rfl, rfl, yle rfl, yle rfl⟩ (m := 4) rfl ⟨by omega, by omega⟩ (trF_as hW hL hG hA0 hA1 (by omega) (by omega) hc3) (fr1 := fr - 1) (lo1 := lo - 23) (fun v4 hv4 => ?_)
  rcases z4 with _ | o4
  · obtain rfl : v4 = Value.null := hv4
    replace h := zon h
    refine xt_pure rfl rfl rfl (L1 := [_, _, _, _, _, _, _]) rfl ?_
    refine xt_pure rfl rfl rfl (st1 := .long 0 :: _) rfl ?_
    refine xt_pure rfl rfl rfl (L1 := [_, _, _, _, _, _, _]) rfl ?_
    refine xt_pure rfl rfl rfl (st1 := .int 0 :: _) rfl ?_
    refine xt_pure rfl rfl rfl (L1 := [_, _, _, _, _, _, _]) rfl ?_
    exact trF_column_9 hW hL hG hA0 hA1 hf hl zvnM h
  · obtain ⟨oa4, rfl, ho4⟩ := hv4
    replace h := zos h
    have hk4 := ho4
    obtain ⟨ia4, ra4, ca4, q04, q14, q24, q34, q44, q54, q64, q74⟩ := hk4
    refine xt_pure rfl rfl rfl (L1 := [_, _, _, _, _, _, _]) rfl ?_
    refine xt_pure rfl rfl rfl (st1 := .long 0 :: _) rfl ?_
    refine xt_pure rfl rfl rfl (L1 := [_, _, _, _, _, _, _]) rfl ?_
    refine xt_pure rfl rfl rfl (st1 := .int 0 :: _) rfl ?_
    refine xt_pure rfl rfl rfl (L1 := [_, _, _, _, _, _, _]) rfl ?_
    exact trF_column_9 hW hL hG hA0 hA1 hf hl (zvsM ho4) h
def rF_isSort (gi : Nat → Int32) (ga : Nat → List Int32) (vl : List Int64) (Bs : List (Option zH)) (am : List Int64)  (N : Nat) (v1 : Int32) (v2 : Int32) (S : zS) : Option (Int32 × zS) := (zb (rF_answer gi ga vl Bs am N v1 S) fun z4 S2 => (zo z4 (some (0, S2)) fun o4 => (if o4.1 = v2 then some (1, S2) else (if v2 ≠ (5 : Int32) then some (0, S2) else (if o4.1 ≠ (6 : Int32) then some (0, S2) else some (1, S2))))))
theorem trF_isSort {X : List Int32} {D0 : List xE} {fa : Nat} {p : Nat → Nat} {gi : Nat → Int32} {ga : Nat → List Int32} {vl : List Int64} {refs : List Value} {Bs : List (Option zH)} {am : List Int64} (hW : ((209, .inl (14, 46, .ref fa)) : xE) ∈ D0) (hL : ((235, .inr (1, am.map Value.long)) : xE) ∈ D0) (hG : ∀ e ∈ zgF fa p gi ga vl, e ∈ D0) (hA0 : ((239, .inr (10, refs)) : xE) ∈ D0) (hA1 : ∀ {j : Int32} {z : Option zH}, gI Bs j = some z → ∃ v, gI refs j = some v ∧ zVM D0 v z)  {N fr lo : Nat} (hf : 1 ≤ fr) (hl : 21 ≤ lo) {v1 : Int32} {v2 : Int32} {S S2 : zS} {r : Int32}  (h : rF_isSort gi ga vl Bs am N v1 v2 S = some (r, S2)) : yK X fr lo 309 [.ref 209, .int v1, .int v2] (zD zTF zaF S D0) 0 0 (zQi zTF zaF D0 r S2) := by
  unfold rF_isSort at h
  refine yK.of rfl (yle rfl) (L := [_, _, _, _]) rfl ?_
  refine xt_pure rfl rfl rfl rfl ?_
  refine xt_pure rfl rfl rfl rfl ?_
  obtain ⟨z4, S2, hc3, h⟩ := zbi h
  refine zt_Vz rfl rfl rfl rfl (xmC 176 rfl) ⟨rfl, rfl, yle rfl, yle rfl⟩ (m := 2) rfl ⟨by omega, by omega⟩ (trF_answer hW hL hG hA0 hA1 (by omega) (by omega) hc3) (fr1 := fr - 1) (lo1 := lo - 21) (fun v4 hv4 => ?_)
  rcases z4 with _ | o4
  · obtain rfl : v4 = Value.null := hv4
    replace h := zon h
    refine xt_pure rfl rfl rfl (L1 := [_, _, _, _]) rfl ?_
    refine xt_pure rfl rfl rfl rfl ?_
    refine xt_pure rfl rfl rfl rfl ?_
    refine xt_pure rfl rfl rfl (st1 := .int 0 :: _) rfl ?_
    cases h
    exact xt_iret rfl rfl rfl rfl ⟨rfl, rfl⟩
  · obtain ⟨oa4, rfl, ho4⟩ := hv4
    replace h := zos h
    have hk4 := ho4
    obtain ⟨ia4, ra4, ca4, q04, q14, q24, q34, q44, q54, q64, q74⟩ := hk4
    refine xt_pure rfl rfl rfl (L1 := [_, _, _, _]) rfl ?_
    refine xt_pure rfl rfl rfl rfl ?_
    refine xt_pure rfl rfl rfl rfl ?_
    refine xt_pure rfl rfl rfl rfl ?_
    refine xt_getf rfl rfl (zmr q04) ?_
    refine xt_pure rfl rfl rfl rfl ?_
    refine xt_ic rfl rfl (fun hb => ?_) (fun hb => ?_)
    · replace h := zif_t (p := o4.1 = v2) hb h
      refine xt_pure rfl rfl rfl (st1 := .int 1 :: _) rfl ?_
      refine xt_pure rfl rfl rfl rfl ?_
      cases h
      exact xt_iret rfl rfl rfl rfl ⟨rfl, rfl⟩
    · replace h := zif_f (p := o4.1 = v2) hb h
      refine xt_pure rfl rfl rfl rfl ?_
      refine xt_pure rfl rfl rfl (st1 := .int 5 :: _) rfl ?_
      refine xt_ic rfl rfl (fun hb => ?_) (fun hb => ?_)
      · replace h := zif_t (p := v2 ≠ (5 : Int32)) hb h
        refine xt_pure rfl rfl rfl (st1 := .int 0 :: _) rfl ?_
        cases h
        exact xt_iret rfl rfl rfl rfl ⟨rfl, rfl⟩
      · replace h := zif_f (p := v2 ≠ (5 : Int32)) hb h
        refine xt_pure rfl rfl rfl rfl ?_
        refine xt_getf rfl rfl (zmr q04) ?_
        refine xt_pure rfl rfl rfl (st1 := .int 6 :: _) rfl ?_
        refine xt_ic rfl rfl (fun hb => ?_) (fun hb => ?_)
        · replace h := zif_t (p := o4.1 ≠ (6 : Int32)) hb h
          refine xt_pure rfl rfl rfl (st1 := .int 0 :: _) rfl ?_
          cases h
          exact xt_iret rfl rfl rfl rfl ⟨rfl, rfl⟩
        · replace h := zif_f (p := o4.1 ≠ (6 : Int32)) hb h
          refine xt_pure rfl rfl rfl (st1 := .int 1 :: _) rfl ?_
          refine xt_pure rfl rfl rfl rfl ?_
          cases h
          exact xt_iret rfl rfl rfl rfl ⟨rfl, rfl⟩
