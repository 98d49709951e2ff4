/-! MIRRORS: the reference finds all -/
def rB_begin_12_29  (N : Nat)  : Nat → Int32 → zS → Option (Unit × zS)
  | 0, _, _ => none
  | n + 1, l2, S => (if 12 ≤ l2.toInt then some ((), S) else (if zok (zA S 13) l2 then (rB_begin_12_29 N n) (l2 + 1) (zsA S 13 (zs (zA S 13) l2 0)) else none))
theorem trB_begin_12_29 {X : List Int32} {D0 : List xE}   {N fr lo : Nat}   (hf : 0 ≤ fr) (hl : 0 ≤ lo)  : ∀ {n : Nat} {l2 : Int32} {d1 : Int32} {S S2 : zS} {r : Unit} , rB_begin_12_29 N n l2 S = some (r, S2) → yT X fr lo 295 29 [some (.ref 209), some (.int d1), some (.int l2)] [] (zD zTF zaF S D0) 0 0 (zQv zTF zaF D0 r S2) := by
  intro n
  induction n with
  | zero =>
    intro l2 d1 S S2 r  h
    have h : (none : Option (Unit × zS)) = some (r, S2) := h
    cases h
  | succ n ih =>
    intro l2 d1 S S2 r  h
    rw [rB_begin_12_29] at h
    refine xt_pure rfl rfl rfl rfl ?_
    refine xt_pure rfl rfl rfl (st1 := .int 12 :: _) rfl ?_
    refine xt_ic rfl rfl (fun hb => ?_) (fun hb => ?_)
    · replace h := zif_t (p := 12 ≤ l2.toInt) hb h
      cases h
      exact xt_vret rfl rfl rfl ⟨rfl, rfl⟩
    · replace h := zif_f (p := 12 ≤ l2.toInt) hb h
      refine xt_pure rfl rfl rfl rfl ?_
      refine xt_getf rfl rfl (xmC 198 rfl) ?_
      refine xt_pure rfl rfl rfl rfl ?_
      refine xt_pure rfl rfl rfl (st1 := .int 0 :: _) rfl ?_
      obtain ⟨hg, h⟩ := zgd h
      refine zt_ist 13 rfl rfl rfl rfl (l := (zA S 13)) rfl hg ?_
      refine xt_pure rfl rfl rfl (L1 := [_, _, some (.int (_ + 1))]) rfl ?_
      refine xt_pure rfl rfl rfl rfl ?_
      exact ih h
def rB_begin_12  (N : Nat) (S : zS) : Option (Unit × zS) := rB_begin_12_29 N N 0 (zsI (zsI (zsI (zsI (zsI S 2 0) 3 (-9)) 4 (-9)) 5 0) 6 0)
theorem trB_begin_12 {X : List Int32} {D0 : List xE}  {dd : Int32} {N fr lo : Nat} (hf : 0 ≤ fr) (hl : 0 ≤ lo) {S S2 : zS} {r : Unit} (h : rB_begin_12 N S = some (r, S2)) : yT X fr lo 295 12 [some (.ref 209), some (.int dd), none] [] (zD zTF zaF S D0) 0 0 (zQv zTF zaF D0 r S2) := by
  unfold rB_begin_12 at h
  refine xt_pure rfl rfl rfl rfl ?_
  refine xt_pure rfl rfl rfl (st1 := .int 0 :: _) rfl ?_
  refine zt_pI 2 rfl rfl rfl rfl rfl rfl ?_
  refine xt_pure rfl rfl rfl rfl ?_
  refine xt_pure rfl rfl rfl (st1 := .int (-9) :: _) rfl ?_
  refine zt_pI 3 rfl rfl rfl rfl rfl rfl ?_
  refine xt_pure rfl rfl rfl rfl ?_
  refine xt_pure rfl rfl rfl (st1 := .int (-9) :: _) rfl ?_
  refine zt_pI 4 rfl rfl rfl rfl rfl rfl ?_
  refine xt_pure rfl rfl rfl rfl ?_
  refine xt_pure rfl rfl rfl (st1 := .int 0 :: _) rfl ?_
  refine zt_pI 5 rfl rfl rfl rfl rfl rfl ?_
  refine xt_pure rfl rfl rfl rfl ?_
  refine xt_pure rfl rfl rfl (st1 := .int 0 :: _) rfl ?_
  refine zt_pI 6 rfl rfl rfl rfl rfl rfl ?_
  refine xt_pure rfl rfl rfl (st1 := .int 0 :: _) rfl ?_
  refine xt_pure rfl rfl rfl (L1 := [_, _, _]) rfl ?_
  exact trB_begin_12_29 hf hl h
def rB_begin (N : Nat) (d : Int32) (S : zS) : Option (Unit × zS) := rB_begin_12 N (zsI S 1 d)
theorem trB_begin {X : List Int32} {D1 : List xE} {fr lo N : Nat} {S S2 : zS} {r : Unit} {d x : Int32} {uu : Value} {fa : Nat} {oF : List Int32} {al : List Value} (h1 : ((238, .inr (0, oF.map Value.int)) : xE) ∈ D1) (h2 : gI oF d = some x) (h3 : ((211, .inr (8, al)) : xE) ∈ D1) (h4 : gI al x = some (.ref fa)) (h : rB_begin N d S = some (r, S2)) : yK X fr lo 295 [.ref 209, .int d] (zD zTF zaF S ((209, .inl (14, 46, uu)) :: D1)) 0 0 (zQv zTF zaF ((209, .inl (14, 46, .ref fa)) :: D1) r S2) := by
  unfold rB_begin at h
  refine yK.of rfl (yle rfl) (L := [_, _, _]) rfl ?_
  refine xt_pure rfl rfl rfl rfl ?_
  refine xt_pure rfl rfl rfl rfl ?_
  refine zt_pI 1 rfl rfl rfl rfl rfl rfl ?_
  refine xt_pure rfl rfl rfl rfl ?_
  refine xt_pure rfl rfl rfl rfl ?_
  refine xt_getf rfl rfl (xmC 177 rfl) ?_
  refine xt_pure rfl rfl rfl rfl ?_
  refine xt_getf rfl rfl (xmC 187 rfl) ?_
  refine xt_pure rfl rfl rfl rfl ?_
  refine zr_ild (l := oF) rfl rfl (zmr (List.mem_cons_of_mem _ h1)) h2 ?_
  refine zr_ald (l := al) rfl rfl ⟨by decide, rfl⟩ (zmr (List.mem_cons_of_mem _ h3)) h4 ?_
  refine zt_f0 rfl rfl rfl rfl ?_
  exact trB_begin_12 (by omega) (by omega) h
def rF_findAll_140 (gi : Nat → Int32) (ga : Nat → List Int32) (vl : List Int64) (Bs : List (Option zH)) (am : List Int64)  (N : Nat) (k109 : Int32 → zS → Option (Unit × zS)) (l2 : Int32) (s1 : Int32) (S : zS) : Option (Unit × zS) := (zg (gI (ga 13) l2) fun x8 => (if (zI S 2) = (0 : Int32) then (zb (rF_note gi ga vl Bs am N s1 (-9) l2 x8 (-9) S) fun _ S10 => k109 (l2 + 1) (zsI S10 2 0)) else (zb (rF_note gi ga vl Bs am N s1 (-9) l2 x8 (zI S 3) S) fun _ S13 => k109 (l2 + 1) (zsI S13 2 0))))
theorem trF_findAll_140 {X : List Int32} {D0 : List xE} {fa : Nat} {p : Nat → Nat} {gi : Nat → Int32} {ga : Nat → List Int32} {vl : List Int64} {refs : List Value} {Bs : List (Option zH)} {am : List Int64} (hW : ((209, .inl (14, 46, .ref fa)) : xE) ∈ D0) (hL : ((235, .inr (1, am.map Value.long)) : xE) ∈ D0) (hG : ∀ e ∈ zgF fa p gi ga vl, e ∈ D0) (hA0 : ((239, .inr (10, refs)) : xE) ∈ D0) (hA1 : ∀ {j : Int32} {z : Option zH}, gI Bs j = some z → ∃ v, gI refs j = some v ∧ zVM D0 v z)  {N fr lo : Nat} {k109 : Int32 → zS → Option (Unit × zS)} (hk109 : ∀ {l2 : Int32} {d1 : Int32} {u3 : Option Value} {u4 : Option Value} {S S2 : zS} {r : Unit} , k109 l2 S = some (r, S2) → yT X fr lo 294 109 [some (.ref 209), some (.int d1), some (.int l2), u3, u4] [] (zD zTF zaF S D0) 0 0 (zQv zTF zaF D0 r S2)) (hf : 5 + 2 * (N / 5) ≤ fr) (hl : 126 + 57 * (N / 5) ≤ lo) {l2 : Int32} {s1 : Int32} {d1 : Int32} {d3 : Int64} {S S2 : zS} {r : Unit}  (h : rF_findAll_140 gi ga vl Bs am N k109 l2 s1 S = some (r, S2)) : yT X fr lo 294 140 [some (.ref 209), some (.int d1), some (.int l2), some (.long d3), none] [.int s1, .ref 209] (zD zTF zaF S D0) 0 0 (zQv zTF zaF D0 r S2) := by
  unfold rF_findAll_140 at h
  refine xt_pure rfl rfl rfl (st1 := .int (-9) :: _) rfl ?_
  refine xt_pure rfl rfl rfl rfl ?_
  refine xt_pure rfl rfl rfl rfl ?_
  refine xt_getf rfl rfl (zmr hW) ?_
  refine xt_getf rfl rfl (zmr (ymm hG 13 rfl)) ?_
  refine xt_pure rfl rfl rfl rfl ?_
  obtain ⟨x8, hx8, h⟩ := zgi h
  refine zr_ild (l := (ga 13)) rfl rfl (zmr (ymm hG 31 rfl)) hx8 ?_
  refine xt_pure rfl rfl rfl rfl ?_
  refine zt_gI 2 rfl rfl rfl rfl (x := (zI S 2)) rfl ?_
  refine xt_if rfl rfl (fun hb => ?_) (fun hb => ?_)
  · replace h := zif_t (p := (zI S 2) = (0 : Int32)) hb h
    refine xt_pure rfl rfl rfl (st1 := .int (-9) :: _) rfl ?_
    obtain ⟨_, S10, hc11, h⟩ := zbi h
    refine zt_Vv rfl rfl rfl rfl (xmC 176 rfl) ⟨rfl, rfl, yle rfl, yle rfl⟩ (m := 6) rfl ⟨by omega, by omega⟩ (trF_note hW hL hG hA0 hA1 (by omega) (by omega) hc11) (fr1 := fr - 1) (lo1 := lo - 25) ?_
    refine xt_pure rfl rfl rfl rfl ?_
    refine xt_pure rfl rfl rfl (st1 := .int 0 :: _) rfl ?_
    refine zt_pI 2 rfl rfl rfl rfl rfl rfl ?_
    refine xt_pure rfl rfl rfl (L1 := [_, _, some (.int (_ + 1)), _, _]) rfl ?_
    refine xt_pure rfl rfl rfl rfl ?_
    exact hk109 h
  · replace h := zif_f (p := (zI S 2) = (0 : Int32)) hb h
    refine xt_pure rfl rfl rfl rfl ?_
    refine zt_gI 3 rfl rfl rfl rfl (x := (zI S 3)) rfl ?_
    refine xt_pure rfl rfl rfl rfl ?_
    obtain ⟨_, S13, hc14, h⟩ := zbi h
    refine zt_Vv rfl rfl rfl rfl (xmC 176 rfl) ⟨rfl, rfl, yle rfl, yle rfl⟩ (m := 6) rfl ⟨by omega, by omega⟩ (trF_note hW hL hG hA0 hA1 (by omega) (by omega) hc14) (fr1 := fr - 1) (lo1 := lo - 25) ?_
    refine xt_pure rfl rfl rfl rfl ?_
    refine xt_pure rfl rfl rfl (st1 := .int 0 :: _) rfl ?_
    refine zt_pI 2 rfl rfl rfl rfl rfl rfl ?_
    refine xt_pure rfl rfl rfl (L1 := [_, _, some (.int (_ + 1)), _, _]) rfl ?_
    refine xt_pure rfl rfl rfl rfl ?_
    exact hk109 h
def rF_findAll_109 (gi : Nat → Int32) (ga : Nat → List Int32) (vl : List Int64) (Bs : List (Option zH)) (am : List Int64)  (N : Nat)  : Nat → Int32 → zS → Option (Unit × zS)
  | 0, _, _ => none
  | n + 1, l2, S => (if (gi 12).toInt ≤ l2.toInt then some ((), S) else (zg (gI (ga 14) l2) fun x4 => (zb (rF_fix gi ga vl Bs am N (N / 5) x4 (zsI S 2 0)) fun x5 S6 => (if (zI S6 2) ≠ (0 : Int32) then (if (zI S6 2) = (0 : Int32) then rF_findAll_140 gi ga vl Bs am N (rF_findAll_109 gi ga vl Bs am N n) l2 9 S6 else rF_findAll_140 gi ga vl Bs am N (rF_findAll_109 gi ga vl Bs am N n) l2 (zI S6 2) S6) else (if x5 ≠ (0 : Int64) then (rF_findAll_109 gi ga vl Bs am N n) (l2 + 1) (zsI S6 2 0) else (if (zI S6 2) = (0 : Int32) then rF_findAll_140 gi ga vl Bs am N (rF_findAll_109 gi ga vl Bs am N n) l2 9 S6 else rF_findAll_140 gi ga vl Bs am N (rF_findAll_109 gi ga vl Bs am N n) l2 (zI S6 2) S6))))))
theorem trF_findAll_109 {X : List Int32} {D0 : List xE} {fa : Nat} {p : Nat → Nat} {gi : Nat → Int32} {ga : Nat → List Int32} {vl : List Int64} {refs : List Value} {Bs : List (Option zH)} {am : List Int64} (hW : ((209, .inl (14, 46, .ref fa)) : xE) ∈ D0) (hL : ((235, .inr (1, am.map Value.long)) : xE) ∈ D0) (hG : ∀ e ∈ zgF fa p gi ga vl, e ∈ D0) (hA0 : ((239, .inr (10, refs)) : xE) ∈ D0) (hA1 : ∀ {j : Int32} {z : Option zH}, gI Bs j = some z → ∃ v, gI refs j = some v ∧ zVM D0 v z)  {N fr lo : Nat}   (hf : 5 + 2 * (N / 5) ≤ fr) (hl : 126 + 57 * (N / 5) ≤ lo)  : ∀ {n : Nat} {l2 : Int32} {d1 : Int32} {u3 : Option Value} {u4 : Option Value} {S S2 : zS} {r : Unit} , rF_findAll_109 gi ga vl Bs am N n l2 S = some (r, S2) → yT X fr lo 294 109 [some (.ref 209), some (.int d1), some (.int l2), u3, u4] [] (zD zTF zaF S D0) 0 0 (zQv zTF zaF D0 r S2) := by
  intro n
  induction n with
  | zero =>
    intro l2 d1 u3 u4 S S2 r  h
    have h : (none : Option (Unit × zS)) = some (r, S2) := h
    cases h
  | succ n ih =>
    intro l2 d1 u3 u4 S S2 r  h
    rw [rF_findAll_109] at h
    refine xt_pure rfl rfl rfl rfl ?_
    refine xt_pure rfl rfl rfl rfl ?_
    refine xt_getf rfl rfl (zmr hW) ?_
    refine xt_getf rfl rfl (zmr (ymm hG 12 rfl)) ?_
    refine xt_ic rfl rfl (fun hb => ?_) (fun hb => ?_)
    · replace h := zif_t (p := (gi 12).toInt ≤ l2.toInt) hb h
      cases h
      exact xt_vret rfl rfl rfl ⟨rfl, rfl⟩
    · replace h := zif_f (p := (gi 12).toInt ≤ l2.toInt) hb h
      refine xt_pure rfl rfl rfl rfl ?_
      refine xt_pure rfl rfl rfl (st1 := .int 0 :: _) rfl ?_
      refine zt_pI 2 rfl rfl rfl rfl rfl rfl ?_
      refine xt_pure rfl rfl rfl rfl ?_
      refine xt_pure rfl rfl rfl rfl ?_
      refine xt_getf rfl rfl (zmr hW) ?_
      refine xt_getf rfl rfl (zmr (ymm hG 14 rfl)) ?_
      refine xt_pure rfl rfl rfl rfl ?_
      obtain ⟨x4, hx4, h⟩ := zgi h
      refine zr_ild (l := (ga 14)) rfl rfl (zmr (ymm hG 32 rfl)) hx4 ?_
      obtain ⟨x5, S6, hc7, h⟩ := zbi h
      refine zt_Vl rfl rfl rfl rfl (xmC 176 rfl) ⟨rfl, rfl, yle rfl, yle rfl⟩ (m := 10) rfl ⟨by omega, by omega⟩ ((trF_fix hW hL hG hA0 hA1 (by omega) (by omega)) hc7) (fr1 := fr - 1) (lo1 := lo - 29) ?_
      refine xt_pure rfl rfl rfl (L1 := [_, _, _, _, _]) rfl ?_
      refine xt_pure rfl rfl rfl rfl ?_
      refine zt_gI 2 rfl rfl rfl rfl (x := (zI S6 2)) rfl ?_
      refine xt_if rfl rfl (fun hb => ?_) (fun hb => ?_)
      · replace h := zif_t (p := (zI S6 2) ≠ (0 : Int32)) hb h
        refine xt_pure rfl rfl rfl rfl ?_
        refine xt_pure rfl rfl rfl rfl ?_
        refine zt_gI 2 rfl rfl rfl rfl (x := (zI S6 2)) rfl ?_
        refine xt_if rfl rfl (fun hb => ?_) (fun hb => ?_)
        · replace h := zif_t (p := (zI S6 2) = (0 : Int32)) hb h
          refine xt_pure rfl rfl rfl (st1 := .int 9 :: _) rfl ?_
          exact trF_findAll_140 hW hL hG hA0 hA1 (fun h => ih h) hf hl h
        · replace h := zif_f (p := (zI S6 2) = (0 : Int32)) hb h
          refine xt_pure rfl rfl rfl rfl ?_
          refine zt_gI 2 rfl rfl rfl rfl (x := (zI S6 2)) rfl ?_
          refine xt_pure rfl rfl rfl rfl ?_
          exact trF_findAll_140 hW hL hG hA0 hA1 (fun h => ih h) hf hl h
      · replace h := zif_f (p := (zI S6 2) ≠ (0 : Int32)) hb h
        refine xt_pure rfl rfl rfl rfl ?_
        refine xt_pure rfl rfl rfl (st1 := .long 0 :: _) rfl ?_
        refine zt_lc rfl rfl rfl (fun hb => ?_) (fun hb => ?_)
        · replace h := zif_t (p := x5 ≠ (0 : Int64)) hb h
          refine xt_pure rfl rfl rfl rfl ?_
          refine xt_pure rfl rfl rfl (st1 := .int 0 :: _) rfl ?_
          refine zt_pI 2 rfl rfl rfl rfl rfl rfl ?_
          refine xt_pure rfl rfl rfl (L1 := [_, _, some (.int (_ + 1)), _, _]) rfl ?_
          refine xt_pure rfl rfl rfl rfl ?_
          exact ih h
        · replace h := zif_f (p := x5 ≠ (0 : Int64)) hb h
          refine xt_pure rfl rfl rfl rfl ?_
          refine xt_pure rfl rfl rfl rfl ?_
          refine zt_gI 2 rfl rfl rfl rfl (x := (zI S6 2)) rfl ?_
          refine xt_if rfl rfl (fun hb => ?_) (fun hb => ?_)
          · replace h := zif_t (p := (zI S6 2) = (0 : Int32)) hb h
            refine xt_pure rfl rfl rfl (st1 := .int 9 :: _) rfl ?_
            exact trF_findAll_140 hW hL hG hA0 hA1 (fun h => ih h) hf hl h
          · replace h := zif_f (p := (zI S6 2) = (0 : Int32)) hb h
            refine xt_pure rfl rfl rfl rfl ?_
            refine zt_gI 2 rfl rfl rfl rfl (x := (zI S6 2)) rfl ?_
            refine xt_pure rfl rfl rfl rfl ?_
            exact trF_findAll_140 hW hL hG hA0 hA1 (fun h => ih h) hf hl h
def rF_findAll_92 (gi : Nat → Int32) (ga : Nat → List Int32) (vl : List Int64) (Bs : List (Option zH)) (am : List Int64)  (N : Nat) (k8 : Int32 → zS → Option (Unit × zS)) (l2 : Int32) (s0 : Int32) (S : zS) : Option (Unit × zS) := (if s0 = (0 : Int32) then k8 (l2 + 1) (zsI S 2 0) else (zb (rF_note gi ga vl Bs am N s0 l2 (-9) 0 (-9) S) fun _ S24 => k8 (l2 + 1) (zsI S24 2 0)))
theorem trF_findAll_92 {X : List Int32} {D0 : List xE} {fa : Nat} {p : Nat → Nat} {gi : Nat → Int32} {ga : Nat → List Int32} {vl : List Int64} {refs : List Value} {Bs : List (Option zH)} {am : List Int64} (hW : ((209, .inl (14, 46, .ref fa)) : xE) ∈ D0) (hL : ((235, .inr (1, am.map Value.long)) : xE) ∈ D0) (hG : ∀ e ∈ zgF fa p gi ga vl, e ∈ D0) (hA0 : ((239, .inr (10, refs)) : xE) ∈ D0) (hA1 : ∀ {j : Int32} {z : Option zH}, gI Bs j = some z → ∃ v, gI refs j = some v ∧ zVM D0 v z)  {N fr lo : Nat} {k8 : Int32 → zS → Option (Unit × zS)} (hk8 : ∀ {l2 : Int32} {d1 : Int32} {u3 : Option Value} {u4 : Option Value} {S S2 : zS} {r : Unit} , k8 l2 S = some (r, S2) → yT X fr lo 294 8 [some (.ref 209), some (.int d1), some (.int l2), u3, u4] [] (zD zTF zaF S D0) 0 0 (zQv zTF zaF D0 r S2)) (hf : 5 + 2 * (N / 5) ≤ fr) (hl : 126 + 57 * (N / 5) ≤ lo) {l2 : Int32} {s0 : Int32} {d1 : Int32} {d3 : Int32} {u4 : Option Value} {S S2 : zS} {r : Unit}  (h : rF_findAll_92 gi ga vl Bs am N k8 l2 s0 S = some (r, S2)) : yT X fr lo 294 92 [some (.ref 209), some (.int d1), some (.int l2), some (.int d3), u4] [.int s0] (zD zTF zaF S D0) 0 0 (zQv zTF zaF D0 r S2) := by
  unfold rF_findAll_92 at h
  refine xt_pure rfl rfl rfl (L1 := [_, _, _, _, _]) rfl ?_
  refine xt_pure rfl rfl rfl rfl ?_
  refine xt_if rfl rfl (fun hb => ?_) (fun hb => ?_)
  · replace h := zif_t (p := s0 = (0 : Int32)) hb h
    refine xt_pure rfl rfl rfl rfl ?_
    refine xt_pure rfl rfl rfl (st1 := .int 0 :: _) rfl ?_
    refine zt_pI 2 rfl rfl rfl rfl rfl rfl ?_
    refine xt_pure rfl rfl rfl (L1 := [_, _, some (.int (_ + 1)), _, _]) rfl ?_
    refine xt_pure rfl rfl rfl rfl ?_
    exact hk8 h
  · replace h := zif_f (p := s0 = (0 : Int32)) hb h
    refine xt_pure rfl rfl rfl rfl ?_
    refine xt_pure rfl rfl rfl rfl ?_
    refine xt_pure rfl rfl rfl rfl ?_
    refine xt_pure rfl rfl rfl (st1 := .int (-9) :: _) rfl ?_
    refine xt_pure rfl rfl rfl (st1 := .int 0 :: _) rfl ?_
    refine xt_pure rfl rfl rfl (st1 := .int (-9) :: _) rfl ?_
    obtain ⟨_, S24, hc25, h⟩ := zbi h
    refine zt_Vv rfl rfl rfl rfl (xmC 176 rfl) ⟨rfl, rfl, yle rfl, yle rfl⟩ (m := 6) rfl ⟨by omega, by omega⟩ (trF_note hW hL hG hA0 hA1 (by omega) (by omega) hc25) (fr1 := fr - 1) (lo1 := lo - 25) ?_
    refine xt_pure rfl rfl rfl rfl ?_
    refine xt_pure rfl rfl rfl (st1 := .int 0 :: _) rfl ?_
    refine zt_pI 2 rfl rfl rfl rfl rfl rfl ?_
    refine xt_pure rfl rfl rfl (L1 := [_, _, some (.int (_ + 1)), _, _]) rfl ?_
    refine xt_pure rfl rfl rfl rfl ?_
    exact hk8 h
def rF_findAll_60 (gi : Nat → Int32) (ga : Nat → List Int32) (vl : List Int64) (Bs : List (Option zH)) (am : List Int64)  (N : Nat) (k8 : Int32 → zS → Option (Unit × zS)) (l2 : Int32) (S : zS) : Option (Unit × zS) := (zg (gI (zA S 19) l2) fun x16 => (if x16 = (0 : Int32) then k8 (l2 + 1) (zsI S 2 0) else (zg (gI (ga 2) l2) fun x17 => (if x17 = (11 : Int32) then k8 (l2 + 1) (zsI S 2 0) else (zb (rF_answer gi ga vl Bs am N l2 (zsI S 2 0)) fun z21 S19 => (zo z21 ((zg (gI (ga 4) l2) fun x22 => (if x22 = (0 : Int32) then rF_findAll_92 gi ga vl Bs am N k8 l2 0 S19 else rF_findAll_92 gi ga vl Bs am N k8 l2 7 S19))) fun o21 => (zb (rF_judged gi ga vl Bs am N l2 S19) fun x26 S27 => rF_findAll_92 gi ga vl Bs am N k8 l2 x26 S27)))))))
theorem trF_findAll_60 {X : List Int32} {D0 : List xE} {fa : Nat} {p : Nat → Nat} {gi : Nat → Int32} {ga : Nat → List Int32} {vl : List Int64} {refs : List Value} {Bs : List (Option zH)} {am : List Int64} (hW : ((209, .inl (14, 46, .ref fa)) : xE) ∈ D0) (hL : ((235, .inr (1, am.map Value.long)) : xE) ∈ D0) (hG : ∀ e ∈ zgF fa p gi ga vl, e ∈ D0) (hA0 : ((239, .inr (10, refs)) : xE) ∈ D0) (hA1 : ∀ {j : Int32} {z : Option zH}, gI Bs j = some z → ∃ v, gI refs j = some v ∧ zVM D0 v z)  {N fr lo : Nat} {k8 : Int32 → zS → Option (Unit × zS)} (hk8 : ∀ {l2 : Int32} {d1 : Int32} {u3 : Option Value} {u4 : Option Value} {S S2 : zS} {r : Unit} , k8 l2 S = some (r, S2) → yT X fr lo 294 8 [some (.ref 209), some (.int d1), some (.int l2), u3, u4] [] (zD zTF zaF S D0) 0 0 (zQv zTF zaF D0 r S2)) (hf : 5 + 2 * (N / 5) ≤ fr) (hl : 126 + 57 * (N / 5) ≤ lo) {l2 : Int32} {d1 : Int32} {d3 : Int32} {u4 : Option Value} {S S2 : zS} {r : Unit}  (h : rF_findAll_60 gi ga vl Bs am N k8 l2 S = some (r, S2)) : yT X fr lo 294 60 [some (.ref 209), some (.int d1), some (.int l2), some (.int d3), u4] [] (zD zTF zaF S D0) 0 0 (zQv zTF zaF D0 r S2) := by
  unfold rF_findAll_60 at h
  refine xt_pure rfl rfl rfl rfl ?_
  refine xt_pure rfl rfl rfl (st1 := .int 0 :: _) rfl ?_
  refine zt_pI 2 rfl rfl rfl rfl rfl rfl ?_
  refine xt_pure rfl rfl rfl rfl ?_
  refine xt_getf rfl rfl (xmC 204 rfl) ?_
  refine xt_pure rfl rfl rfl rfl ?_
  obtain ⟨x16, hx16, h⟩ := zgi h
  refine zr_bld (l := (zA S 19)) rfl rfl (by decide) (zmA 19 rfl rfl (l := (zA S 19)) rfl) hx16 ?_
  refine xt_if rfl rfl (fun hb => ?_) (fun hb => ?_)
  · replace h := zif_t (p := x16 = (0 : Int32)) hb h
    refine xt_pure rfl rfl rfl (L1 := [_, _, some (.int (_ + 1)), _, _]) rfl ?_
    refine xt_pure rfl rfl rfl rfl ?_
    exact hk8 h
  · replace h := zif_f (p := x16 = (0 : Int32)) hb h
    refine xt_pure rfl rfl rfl rfl ?_
    refine xt_getf rfl rfl (zmr hW) ?_
    refine xt_getf rfl rfl (zmr (ymm hG 2 rfl)) ?_
    refine xt_pure rfl rfl rfl rfl ?_
    obtain ⟨x17, hx17, h⟩ := zgi h
    refine zr_ild (l := (ga 2)) rfl rfl (zmr (ymm hG 23 rfl)) hx17 ?_
    refine xt_pure rfl rfl rfl (st1 := .int 11 :: _) rfl ?_
    refine xt_ic rfl rfl (fun hb => ?_) (fun hb => ?_)
    · replace h := zif_t (p := x17 = (11 : Int32)) hb h
      refine xt_pure rfl rfl rfl (L1 := [_, _, some (.int (_ + 1)), _, _]) rfl ?_
      refine xt_pure rfl rfl rfl rfl ?_
      exact hk8 h
    · replace h := zif_f (p := x17 = (11 : Int32)) hb h
      refine xt_pure rfl rfl rfl rfl ?_
      refine xt_pure rfl rfl rfl rfl ?_
      obtain ⟨z21, S19, hc20, h⟩ := zbi h
      refine zt_Vz rfl rfl rfl rfl (xmC 176 rfl) ⟨rfl, rfl, yle rfl, yle rfl⟩ (m := 2) rfl ⟨by omega, by omega⟩ (trF_answer hW hL hG hA0 hA1 (by omega) (by omega) hc20) (fr1 := fr - 1) (lo1 := lo - 21) (fun v21 hv21 => ?_)
      rcases z21 with _ | o21
      · obtain rfl : v21 = Value.null := hv21
        replace h := zon h
        refine xt_pure rfl rfl rfl rfl ?_
        refine xt_pure rfl rfl rfl rfl ?_
        refine xt_getf rfl rfl (zmr hW) ?_
        refine xt_getf rfl rfl (zmr (ymm hG 4 rfl)) ?_
        refine xt_pure rfl rfl rfl rfl ?_
        obtain ⟨x22, hx22, h⟩ := zgi h
        refine zr_bld (l := (ga 4)) rfl rfl (by decide) (zmr (ymm hG 25 rfl)) hx22 ?_
        refine xt_if rfl rfl (fun hb => ?_) (fun hb => ?_)
        · replace h := zif_t (p := x22 = (0 : Int32)) hb h
          refine xt_pure rfl rfl rfl (st1 := .int 0 :: _) rfl ?_
          exact trF_findAll_92 hW hL hG hA0 hA1 hk8 hf hl h
        · replace h := zif_f (p := x22 = (0 : Int32)) hb h
          refine xt_pure rfl rfl rfl (st1 := .int 7 :: _) rfl ?_
          refine xt_pure rfl rfl rfl rfl ?_
          exact trF_findAll_92 hW hL hG hA0 hA1 hk8 hf hl h
      · obtain ⟨oa21, rfl, ho21⟩ := hv21
        replace h := zos h
        have hk21 := ho21
        obtain ⟨ia21, ra21, ca21, q021, q121, q221, q321, q421, q521, q621, q721⟩ := hk21
        refine xt_pure rfl rfl rfl rfl ?_
        refine xt_pure rfl rfl rfl rfl ?_
        refine xt_pure rfl rfl rfl rfl ?_
        obtain ⟨x26, S27, hc28, h⟩ := zbi h
        refine zt_Vi rfl rfl rfl rfl (xmC 176 rfl) ⟨rfl, rfl, yle rfl, yle rfl⟩ (m := 8) rfl ⟨by omega, by omega⟩ (trF_judged hW hL hG hA0 hA1 (by omega) (by omega) hc28) (fr1 := fr - 1) (lo1 := lo - 27) ?_
        refine xt_pure rfl rfl rfl rfl ?_
        exact trF_findAll_92 hW hL hG hA0 hA1 hk8 hf hl h
def rF_findAll_45 (gi : Nat → Int32) (ga : Nat → List Int32) (vl : List Int64) (Bs : List (Option zH)) (am : List Int64)  (N : Nat) (k8 : Int32 → zS → Option (Unit × zS)) (l2 : Int32) (l3 : Int32) (s1 : Int32) (s2 : Int32) (S : zS) : Option (Unit × zS) := (if zok (zA S 19) s1 ∧ (s2 = 0 ∨ s2 = 1) then (if l3 = (0 : Int32) then rF_findAll_60 gi ga vl Bs am N k8 l2 (zsA S 19 (zs (zA S 19) s1 s2)) else (if (zI S 2) = (0 : Int32) then rF_findAll_60 gi ga vl Bs am N k8 l2 (zsA S 19 (zs (zA S 19) s1 s2)) else (zb (rF_note gi ga vl Bs am N (zI S 2) l2 (-9) 0 (zI S 3) (zsA S 19 (zs (zA S 19) s1 s2))) fun _ S30 => rF_findAll_60 gi ga vl Bs am N k8 l2 S30))) else none)
theorem trF_findAll_45 {X : List Int32} {D0 : List xE} {fa : Nat} {p : Nat → Nat} {gi : Nat → Int32} {ga : Nat → List Int32} {vl : List Int64} {refs : List Value} {Bs : List (Option zH)} {am : List Int64} (hW : ((209, .inl (14, 46, .ref fa)) : xE) ∈ D0) (hL : ((235, .inr (1, am.map Value.long)) : xE) ∈ D0) (hG : ∀ e ∈ zgF fa p gi ga vl, e ∈ D0) (hA0 : ((239, .inr (10, refs)) : xE) ∈ D0) (hA1 : ∀ {j : Int32} {z : Option zH}, gI Bs j = some z → ∃ v, gI refs j = some v ∧ zVM D0 v z)  {N fr lo : Nat} {k8 : Int32 → zS → Option (Unit × zS)} (hk8 : ∀ {l2 : Int32} {d1 : Int32} {u3 : Option Value} {u4 : Option Value} {S S2 : zS} {r : Unit} , k8 l2 S = some (r, S2) → yT X fr lo 294 8 [some (.ref 209), some (.int d1), some (.int l2), u3, u4] [] (zD zTF zaF S D0) 0 0 (zQv zTF zaF D0 r S2)) (hf : 5 + 2 * (N / 5) ≤ fr) (hl : 126 + 57 * (N / 5) ≤ lo) {l2 : Int32} {l3 : Int32} {s1 : Int32} {s2 : Int32} {d1 : Int32} {u4 : Option Value} {S S2 : zS} {r : Unit}  (h : rF_findAll_45 gi ga vl Bs am N k8 l2 l3 s1 s2 S = some (r, S2)) : yT X fr lo 294 45 [some (.ref 209), some (.int d1), some (.int l2), some (.int l3), u4] [.int s2, .int s1, .ref 255] (zD zTF zaF S D0) 0 0 (zQv zTF zaF D0 r S2) := by
  unfold rF_findAll_45 at h
  obtain ⟨hg, h⟩ := zgd h
  refine zt_bst 19 rfl rfl (Or.inr ⟨rfl, by rcases hg.2 with hg | hg <;> rw [hg] <;> rfl⟩) rfl rfl (l := (zA S 19)) rfl hg.1 ?_
  refine xt_pure rfl rfl rfl rfl ?_
  refine xt_if rfl rfl (fun hb => ?_) (fun hb => ?_)
  · replace h := zif_t (p := l3 = (0 : Int32)) hb h
    exact trF_findAll_60 hW hL hG hA0 hA1 hk8 hf hl h
  · replace h := zif_f (p := l3 = (0 : Int32)) hb h
    refine xt_pure rfl rfl rfl rfl ?_
    refine zt_gI 2 rfl rfl rfl rfl (x := (zI S 2)) rfl ?_
    refine xt_if rfl rfl (fun hb => ?_) (fun hb => ?_)
    · replace h := zif_t (p := (zI S 2) = (0 : Int32)) hb h
      exact trF_findAll_60 hW hL hG hA0 hA1 hk8 hf hl h
    · replace h := zif_f (p := (zI S 2) = (0 : Int32)) hb h
      refine xt_pure rfl rfl rfl rfl ?_
      refine xt_pure rfl rfl rfl rfl ?_
      refine zt_gI 2 rfl rfl rfl rfl (x := (zI S 2)) rfl ?_
      refine xt_pure rfl rfl rfl rfl ?_
      refine xt_pure rfl rfl rfl (st1 := .int (-9) :: _) rfl ?_
      refine xt_pure rfl rfl rfl (st1 := .int 0 :: _) rfl ?_
      refine xt_pure rfl rfl rfl rfl ?_
      refine zt_gI 3 rfl rfl rfl rfl (x := (zI S 3)) rfl ?_
      obtain ⟨_, S30, hc31, h⟩ := zbi h
      refine zt_Vv rfl rfl rfl rfl (xmC 176 rfl) ⟨rfl, rfl, yle rfl, yle rfl⟩ (m := 6) rfl ⟨by omega, by omega⟩ (trF_note hW hL hG hA0 hA1 (by omega) (by omega) hc31) (fr1 := fr - 1) (lo1 := lo - 25) ?_
      exact trF_findAll_60 hW hL hG hA0 hA1 hk8 hf hl h
def rF_findAll_32 (gi : Nat → Int32) (ga : Nat → List Int32) (vl : List Int64) (Bs : List (Option zH)) (am : List Int64)  (N : Nat) (k8 : Int32 → zS → Option (Unit × zS)) (l2 : Int32) (s0 : Int32) (S : zS) : Option (Unit × zS) := (if s0 = (0 : Int32) then rF_findAll_45 gi ga vl Bs am N k8 l2 s0 l2 0 S else (zb (rF_holds gi ga vl Bs am N l2 S) fun x32 S33 => (if x32 = (0 : Int32) then rF_findAll_45 gi ga vl Bs am N k8 l2 s0 l2 0 S33 else rF_findAll_45 gi ga vl Bs am N k8 l2 s0 l2 1 S33)))
theorem trF_findAll_32 {X : List Int32} {D0 : List xE} {fa : Nat} {p : Nat → Nat} {gi : Nat → Int32} {ga : Nat → List Int32} {vl : List Int64} {refs : List Value} {Bs : List (Option zH)} {am : List Int64} (hW : ((209, .inl (14, 46, .ref fa)) : xE) ∈ D0) (hL : ((235, .inr (1, am.map Value.long)) : xE) ∈ D0) (hG : ∀ e ∈ zgF fa p gi ga vl, e ∈ D0) (hA0 : ((239, .inr (10, refs)) : xE) ∈ D0) (hA1 : ∀ {j : Int32} {z : Option zH}, gI Bs j = some z → ∃ v, gI refs j = some v ∧ zVM D0 v z)  {N fr lo : Nat} {k8 : Int32 → zS → Option (Unit × zS)} (hk8 : ∀ {l2 : Int32} {d1 : Int32} {u3 : Option Value} {u4 : Option Value} {S S2 : zS} {r : Unit} , k8 l2 S = some (r, S2) → yT X fr lo 294 8 [some (.ref 209), some (.int d1), some (.int l2), u3, u4] [] (zD zTF zaF S D0) 0 0 (zQv zTF zaF D0 r S2)) (hf : 5 + 2 * (N / 5) ≤ fr) (hl : 126 + 57 * (N / 5) ≤ lo) {l2 : Int32} {s0 : Int32} {d1 : Int32} {u3 : Option Value} {u4 : Option Value} {S S2 : zS} {r : Unit}  (h : rF_findAll_32 gi ga vl Bs am N k8 l2 s0 S = some (r, S2)) : yT X fr lo 294 32 [some (.ref 209), some (.int d1), some (.int l2), u3, u4] [.int s0] (zD zTF zaF S D0) 0 0 (zQv zTF zaF D0 r S2) := by
  unfold rF_findAll_32 at h
  refine xt_pure rfl rfl rfl (L1 := [_, _, _, _, _]) rfl ?_
  refine xt_pure rfl rfl rfl rfl ?_
  refine xt_getf rfl rfl (xmC 204 rfl) ?_
  refine xt_pure rfl rfl rfl rfl ?_
  refine xt_pure rfl rfl rfl rfl ?_
  refine xt_if rfl rfl (fun hb => ?_) (fun hb => ?_)
  · replace h := zif_t (p := s0 = (0 : Int32)) hb h
    refine xt_pure rfl rfl rfl (st1 := .int 0 :: _) rfl ?_
    exact trF_findAll_45 hW hL hG hA0 hA1 hk8 hf hl h
  · replace h := zif_f (p := s0 = (0 : Int32)) hb h
    refine xt_pure rfl rfl rfl rfl ?_
    refine xt_pure rfl rfl rfl rfl ?_
    obtain ⟨x32, S33, hc34, h⟩ := zbi h
    refine zt_Vi rfl rfl rfl rfl (xmC 176 rfl) ⟨rfl, rfl, yle rfl, yle rfl⟩ (m := 2) rfl ⟨by omega, by omega⟩ (trF_holds hW hL hG hA0 hA1 (by omega) (by omega) hc34) (fr1 := fr - 1) (lo1 := lo - 21) ?_
    refine xt_if rfl rfl (fun hb => ?_) (fun hb => ?_)
    · replace h := zif_t (p := x32 = (0 : Int32)) hb h
      refine xt_pure rfl rfl rfl (st1 := .int 0 :: _) rfl ?_
      exact trF_findAll_45 hW hL hG hA0 hA1 hk8 hf hl h
    · replace h := zif_f (p := x32 = (0 : Int32)) hb h
      refine xt_pure rfl rfl rfl (st1 := .int 1 :: _) rfl ?_
      refine xt_pure rfl rfl rfl rfl ?_
      exact trF_findAll_45 hW hL hG hA0 hA1 hk8 hf hl h
def rF_findAll_8 (gi : Nat → Int32) (ga : Nat → List Int32) (vl : List Int64) (Bs : List (Option zH)) (am : List Int64)  (N : Nat)  : Nat → Int32 → zS → Option (Unit × zS)
  | 0, _, _ => none
  | n + 1, l2, S => (if (gi 0).toInt ≤ l2.toInt then rF_findAll_109 gi ga vl Bs am N N 0 S else (zg (gI (ga 3) l2) fun x15 => (if x15 = ((-9) : Int32) then rF_findAll_32 gi ga vl Bs am N (rF_findAll_8 gi ga vl Bs am N n) l2 1 S else (zg (gI (ga 3) l2) fun x35 => (zg (gI (zA S 19) x35) fun x36 => (if x36 = (0 : Int32) then rF_findAll_32 gi ga vl Bs am N (rF_findAll_8 gi ga vl Bs am N n) l2 0 S else rF_findAll_32 gi ga vl Bs am N (rF_findAll_8 gi ga vl Bs am N n) l2 1 S))))))
theorem trF_findAll_8 {X : List Int32} {D0 : List xE} {fa : Nat} {p : Nat → Nat} {gi : Nat → Int32} {ga : Nat → List Int32} {vl : List Int64} {refs : List Value} {Bs : List (Option zH)} {am : List Int64} (hW : ((209, .inl (14, 46, .ref fa)) : xE) ∈ D0) (hL : ((235, .inr (1, am.map Value.long)) : xE) ∈ D0) (hG : ∀ e ∈ zgF fa p gi ga vl, e ∈ D0) (hA0 : ((239, .inr (10, refs)) : xE) ∈ D0) (hA1 : ∀ {j : Int32} {z : Option zH}, gI Bs j = some z → ∃ v, gI refs j = some v ∧ zVM D0 v z)  {N fr lo : Nat}   (hf : 5 + 2 * (N / 5) ≤ fr) (hl : 126 + 57 * (N / 5) ≤ lo)  : ∀ {n : Nat} {l2 : Int32} {d1 : Int32} {u3 : Option Value} {u4 : Option Value} {S S2 : zS} {r : Unit} , rF_findAll_8 gi ga vl Bs am N n l2 S = some (r, S2) → yT X fr lo 294 8 [some (.ref 209), some (.int d1), some (.int l2), u3, u4] [] (zD zTF zaF S D0) 0 0 (zQv zTF zaF D0 r S2) := by
  intro n
  induction n with
  | zero =>
    intro l2 d1 u3 u4 S S2 r  h
    have h : (none : Option (Unit × zS)) = some (r, S2) := h
    cases h
  | succ n ih =>
    intro l2 d1 u3 u4 S S2 r  h
    rw [rF_findAll_8] at h
    refine xt_pure rfl rfl rfl rfl ?_
    refine xt_pure rfl rfl rfl rfl ?_
    refine xt_getf rfl rfl (zmr hW) ?_
    refine xt_getf rfl rfl (zmr (ymm hG 0 rfl)) ?_
    refine xt_ic rfl rfl (fun hb => ?_) (fun hb => ?_)
    · replace h := zif_t (p := (gi 0).toInt ≤ l2.toInt) hb h
      refine xt_pure rfl rfl rfl (st1 := .int 0 :: _) rfl ?_
      refine xt_pure rfl rfl rfl (L1 := [_, _, _, _, _]) rfl ?_
      exact trF_findAll_109 hW hL hG hA0 hA1 hf hl h
    · replace h := zif_f (p := (gi 0).toInt ≤ l2.toInt) hb h
      refine xt_pure rfl rfl rfl rfl ?_
      refine xt_getf rfl rfl (zmr hW) ?_
      refine xt_getf rfl rfl (zmr (ymm hG 3 rfl)) ?_
      refine xt_pure rfl rfl rfl rfl ?_
      obtain ⟨x15, hx15, h⟩ := zgi h
      refine zr_ild (l := (ga 3)) rfl rfl (zmr (ymm hG 24 rfl)) hx15 ?_
      refine xt_pure rfl rfl rfl (st1 := .int (-9) :: _) rfl ?_
      refine xt_ic rfl rfl (fun hb => ?_) (fun hb => ?_)
      · replace h := zif_t (p := x15 = ((-9) : Int32)) hb h
        refine xt_pure rfl rfl rfl (st1 := .int 1 :: _) rfl ?_
        refine xt_pure rfl rfl rfl rfl ?_
        exact trF_findAll_32 hW hL hG hA0 hA1 (fun h => ih h) hf hl h
      · replace h := zif_f (p := x15 = ((-9) : Int32)) hb h
        refine xt_pure rfl rfl rfl rfl ?_
        refine xt_getf rfl rfl (xmC 204 rfl) ?_
        refine xt_pure rfl rfl rfl rfl ?_
        refine xt_getf rfl rfl (zmr hW) ?_
        refine xt_getf rfl rfl (zmr (ymm hG 3 rfl)) ?_
        refine xt_pure rfl rfl rfl rfl ?_
        obtain ⟨x35, hx35, h⟩ := zgi h
        refine zr_ild (l := (ga 3)) rfl rfl (zmr (ymm hG 24 rfl)) hx35 ?_
        obtain ⟨x36, hx36, h⟩ := zgi h
        refine zr_bld (l := (zA S 19)) rfl rfl (by decide) (zmA 19 rfl rfl (l := (zA S 19)) rfl) hx36 ?_
        refine xt_if rfl rfl (fun hb => ?_) (fun hb => ?_)
        · replace h := zif_t (p := x36 = (0 : Int32)) hb h
          refine xt_pure rfl rfl rfl (st1 := .int 0 :: _) rfl ?_
          exact trF_findAll_32 hW hL hG hA0 hA1 (fun h => ih h) hf hl h
        · replace h := zif_f (p := x36 = (0 : Int32)) hb h
          refine xt_pure rfl rfl rfl (st1 := .int 1 :: _) rfl ?_
          refine xt_pure rfl rfl rfl rfl ?_
          exact trF_findAll_32 hW hL hG hA0 hA1 (fun h => ih h) hf hl h
def rF_findAll (gi : Nat → Int32) (ga : Nat → List Int32) (vl : List Int64) (Bs : List (Option zH)) (am : List Int64)  (N : Nat) (v1 : Int32) (S : zS) : Option (Unit × zS) := (zb (rB_begin N v1 S) fun _ S2 => rF_findAll_8 gi ga vl Bs am N N 0 (zsI S2 11 0))
theorem trF_findAll {X : List Int32} {D0 : List xE} {fa : Nat} {p : Nat → Nat} {gi : Nat → Int32} {ga : Nat → List Int32} {vl : List Int64} {refs : List Value} {Bs : List (Option zH)} {am : List Int64} (hW : ((209, .inl (14, 46, .ref fa)) : xE) ∈ D0) (hL : ((235, .inr (1, am.map Value.long)) : xE) ∈ D0) (hG : ∀ e ∈ zgF fa p gi ga vl, e ∈ D0) (hA0 : ((239, .inr (10, refs)) : xE) ∈ D0) (hA1 : ∀ {j : Int32} {z : Option zH}, gI Bs j = some z → ∃ v, gI refs j = some v ∧ zVM D0 v z)  {N fr lo : Nat} (hf : 5 + 2 * (N / 5) ≤ fr) (hl : 126 + 57 * (N / 5) ≤ lo) {Da : List xE} {v1 : Int32} (hbeg : ∀ {S S2 : zS} {r : Unit}, rB_begin N v1 S = some (r, S2) → yK X 0 0 295 [.ref 209, .int v1] (zD zTF zaF S Da) 0 0 (zQv zTF zaF D0 r S2)) {S S2 : zS} {r : Unit}  (h : rF_findAll gi ga vl Bs am N v1 S = some (r, S2)) : yK X fr lo 294 [.ref 209, .int v1] (zD zTF zaF S Da) 0 0 (zQv zTF zaF D0 r S2) := by
  unfold rF_findAll at h
  refine yK.of rfl (yle rfl) (L := [_, _, _, _, _]) rfl ?_
  refine xt_pure rfl rfl rfl rfl ?_
  refine xt_pure rfl rfl rfl rfl ?_
  obtain ⟨_, S2, hc3, h⟩ := zbi h
  refine zt_Vv rfl rfl rfl rfl (xmC 176 rfl) ⟨rfl, rfl, yle rfl, yle rfl⟩ (m := 3) rfl ⟨by omega, by omega⟩ (hbeg hc3) (fr1 := 0) (lo1 := 0) ?_
  refine xt_pure rfl rfl rfl rfl ?_
  refine xt_pure rfl rfl rfl (st1 := .int 0 :: _) rfl ?_
  refine zt_pI 11 rfl rfl rfl rfl rfl rfl ?_
  refine xt_pure rfl rfl rfl (st1 := .int 0 :: _) rfl ?_
  refine xt_pure rfl rfl rfl (L1 := [_, _, _, _, _]) rfl ?_
  exact trF_findAll_8 hW hL hG hA0 hA1 hf hl h
