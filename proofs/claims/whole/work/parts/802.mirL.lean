/-! MIRRORS: the disk, the class -/
def zTK : List (Nat × Nat × Nat) := [(0, 0, 2), (0, 0, 4), (0, 0, 5), (0, 0, 6), (3, 0, 0), (3, 0, 0)]
def zaK (i : Nat) : Nat := ([206, 206, 206, 206, 207, 208] : List Nat).getD i 0
def cKd_bytesOf (np : Int32) (As : List (Option zO))  (N : Nat) (v0 : Int32) (S : zS) : Option (Int32 × zS) := (if v0 = 1 then some (4, S) else if v0 = 2 then some (8, S) else if v0 = 3 then some (2, S) else some (1, S))
set_option maxRecDepth 20000 in
theorem tcKd_bytesOf {X : List Int32} {D0 : List xE} {da fa aa : Nat} {np : Int32} {refs : List Value} {As : List (Option zO)} (hd1 : ((da, .inl (1, 1, .ref fa)) : xE) ∈ D0) (hd2 : ((da, .inl (1, 2, .ref aa)) : xE) ∈ D0) (hf0 : ((fa, .inl (2, 0, .int np)) : xE) ∈ D0) (hA0 : ((aa, .inr (7, refs)) : xE) ∈ D0) (hA1 : ∀ {j : Int32} {z : Option zO}, gI As j = some z → ∃ v, gI refs j = some v ∧ zVC D0 v z)  {N fr lo : Nat} (hf : 0 ≤ fr) (hl : 0 ≤ lo) {v0 : Int32} {S S2 : zS} {r : Int32}  (h : cKd_bytesOf np As N v0 S = some (r, S2)) : yK X fr lo 126 [.int v0] (zD zTK zaK S D0) 0 0 (zQi zTK zaK D0 r S2) := by
  unfold cKd_bytesOf at h
  refine yK.of rfl (yle rfl) (L := [_]) rfl ?_
  refine xt_pure rfl rfl rfl rfl ?_
  by_cases hw1 : v0 = 1
  · replace h := zif_t (p := v0 = 1) hw1 h
    refine zt_sw (tg := 2) rfl rfl rfl hw1 rfl ?_
    refine xt_pure rfl rfl rfl (st1 := .int 4 :: _) rfl ?_
    cases h
    exact xt_iret rfl rfl rfl rfl ⟨rfl, rfl⟩
  replace h := zif_f (p := v0 = 1) hw1 h
  by_cases hw2 : v0 = 2
  · replace h := zif_t (p := v0 = 2) hw2 h
    refine zt_sw (tg := 4) rfl rfl rfl hw2 rfl ?_
    refine xt_pure rfl rfl rfl (st1 := .int 8 :: _) rfl ?_
    cases h
    exact xt_iret rfl rfl rfl rfl ⟨rfl, rfl⟩
  replace h := zif_f (p := v0 = 2) hw2 h
  by_cases hw3 : v0 = 3
  · replace h := zif_t (p := v0 = 3) hw3 h
    refine zt_sw (tg := 6) rfl rfl rfl hw3 rfl ?_
    refine xt_pure rfl rfl rfl (st1 := .int 2 :: _) rfl ?_
    cases h
    exact xt_iret rfl rfl rfl rfl ⟨rfl, rfl⟩
  replace h := zif_f (p := v0 = 3) hw3 h
  have hxhw1 : ¬ v0.toInt = 1 := fun h => hw1 (by rw [xi32_eq, h]; rfl)
  have hxhw2 : ¬ v0.toInt = 2 := fun h => hw2 (by rw [xi32_eq, h]; rfl)
  have hxhw3 : ¬ v0.toInt = 3 := fun h => hw3 (by rw [xi32_eq, h]; rfl)
  refine yt_tsd rfl rfl (by omega) rfl ?_
  refine xt_pure rfl rfl rfl (st1 := .int 1 :: _) rfl ?_
  cases h
  exact xt_iret rfl rfl rfl rfl ⟨rfl, rfl⟩
def cKd_layNumber_4 (np : Int32) (As : List (Option zO))  (N : Nat)  : Nat → Int64 → Int32 → zS → Option (Unit × zS)
  | 0, _, _, _ => none
  | n + 1, l1, l4, S => (if l4.toInt < 0 then some ((), S) else (if (Int32.ofNat (zA S 5).length).toInt ≤ (zI S 1).toInt then (cKd_layNumber_4 np As N n) l1 (l4 + (-1)) S else (if zok (zA S 5) (zI S 1) then (cKd_layNumber_4 np As N n) l1 (l4 + (-1)) (zsI (zsA S 5 (zs (zA S 5) (zI S 1) ((l1 >>> ((8 * l4).toInt64 &&& 63)).toInt32 &&& 255))) 1 ((zI S 1) + 1)) else none)))
theorem tcKd_layNumber_4 {X : List Int32} {D0 : List xE} {da fa aa : Nat} {np : Int32} {refs : List Value} {As : List (Option zO)} (hd1 : ((da, .inl (1, 1, .ref fa)) : xE) ∈ D0) (hd2 : ((da, .inl (1, 2, .ref aa)) : xE) ∈ D0) (hf0 : ((fa, .inl (2, 0, .int np)) : xE) ∈ D0) (hA0 : ((aa, .inr (7, refs)) : xE) ∈ D0) (hA1 : ∀ {j : Int32} {z : Option zO}, gI As j = some z → ∃ v, gI refs j = some v ∧ zVC D0 v z)  {N fr lo : Nat}   (hf : 0 ≤ fr) (hl : 0 ≤ lo)  : ∀ {n : Nat} {l1 : Int64} {l4 : Int32} {d3 : Int32} {S S2 : zS} {r : Unit} , cKd_layNumber_4 np As N n l1 l4 S = some (r, S2) → yT X fr lo 123 4 [some (.ref 206), some (.long l1), none, some (.int d3), some (.int l4)] [] (zD zTK zaK S D0) 0 0 (zQv zTK zaK D0 r S2) := by
  intro n
  induction n with
  | zero =>
    intro l1 l4 d3 S S2 r  h
    have h : (none : Option (Unit × zS)) = some (r, S2) := h
    cases h
  | succ n ih =>
    intro l1 l4 d3 S S2 r  h
    rw [cKd_layNumber_4] at h
    refine xt_pure rfl rfl rfl rfl ?_
    refine xt_if rfl rfl (fun hb => ?_) (fun hb => ?_)
    · replace h := zif_t (p := l4.toInt < 0) hb h
      cases h
      exact xt_vret rfl rfl rfl ⟨rfl, rfl⟩
    · replace h := zif_f (p := l4.toInt < 0) hb h
      refine xt_pure rfl rfl rfl rfl ?_
      refine zt_gI 1 rfl rfl rfl rfl (x := (zI S 1)) rfl ?_
      refine xt_pure rfl rfl rfl rfl ?_
      refine xt_getf rfl rfl (xmC 175 rfl) ?_
      refine zr_lenI (l := (zA S 5)) rfl rfl (zmA 5 rfl rfl (l := (zA S 5)) rfl) rfl ?_
      refine xt_ic rfl rfl (fun hb => ?_) (fun hb => ?_)
      · replace h := zif_t (p := (Int32.ofNat (zA S 5).length).toInt ≤ (zI S 1).toInt) hb h
        refine xt_pure rfl rfl rfl (L1 := [_, _, _, _, some (.int (_ + (-1)))]) rfl ?_
        refine xt_pure rfl rfl rfl rfl ?_
        exact ih h
      · replace h := zif_f (p := (Int32.ofNat (zA S 5).length).toInt ≤ (zI S 1).toInt) hb h
        refine xt_pure rfl rfl rfl rfl ?_
        refine xt_getf rfl rfl (xmC 175 rfl) ?_
        refine xt_pure rfl rfl rfl rfl ?_
        refine zt_gI 1 rfl rfl rfl rfl (x := (zI S 1)) rfl ?_
        refine xt_pure rfl rfl rfl rfl ?_
        refine xt_pure rfl rfl rfl (st1 := .int 8 :: _) rfl ?_
        refine xt_pure rfl rfl rfl rfl ?_
        refine xt_pure rfl rfl rfl rfl ?_
        refine xt_pure rfl rfl rfl rfl ?_
        refine xt_pure rfl rfl rfl rfl ?_
        refine xt_pure rfl rfl rfl (st1 := .int 255 :: _) rfl ?_
        refine xt_pure rfl rfl rfl rfl ?_
        obtain ⟨hg, h⟩ := zgd h
        refine zt_ist 5 rfl rfl rfl rfl (l := (zA S 5)) rfl hg ?_
        refine xt_pure rfl rfl rfl rfl ?_
        refine xt_pure rfl rfl rfl rfl ?_
        refine zt_gI 1 rfl rfl rfl rfl (x := (zI S 1)) rfl ?_
        refine xt_pure rfl rfl rfl (st1 := .int 1 :: _) rfl ?_
        refine xt_pure rfl rfl rfl rfl ?_
        refine zt_pI 1 rfl rfl rfl rfl rfl rfl ?_
        refine xt_pure rfl rfl rfl (L1 := [_, _, _, _, some (.int (_ + (-1)))]) rfl ?_
        refine xt_pure rfl rfl rfl rfl ?_
        exact ih h
def cKd_layNumber (np : Int32) (As : List (Option zO))  (N : Nat) (v1 : Int64) (v3 : Int32) (S : zS) : Option (Unit × zS) := cKd_layNumber_4 np As N N v1 (v3 - 1) S
theorem tcKd_layNumber {X : List Int32} {D0 : List xE} {da fa aa : Nat} {np : Int32} {refs : List Value} {As : List (Option zO)} (hd1 : ((da, .inl (1, 1, .ref fa)) : xE) ∈ D0) (hd2 : ((da, .inl (1, 2, .ref aa)) : xE) ∈ D0) (hf0 : ((fa, .inl (2, 0, .int np)) : xE) ∈ D0) (hA0 : ((aa, .inr (7, refs)) : xE) ∈ D0) (hA1 : ∀ {j : Int32} {z : Option zO}, gI As j = some z → ∃ v, gI refs j = some v ∧ zVC D0 v z)  {N fr lo : Nat} (hf : 0 ≤ fr) (hl : 0 ≤ lo) {v1 : Int64} {v3 : Int32} {S S2 : zS} {r : Unit}  (h : cKd_layNumber np As N v1 v3 S = some (r, S2)) : yK X fr lo 123 [.ref 206, .long v1, .int v3] (zD zTK zaK S D0) 0 0 (zQv zTK zaK D0 r S2) := by
  unfold cKd_layNumber at h
  refine yK.of rfl (yle rfl) (L := [_, _, _, _, _]) rfl ?_
  refine xt_pure rfl rfl rfl rfl ?_
  refine xt_pure rfl rfl rfl (st1 := .int 1 :: _) rfl ?_
  refine xt_pure rfl rfl rfl rfl ?_
  refine xt_pure rfl rfl rfl (L1 := [_, _, _, _, _]) rfl ?_
  exact tcKd_layNumber_4 hd1 hd2 hf0 hA0 hA1 hf hl h
def cKd_hash_4 (np : Int32) (As : List (Option zO))  (N : Nat)  : Nat → Int32 → Int32 → zS → Option (Int32 × zS)
  | 0, _, _, _ => none
  | n + 1, l1, l2, S => (if (zI S 1).toInt ≤ l2.toInt then some (l1, S) else (zg (gI (zA S 5) l2) fun x1 => (cKd_hash_4 np As N n) ((l1 * 31) + x1) (l2 + 1) S))
theorem tcKd_hash_4 {X : List Int32} {D0 : List xE} {da fa aa : Nat} {np : Int32} {refs : List Value} {As : List (Option zO)} (hd1 : ((da, .inl (1, 1, .ref fa)) : xE) ∈ D0) (hd2 : ((da, .inl (1, 2, .ref aa)) : xE) ∈ D0) (hf0 : ((fa, .inl (2, 0, .int np)) : xE) ∈ D0) (hA0 : ((aa, .inr (7, refs)) : xE) ∈ D0) (hA1 : ∀ {j : Int32} {z : Option zO}, gI As j = some z → ∃ v, gI refs j = some v ∧ zVC D0 v z)  {N fr lo : Nat}   (hf : 0 ≤ fr) (hl : 0 ≤ lo)  : ∀ {n : Nat} {l1 : Int32} {l2 : Int32}  {S S2 : zS} {r : Int32} , cKd_hash_4 np As N n l1 l2 S = some (r, S2) → yT X fr lo 128 4 [some (.ref 206), some (.int l1), some (.int l2)] [] (zD zTK zaK S D0) 0 0 (zQi zTK zaK D0 r S2) := by
  intro n
  induction n with
  | zero =>
    intro l1 l2  S S2 r  h
    have h : (none : Option (Int32 × zS)) = some (r, S2) := h
    cases h
  | succ n ih =>
    intro l1 l2  S S2 r  h
    rw [cKd_hash_4] at h
    refine xt_pure rfl rfl rfl rfl ?_
    refine xt_pure rfl rfl rfl rfl ?_
    refine zt_gI 1 rfl rfl rfl rfl (x := (zI S 1)) rfl ?_
    refine xt_ic rfl rfl (fun hb => ?_) (fun hb => ?_)
    · replace h := zif_t (p := (zI S 1).toInt ≤ l2.toInt) hb h
      refine xt_pure rfl rfl rfl rfl ?_
      cases h
      exact xt_iret rfl rfl rfl rfl ⟨rfl, rfl⟩
    · replace h := zif_f (p := (zI S 1).toInt ≤ l2.toInt) hb h
      refine xt_pure rfl rfl rfl rfl ?_
      refine xt_pure rfl rfl rfl (st1 := .int 31 :: _) rfl ?_
      refine xt_pure rfl rfl rfl rfl ?_
      refine xt_pure rfl rfl rfl rfl ?_
      refine xt_getf rfl rfl (xmC 175 rfl) ?_
      refine xt_pure rfl rfl rfl rfl ?_
      obtain ⟨x1, hx1, h⟩ := zgi h
      refine zr_ild (l := (zA S 5)) rfl rfl (zmA 5 rfl rfl (l := (zA S 5)) rfl) hx1 ?_
      refine xt_pure rfl rfl rfl rfl ?_
      refine xt_pure rfl rfl rfl (L1 := [_, _, _]) rfl ?_
      refine xt_pure rfl rfl rfl (L1 := [_, _, some (.int (_ + 1))]) rfl ?_
      refine xt_pure rfl rfl rfl rfl ?_
      exact ih h
def cKd_hash (np : Int32) (As : List (Option zO))  (N : Nat)  (S : zS) : Option (Int32 × zS) := cKd_hash_4 np As N N 17 0 S
theorem tcKd_hash {X : List Int32} {D0 : List xE} {da fa aa : Nat} {np : Int32} {refs : List Value} {As : List (Option zO)} (hd1 : ((da, .inl (1, 1, .ref fa)) : xE) ∈ D0) (hd2 : ((da, .inl (1, 2, .ref aa)) : xE) ∈ D0) (hf0 : ((fa, .inl (2, 0, .int np)) : xE) ∈ D0) (hA0 : ((aa, .inr (7, refs)) : xE) ∈ D0) (hA1 : ∀ {j : Int32} {z : Option zO}, gI As j = some z → ∃ v, gI refs j = some v ∧ zVC D0 v z)  {N fr lo : Nat} (hf : 0 ≤ fr) (hl : 0 ≤ lo)  {S S2 : zS} {r : Int32}  (h : cKd_hash np As N  S = some (r, S2)) : yK X fr lo 128 [.ref 206] (zD zTK zaK S D0) 0 0 (zQi zTK zaK D0 r S2) := by
  unfold cKd_hash at h
  refine yK.of rfl (yle rfl) (L := [_, _, _]) rfl ?_
  refine xt_pure rfl rfl rfl (st1 := .int 17 :: _) rfl ?_
  refine xt_pure rfl rfl rfl (L1 := [_, _, _]) rfl ?_
  refine xt_pure rfl rfl rfl (st1 := .int 0 :: _) rfl ?_
  refine xt_pure rfl rfl rfl (L1 := [_, _, _]) rfl ?_
  exact tcKd_hash_4 hd1 hd2 hf0 hA0 hA1 hf hl h
def cKd_layItem_16 (np : Int32) (As : List (Option zO))  (N : Nat)  (ol1 : zO) (l3 : Int64) (s0 : Int32) (S : zS) : Option (Unit × zS) := (if s0 ≠ (0 : Int32) then (if l3 ≠ ((-9) : Int64) then (zb (cKd_bytesOf np As N ol1.1 S) fun x2 S3 => (zb (cKd_layNumber np As N (l3 + 1) x2 S3) fun _ S6 => some ((), S6))) else (zb (cKd_bytesOf np As N ol1.1 S) fun x8 S9 => (zb (cKd_layNumber np As N 0 x8 S9) fun _ S12 => some ((), S12)))) else (zb (cKd_bytesOf np As N ol1.1 S) fun x14 S15 => (zb (cKd_layNumber np As N l3 x14 S15) fun _ S18 => some ((), S18))))
theorem tcKd_layItem_16 {X : List Int32} {D0 : List xE} {da fa aa : Nat} {np : Int32} {refs : List Value} {As : List (Option zO)} (hd1 : ((da, .inl (1, 1, .ref fa)) : xE) ∈ D0) (hd2 : ((da, .inl (1, 2, .ref aa)) : xE) ∈ D0) (hf0 : ((fa, .inl (2, 0, .int np)) : xE) ∈ D0) (hA0 : ((aa, .inr (7, refs)) : xE) ∈ D0) (hA1 : ∀ {j : Int32} {z : Option zO}, gI As j = some z → ∃ v, gI refs j = some v ∧ zVC D0 v z)  {N fr lo : Nat}   (hf : 1 ≤ fr) (hl : 24 ≤ lo) {oal1 : Nat} {ol1 : zO}  {l3 : Int64} {s0 : Int32} {d2 : Int32} {S S2 : zS} {r : Unit} (hol1 : zOC D0 oal1 ol1) (h : cKd_layItem_16 np As N ol1 l3 s0 S = some (r, S2)) : yT X fr lo 125 16 [some (.ref 206), some (.ref oal1), some (.int d2), some (.long l3), none, none] [.int s0] (zD zTK zaK S D0) 0 0 (zQv zTK zaK D0 r S2) := by
  unfold cKd_layItem_16 at h
  have hkl1 := hol1
  obtain ⟨ial1, ral1, rrl1, q0l1, q1l1, q2l1, q3l1, q4l1, q5l1, q6l1⟩ := hkl1
  refine xt_pure rfl rfl rfl (L1 := [_, _, _, _, _, _]) rfl ?_
  refine xt_pure rfl rfl rfl rfl ?_
  refine xt_pure rfl rfl rfl rfl ?_
  refine xt_if rfl rfl (fun hb => ?_) (fun hb => ?_)
  · replace h := zif_t (p := s0 ≠ (0 : Int32)) hb h
    refine xt_pure rfl rfl rfl rfl ?_
    refine xt_pure rfl rfl rfl (st1 := .long (-9) :: _) rfl ?_
    refine zt_lc rfl rfl rfl (fun hb => ?_) (fun hb => ?_)
    · replace h := zif_t (p := l3 ≠ ((-9) : Int64)) hb h
      refine xt_pure rfl rfl rfl rfl ?_
      refine xt_pure rfl rfl rfl (st1 := .long 1 :: _) rfl ?_
      refine xt_pure rfl rfl rfl rfl ?_
      refine xt_pure rfl rfl rfl rfl ?_
      refine xt_getf rfl rfl (zmr q0l1) ?_
      obtain ⟨x2, S3, hc4, h⟩ := zbi h
      refine zt_Si rfl rfl (by decide) rfl rfl ⟨rfl, yle rfl, yle rfl⟩ (m := 1) rfl ⟨by omega, by omega⟩ (tcKd_bytesOf hd1 hd2 hf0 hA0 hA1 (by omega) (by omega) hc4) (fr1 := fr - 1) (lo1 := lo - 20) ?_
      obtain ⟨_, S6, hc7, h⟩ := zbi h
      refine zt_Vv rfl rfl rfl rfl (xmC 173 rfl) ⟨rfl, rfl, yle rfl, yle rfl⟩ (m := 5) rfl ⟨by omega, by omega⟩ (tcKd_layNumber hd1 hd2 hf0 hA0 hA1 (by omega) (by omega) hc7) (fr1 := fr - 1) (lo1 := lo - 24) ?_
      cases h
      exact xt_vret rfl rfl rfl ⟨rfl, rfl⟩
    · replace h := zif_f (p := l3 ≠ ((-9) : Int64)) hb h
      refine xt_pure rfl rfl rfl (st1 := .long 0 :: _) rfl ?_
      refine xt_pure rfl rfl rfl rfl ?_
      refine xt_pure rfl rfl rfl rfl ?_
      refine xt_getf rfl rfl (zmr q0l1) ?_
      obtain ⟨x8, S9, hc10, h⟩ := zbi h
      refine zt_Si rfl rfl (by decide) rfl rfl ⟨rfl, yle rfl, yle rfl⟩ (m := 1) rfl ⟨by omega, by omega⟩ (tcKd_bytesOf hd1 hd2 hf0 hA0 hA1 (by omega) (by omega) hc10) (fr1 := fr - 1) (lo1 := lo - 20) ?_
      obtain ⟨_, S12, hc13, h⟩ := zbi h
      refine zt_Vv rfl rfl rfl rfl (xmC 173 rfl) ⟨rfl, rfl, yle rfl, yle rfl⟩ (m := 5) rfl ⟨by omega, by omega⟩ (tcKd_layNumber hd1 hd2 hf0 hA0 hA1 (by omega) (by omega) hc13) (fr1 := fr - 1) (lo1 := lo - 24) ?_
      cases h
      exact xt_vret rfl rfl rfl ⟨rfl, rfl⟩
  · replace h := zif_f (p := s0 ≠ (0 : Int32)) hb h
    refine xt_pure rfl rfl rfl rfl ?_
    refine xt_pure rfl rfl rfl rfl ?_
    refine xt_pure rfl rfl rfl rfl ?_
    refine xt_getf rfl rfl (zmr q0l1) ?_
    obtain ⟨x14, S15, hc16, h⟩ := zbi h
    refine zt_Si rfl rfl (by decide) rfl rfl ⟨rfl, yle rfl, yle rfl⟩ (m := 1) rfl ⟨by omega, by omega⟩ (tcKd_bytesOf hd1 hd2 hf0 hA0 hA1 (by omega) (by omega) hc16) (fr1 := fr - 1) (lo1 := lo - 20) ?_
    obtain ⟨_, S18, hc19, h⟩ := zbi h
    refine zt_Vv rfl rfl rfl rfl (xmC 173 rfl) ⟨rfl, rfl, yle rfl, yle rfl⟩ (m := 5) rfl ⟨by omega, by omega⟩ (tcKd_layNumber hd1 hd2 hf0 hA0 hA1 (by omega) (by omega) hc19) (fr1 := fr - 1) (lo1 := lo - 24) ?_
    cases h
    exact xt_vret rfl rfl rfl ⟨rfl, rfl⟩
def cKd_layItem (np : Int32) (As : List (Option zO))  (N : Nat) (op1 : zO) (v2 : Int32) (S : zS) : Option (Unit × zS) := (zg (gI op1.2.2.1 v2) fun x1 => (if op1.1 = (5 : Int32) then cKd_layItem_16 np As N op1 x1 1 S else (if op1.1 ≠ (6 : Int32) then cKd_layItem_16 np As N op1 x1 0 S else cKd_layItem_16 np As N op1 x1 1 S)))
theorem tcKd_layItem {X : List Int32} {D0 : List xE} {da fa aa : Nat} {np : Int32} {refs : List Value} {As : List (Option zO)} (hd1 : ((da, .inl (1, 1, .ref fa)) : xE) ∈ D0) (hd2 : ((da, .inl (1, 2, .ref aa)) : xE) ∈ D0) (hf0 : ((fa, .inl (2, 0, .int np)) : xE) ∈ D0) (hA0 : ((aa, .inr (7, refs)) : xE) ∈ D0) (hA1 : ∀ {j : Int32} {z : Option zO}, gI As j = some z → ∃ v, gI refs j = some v ∧ zVC D0 v z)  {N fr lo : Nat} (hf : 1 ≤ fr) (hl : 24 ≤ lo) {oap1 : Nat} {op1 : zO}  {v2 : Int32} {S S2 : zS} {r : Unit} (hop1 : zOC D0 oap1 op1) (h : cKd_layItem np As N op1 v2 S = some (r, S2)) : yK X fr lo 125 [.ref 206, .ref oap1, .int v2] (zD zTK zaK S D0) 0 0 (zQv zTK zaK D0 r S2) := by
  unfold cKd_layItem at h
  have hkp1 := hop1
  obtain ⟨iap1, rap1, rrp1, q0p1, q1p1, q2p1, q3p1, q4p1, q5p1, q6p1⟩ := hkp1
  refine yK.of rfl (yle rfl) (L := [_, _, _, _, _, _]) rfl ?_
  refine xt_pure rfl rfl rfl rfl ?_
  refine xt_getf rfl rfl (zmr q2p1) ?_
  refine xt_pure rfl rfl rfl rfl ?_
  obtain ⟨x1, hx1, h⟩ := zgi h
  refine zr_lld (l := op1.2.2.1) rfl rfl (zmr q4p1) hx1 ?_
  refine xt_pure rfl rfl rfl (L1 := [_, _, _, _, _, _]) rfl ?_
  refine xt_pure rfl rfl rfl rfl ?_
  refine xt_getf rfl rfl (zmr q0p1) ?_
  refine xt_pure rfl rfl rfl (st1 := .int 5 :: _) rfl ?_
  refine xt_ic rfl rfl (fun hb => ?_) (fun hb => ?_)
  · replace h := zif_t (p := op1.1 = (5 : Int32)) hb h
    refine xt_pure rfl rfl rfl (st1 := .int 1 :: _) rfl ?_
    refine xt_pure rfl rfl rfl rfl ?_
    exact tcKd_layItem_16 hd1 hd2 hf0 hA0 hA1 hf hl hop1 h
  · replace h := zif_f (p := op1.1 = (5 : Int32)) hb h
    refine xt_pure rfl rfl rfl rfl ?_
    refine xt_getf rfl rfl (zmr q0p1) ?_
    refine xt_pure rfl rfl rfl (st1 := .int 6 :: _) rfl ?_
    refine xt_ic rfl rfl (fun hb => ?_) (fun hb => ?_)
    · replace h := zif_t (p := op1.1 ≠ (6 : Int32)) hb h
      refine xt_pure rfl rfl rfl (st1 := .int 0 :: _) rfl ?_
      exact tcKd_layItem_16 hd1 hd2 hf0 hA0 hA1 hf hl hop1 h
    · replace h := zif_f (p := op1.1 ≠ (6 : Int32)) hb h
      refine xt_pure rfl rfl rfl (st1 := .int 1 :: _) rfl ?_
      refine xt_pure rfl rfl rfl rfl ?_
      exact tcKd_layItem_16 hd1 hd2 hf0 hA0 hA1 hf hl hop1 h
def cKd_layCells_15 (np : Int32) (As : List (Option zO))  (N : Nat)  : Nat → List Int32 → Int32 → zS → Option (Unit × zS)
  | 0, _, _, _ => none
  | n + 1, ol1, l2, S => (if (Int32.ofNat ol1.length).toInt ≤ l2.toInt then some ((), S) else (zg (gI ol1 l2) fun x7 => (zb (cKd_layNumber np As N x7.toInt64 4 S) fun _ S9 => (cKd_layCells_15 np As N n) ol1 (l2 + 1) S9)))
theorem tcKd_layCells_15 {X : List Int32} {D0 : List xE} {da fa aa : Nat} {np : Int32} {refs : List Value} {As : List (Option zO)} (hd1 : ((da, .inl (1, 1, .ref fa)) : xE) ∈ D0) (hd2 : ((da, .inl (1, 2, .ref aa)) : xE) ∈ D0) (hf0 : ((fa, .inl (2, 0, .int np)) : xE) ∈ D0) (hA0 : ((aa, .inr (7, refs)) : xE) ∈ D0) (hA1 : ∀ {j : Int32} {z : Option zO}, gI As j = some z → ∃ v, gI refs j = some v ∧ zVC D0 v z)  {N fr lo : Nat}   (hf : 1 ≤ fr) (hl : 24 ≤ lo)  : ∀ {n : Nat} {oal1 : Nat} {ol1 : List Int32}  {l2 : Int32}  {S S2 : zS} {r : Unit} (hol1 : zOW D0 oal1 ol1), cKd_layCells_15 np As N n ol1 l2 S = some (r, S2) → yT X fr lo 124 15 [some (.ref 206), some (.ref oal1), some (.int l2)] [] (zD zTK zaK S D0) 0 0 (zQv zTK zaK D0 r S2) := by
  intro n
  induction n with
  | zero =>
    intro oal1 ol1 l2  S S2 r hol1  h
    have h : (none : Option (Unit × zS)) = some (r, S2) := h
    cases h
  | succ n ih =>
    intro oal1 ol1 l2  S S2 r hol1  h
    rw [cKd_layCells_15] at h
    refine xt_pure rfl rfl rfl rfl ?_
    refine xt_pure rfl rfl rfl rfl ?_
    refine zr_lenI (l := ol1) rfl rfl (zmr hol1) rfl ?_
    refine xt_ic rfl rfl (fun hb => ?_) (fun hb => ?_)
    · replace h := zif_t (p := (Int32.ofNat ol1.length).toInt ≤ l2.toInt) hb h
      cases h
      exact xt_vret rfl rfl rfl ⟨rfl, rfl⟩
    · replace h := zif_f (p := (Int32.ofNat ol1.length).toInt ≤ l2.toInt) hb h
      refine xt_pure rfl rfl rfl rfl ?_
      refine xt_pure rfl rfl rfl rfl ?_
      refine xt_pure rfl rfl rfl rfl ?_
      obtain ⟨x7, hx7, h⟩ := zgi h
      refine zr_ild (l := ol1) rfl rfl (zmr hol1) hx7 ?_
      refine xt_pure rfl rfl rfl rfl ?_
      refine xt_pure rfl rfl rfl (st1 := .int 4 :: _) rfl ?_
      obtain ⟨_, S9, hc10, h⟩ := zbi h
      refine zt_Vv rfl rfl rfl rfl (xmC 173 rfl) ⟨rfl, rfl, yle rfl, yle rfl⟩ (m := 5) rfl ⟨by omega, by omega⟩ (tcKd_layNumber hd1 hd2 hf0 hA0 hA1 (by omega) (by omega) hc10) (fr1 := fr - 1) (lo1 := lo - 24) ?_
      refine xt_pure rfl rfl rfl (L1 := [_, _, some (.int (_ + 1))]) rfl ?_
      refine xt_pure rfl rfl rfl rfl ?_
      exact ih hol1 h
def cKd_layCells (np : Int32) (As : List (Option zO))  (N : Nat) (zp1 : Option (List Int32)) (S : zS) : Option (Unit × zS) := (zo zp1 ((zb (cKd_layNumber np As N 255 1 S) fun _ S2 => some ((), S2))) fun op1 => (zb (cKd_layNumber np As N ((Int32.ofNat op1.length).toInt64) 1 S) fun _ S5 => cKd_layCells_15 np As N N op1 0 S5))
theorem tcKd_layCells {X : List Int32} {D0 : List xE} {da fa aa : Nat} {np : Int32} {refs : List Value} {As : List (Option zO)} (hd1 : ((da, .inl (1, 1, .ref fa)) : xE) ∈ D0) (hd2 : ((da, .inl (1, 2, .ref aa)) : xE) ∈ D0) (hf0 : ((fa, .inl (2, 0, .int np)) : xE) ∈ D0) (hA0 : ((aa, .inr (7, refs)) : xE) ∈ D0) (hA1 : ∀ {j : Int32} {z : Option zO}, gI As j = some z → ∃ v, gI refs j = some v ∧ zVC D0 v z)  {N fr lo : Nat} (hf : 1 ≤ fr) (hl : 24 ≤ lo) {vp1 : Value} {zp1 : Option (List Int32)}  {S S2 : zS} {r : Unit} (hvp1 : yRw D0 vp1 zp1) (h : cKd_layCells np As N zp1 S = some (r, S2)) : yK X fr lo 124 [.ref 206, vp1] (zD zTK zaK S D0) 0 0 (zQv zTK zaK D0 r S2) := by
  unfold cKd_layCells at h
  rcases zp1 with _ | op1
  · obtain rfl : vp1 = Value.null := hvp1
    replace h := zon h
    refine yK.of rfl (yle rfl) (L := [_, _, _]) rfl ?_
    refine xt_pure rfl rfl rfl rfl ?_
    refine xt_pure rfl rfl rfl rfl ?_
    refine xt_pure rfl rfl rfl rfl ?_
    refine xt_pure rfl rfl rfl (st1 := .long 255 :: _) rfl ?_
    refine xt_pure rfl rfl rfl (st1 := .int 1 :: _) rfl ?_
    obtain ⟨_, S2, hc3, h⟩ := zbi h
    refine zt_Vv rfl rfl rfl rfl (xmC 173 rfl) ⟨rfl, rfl, yle rfl, yle rfl⟩ (m := 5) rfl ⟨by omega, by omega⟩ (tcKd_layNumber hd1 hd2 hf0 hA0 hA1 (by omega) (by omega) hc3) (fr1 := fr - 1) (lo1 := lo - 24) ?_
    cases h
    exact xt_vret rfl rfl rfl ⟨rfl, rfl⟩
  · obtain ⟨oap1, rfl, hop1⟩ := hvp1
    replace h := zos h
    refine yK.of rfl (yle rfl) (L := [_, _, _]) rfl ?_
    refine xt_pure rfl rfl rfl rfl ?_
    refine xt_pure rfl rfl rfl rfl ?_
    refine xt_pure rfl rfl rfl rfl ?_
    refine xt_pure rfl rfl rfl rfl ?_
    refine zr_lenI (l := op1) rfl rfl (zmr hop1) rfl ?_
    refine xt_pure rfl rfl rfl rfl ?_
    refine xt_pure rfl rfl rfl (st1 := .int 1 :: _) rfl ?_
    obtain ⟨_, S5, hc6, h⟩ := zbi h
    refine zt_Vv rfl rfl rfl rfl (xmC 173 rfl) ⟨rfl, rfl, yle rfl, yle rfl⟩ (m := 5) rfl ⟨by omega, by omega⟩ (tcKd_layNumber hd1 hd2 hf0 hA0 hA1 (by omega) (by omega) hc6) (fr1 := fr - 1) (lo1 := lo - 24) ?_
    refine xt_pure rfl rfl rfl (st1 := .int 0 :: _) rfl ?_
    refine xt_pure rfl rfl rfl (L1 := [_, _, _]) rfl ?_
    exact tcKd_layCells_15 hd1 hd2 hf0 hA0 hA1 hf hl hop1 h
def cKd_sum_4 (np : Int32) (As : List (Option zO))  (N : Nat)  : Nat → Int32 → Int32 → Int32 → zS → Option (Int32 × zS)
  | 0, _, _, _, _ => none
  | n + 1, l2, l3, l4, S => (if l2.toInt ≤ l4.toInt then some (l3, S) else (if (Int32.ofNat (zA S 5).length).toInt ≤ l4.toInt then some (l3, S) else (zg (gI (zA S 5) l4) fun x1 => (cKd_sum_4 np As N n) l2 (((l3 * 31) + x1) &&& 65535) (l4 + 1) S)))
theorem tcKd_sum_4 {X : List Int32} {D0 : List xE} {da fa aa : Nat} {np : Int32} {refs : List Value} {As : List (Option zO)} (hd1 : ((da, .inl (1, 1, .ref fa)) : xE) ∈ D0) (hd2 : ((da, .inl (1, 2, .ref aa)) : xE) ∈ D0) (hf0 : ((fa, .inl (2, 0, .int np)) : xE) ∈ D0) (hA0 : ((aa, .inr (7, refs)) : xE) ∈ D0) (hA1 : ∀ {j : Int32} {z : Option zO}, gI As j = some z → ∃ v, gI refs j = some v ∧ zVC D0 v z)  {N fr lo : Nat}   (hf : 0 ≤ fr) (hl : 0 ≤ lo)  : ∀ {n : Nat} {l2 : Int32} {l3 : Int32} {l4 : Int32} {d1 : Int32} {S S2 : zS} {r : Int32} , cKd_sum_4 np As N n l2 l3 l4 S = some (r, S2) → yT X fr lo 127 4 [some (.ref 208), some (.int d1), some (.int l2), some (.int l3), some (.int l4)] [] (zD zTK zaK S D0) 0 0 (zQi zTK zaK D0 r S2) := by
  intro n
  induction n with
  | zero =>
    intro l2 l3 l4 d1 S S2 r  h
    have h : (none : Option (Int32 × zS)) = some (r, S2) := h
    cases h
  | succ n ih =>
    intro l2 l3 l4 d1 S S2 r  h
    rw [cKd_sum_4] at h
    refine xt_pure rfl rfl rfl rfl ?_
    refine xt_pure rfl rfl rfl rfl ?_
    refine xt_ic rfl rfl (fun hb => ?_) (fun hb => ?_)
    · replace h := zif_t (p := l2.toInt ≤ l4.toInt) hb h
      refine xt_pure rfl rfl rfl rfl ?_
      cases h
      exact xt_iret rfl rfl rfl rfl ⟨rfl, rfl⟩
    · replace h := zif_f (p := l2.toInt ≤ l4.toInt) hb h
      refine xt_pure rfl rfl rfl rfl ?_
      refine xt_pure rfl rfl rfl rfl ?_
      refine zr_lenI (l := (zA S 5)) rfl rfl (zmA 5 rfl rfl (l := (zA S 5)) rfl) rfl ?_
      refine xt_ic rfl rfl (fun hb => ?_) (fun hb => ?_)
      · replace h := zif_t (p := (Int32.ofNat (zA S 5).length).toInt ≤ l4.toInt) hb h
        refine xt_pure rfl rfl rfl rfl ?_
        cases h
        exact xt_iret rfl rfl rfl rfl ⟨rfl, rfl⟩
      · replace h := zif_f (p := (Int32.ofNat (zA S 5).length).toInt ≤ l4.toInt) hb h
        refine xt_pure rfl rfl rfl rfl ?_
        refine xt_pure rfl rfl rfl (st1 := .int 31 :: _) rfl ?_
        refine xt_pure rfl rfl rfl rfl ?_
        refine xt_pure rfl rfl rfl rfl ?_
        refine xt_pure rfl rfl rfl rfl ?_
        obtain ⟨x1, hx1, h⟩ := zgi h
        refine zr_ild (l := (zA S 5)) rfl rfl (zmA 5 rfl rfl (l := (zA S 5)) rfl) hx1 ?_
        refine xt_pure rfl rfl rfl rfl ?_
        refine xt_pure rfl rfl rfl (st1 := .int 65535 :: _) rfl ?_
        refine xt_pure rfl rfl rfl rfl ?_
        refine xt_pure rfl rfl rfl (L1 := [_, _, _, _, _]) rfl ?_
        refine xt_pure rfl rfl rfl (L1 := [_, _, _, _, some (.int (_ + 1))]) rfl ?_
        refine xt_pure rfl rfl rfl rfl ?_
        exact ih h
def cKd_sum (np : Int32) (As : List (Option zO))  (N : Nat) (v1 : Int32) (v2 : Int32) (S : zS) : Option (Int32 × zS) := cKd_sum_4 np As N N v2 0 v1 S
theorem tcKd_sum {X : List Int32} {D0 : List xE} {da fa aa : Nat} {np : Int32} {refs : List Value} {As : List (Option zO)} (hd1 : ((da, .inl (1, 1, .ref fa)) : xE) ∈ D0) (hd2 : ((da, .inl (1, 2, .ref aa)) : xE) ∈ D0) (hf0 : ((fa, .inl (2, 0, .int np)) : xE) ∈ D0) (hA0 : ((aa, .inr (7, refs)) : xE) ∈ D0) (hA1 : ∀ {j : Int32} {z : Option zO}, gI As j = some z → ∃ v, gI refs j = some v ∧ zVC D0 v z)  {N fr lo : Nat} (hf : 0 ≤ fr) (hl : 0 ≤ lo) {v1 : Int32} {v2 : Int32} {S S2 : zS} {r : Int32}  (h : cKd_sum np As N v1 v2 S = some (r, S2)) : yK X fr lo 127 [.ref 208, .int v1, .int v2] (zD zTK zaK S D0) 0 0 (zQi zTK zaK D0 r S2) := by
  unfold cKd_sum at h
  refine yK.of rfl (yle rfl) (L := [_, _, _, _, _]) rfl ?_
  refine xt_pure rfl rfl rfl (st1 := .int 0 :: _) rfl ?_
  refine xt_pure rfl rfl rfl (L1 := [_, _, _, _, _]) rfl ?_
  refine xt_pure rfl rfl rfl rfl ?_
  refine xt_pure rfl rfl rfl (L1 := [_, _, _, _, _]) rfl ?_
  exact tcKd_sum_4 hd1 hd2 hf0 hA0 hA1 hf hl h
def cKd_layRow_22 (np : Int32) (As : List (Option zO))  (N : Nat)  : Nat → zO → Int32 → Int32 → zS → Option (Unit × zS)
  | 0, _, _, _, _ => none
  | n + 1, ol2, l3, l4, S => (if ol2.2.1.toInt ≤ l4.toInt then (zb (cKd_sum np As N l3 (zI S 1) S) fun x10 S11 => (zb (cKd_layNumber np As N x10.toInt64 2 S11) fun _ S14 => some ((), S14))) else (if ol2.1 ≠ (4 : Int32) then (zb (cKd_layItem np As N ol2 l4 S) fun _ S17 => (cKd_layRow_22 np As N n) ol2 l3 (l4 + 1) S17) else (zg (gI ol2.2.2.2 l4) fun z19 => (zo z19 ((zb (cKd_layCells np As N none S) fun _ S21 => (cKd_layRow_22 np As N n) ol2 l3 (l4 + 1) S21)) fun o19 => (zb (cKd_layCells np As N (some o19) S) fun _ S24 => (cKd_layRow_22 np As N n) ol2 l3 (l4 + 1) S24)))))
theorem tcKd_layRow_22 {X : List Int32} {D0 : List xE} {da fa aa : Nat} {np : Int32} {refs : List Value} {As : List (Option zO)} (hd1 : ((da, .inl (1, 1, .ref fa)) : xE) ∈ D0) (hd2 : ((da, .inl (1, 2, .ref aa)) : xE) ∈ D0) (hf0 : ((fa, .inl (2, 0, .int np)) : xE) ∈ D0) (hA0 : ((aa, .inr (7, refs)) : xE) ∈ D0) (hA1 : ∀ {j : Int32} {z : Option zO}, gI As j = some z → ∃ v, gI refs j = some v ∧ zVC D0 v z)  {N fr lo : Nat}   (hf : 2 ≤ fr) (hl : 49 ≤ lo)  : ∀ {n : Nat} {oal2 : Nat} {ol2 : zO}  {l3 : Int32} {l4 : Int32} {d1 : Int32} {S S2 : zS} {r : Unit} (hol2 : zOC D0 oal2 ol2), cKd_layRow_22 np As N n ol2 l3 l4 S = some (r, S2) → yT X fr lo 122 22 [some (.ref 206), some (.int d1), some (.ref oal2), some (.int l3), some (.int l4)] [] (zD zTK zaK S D0) 0 0 (zQv zTK zaK D0 r S2) := by
  intro n
  induction n with
  | zero =>
    intro oal2 ol2 l3 l4 d1 S S2 r hol2  h
    have h : (none : Option (Unit × zS)) = some (r, S2) := h
    cases h
  | succ n ih =>
    intro oal2 ol2 l3 l4 d1 S S2 r hol2  h
    rw [cKd_layRow_22] at h
    have hkl2 := hol2
    obtain ⟨ial2, ral2, rrl2, q0l2, q1l2, q2l2, q3l2, q4l2, q5l2, q6l2⟩ := hkl2
    refine xt_pure rfl rfl rfl rfl ?_
    refine xt_pure rfl rfl rfl rfl ?_
    refine xt_getf rfl rfl (zmr q1l2) ?_
    refine xt_ic rfl rfl (fun hb => ?_) (fun hb => ?_)
    · replace h := zif_t (p := ol2.2.1.toInt ≤ l4.toInt) hb h
      refine xt_pure rfl rfl rfl rfl ?_
      refine xt_pure rfl rfl rfl rfl ?_
      refine xt_getf rfl rfl (xmC 175 rfl) ?_
      refine xt_pure rfl rfl rfl rfl ?_
      refine xt_pure rfl rfl rfl rfl ?_
      refine zt_gI 1 rfl rfl rfl rfl (x := (zI S 1)) rfl ?_
      obtain ⟨x10, S11, hc12, h⟩ := zbi h
      refine zt_Si rfl rfl (by decide) rfl rfl ⟨rfl, yle rfl, yle rfl⟩ (m := 5) rfl ⟨by omega, by omega⟩ (tcKd_sum hd1 hd2 hf0 hA0 hA1 (by omega) (by omega) hc12) (fr1 := fr - 1) (lo1 := lo - 24) ?_
      refine xt_pure rfl rfl rfl rfl ?_
      refine xt_pure rfl rfl rfl (st1 := .int 2 :: _) rfl ?_
      obtain ⟨_, S14, hc15, h⟩ := zbi h
      refine zt_Vv rfl rfl rfl rfl (xmC 173 rfl) ⟨rfl, rfl, yle rfl, yle rfl⟩ (m := 5) rfl ⟨by omega, by omega⟩ (tcKd_layNumber hd1 hd2 hf0 hA0 hA1 (by omega) (by omega) hc15) (fr1 := fr - 1) (lo1 := lo - 24) ?_
      cases h
      exact xt_vret rfl rfl rfl ⟨rfl, rfl⟩
    · replace h := zif_f (p := ol2.2.1.toInt ≤ l4.toInt) hb h
      refine xt_pure rfl rfl rfl rfl ?_
      refine xt_getf rfl rfl (zmr q0l2) ?_
      refine xt_pure rfl rfl rfl (st1 := .int 4 :: _) rfl ?_
      refine xt_ic rfl rfl (fun hb => ?_) (fun hb => ?_)
      · replace h := zif_t (p := ol2.1 ≠ (4 : Int32)) hb h
        refine xt_pure rfl rfl rfl rfl ?_
        refine xt_pure rfl rfl rfl rfl ?_
        refine xt_pure rfl rfl rfl rfl ?_
        obtain ⟨_, S17, hc18, h⟩ := zbi h
        refine zt_Vv rfl rfl rfl rfl (xmC 173 rfl) ⟨rfl, rfl, yle rfl, yle rfl⟩ (m := 6) rfl ⟨by omega, by omega⟩ (tcKd_layItem hd1 hd2 hf0 hA0 hA1 (by omega) (by omega) hol2 hc18) (fr1 := fr - 1) (lo1 := lo - 25) ?_
        refine xt_pure rfl rfl rfl (L1 := [_, _, _, _, some (.int (_ + 1))]) rfl ?_
        refine xt_pure rfl rfl rfl rfl ?_
        exact ih hol2 h
      · replace h := zif_f (p := ol2.1 ≠ (4 : Int32)) hb h
        refine xt_pure rfl rfl rfl rfl ?_
        refine xt_pure rfl rfl rfl rfl ?_
        refine xt_getf rfl rfl (zmr q3l2) ?_
        refine xt_pure rfl rfl rfl rfl ?_
        obtain ⟨z19, hz19, h⟩ := zgi h
        obtain ⟨v19, hw19, hv19⟩ := q6l2 hz19
        refine zr_ald (l := rrl2) rfl rfl ⟨by decide, rfl⟩ (zmr q5l2) hw19 ?_
        rcases z19 with _ | o19
        · obtain rfl : v19 = Value.null := hv19
          replace h := zon h
          obtain ⟨_, S21, hc22, h⟩ := zbi h
          refine zt_Vv rfl rfl rfl rfl (xmC 173 rfl) ⟨rfl, rfl, yle rfl, yle rfl⟩ (m := 3) rfl ⟨by omega, by omega⟩ (tcKd_layCells hd1 hd2 hf0 hA0 hA1 (by omega) (by omega) zvnW hc22) (fr1 := fr - 1) (lo1 := lo - 22) ?_
          refine xt_pure rfl rfl rfl rfl ?_
          refine xt_pure rfl rfl rfl (L1 := [_, _, _, _, some (.int (_ + 1))]) rfl ?_
          refine xt_pure rfl rfl rfl rfl ?_
          exact ih hol2 h
        · obtain ⟨oa19, rfl, ho19⟩ := hv19
          replace h := zos h
          obtain ⟨_, S24, hc25, h⟩ := zbi h
          refine zt_Vv rfl rfl rfl rfl (xmC 173 rfl) ⟨rfl, rfl, yle rfl, yle rfl⟩ (m := 3) rfl ⟨by omega, by omega⟩ (tcKd_layCells hd1 hd2 hf0 hA0 hA1 (by omega) (by omega) (zvsW ho19) hc25) (fr1 := fr - 1) (lo1 := lo - 22) ?_
          refine xt_pure rfl rfl rfl rfl ?_
          refine xt_pure rfl rfl rfl (L1 := [_, _, _, _, some (.int (_ + 1))]) rfl ?_
          refine xt_pure rfl rfl rfl rfl ?_
          exact ih hol2 h
def cKd_layRow (np : Int32) (As : List (Option zO))  (N : Nat) (v1 : Int32) (op2 : zO) (S : zS) : Option (Unit × zS) := (zb (cKd_layNumber np As N v1.toInt64 1 S) fun _ S2 => (zb (cKd_layNumber np As N op2.1.toInt64 1 S2) fun _ S5 => (zb (cKd_layNumber np As N op2.2.1.toInt64 1 S5) fun _ S8 => cKd_layRow_22 np As N N op2 (zI S 1) 0 S8)))
theorem tcKd_layRow {X : List Int32} {D0 : List xE} {da fa aa : Nat} {np : Int32} {refs : List Value} {As : List (Option zO)} (hd1 : ((da, .inl (1, 1, .ref fa)) : xE) ∈ D0) (hd2 : ((da, .inl (1, 2, .ref aa)) : xE) ∈ D0) (hf0 : ((fa, .inl (2, 0, .int np)) : xE) ∈ D0) (hA0 : ((aa, .inr (7, refs)) : xE) ∈ D0) (hA1 : ∀ {j : Int32} {z : Option zO}, gI As j = some z → ∃ v, gI refs j = some v ∧ zVC D0 v z)  {N fr lo : Nat} (hf : 2 ≤ fr) (hl : 49 ≤ lo) {v1 : Int32} {oap2 : Nat} {op2 : zO}  {S S2 : zS} {r : Unit} (hop2 : zOC D0 oap2 op2) (h : cKd_layRow np As N v1 op2 S = some (r, S2)) : yK X fr lo 122 [.ref 206, .int v1, .ref oap2] (zD zTK zaK S D0) 0 0 (zQv zTK zaK D0 r S2) := by
  unfold cKd_layRow at h
  have hkp2 := hop2
  obtain ⟨iap2, rap2, rrp2, q0p2, q1p2, q2p2, q3p2, q4p2, q5p2, q6p2⟩ := hkp2
  refine yK.of rfl (yle rfl) (L := [_, _, _, _, _]) rfl ?_
  refine xt_pure rfl rfl rfl rfl ?_
  refine zt_gI 1 rfl rfl rfl rfl (x := (zI S 1)) rfl ?_
  refine xt_pure rfl rfl rfl (L1 := [_, _, _, _, _]) rfl ?_
  refine xt_pure rfl rfl rfl rfl ?_
  refine xt_pure rfl rfl rfl rfl ?_
  refine xt_pure rfl rfl rfl rfl ?_
  refine xt_pure rfl rfl rfl (st1 := .int 1 :: _) rfl ?_
  obtain ⟨_, S2, hc3, h⟩ := zbi h
  refine zt_Vv rfl rfl rfl rfl (xmC 173 rfl) ⟨rfl, rfl, yle rfl, yle rfl⟩ (m := 5) rfl ⟨by omega, by omega⟩ (tcKd_layNumber hd1 hd2 hf0 hA0 hA1 (by omega) (by omega) hc3) (fr1 := fr - 1) (lo1 := lo - 24) ?_
  refine xt_pure rfl rfl rfl rfl ?_
  refine xt_pure rfl rfl rfl rfl ?_
  refine xt_getf rfl rfl (zmr q0p2) ?_
  refine xt_pure rfl rfl rfl rfl ?_
  refine xt_pure rfl rfl rfl (st1 := .int 1 :: _) rfl ?_
  obtain ⟨_, S5, hc6, h⟩ := zbi h
  refine zt_Vv rfl rfl rfl rfl (xmC 173 rfl) ⟨rfl, rfl, yle rfl, yle rfl⟩ (m := 5) rfl ⟨by omega, by omega⟩ (tcKd_layNumber hd1 hd2 hf0 hA0 hA1 (by omega) (by omega) hc6) (fr1 := fr - 1) (lo1 := lo - 24) ?_
  refine xt_pure rfl rfl rfl rfl ?_
  refine xt_pure rfl rfl rfl rfl ?_
  refine xt_getf rfl rfl (zmr q1p2) ?_
  refine xt_pure rfl rfl rfl rfl ?_
  refine xt_pure rfl rfl rfl (st1 := .int 1 :: _) rfl ?_
  obtain ⟨_, S8, hc9, h⟩ := zbi h
  refine zt_Vv rfl rfl rfl rfl (xmC 173 rfl) ⟨rfl, rfl, yle rfl, yle rfl⟩ (m := 5) rfl ⟨by omega, by omega⟩ (tcKd_layNumber hd1 hd2 hf0 hA0 hA1 (by omega) (by omega) hc9) (fr1 := fr - 1) (lo1 := lo - 24) ?_
  refine xt_pure rfl rfl rfl (st1 := .int 0 :: _) rfl ?_
  refine xt_pure rfl rfl rfl (L1 := [_, _, _, _, _]) rfl ?_
  exact tcKd_layRow_22 hd1 hd2 hf0 hA0 hA1 hf hl hop2 h
def cKd_lay_5 (np : Int32) (As : List (Option zO))  (N : Nat)  : Nat → Int32 → zS → Option (Unit × zS)
  | 0, _, _ => none
  | n + 1, l2, S => (if np.toInt ≤ l2.toInt then some ((), S) else (zg (gI As l2) fun z1 => (zo z1 ((cKd_lay_5 np As N n) (l2 + 1) S) fun o1 => (zg (gI As l2) fun z2 => (zo z2 (none) fun o2 => (zb (cKd_layRow np As N l2 o2 S) fun _ S4 => (cKd_lay_5 np As N n) (l2 + 1) S4))))))
theorem tcKd_lay_5 {X : List Int32} {D0 : List xE} {da fa aa : Nat} {np : Int32} {refs : List Value} {As : List (Option zO)} (hd1 : ((da, .inl (1, 1, .ref fa)) : xE) ∈ D0) (hd2 : ((da, .inl (1, 2, .ref aa)) : xE) ∈ D0) (hf0 : ((fa, .inl (2, 0, .int np)) : xE) ∈ D0) (hA0 : ((aa, .inr (7, refs)) : xE) ∈ D0) (hA1 : ∀ {j : Int32} {z : Option zO}, gI As j = some z → ∃ v, gI refs j = some v ∧ zVC D0 v z)  {N fr lo : Nat}   (hf : 3 ≤ fr) (hl : 73 ≤ lo)  : ∀ {n : Nat} {l2 : Int32}  {S S2 : zS} {r : Unit} , cKd_lay_5 np As N n l2 S = some (r, S2) → yT X fr lo 121 5 [some (.ref 206), some (.ref da), some (.int l2)] [] (zD zTK zaK S D0) 0 0 (zQv zTK zaK D0 r S2) := by
  intro n
  induction n with
  | zero =>
    intro l2  S S2 r  h
    have h : (none : Option (Unit × zS)) = some (r, S2) := h
    cases h
  | succ n ih =>
    intro l2  S S2 r  h
    rw [cKd_lay_5] at h
    refine xt_pure rfl rfl rfl rfl ?_
    refine xt_pure rfl rfl rfl rfl ?_
    refine xt_getf rfl rfl (zmr hd1) ?_
    refine xt_getf rfl rfl (zmr hf0) ?_
    refine xt_ic rfl rfl (fun hb => ?_) (fun hb => ?_)
    · replace h := zif_t (p := np.toInt ≤ l2.toInt) hb h
      cases h
      exact xt_vret rfl rfl rfl ⟨rfl, rfl⟩
    · replace h := zif_f (p := np.toInt ≤ l2.toInt) hb h
      refine xt_pure rfl rfl rfl rfl ?_
      refine xt_getf rfl rfl (zmr hd2) ?_
      refine xt_pure rfl rfl rfl rfl ?_
      obtain ⟨z1, hz1, h⟩ := zgi h
      obtain ⟨v1, hw1, hv1⟩ := hA1 hz1
      refine zr_ald (l := refs) rfl rfl ⟨by decide, rfl⟩ (zmr hA0) hw1 ?_
      rcases z1 with _ | o1
      · obtain rfl : v1 = Value.null := hv1
        replace h := zon h
        refine xt_pure rfl rfl rfl rfl ?_
        refine xt_pure rfl rfl rfl (L1 := [_, _, some (.int (_ + 1))]) rfl ?_
        refine xt_pure rfl rfl rfl rfl ?_
        exact ih h
      · obtain ⟨oa1, rfl, ho1⟩ := hv1
        replace h := zos h
        have hk1 := ho1
        obtain ⟨ia1, ra1, rr1, q01, q11, q21, q31, q41, q51, q61⟩ := hk1
        refine xt_pure rfl rfl rfl rfl ?_
        refine xt_pure rfl rfl rfl rfl ?_
        refine xt_pure rfl rfl rfl rfl ?_
        refine xt_pure rfl rfl rfl rfl ?_
        refine xt_getf rfl rfl (zmr hd2) ?_
        refine xt_pure rfl rfl rfl rfl ?_
        obtain ⟨z2, hz2, h⟩ := zgi h
        obtain ⟨v2, hw2, hv2⟩ := hA1 hz2
        refine zr_ald (l := refs) rfl rfl ⟨by decide, rfl⟩ (zmr hA0) hw2 ?_
        rcases z2 with _ | o2
        · obtain rfl : v2 = Value.null := hv2
          replace h := zon h
          cases h
        · obtain ⟨oa2, rfl, ho2⟩ := hv2
          replace h := zos h
          have hk2 := ho2
          obtain ⟨ia2, ra2, rr2, q02, q12, q22, q32, q42, q52, q62⟩ := hk2
          obtain ⟨_, S4, hc5, h⟩ := zbi h
          refine zt_Vv rfl rfl rfl rfl (xmC 173 rfl) ⟨rfl, rfl, yle rfl, yle rfl⟩ (m := 5) rfl ⟨by omega, by omega⟩ (tcKd_layRow hd1 hd2 hf0 hA0 hA1 (by omega) (by omega) ho2 hc5) (fr1 := fr - 1) (lo1 := lo - 24) ?_
          refine xt_pure rfl rfl rfl (L1 := [_, _, some (.int (_ + 1))]) rfl ?_
          refine xt_pure rfl rfl rfl rfl ?_
          exact ih h
def cKd_lay (np : Int32) (As : List (Option zO))  (N : Nat)  (S : zS) : Option (Unit × zS) := cKd_lay_5 np As N N 0 (zsI S 1 0)
theorem tcKd_lay {X : List Int32} {D0 : List xE} {da fa aa : Nat} {np : Int32} {refs : List Value} {As : List (Option zO)} (hd1 : ((da, .inl (1, 1, .ref fa)) : xE) ∈ D0) (hd2 : ((da, .inl (1, 2, .ref aa)) : xE) ∈ D0) (hf0 : ((fa, .inl (2, 0, .int np)) : xE) ∈ D0) (hA0 : ((aa, .inr (7, refs)) : xE) ∈ D0) (hA1 : ∀ {j : Int32} {z : Option zO}, gI As j = some z → ∃ v, gI refs j = some v ∧ zVC D0 v z)  {N fr lo : Nat} (hf : 3 ≤ fr) (hl : 73 ≤ lo)  {S S2 : zS} {r : Unit}  (h : cKd_lay np As N  S = some (r, S2)) : yK X fr lo 121 [.ref 206, .ref da] (zD zTK zaK S D0) 0 0 (zQv zTK zaK D0 r S2) := by
  unfold cKd_lay at h
  refine yK.of rfl (yle rfl) (L := [_, _, _]) rfl ?_
  refine xt_pure rfl rfl rfl rfl ?_
  refine xt_pure rfl rfl rfl (st1 := .int 0 :: _) rfl ?_
  refine zt_pI 1 rfl rfl rfl rfl rfl rfl ?_
  refine xt_pure rfl rfl rfl (st1 := .int 0 :: _) rfl ?_
  refine xt_pure rfl rfl rfl (L1 := [_, _, _]) rfl ?_
  exact tcKd_lay_5 hd1 hd2 hf0 hA0 hA1 hf hl h
