/-! MIRRORS: the desk, the reference -/
def zTd : List (Nat × Nat × Nat) := [(0, 13, 0), (0, 13, 1), (4, 1, 0), (3, 0, 0), (3, 0, 0), (0, 14, 24)]
def zad (tb ti tr tc : Nat) (i : Nat) : Nat := ([tb, tb, ti, tr, tc, 209] : List Nat).getD i 0
def rD_isSpent  (N : Nat)  (S : zS) : Option (Int32 × zS) := (if (zI S 5).toInt < 10000 then some (0, S) else some (1, S))
theorem trD_isSpent {X : List Int32} {D0 : List xE} {tb ti tr tc : Nat} (hT2 : ((tb, .inl (13, 2, .ref ti)) : xE) ∈ D0) (hT3 : ((tb, .inl (13, 3, .ref tr)) : xE) ∈ D0) (hT4 : ((tb, .inl (13, 4, .ref tc)) : xE) ∈ D0) (hTd : ((209, .inl (14, 23, .ref tb)) : xE) ∈ D0)  {N fr lo : Nat} (hf : 0 ≤ fr) (hl : 0 ≤ lo)  {S S2 : zS} {r : Int32}  (h : rD_isSpent N  S = some (r, S2)) : yK X fr lo 256 [.ref 209] (zD zTd (zad tb ti tr tc) S D0) 0 0 (zQi zTd (zad tb ti tr tc) D0 r S2) := by
  unfold rD_isSpent at h
  refine yK.of rfl (yle rfl) (L := [_]) rfl ?_
  refine xt_pure rfl rfl rfl rfl ?_
  refine zt_gI 5 rfl rfl rfl rfl (x := (zI S 5)) rfl ?_
  refine xt_pure rfl rfl rfl (st1 := .int 10000 :: _) rfl ?_
  refine xt_ic rfl rfl (fun hb => ?_) (fun hb => ?_)
  · replace h := zif_t (p := (zI S 5).toInt < 10000) hb h
    refine xt_pure rfl rfl rfl (st1 := .int 0 :: _) rfl ?_
    cases h
    exact xt_iret rfl rfl rfl rfl ⟨rfl, rfl⟩
  · replace h := zif_f (p := (zI S 5).toInt < 10000) hb h
    refine xt_pure rfl rfl rfl (st1 := .int 1 :: _) rfl ?_
    refine xt_pure rfl rfl rfl rfl ?_
    cases h
    exact xt_iret rfl rfl rfl rfl ⟨rfl, rfl⟩
def rD_failed  (N : Nat) (v1 : Int32) (S : zS) : Option (Int32 × zS) := some (((-10) - v1), (zsI S 5 ((zI S 5) + 1)))
theorem trD_failed {X : List Int32} {D0 : List xE} {tb ti tr tc : Nat} (hT2 : ((tb, .inl (13, 2, .ref ti)) : xE) ∈ D0) (hT3 : ((tb, .inl (13, 3, .ref tr)) : xE) ∈ D0) (hT4 : ((tb, .inl (13, 4, .ref tc)) : xE) ∈ D0) (hTd : ((209, .inl (14, 23, .ref tb)) : xE) ∈ D0)  {N fr lo : Nat} (hf : 0 ≤ fr) (hl : 0 ≤ lo) {v1 : Int32} {S S2 : zS} {r : Int32}  (h : rD_failed N v1 S = some (r, S2)) : yK X fr lo 257 [.ref 209, .int v1] (zD zTd (zad tb ti tr tc) S D0) 0 0 (zQi zTd (zad tb ti tr tc) D0 r S2) := by
  unfold rD_failed at h
  refine yK.of rfl (yle rfl) (L := [_, _]) rfl ?_
  refine xt_pure rfl rfl rfl rfl ?_
  refine xt_pure rfl rfl rfl rfl ?_
  refine zt_gI 5 rfl rfl rfl rfl (x := (zI S 5)) rfl ?_
  refine xt_pure rfl rfl rfl (st1 := .int 1 :: _) rfl ?_
  refine xt_pure rfl rfl rfl rfl ?_
  refine zt_pI 5 rfl rfl rfl rfl rfl rfl ?_
  refine xt_pure rfl rfl rfl (st1 := .int (-10) :: _) rfl ?_
  refine xt_pure rfl rfl rfl rfl ?_
  refine xt_pure rfl rfl rfl rfl ?_
  injection h with h
  injection h with h1 h2
  subst h1 h2
  exact xt_iret rfl rfl rfl rfl ⟨rfl, rfl⟩
def rD_in  (N : Nat) (v0 : Int64) (v2 : Int64) (v4 : Int64) (S : zS) : Option (Int32 × zS) := (if v0.toInt < v2.toInt then some (0, S) else (if v4.toInt < v0.toInt then some (0, S) else some (1, S)))
theorem trD_in {X : List Int32} {D0 : List xE} {tb ti tr tc : Nat} (hT2 : ((tb, .inl (13, 2, .ref ti)) : xE) ∈ D0) (hT3 : ((tb, .inl (13, 3, .ref tr)) : xE) ∈ D0) (hT4 : ((tb, .inl (13, 4, .ref tc)) : xE) ∈ D0) (hTd : ((209, .inl (14, 23, .ref tb)) : xE) ∈ D0)  {N fr lo : Nat} (hf : 0 ≤ fr) (hl : 0 ≤ lo) {v0 : Int64} {v2 : Int64} {v4 : Int64} {S S2 : zS} {r : Int32}  (h : rD_in N v0 v2 v4 S = some (r, S2)) : yK X fr lo 251 [.long v0, .long v2, .long v4] (zD zTd (zad tb ti tr tc) S D0) 0 0 (zQi zTd (zad tb ti tr tc) D0 r S2) := by
  unfold rD_in at h
  refine yK.of rfl (yle rfl) (L := [_, _, _, _, _, _]) rfl ?_
  refine xt_pure rfl rfl rfl rfl ?_
  refine xt_pure rfl rfl rfl rfl ?_
  refine zt_lc rfl rfl rfl (fun hb => ?_) (fun hb => ?_)
  · replace h := zif_t (p := v0.toInt < v2.toInt) hb h
    refine xt_pure rfl rfl rfl (st1 := .int 0 :: _) rfl ?_
    cases h
    exact xt_iret rfl rfl rfl rfl ⟨rfl, rfl⟩
  · replace h := zif_f (p := v0.toInt < v2.toInt) hb h
    refine xt_pure rfl rfl rfl rfl ?_
    refine xt_pure rfl rfl rfl rfl ?_
    refine zt_lc rfl rfl rfl (fun hb => ?_) (fun hb => ?_)
    · replace h := zif_t (p := v4.toInt < v0.toInt) hb h
      refine xt_pure rfl rfl rfl (st1 := .int 0 :: _) rfl ?_
      cases h
      exact xt_iret rfl rfl rfl rfl ⟨rfl, rfl⟩
    · replace h := zif_f (p := v4.toInt < v0.toInt) hb h
      refine xt_pure rfl rfl rfl (st1 := .int 1 :: _) rfl ?_
      refine xt_pure rfl rfl rfl rfl ?_
      cases h
      exact xt_iret rfl rfl rfl rfl ⟨rfl, rfl⟩
def rD_line_55  (N : Nat)  : Nat → Int32 → Int32 → zS → Option (Int32 × zS)
  | 0, _, _, _ => none
  | n + 1, l1, l3, S => (if 6 ≤ l3.toInt then some (0, S) else (if zok (zA S 4) ((6 * l1) + l3) then (rD_line_55 N n) l1 (l3 + 1) (zsA S 4 (zs (zA S 4) ((6 * l1) + l3) 0)) else none))
theorem trD_line_55 {X : List Int32} {D0 : List xE} {tb ti tr tc : Nat} (hT2 : ((tb, .inl (13, 2, .ref ti)) : xE) ∈ D0) (hT3 : ((tb, .inl (13, 3, .ref tr)) : xE) ∈ D0) (hT4 : ((tb, .inl (13, 4, .ref tc)) : xE) ∈ D0) (hTd : ((209, .inl (14, 23, .ref tb)) : xE) ∈ D0)  {N fr lo : Nat}   (hf : 1 ≤ fr) (hl : 25 ≤ lo)  : ∀ {n : Nat} {l1 : Int32} {l3 : Int32} {d2 : Int32} {S S2 : zS} {r : Int32} , rD_line_55 N n l1 l3 S = some (r, S2) → yT X fr lo 263 55 [some (.ref 209), some (.int l1), some (.int d2), some (.int l3)] [] (zD zTd (zad tb ti tr tc) S D0) 0 0 (zQi zTd (zad tb ti tr tc) D0 r S2) := by
  intro n
  induction n with
  | zero =>
    intro l1 l3 d2 S S2 r  h
    have h : (none : Option (Int32 × zS)) = some (r, S2) := h
    cases h
  | succ n ih =>
    intro l1 l3 d2 S S2 r  h
    rw [rD_line_55] at h
    refine xt_pure rfl rfl rfl rfl ?_
    refine xt_pure rfl rfl rfl (st1 := .int 6 :: _) rfl ?_
    refine xt_ic rfl rfl (fun hb => ?_) (fun hb => ?_)
    · replace h := zif_t (p := 6 ≤ l3.toInt) hb h
      refine xt_pure rfl rfl rfl (st1 := .int 0 :: _) rfl ?_
      cases h
      exact xt_iret rfl rfl rfl rfl ⟨rfl, rfl⟩
    · replace h := zif_f (p := 6 ≤ l3.toInt) hb h
      refine xt_pure rfl rfl rfl rfl ?_
      refine xt_getf rfl rfl (zmr hTd) ?_
      refine xt_getf rfl rfl (zmr hT4) ?_
      refine xt_pure rfl rfl rfl (st1 := .int 6 :: _) rfl ?_
      refine xt_pure rfl rfl rfl rfl ?_
      refine xt_pure rfl rfl rfl rfl ?_
      refine xt_pure rfl rfl rfl rfl ?_
      refine xt_pure rfl rfl rfl rfl ?_
      refine xt_pure rfl rfl rfl (st1 := .int 0 :: _) rfl ?_
      obtain ⟨hg, h⟩ := zgd h
      refine zt_ist 4 rfl rfl rfl rfl (l := (zA S 4)) rfl hg ?_
      refine xt_pure rfl rfl rfl (L1 := [_, _, _, some (.int (_ + 1))]) rfl ?_
      refine xt_pure rfl rfl rfl rfl ?_
      exact ih h
def rD_line  (N : Nat) (v1 : Int32) (v2 : Int32) (S : zS) : Option (Int32 × zS) := (if v2.toInt ≤ 6 then (zb (rD_isSpent N  S) fun x1 S2 => (if x1 = (0 : Int32) then (if 0 ≤ v2.toInt then (if (zI S2 0) = (4 : Int32) then (zb (rD_in N v1.toInt64 0 (((zI S2 1) - 1).toInt64) S2) fun x4 S5 => (if x4 ≠ (0 : Int32) then (if zok (zA S5 3) v1 then rD_line_55 N N v1 0 (zsA S5 3 (zs (zA S5 3) v1 v2)) else none) else (zb (rD_failed N 3 S5) fun x7 S8 => some (x7, S8)))) else (zb (rD_failed N 2 S2) fun x10 S11 => some (x10, S11))) else (zb (rD_failed N 6 S2) fun x13 S14 => some (x13, S14))) else some ((-3), S2))) else some ((-1), S))
theorem trD_line {X : List Int32} {D0 : List xE} {tb ti tr tc : Nat} (hT2 : ((tb, .inl (13, 2, .ref ti)) : xE) ∈ D0) (hT3 : ((tb, .inl (13, 3, .ref tr)) : xE) ∈ D0) (hT4 : ((tb, .inl (13, 4, .ref tc)) : xE) ∈ D0) (hTd : ((209, .inl (14, 23, .ref tb)) : xE) ∈ D0)  {N fr lo : Nat} (hf : 1 ≤ fr) (hl : 25 ≤ lo) {v1 : Int32} {v2 : Int32} {S S2 : zS} {r : Int32}  (h : rD_line N v1 v2 S = some (r, S2)) : yK X fr lo 263 [.ref 209, .int v1, .int v2] (zD zTd (zad tb ti tr tc) S D0) 0 0 (zQi zTd (zad tb ti tr tc) D0 r S2) := by
  unfold rD_line at h
  refine yK.of rfl (yle rfl) (L := [_, _, _, _]) rfl ?_
  refine xt_pure rfl rfl rfl rfl ?_
  refine xt_pure rfl rfl rfl (st1 := .int 6 :: _) rfl ?_
  refine xt_ic rfl rfl (fun hb => ?_) (fun hb => ?_)
  · replace h := zif_t (p := v2.toInt ≤ 6) hb h
    refine xt_pure rfl rfl rfl rfl ?_
    obtain ⟨x1, S2, hc3, h⟩ := zbi h
    refine zt_Vi rfl rfl rfl rfl (xmC 176 rfl) ⟨rfl, rfl, yle rfl, yle rfl⟩ (m := 1) rfl ⟨by omega, by omega⟩ (trD_isSpent hT2 hT3 hT4 hTd (by omega) (by omega) hc3) (fr1 := fr - 1) (lo1 := lo - 20) ?_
    refine xt_if rfl rfl (fun hb => ?_) (fun hb => ?_)
    · replace h := zif_t (p := x1 = (0 : Int32)) hb h
      refine xt_pure rfl rfl rfl rfl ?_
      refine xt_if rfl rfl (fun hb => ?_) (fun hb => ?_)
      · replace h := zif_t (p := 0 ≤ v2.toInt) hb h
        refine xt_pure rfl rfl rfl rfl ?_
        refine xt_getf rfl rfl (zmr hTd) ?_
        refine xt_pure rfl rfl rfl rfl ?_
        refine xt_pure rfl rfl rfl rfl ?_
        refine xt_getf rfl rfl (zmr hTd) ?_
        refine zt_gI 0 rfl rfl rfl rfl (x := (zI S2 0)) rfl ?_
        refine xt_pure rfl rfl rfl (st1 := .int 4 :: _) rfl ?_
        refine xt_ic rfl rfl (fun hb => ?_) (fun hb => ?_)
        · replace h := zif_t (p := (zI S2 0) = (4 : Int32)) hb h
          refine xt_pure rfl rfl rfl rfl ?_
          refine xt_pure rfl rfl rfl rfl ?_
          refine xt_pure rfl rfl rfl (st1 := .long 0 :: _) rfl ?_
          refine xt_pure rfl rfl rfl rfl ?_
          refine xt_getf rfl rfl (zmr hTd) ?_
          refine zt_gI 1 rfl rfl rfl rfl (x := (zI S2 1)) rfl ?_
          refine xt_pure rfl rfl rfl (st1 := .int 1 :: _) rfl ?_
          refine xt_pure rfl rfl rfl rfl ?_
          refine xt_pure rfl rfl rfl rfl ?_
          obtain ⟨x4, S5, hc6, h⟩ := zbi h
          refine zt_Si rfl rfl (by decide) rfl rfl ⟨rfl, yle rfl, yle rfl⟩ (m := 6) rfl ⟨by omega, by omega⟩ (trD_in hT2 hT3 hT4 hTd (by omega) (by omega) hc6) (fr1 := fr - 1) (lo1 := lo - 25) ?_
          refine xt_if rfl rfl (fun hb => ?_) (fun hb => ?_)
          · replace h := zif_t (p := x4 ≠ (0 : Int32)) hb h
            refine xt_pure rfl rfl rfl rfl ?_
            refine xt_getf rfl rfl (zmr hTd) ?_
            refine xt_getf rfl rfl (zmr hT3) ?_
            refine xt_pure rfl rfl rfl rfl ?_
            refine xt_pure rfl rfl rfl rfl ?_
            obtain ⟨hg, h⟩ := zgd h
            refine zt_ist 3 rfl rfl rfl rfl (l := (zA S5 3)) rfl hg ?_
            refine xt_pure rfl rfl rfl (st1 := .int 0 :: _) rfl ?_
            refine xt_pure rfl rfl rfl (L1 := [_, _, _, _]) rfl ?_
            exact trD_line_55 hT2 hT3 hT4 hTd hf hl h
          · replace h := zif_f (p := x4 ≠ (0 : Int32)) hb h
            refine xt_pure rfl rfl rfl rfl ?_
            refine xt_pure rfl rfl rfl (st1 := .int 3 :: _) rfl ?_
            obtain ⟨x7, S8, hc9, h⟩ := zbi h
            refine zt_Vi rfl rfl rfl rfl (xmC 176 rfl) ⟨rfl, rfl, yle rfl, yle rfl⟩ (m := 2) rfl ⟨by omega, by omega⟩ (trD_failed hT2 hT3 hT4 hTd (by omega) (by omega) hc9) (fr1 := fr - 1) (lo1 := lo - 21) ?_
            cases h
            exact xt_iret rfl rfl rfl rfl ⟨rfl, rfl⟩
        · replace h := zif_f (p := (zI S2 0) = (4 : Int32)) hb h
          refine xt_pure rfl rfl rfl rfl ?_
          refine xt_pure rfl rfl rfl (st1 := .int 2 :: _) rfl ?_
          obtain ⟨x10, S11, hc12, h⟩ := zbi h
          refine zt_Vi rfl rfl rfl rfl (xmC 176 rfl) ⟨rfl, rfl, yle rfl, yle rfl⟩ (m := 2) rfl ⟨by omega, by omega⟩ (trD_failed hT2 hT3 hT4 hTd (by omega) (by omega) hc12) (fr1 := fr - 1) (lo1 := lo - 21) ?_
          cases h
          exact xt_iret rfl rfl rfl rfl ⟨rfl, rfl⟩
      · replace h := zif_f (p := 0 ≤ v2.toInt) hb h
        refine xt_pure rfl rfl rfl rfl ?_
        refine xt_pure rfl rfl rfl (st1 := .int 6 :: _) rfl ?_
        obtain ⟨x13, S14, hc15, h⟩ := zbi h
        refine zt_Vi rfl rfl rfl rfl (xmC 176 rfl) ⟨rfl, rfl, yle rfl, yle rfl⟩ (m := 2) rfl ⟨by omega, by omega⟩ (trD_failed hT2 hT3 hT4 hTd (by omega) (by omega) hc15) (fr1 := fr - 1) (lo1 := lo - 21) ?_
        cases h
        exact xt_iret rfl rfl rfl rfl ⟨rfl, rfl⟩
    · replace h := zif_f (p := x1 = (0 : Int32)) hb h
      refine xt_pure rfl rfl rfl (st1 := .int (-3) :: _) rfl ?_
      cases h
      exact xt_iret rfl rfl rfl rfl ⟨rfl, rfl⟩
  · replace h := zif_f (p := v2.toInt ≤ 6) hb h
    refine xt_pure rfl rfl rfl (st1 := .int (-1) :: _) rfl ?_
    cases h
    exact xt_iret rfl rfl rfl rfl ⟨rfl, rfl⟩
def rD_cell  (N : Nat) (v1 : Int32) (v2 : Int32) (v3 : Int32) (S : zS) : Option (Int32 × zS) := (zb (rD_isSpent N  S) fun x1 S2 => (if x1 = (0 : Int32) then (if (zI S2 0) = (4 : Int32) then (zb (rD_in N v1.toInt64 0 (((zI S2 1) - 1).toInt64) S2) fun x4 S5 => (if x4 ≠ (0 : Int32) then (zg (gI (zA S5 3) v1) fun x7 => (if 0 ≤ x7.toInt then (zg (gI (zA S5 3) v1) fun x8 => (zb (rD_in N v2.toInt64 0 ((x8 - 1).toInt64) S5) fun x9 S10 => (if x9 ≠ (0 : Int32) then (if zok (zA S10 4) ((6 * v1) + v2) then some (0, (zsA S10 4 (zs (zA S10 4) ((6 * v1) + v2) v3))) else none) else (zb (rD_failed N 3 S10) fun x12 S13 => some (x12, S13))))) else (zb (rD_failed N 1 S5) fun x15 S16 => some (x15, S16)))) else (zb (rD_failed N 3 S5) fun x18 S19 => some (x18, S19)))) else (zb (rD_failed N 2 S2) fun x21 S22 => some (x21, S22))) else some ((-3), S2)))
theorem trD_cell {X : List Int32} {D0 : List xE} {tb ti tr tc : Nat} (hT2 : ((tb, .inl (13, 2, .ref ti)) : xE) ∈ D0) (hT3 : ((tb, .inl (13, 3, .ref tr)) : xE) ∈ D0) (hT4 : ((tb, .inl (13, 4, .ref tc)) : xE) ∈ D0) (hTd : ((209, .inl (14, 23, .ref tb)) : xE) ∈ D0)  {N fr lo : Nat} (hf : 1 ≤ fr) (hl : 25 ≤ lo) {v1 : Int32} {v2 : Int32} {v3 : Int32} {S S2 : zS} {r : Int32}  (h : rD_cell N v1 v2 v3 S = some (r, S2)) : yK X fr lo 264 [.ref 209, .int v1, .int v2, .int v3] (zD zTd (zad tb ti tr tc) S D0) 0 0 (zQi zTd (zad tb ti tr tc) D0 r S2) := by
  unfold rD_cell at h
  refine yK.of rfl (yle rfl) (L := [_, _, _, _]) rfl ?_
  refine xt_pure rfl rfl rfl rfl ?_
  obtain ⟨x1, S2, hc3, h⟩ := zbi h
  refine zt_Vi rfl rfl rfl rfl (xmC 176 rfl) ⟨rfl, rfl, yle rfl, yle rfl⟩ (m := 1) rfl ⟨by omega, by omega⟩ (trD_isSpent hT2 hT3 hT4 hTd (by omega) (by omega) hc3) (fr1 := fr - 1) (lo1 := lo - 20) ?_
  refine xt_if rfl rfl (fun hb => ?_) (fun hb => ?_)
  · replace h := zif_t (p := x1 = (0 : Int32)) hb h
    refine xt_pure rfl rfl rfl rfl ?_
    refine xt_getf rfl rfl (zmr hTd) ?_
    refine xt_pure rfl rfl rfl rfl ?_
    refine xt_pure rfl rfl rfl rfl ?_
    refine xt_getf rfl rfl (zmr hTd) ?_
    refine zt_gI 0 rfl rfl rfl rfl (x := (zI S2 0)) rfl ?_
    refine xt_pure rfl rfl rfl (st1 := .int 4 :: _) rfl ?_
    refine xt_ic rfl rfl (fun hb => ?_) (fun hb => ?_)
    · replace h := zif_t (p := (zI S2 0) = (4 : Int32)) hb h
      refine xt_pure rfl rfl rfl rfl ?_
      refine xt_pure rfl rfl rfl rfl ?_
      refine xt_pure rfl rfl rfl (st1 := .long 0 :: _) rfl ?_
      refine xt_pure rfl rfl rfl rfl ?_
      refine xt_getf rfl rfl (zmr hTd) ?_
      refine zt_gI 1 rfl rfl rfl rfl (x := (zI S2 1)) rfl ?_
      refine xt_pure rfl rfl rfl (st1 := .int 1 :: _) rfl ?_
      refine xt_pure rfl rfl rfl rfl ?_
      refine xt_pure rfl rfl rfl rfl ?_
      obtain ⟨x4, S5, hc6, h⟩ := zbi h
      refine zt_Si rfl rfl (by decide) rfl rfl ⟨rfl, yle rfl, yle rfl⟩ (m := 6) rfl ⟨by omega, by omega⟩ (trD_in hT2 hT3 hT4 hTd (by omega) (by omega) hc6) (fr1 := fr - 1) (lo1 := lo - 25) ?_
      refine xt_if rfl rfl (fun hb => ?_) (fun hb => ?_)
      · replace h := zif_t (p := x4 ≠ (0 : Int32)) hb h
        refine xt_pure rfl rfl rfl rfl ?_
        refine xt_getf rfl rfl (zmr hTd) ?_
        refine xt_getf rfl rfl (zmr hT3) ?_
        refine xt_pure rfl rfl rfl rfl ?_
        obtain ⟨x7, hx7, h⟩ := zgi h
        refine zr_ild (l := (zA S5 3)) rfl rfl (zmA 3 rfl rfl (l := (zA S5 3)) rfl) hx7 ?_
        refine xt_if rfl rfl (fun hb => ?_) (fun hb => ?_)
        · replace h := zif_t (p := 0 ≤ x7.toInt) hb h
          refine xt_pure rfl rfl rfl rfl ?_
          refine xt_pure rfl rfl rfl rfl ?_
          refine xt_pure rfl rfl rfl (st1 := .long 0 :: _) rfl ?_
          refine xt_pure rfl rfl rfl rfl ?_
          refine xt_getf rfl rfl (zmr hTd) ?_
          refine xt_getf rfl rfl (zmr hT3) ?_
          refine xt_pure rfl rfl rfl rfl ?_
          obtain ⟨x8, hx8, h⟩ := zgi h
          refine zr_ild (l := (zA S5 3)) rfl rfl (zmA 3 rfl rfl (l := (zA S5 3)) rfl) hx8 ?_
          refine xt_pure rfl rfl rfl (st1 := .int 1 :: _) rfl ?_
          refine xt_pure rfl rfl rfl rfl ?_
          refine xt_pure rfl rfl rfl rfl ?_
          obtain ⟨x9, S10, hc11, h⟩ := zbi h
          refine zt_Si rfl rfl (by decide) rfl rfl ⟨rfl, yle rfl, yle rfl⟩ (m := 6) rfl ⟨by omega, by omega⟩ (trD_in hT2 hT3 hT4 hTd (by omega) (by omega) hc11) (fr1 := fr - 1) (lo1 := lo - 25) ?_
          refine xt_if rfl rfl (fun hb => ?_) (fun hb => ?_)
          · replace h := zif_t (p := x9 ≠ (0 : Int32)) hb h
            refine xt_pure rfl rfl rfl rfl ?_
            refine xt_getf rfl rfl (zmr hTd) ?_
            refine xt_getf rfl rfl (zmr hT4) ?_
            refine xt_pure rfl rfl rfl (st1 := .int 6 :: _) rfl ?_
            refine xt_pure rfl rfl rfl rfl ?_
            refine xt_pure rfl rfl rfl rfl ?_
            refine xt_pure rfl rfl rfl rfl ?_
            refine xt_pure rfl rfl rfl rfl ?_
            refine xt_pure rfl rfl rfl rfl ?_
            obtain ⟨hg, h⟩ := zgd h
            refine zt_ist 4 rfl rfl rfl rfl (l := (zA S10 4)) rfl hg ?_
            refine xt_pure rfl rfl rfl (st1 := .int 0 :: _) rfl ?_
            cases h
            exact xt_iret rfl rfl rfl rfl ⟨rfl, rfl⟩
          · replace h := zif_f (p := x9 ≠ (0 : Int32)) hb h
            refine xt_pure rfl rfl rfl rfl ?_
            refine xt_pure rfl rfl rfl (st1 := .int 3 :: _) rfl ?_
            obtain ⟨x12, S13, hc14, h⟩ := zbi h
            refine zt_Vi rfl rfl rfl rfl (xmC 176 rfl) ⟨rfl, rfl, yle rfl, yle rfl⟩ (m := 2) rfl ⟨by omega, by omega⟩ (trD_failed hT2 hT3 hT4 hTd (by omega) (by omega) hc14) (fr1 := fr - 1) (lo1 := lo - 21) ?_
            cases h
            exact xt_iret rfl rfl rfl rfl ⟨rfl, rfl⟩
        · replace h := zif_f (p := 0 ≤ x7.toInt) hb h
          refine xt_pure rfl rfl rfl rfl ?_
          refine xt_pure rfl rfl rfl (st1 := .int 1 :: _) rfl ?_
          obtain ⟨x15, S16, hc17, h⟩ := zbi h
          refine zt_Vi rfl rfl rfl rfl (xmC 176 rfl) ⟨rfl, rfl, yle rfl, yle rfl⟩ (m := 2) rfl ⟨by omega, by omega⟩ (trD_failed hT2 hT3 hT4 hTd (by omega) (by omega) hc17) (fr1 := fr - 1) (lo1 := lo - 21) ?_
          cases h
          exact xt_iret rfl rfl rfl rfl ⟨rfl, rfl⟩
      · replace h := zif_f (p := x4 ≠ (0 : Int32)) hb h
        refine xt_pure rfl rfl rfl rfl ?_
        refine xt_pure rfl rfl rfl (st1 := .int 3 :: _) rfl ?_
        obtain ⟨x18, S19, hc20, h⟩ := zbi h
        refine zt_Vi rfl rfl rfl rfl (xmC 176 rfl) ⟨rfl, rfl, yle rfl, yle rfl⟩ (m := 2) rfl ⟨by omega, by omega⟩ (trD_failed hT2 hT3 hT4 hTd (by omega) (by omega) hc20) (fr1 := fr - 1) (lo1 := lo - 21) ?_
        cases h
        exact xt_iret rfl rfl rfl rfl ⟨rfl, rfl⟩
    · replace h := zif_f (p := (zI S2 0) = (4 : Int32)) hb h
      refine xt_pure rfl rfl rfl rfl ?_
      refine xt_pure rfl rfl rfl (st1 := .int 2 :: _) rfl ?_
      obtain ⟨x21, S22, hc23, h⟩ := zbi h
      refine zt_Vi rfl rfl rfl rfl (xmC 176 rfl) ⟨rfl, rfl, yle rfl, yle rfl⟩ (m := 2) rfl ⟨by omega, by omega⟩ (trD_failed hT2 hT3 hT4 hTd (by omega) (by omega) hc23) (fr1 := fr - 1) (lo1 := lo - 21) ?_
      cases h
      exact xt_iret rfl rfl rfl rfl ⟨rfl, rfl⟩
  · replace h := zif_f (p := x1 = (0 : Int32)) hb h
    refine xt_pure rfl rfl rfl (st1 := .int (-3) :: _) rfl ?_
    cases h
    exact xt_iret rfl rfl rfl rfl ⟨rfl, rfl⟩
