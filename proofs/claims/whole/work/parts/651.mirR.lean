/-! MIRRORS: the reader, its small calls -/
def cP_begin  (N : Nat)  (S : zS) : Option (Unit × zS) := some ((), (zsI (zsI (zsI (zsI (zsI (zsI (zsI S 14 0) 22 0) 24 0) 27 0) 28 (-9)) 29 0) 32 0))
theorem tcP_begin {X : List Int32} {D0 : List xE} {a : Nat} {p : Nat → Nat} (hG0 : ((85, .inl (7, 1, .ref a)) : xE) ∈ D0) (hG : ∀ e ∈ zgP a p, e ∈ D0)  {N fr lo : Nat} (hf : 0 ≤ fr) (hl : 0 ≤ lo)  {S S2 : zS} {r : Unit}  (h : cP_begin N  S = some (r, S2)) : yK X fr lo 27 [.ref a] (zD zTP (zaP a p) S D0) 0 0 (zQv zTP (zaP a p) D0 r S2) := by
  unfold cP_begin at h
  refine yK.of rfl (yle rfl) (L := [_]) rfl ?_
  refine xt_pure rfl rfl rfl rfl ?_
  refine xt_pure rfl rfl rfl (st1 := .int 0 :: _) rfl ?_
  refine zt_pI 14 rfl rfl rfl rfl rfl rfl ?_
  refine xt_pure rfl rfl rfl rfl ?_
  refine xt_pure rfl rfl rfl (st1 := .int 0 :: _) rfl ?_
  refine zt_pI 22 rfl rfl rfl rfl rfl rfl ?_
  refine xt_pure rfl rfl rfl rfl ?_
  refine xt_pure rfl rfl rfl (st1 := .int 0 :: _) rfl ?_
  refine zt_pI 24 rfl rfl rfl rfl rfl rfl ?_
  refine xt_pure rfl rfl rfl rfl ?_
  refine xt_pure rfl rfl rfl (st1 := .int 0 :: _) rfl ?_
  refine zt_pI 27 rfl rfl rfl rfl rfl rfl ?_
  refine xt_pure rfl rfl rfl rfl ?_
  refine xt_pure rfl rfl rfl (st1 := .int (-9) :: _) rfl ?_
  refine zt_pI 28 rfl rfl rfl rfl rfl rfl ?_
  refine xt_pure rfl rfl rfl rfl ?_
  refine xt_pure rfl rfl rfl (st1 := .int 0 :: _) rfl ?_
  refine zt_pI 29 rfl rfl rfl rfl rfl rfl ?_
  refine xt_pure rfl rfl rfl rfl ?_
  refine xt_pure rfl rfl rfl (st1 := .int 0 :: _) rfl ?_
  refine zt_pI 32 rfl rfl rfl rfl rfl rfl ?_
  cases h
  exact xt_vret rfl rfl rfl ⟨rfl, rfl⟩
def cP_isAnswered  (N : Nat) (v1 : Int32) (S : zS) : Option (Int32 × zS) := (if v1.toInt < 0 then some (0, S) else (if (zI S 14).toInt ≤ v1.toInt then some (0, S) else (zg (gI (zA S 15) v1) fun x1 => (if x1 = (11 : Int32) then some (0, S) else some (1, S)))))
theorem tcP_isAnswered {X : List Int32} {D0 : List xE} {a : Nat} {p : Nat → Nat} (hG0 : ((85, .inl (7, 1, .ref a)) : xE) ∈ D0) (hG : ∀ e ∈ zgP a p, e ∈ D0)  {N fr lo : Nat} (hf : 0 ≤ fr) (hl : 0 ≤ lo) {v1 : Int32} {S S2 : zS} {r : Int32}  (h : cP_isAnswered N v1 S = some (r, S2)) : yK X fr lo 85 [.ref a, .int v1] (zD zTP (zaP a p) S D0) 0 0 (zQi zTP (zaP a p) D0 r S2) := by
  unfold cP_isAnswered at h
  refine yK.of rfl (yle rfl) (L := [_, _]) rfl ?_
  refine xt_pure rfl rfl rfl rfl ?_
  refine xt_if rfl rfl (fun hb => ?_) (fun hb => ?_)
  · replace h := zif_t (p := v1.toInt < 0) hb h
    refine xt_pure rfl rfl rfl (st1 := .int 0 :: _) rfl ?_
    cases h
    exact xt_iret rfl rfl rfl rfl ⟨rfl, rfl⟩
  · replace h := zif_f (p := v1.toInt < 0) hb h
    refine xt_pure rfl rfl rfl rfl ?_
    refine xt_pure rfl rfl rfl rfl ?_
    refine zt_gI 14 rfl rfl rfl rfl (x := (zI S 14)) rfl ?_
    refine xt_ic rfl rfl (fun hb => ?_) (fun hb => ?_)
    · replace h := zif_t (p := (zI S 14).toInt ≤ v1.toInt) hb h
      refine xt_pure rfl rfl rfl (st1 := .int 0 :: _) rfl ?_
      cases h
      exact xt_iret rfl rfl rfl rfl ⟨rfl, rfl⟩
    · replace h := zif_f (p := (zI S 14).toInt ≤ v1.toInt) hb h
      refine xt_pure rfl rfl rfl rfl ?_
      refine xt_getf rfl rfl (zmr (ymm hG 0 rfl)) ?_
      refine xt_pure rfl rfl rfl rfl ?_
      obtain ⟨x1, hx1, h⟩ := zgi h
      refine zr_ild (l := (zA S 15)) rfl rfl (zmA 15 rfl rfl (l := (zA S 15)) rfl) hx1 ?_
      refine xt_pure rfl rfl rfl (st1 := .int 11 :: _) rfl ?_
      refine xt_ic rfl rfl (fun hb => ?_) (fun hb => ?_)
      · replace h := zif_t (p := x1 = (11 : Int32)) hb h
        refine xt_pure rfl rfl rfl (st1 := .int 0 :: _) rfl ?_
        cases h
        exact xt_iret rfl rfl rfl rfl ⟨rfl, rfl⟩
      · replace h := zif_f (p := x1 = (11 : Int32)) hb h
        refine xt_pure rfl rfl rfl (st1 := .int 1 :: _) rfl ?_
        refine xt_pure rfl rfl rfl rfl ?_
        cases h
        exact xt_iret rfl rfl rfl rfl ⟨rfl, rfl⟩
def cP_emit  (N : Nat) (v1 : Int32) (v2 : Int32) (S : zS) : Option (Int32 × zS) := (if zok (zA S 30) (if (559 : Int32) < (zI S 32) then 559 else (zI S 32)) then (if zok (zA S 31) (if (559 : Int32) < (zI S 32) then 559 else (zI S 32)) then some ((if (559 : Int32) < (zI S 32) then 559 else (zI S 32)), (zsI (zsA (zsA S 30 (zs (zA S 30) (if (559 : Int32) < (zI S 32) then 559 else (zI S 32)) v1)) 31 (zs (zA S 31) (if (559 : Int32) < (zI S 32) then 559 else (zI S 32)) v2)) 32 ((if (559 : Int32) < (zI S 32) then 559 else (zI S 32)) + 1))) else none) else none)
theorem tcP_emit {X : List Int32} {D0 : List xE} {a : Nat} {p : Nat → Nat} (hG0 : ((85, .inl (7, 1, .ref a)) : xE) ∈ D0) (hG : ∀ e ∈ zgP a p, e ∈ D0)  {N fr lo : Nat} (hf : 1 ≤ fr) (hl : 100 ≤ lo) {v1 : Int32} {v2 : Int32} {S S2 : zS} {r : Int32}  (h : cP_emit N v1 v2 S = some (r, S2)) : yK X fr lo 70 [.ref a, .int v1, .int v2] (zD zTP (zaP a p) S D0) 0 0 (zQi zTP (zaP a p) D0 r S2) := by
  unfold cP_emit at h
  refine yK.of rfl (yle rfl) (L := [_, _, _, _]) rfl ?_
  refine xt_pure rfl rfl rfl rfl ?_
  refine zt_gI 32 rfl rfl rfl rfl (x := (zI S 32)) rfl ?_
  refine xt_pure rfl rfl rfl (st1 := .int 559 :: _) rfl ?_
  refine xt_min rfl rfl rfl ⟨yle rfl, by omega, by omega⟩ ?_
  refine xt_pure rfl rfl rfl (L1 := [_, _, _, _]) rfl ?_
  refine xt_pure rfl rfl rfl rfl ?_
  refine xt_getf rfl rfl (zmr (ymm hG 10 rfl)) ?_
  refine xt_pure rfl rfl rfl rfl ?_
  refine xt_pure rfl rfl rfl rfl ?_
  obtain ⟨hg, h⟩ := zgd h
  refine zt_ist 30 rfl rfl rfl rfl (l := (zA S 30)) rfl hg ?_
  refine xt_pure rfl rfl rfl rfl ?_
  refine xt_getf rfl rfl (zmr (ymm hG 11 rfl)) ?_
  refine xt_pure rfl rfl rfl rfl ?_
  refine xt_pure rfl rfl rfl rfl ?_
  obtain ⟨hg, h⟩ := zgd h
  refine zt_ist 31 rfl rfl rfl rfl (l := (zA S 31)) rfl hg ?_
  refine xt_pure rfl rfl rfl rfl ?_
  refine xt_pure rfl rfl rfl rfl ?_
  refine xt_pure rfl rfl rfl (st1 := .int 1 :: _) rfl ?_
  refine xt_pure rfl rfl rfl rfl ?_
  refine zt_pI 32 rfl rfl rfl rfl rfl rfl ?_
  refine xt_pure rfl rfl rfl rfl ?_
  cases h
  exact xt_iret rfl rfl rfl rfl ⟨rfl, rfl⟩
def cP_sees  (N : Nat)  (S : zS) : Option (Int32 × zS) := (if (zI S 6) ≠ ((-9) : Int32) then some (1, S) else (zg (gI (zA S 2) (zI S 5)) fun x1 => some (x1, S)))
theorem tcP_sees {X : List Int32} {D0 : List xE} {a : Nat} {p : Nat → Nat} (hG0 : ((85, .inl (7, 1, .ref a)) : xE) ∈ D0) (hG : ∀ e ∈ zgP a p, e ∈ D0)  {N fr lo : Nat} (hf : 0 ≤ fr) (hl : 0 ≤ lo)  {S S2 : zS} {r : Int32}  (h : cP_sees N  S = some (r, S2)) : yK X fr lo 53 [.ref 85] (zD zTP (zaP a p) S D0) 0 0 (zQi zTP (zaP a p) D0 r S2) := by
  unfold cP_sees at h
  refine yK.of rfl (yle rfl) (L := [_]) rfl ?_
  refine xt_pure rfl rfl rfl rfl ?_
  refine zt_gI 6 rfl rfl rfl rfl (x := (zI S 6)) rfl ?_
  refine xt_pure rfl rfl rfl (st1 := .int (-9) :: _) rfl ?_
  refine xt_ic rfl rfl (fun hb => ?_) (fun hb => ?_)
  · replace h := zif_t (p := (zI S 6) ≠ ((-9) : Int32)) hb h
    refine xt_pure rfl rfl rfl (st1 := .int 1 :: _) rfl ?_
    cases h
    exact xt_iret rfl rfl rfl rfl ⟨rfl, rfl⟩
  · replace h := zif_f (p := (zI S 6) ≠ ((-9) : Int32)) hb h
    refine xt_pure rfl rfl rfl rfl ?_
    refine xt_getf rfl rfl (xmC 133 rfl) ?_
    refine xt_getf rfl rfl (xmC 129 rfl) ?_
    refine xt_pure rfl rfl rfl rfl ?_
    refine zt_gI 5 rfl rfl rfl rfl (x := (zI S 5)) rfl ?_
    obtain ⟨x1, hx1, h⟩ := zgi h
    refine zr_ild (l := (zA S 2)) rfl rfl (zmA 2 rfl rfl (l := (zA S 2)) rfl) hx1 ?_
    refine xt_pure rfl rfl rfl rfl ?_
    cases h
    exact xt_iret rfl rfl rfl rfl ⟨rfl, rfl⟩
def cP_next  (N : Nat)  (S : zS) : Option (Unit × zS) := (if (zI S 6) ≠ ((-9) : Int32) then some ((), S) else (zg (gI (zA S 2) (zI S 5)) fun x1 => (if x1.toInt ≤ 1 then some ((), S) else (if (Int32.ofNat (zA S 2).length).toInt ≤ ((zI S 5) + 1).toInt then some ((), S) else some ((), (zsI S 5 ((zI S 5) + 1)))))))
theorem tcP_next {X : List Int32} {D0 : List xE} {a : Nat} {p : Nat → Nat} (hG0 : ((85, .inl (7, 1, .ref a)) : xE) ∈ D0) (hG : ∀ e ∈ zgP a p, e ∈ D0)  {N fr lo : Nat} (hf : 0 ≤ fr) (hl : 0 ≤ lo)  {S S2 : zS} {r : Unit}  (h : cP_next N  S = some (r, S2)) : yK X fr lo 54 [.ref 85] (zD zTP (zaP a p) S D0) 0 0 (zQv zTP (zaP a p) D0 r S2) := by
  unfold cP_next at h
  refine yK.of rfl (yle rfl) (L := [_]) rfl ?_
  refine xt_pure rfl rfl rfl rfl ?_
  refine zt_gI 6 rfl rfl rfl rfl (x := (zI S 6)) rfl ?_
  refine xt_pure rfl rfl rfl (st1 := .int (-9) :: _) rfl ?_
  refine xt_ic rfl rfl (fun hb => ?_) (fun hb => ?_)
  · replace h := zif_t (p := (zI S 6) ≠ ((-9) : Int32)) hb h
    cases h
    exact xt_vret rfl rfl rfl ⟨rfl, rfl⟩
  · replace h := zif_f (p := (zI S 6) ≠ ((-9) : Int32)) hb h
    refine xt_pure rfl rfl rfl rfl ?_
    refine xt_getf rfl rfl (xmC 133 rfl) ?_
    refine xt_getf rfl rfl (xmC 129 rfl) ?_
    refine xt_pure rfl rfl rfl rfl ?_
    refine zt_gI 5 rfl rfl rfl rfl (x := (zI S 5)) rfl ?_
    obtain ⟨x1, hx1, h⟩ := zgi h
    refine zr_ild (l := (zA S 2)) rfl rfl (zmA 2 rfl rfl (l := (zA S 2)) rfl) hx1 ?_
    refine xt_pure rfl rfl rfl (st1 := .int 1 :: _) rfl ?_
    refine xt_ic rfl rfl (fun hb => ?_) (fun hb => ?_)
    · replace h := zif_t (p := x1.toInt ≤ 1) hb h
      cases h
      exact xt_vret rfl rfl rfl ⟨rfl, rfl⟩
    · replace h := zif_f (p := x1.toInt ≤ 1) hb h
      refine xt_pure rfl rfl rfl rfl ?_
      refine zt_gI 5 rfl rfl rfl rfl (x := (zI S 5)) rfl ?_
      refine xt_pure rfl rfl rfl (st1 := .int 1 :: _) rfl ?_
      refine xt_pure rfl rfl rfl rfl ?_
      refine xt_pure rfl rfl rfl rfl ?_
      refine xt_getf rfl rfl (xmC 133 rfl) ?_
      refine xt_getf rfl rfl (xmC 129 rfl) ?_
      refine zr_lenI (l := (zA S 2)) rfl rfl (zmA 2 rfl rfl (l := (zA S 2)) rfl) rfl ?_
      refine xt_ic rfl rfl (fun hb => ?_) (fun hb => ?_)
      · replace h := zif_t (p := (Int32.ofNat (zA S 2).length).toInt ≤ ((zI S 5) + 1).toInt) hb h
        cases h
        exact xt_vret rfl rfl rfl ⟨rfl, rfl⟩
      · replace h := zif_f (p := (Int32.ofNat (zA S 2).length).toInt ≤ ((zI S 5) + 1).toInt) hb h
        refine xt_pure rfl rfl rfl rfl ?_
        refine xt_pure rfl rfl rfl rfl ?_
        refine zt_gI 5 rfl rfl rfl rfl (x := (zI S 5)) rfl ?_
        refine xt_pure rfl rfl rfl (st1 := .int 1 :: _) rfl ?_
        refine xt_pure rfl rfl rfl rfl ?_
        refine zt_pI 5 rfl rfl rfl rfl rfl rfl ?_
        cases h
        exact xt_vret rfl rfl rfl ⟨rfl, rfl⟩
def cP_refuse  (N : Nat)  (S : zS) : Option (Unit × zS) := (if (zI S 6) ≠ ((-9) : Int32) then some ((), S) else (zg (gI (zA S 3) (zI S 5)) fun x1 => some ((), (zsI S 6 x1))))
theorem tcP_refuse {X : List Int32} {D0 : List xE} {a : Nat} {p : Nat → Nat} (hG0 : ((85, .inl (7, 1, .ref a)) : xE) ∈ D0) (hG : ∀ e ∈ zgP a p, e ∈ D0)  {N fr lo : Nat} (hf : 0 ≤ fr) (hl : 0 ≤ lo)  {S S2 : zS} {r : Unit}  (h : cP_refuse N  S = some (r, S2)) : yK X fr lo 55 [.ref 85] (zD zTP (zaP a p) S D0) 0 0 (zQv zTP (zaP a p) D0 r S2) := by
  unfold cP_refuse at h
  refine yK.of rfl (yle rfl) (L := [_]) rfl ?_
  refine xt_pure rfl rfl rfl rfl ?_
  refine zt_gI 6 rfl rfl rfl rfl (x := (zI S 6)) rfl ?_
  refine xt_pure rfl rfl rfl (st1 := .int (-9) :: _) rfl ?_
  refine xt_ic rfl rfl (fun hb => ?_) (fun hb => ?_)
  · replace h := zif_t (p := (zI S 6) ≠ ((-9) : Int32)) hb h
    cases h
    exact xt_vret rfl rfl rfl ⟨rfl, rfl⟩
  · replace h := zif_f (p := (zI S 6) ≠ ((-9) : Int32)) hb h
    refine xt_pure rfl rfl rfl rfl ?_
    refine xt_pure rfl rfl rfl rfl ?_
    refine xt_getf rfl rfl (xmC 133 rfl) ?_
    refine xt_getf rfl rfl (xmC 130 rfl) ?_
    refine xt_pure rfl rfl rfl rfl ?_
    refine zt_gI 5 rfl rfl rfl rfl (x := (zI S 5)) rfl ?_
    obtain ⟨x1, hx1, h⟩ := zgi h
    refine zr_ild (l := (zA S 3)) rfl rfl (zmA 3 rfl rfl (l := (zA S 3)) rfl) hx1 ?_
    refine zt_pI 6 rfl rfl rfl rfl rfl rfl ?_
    cases h
    exact xt_vret rfl rfl rfl ⟨rfl, rfl⟩
def cP_want  (N : Nat) (v1 : Int32) (S : zS) : Option (Unit × zS) := (zb (cP_sees N  S) fun x1 S2 => (if x1 ≠ v1 then (zb (cP_refuse N  S2) fun _ S5 => some ((), S5)) else (zb (cP_next N  S2) fun _ S8 => some ((), S8))))
theorem tcP_want {X : List Int32} {D0 : List xE} {a : Nat} {p : Nat → Nat} (hG0 : ((85, .inl (7, 1, .ref a)) : xE) ∈ D0) (hG : ∀ e ∈ zgP a p, e ∈ D0)  {N fr lo : Nat} (hf : 1 ≤ fr) (hl : 20 ≤ lo) {v1 : Int32} {S S2 : zS} {r : Unit}  (h : cP_want N v1 S = some (r, S2)) : yK X fr lo 52 [.ref 85, .int v1] (zD zTP (zaP a p) S D0) 0 0 (zQv zTP (zaP a p) D0 r S2) := by
  unfold cP_want at h
  refine yK.of rfl (yle rfl) (L := [_, _]) rfl ?_
  refine xt_pure rfl rfl rfl rfl ?_
  obtain ⟨x1, S2, hc3, h⟩ := zbi h
  refine zt_Vi rfl rfl rfl rfl (xmC 133 rfl) ⟨rfl, rfl, yle rfl, yle rfl⟩ (m := 1) rfl ⟨by omega, by omega⟩ (tcP_sees hG0 hG (by omega) (by omega) hc3) (fr1 := fr - 1) (lo1 := lo - 20) ?_
  refine xt_pure rfl rfl rfl rfl ?_
  refine xt_ic rfl rfl (fun hb => ?_) (fun hb => ?_)
  · replace h := zif_t (p := x1 ≠ v1) hb h
    refine xt_pure rfl rfl rfl rfl ?_
    obtain ⟨_, S5, hc6, h⟩ := zbi h
    refine zt_Vv rfl rfl rfl rfl (xmC 133 rfl) ⟨rfl, rfl, yle rfl, yle rfl⟩ (m := 1) rfl ⟨by omega, by omega⟩ (tcP_refuse hG0 hG (by omega) (by omega) hc6) (fr1 := fr - 1) (lo1 := lo - 20) ?_
    cases h
    exact xt_vret rfl rfl rfl ⟨rfl, rfl⟩
  · replace h := zif_f (p := x1 ≠ v1) hb h
    refine xt_pure rfl rfl rfl rfl ?_
    obtain ⟨_, S8, hc9, h⟩ := zbi h
    refine zt_Vv rfl rfl rfl rfl (xmC 133 rfl) ⟨rfl, rfl, yle rfl, yle rfl⟩ (m := 1) rfl ⟨by omega, by omega⟩ (tcP_next hG0 hG (by omega) (by omega) hc9) (fr1 := fr - 1) (lo1 := lo - 20) ?_
    refine xt_pure rfl rfl rfl rfl ?_
    cases h
    exact xt_vret rfl rfl rfl ⟨rfl, rfl⟩
def cP_readNumber  (N : Nat) (v1 : Int32) (v2 : Int32) (S : zS) : Option (Int32 × zS) := (zg (gI (zB S 4) (zI S 5)) fun x1 => (zb (cP_sees N  S) fun x2 S3 => (if x2 ≠ (2 : Int32) then (zb (cP_refuse N  S3) fun _ S6 => some (v1, S6)) else (if x1.toInt < v1.toInt64.toInt then (zb (cP_refuse N  S3) fun _ S9 => some (v1, S9)) else (if x1.toInt ≤ v2.toInt64.toInt then (zb (cP_next N  S3) fun _ S12 => some (x1.toInt32, S12)) else (zb (cP_refuse N  S3) fun _ S15 => some (v1, S15)))))))
theorem tcP_readNumber {X : List Int32} {D0 : List xE} {a : Nat} {p : Nat → Nat} (hG0 : ((85, .inl (7, 1, .ref a)) : xE) ∈ D0) (hG : ∀ e ∈ zgP a p, e ∈ D0)  {N fr lo : Nat} (hf : 1 ≤ fr) (hl : 20 ≤ lo) {v1 : Int32} {v2 : Int32} {S S2 : zS} {r : Int32}  (h : cP_readNumber N v1 v2 S = some (r, S2)) : yK X fr lo 56 [.ref 85, .int v1, .int v2] (zD zTP (zaP a p) S D0) 0 0 (zQi zTP (zaP a p) D0 r S2) := by
  unfold cP_readNumber at h
  refine yK.of rfl (yle rfl) (L := [_, _, _, _, _]) rfl ?_
  refine xt_pure rfl rfl rfl rfl ?_
  refine xt_getf rfl rfl (xmC 133 rfl) ?_
  refine xt_getf rfl rfl (xmC 131 rfl) ?_
  refine xt_pure rfl rfl rfl rfl ?_
  refine zt_gI 5 rfl rfl rfl rfl (x := (zI S 5)) rfl ?_
  obtain ⟨x1, hx1, h⟩ := zgi h
  refine zr_lld (l := (zB S 4)) rfl rfl (zmB 4 rfl rfl (l := (zB S 4)) rfl) hx1 ?_
  refine xt_pure rfl rfl rfl (L1 := [_, _, _, _, _]) rfl ?_
  refine xt_pure rfl rfl rfl rfl ?_
  obtain ⟨x2, S3, hc4, h⟩ := zbi h
  refine zt_Vi rfl rfl rfl rfl (xmC 133 rfl) ⟨rfl, rfl, yle rfl, yle rfl⟩ (m := 1) rfl ⟨by omega, by omega⟩ (tcP_sees hG0 hG (by omega) (by omega) hc4) (fr1 := fr - 1) (lo1 := lo - 20) ?_
  refine xt_pure rfl rfl rfl (st1 := .int 2 :: _) rfl ?_
  refine xt_ic rfl rfl (fun hb => ?_) (fun hb => ?_)
  · replace h := zif_t (p := x2 ≠ (2 : Int32)) hb h
    refine xt_pure rfl rfl rfl rfl ?_
    obtain ⟨_, S6, hc7, h⟩ := zbi h
    refine zt_Vv rfl rfl rfl rfl (xmC 133 rfl) ⟨rfl, rfl, yle rfl, yle rfl⟩ (m := 1) rfl ⟨by omega, by omega⟩ (tcP_refuse hG0 hG (by omega) (by omega) hc7) (fr1 := fr - 1) (lo1 := lo - 20) ?_
    refine xt_pure rfl rfl rfl rfl ?_
    cases h
    exact xt_iret rfl rfl rfl rfl ⟨rfl, rfl⟩
  · replace h := zif_f (p := x2 ≠ (2 : Int32)) hb h
    refine xt_pure rfl rfl rfl rfl ?_
    refine xt_pure rfl rfl rfl rfl ?_
    refine xt_pure rfl rfl rfl rfl ?_
    refine zt_lc rfl rfl rfl (fun hb => ?_) (fun hb => ?_)
    · replace h := zif_t (p := x1.toInt < v1.toInt64.toInt) hb h
      refine xt_pure rfl rfl rfl rfl ?_
      obtain ⟨_, S9, hc10, h⟩ := zbi h
      refine zt_Vv rfl rfl rfl rfl (xmC 133 rfl) ⟨rfl, rfl, yle rfl, yle rfl⟩ (m := 1) rfl ⟨by omega, by omega⟩ (tcP_refuse hG0 hG (by omega) (by omega) hc10) (fr1 := fr - 1) (lo1 := lo - 20) ?_
      refine xt_pure rfl rfl rfl rfl ?_
      cases h
      exact xt_iret rfl rfl rfl rfl ⟨rfl, rfl⟩
    · replace h := zif_f (p := x1.toInt < v1.toInt64.toInt) hb h
      refine xt_pure rfl rfl rfl rfl ?_
      refine xt_pure rfl rfl rfl rfl ?_
      refine xt_pure rfl rfl rfl rfl ?_
      refine zt_lc rfl rfl rfl (fun hb => ?_) (fun hb => ?_)
      · replace h := zif_t (p := x1.toInt ≤ v2.toInt64.toInt) hb h
        refine xt_pure rfl rfl rfl rfl ?_
        obtain ⟨_, S12, hc13, h⟩ := zbi h
        refine zt_Vv rfl rfl rfl rfl (xmC 133 rfl) ⟨rfl, rfl, yle rfl, yle rfl⟩ (m := 1) rfl ⟨by omega, by omega⟩ (tcP_next hG0 hG (by omega) (by omega) hc13) (fr1 := fr - 1) (lo1 := lo - 20) ?_
        refine xt_pure rfl rfl rfl rfl ?_
        refine xt_pure rfl rfl rfl rfl ?_
        cases h
        exact xt_iret rfl rfl rfl rfl ⟨rfl, rfl⟩
      · replace h := zif_f (p := x1.toInt ≤ v2.toInt64.toInt) hb h
        refine xt_pure rfl rfl rfl rfl ?_
        obtain ⟨_, S15, hc16, h⟩ := zbi h
        refine zt_Vv rfl rfl rfl rfl (xmC 133 rfl) ⟨rfl, rfl, yle rfl, yle rfl⟩ (m := 1) rfl ⟨by omega, by omega⟩ (tcP_refuse hG0 hG (by omega) (by omega) hc16) (fr1 := fr - 1) (lo1 := lo - 20) ?_
        refine xt_pure rfl rfl rfl rfl ?_
        cases h
        exact xt_iret rfl rfl rfl rfl ⟨rfl, rfl⟩
def cP_readHead_22  (N : Nat)   (S : zS) : Option (Unit × zS) := (zb (cP_sees N  S) fun x10 S11 => (if x10 ≠ (202 : Int32) then some ((), S11) else (zb (cP_next N  S11) fun _ S14 => (zb (cP_readNumber N 0 5 S14) fun x16 S17 => (zb (cP_want N 59 (zsI S17 29 x16)) fun _ S20 => some ((), S20))))))
theorem tcP_readHead_22 {X : List Int32} {D0 : List xE} {a : Nat} {p : Nat → Nat} (hG0 : ((85, .inl (7, 1, .ref a)) : xE) ∈ D0) (hG : ∀ e ∈ zgP a p, e ∈ D0)  {N fr lo : Nat}   (hf : 2 ≤ fr) (hl : 44 ≤ lo)   {S S2 : zS} {r : Unit}  (h : cP_readHead_22 N  S = some (r, S2)) : yT X fr lo 51 22 [some (.ref 85)] [] (zD zTP (zaP a p) S D0) 0 0 (zQv zTP (zaP a p) D0 r S2) := by
  unfold cP_readHead_22 at h
  refine xt_pure rfl rfl rfl rfl ?_
  obtain ⟨x10, S11, hc12, h⟩ := zbi h
  refine zt_Vi rfl rfl rfl rfl (xmC 133 rfl) ⟨rfl, rfl, yle rfl, yle rfl⟩ (m := 1) rfl ⟨by omega, by omega⟩ (tcP_sees hG0 hG (by omega) (by omega) hc12) (fr1 := fr - 1) (lo1 := lo - 20) ?_
  refine xt_pure rfl rfl rfl (st1 := .int 202 :: _) rfl ?_
  refine xt_ic rfl rfl (fun hb => ?_) (fun hb => ?_)
  · replace h := zif_t (p := x10 ≠ (202 : Int32)) hb h
    cases h
    exact xt_vret rfl rfl rfl ⟨rfl, rfl⟩
  · replace h := zif_f (p := x10 ≠ (202 : Int32)) hb h
    refine xt_pure rfl rfl rfl rfl ?_
    obtain ⟨_, S14, hc15, h⟩ := zbi h
    refine zt_Vv rfl rfl rfl rfl (xmC 133 rfl) ⟨rfl, rfl, yle rfl, yle rfl⟩ (m := 1) rfl ⟨by omega, by omega⟩ (tcP_next hG0 hG (by omega) (by omega) hc15) (fr1 := fr - 1) (lo1 := lo - 20) ?_
    refine xt_pure rfl rfl rfl rfl ?_
    refine xt_getf rfl rfl (zmr hG0) ?_
    refine xt_pure rfl rfl rfl rfl ?_
    refine xt_pure rfl rfl rfl (st1 := .int 0 :: _) rfl ?_
    refine xt_pure rfl rfl rfl (st1 := .int 5 :: _) rfl ?_
    obtain ⟨x16, S17, hc18, h⟩ := zbi h
    refine zt_Vi rfl rfl rfl rfl (xmC 133 rfl) ⟨rfl, rfl, yle rfl, yle rfl⟩ (m := 5) rfl ⟨by omega, by omega⟩ (tcP_readNumber hG0 hG (by omega) (by omega) hc18) (fr1 := fr - 1) (lo1 := lo - 24) ?_
    refine zt_pI 29 rfl rfl rfl rfl rfl rfl ?_
    refine xt_pure rfl rfl rfl rfl ?_
    refine xt_pure rfl rfl rfl (st1 := .int 59 :: _) rfl ?_
    obtain ⟨_, S20, hc21, h⟩ := zbi h
    refine zt_Vv rfl rfl rfl rfl (xmC 133 rfl) ⟨rfl, rfl, yle rfl, yle rfl⟩ (m := 2) rfl ⟨by omega, by omega⟩ (tcP_want hG0 hG (by omega) (by omega) hc21) (fr1 := fr - 1) (lo1 := lo - 21) ?_
    cases h
    exact xt_vret rfl rfl rfl ⟨rfl, rfl⟩
def cP_readHead  (N : Nat)  (S : zS) : Option (Unit × zS) := (zb (cP_want N 200 S) fun _ S2 => (zb (cP_want N 59 S2) fun _ S5 => (zb (cP_sees N  S5) fun x7 S8 => (if x7 ≠ (201 : Int32) then cP_readHead_22 N  S8 else (zb (cP_next N  S8) fun _ S23 => (zb (cP_readNumber N 0 9999 S23) fun x25 S26 => (zb (cP_want N 59 (zsI S26 28 x25)) fun _ S29 => cP_readHead_22 N  S29)))))))
theorem tcP_readHead {X : List Int32} {D0 : List xE} {a : Nat} {p : Nat → Nat} (hG0 : ((85, .inl (7, 1, .ref a)) : xE) ∈ D0) (hG : ∀ e ∈ zgP a p, e ∈ D0)  {N fr lo : Nat} (hf : 2 ≤ fr) (hl : 44 ≤ lo)  {S S2 : zS} {r : Unit}  (h : cP_readHead N  S = some (r, S2)) : yK X fr lo 51 [.ref 85] (zD zTP (zaP a p) S D0) 0 0 (zQv zTP (zaP a p) D0 r S2) := by
  unfold cP_readHead at h
  refine yK.of rfl (yle rfl) (L := [_]) rfl ?_
  refine xt_pure rfl rfl rfl rfl ?_
  refine xt_pure rfl rfl rfl (st1 := .int 200 :: _) rfl ?_
  obtain ⟨_, S2, hc3, h⟩ := zbi h
  refine zt_Vv rfl rfl rfl rfl (xmC 133 rfl) ⟨rfl, rfl, yle rfl, yle rfl⟩ (m := 2) rfl ⟨by omega, by omega⟩ (tcP_want hG0 hG (by omega) (by omega) hc3) (fr1 := fr - 1) (lo1 := lo - 21) ?_
  refine xt_pure rfl rfl rfl rfl ?_
  refine xt_pure rfl rfl rfl (st1 := .int 59 :: _) rfl ?_
  obtain ⟨_, S5, hc6, h⟩ := zbi h
  refine zt_Vv rfl rfl rfl rfl (xmC 133 rfl) ⟨rfl, rfl, yle rfl, yle rfl⟩ (m := 2) rfl ⟨by omega, by omega⟩ (tcP_want hG0 hG (by omega) (by omega) hc6) (fr1 := fr - 1) (lo1 := lo - 21) ?_
  refine xt_pure rfl rfl rfl rfl ?_
  obtain ⟨x7, S8, hc9, h⟩ := zbi h
  refine zt_Vi rfl rfl rfl rfl (xmC 133 rfl) ⟨rfl, rfl, yle rfl, yle rfl⟩ (m := 1) rfl ⟨by omega, by omega⟩ (tcP_sees hG0 hG (by omega) (by omega) hc9) (fr1 := fr - 1) (lo1 := lo - 20) ?_
  refine xt_pure rfl rfl rfl (st1 := .int 201 :: _) rfl ?_
  refine xt_ic rfl rfl (fun hb => ?_) (fun hb => ?_)
  · replace h := zif_t (p := x7 ≠ (201 : Int32)) hb h
    exact tcP_readHead_22 hG0 hG hf hl h
  · replace h := zif_f (p := x7 ≠ (201 : Int32)) hb h
    refine xt_pure rfl rfl rfl rfl ?_
    obtain ⟨_, S23, hc24, h⟩ := zbi h
    refine zt_Vv rfl rfl rfl rfl (xmC 133 rfl) ⟨rfl, rfl, yle rfl, yle rfl⟩ (m := 1) rfl ⟨by omega, by omega⟩ (tcP_next hG0 hG (by omega) (by omega) hc24) (fr1 := fr - 1) (lo1 := lo - 20) ?_
    refine xt_pure rfl rfl rfl rfl ?_
    refine xt_getf rfl rfl (zmr hG0) ?_
    refine xt_pure rfl rfl rfl rfl ?_
    refine xt_pure rfl rfl rfl (st1 := .int 0 :: _) rfl ?_
    refine xt_pure rfl rfl rfl (st1 := .int 9999 :: _) rfl ?_
    obtain ⟨x25, S26, hc27, h⟩ := zbi h
    refine zt_Vi rfl rfl rfl rfl (xmC 133 rfl) ⟨rfl, rfl, yle rfl, yle rfl⟩ (m := 5) rfl ⟨by omega, by omega⟩ (tcP_readNumber hG0 hG (by omega) (by omega) hc27) (fr1 := fr - 1) (lo1 := lo - 24) ?_
    refine zt_pI 28 rfl rfl rfl rfl rfl rfl ?_
    refine xt_pure rfl rfl rfl rfl ?_
    refine xt_pure rfl rfl rfl (st1 := .int 59 :: _) rfl ?_
    obtain ⟨_, S29, hc30, h⟩ := zbi h
    refine zt_Vv rfl rfl rfl rfl (xmC 133 rfl) ⟨rfl, rfl, yle rfl, yle rfl⟩ (m := 2) rfl ⟨by omega, by omega⟩ (tcP_want hG0 hG (by omega) (by omega) hc30) (fr1 := fr - 1) (lo1 := lo - 21) ?_
    exact tcP_readHead_22 hG0 hG hf hl h
def cP_seesKind  (N : Nat)  (S : zS) : Option (Int32 × zS) := (zb (cP_sees N  S) fun x1 S2 => (if x1.toInt < 206 then some (0, S2) else (zb (cP_sees N  S2) fun x4 S5 => (if 216 < x4.toInt then some (0, S5) else some (1, S5)))))
theorem tcP_seesKind {X : List Int32} {D0 : List xE} {a : Nat} {p : Nat → Nat} (hG0 : ((85, .inl (7, 1, .ref a)) : xE) ∈ D0) (hG : ∀ e ∈ zgP a p, e ∈ D0)  {N fr lo : Nat} (hf : 1 ≤ fr) (hl : 20 ≤ lo)  {S S2 : zS} {r : Int32}  (h : cP_seesKind N  S = some (r, S2)) : yK X fr lo 59 [.ref 85] (zD zTP (zaP a p) S D0) 0 0 (zQi zTP (zaP a p) D0 r S2) := by
  unfold cP_seesKind at h
  refine yK.of rfl (yle rfl) (L := [_]) rfl ?_
  refine xt_pure rfl rfl rfl rfl ?_
  obtain ⟨x1, S2, hc3, h⟩ := zbi h
  refine zt_Vi rfl rfl rfl rfl (xmC 133 rfl) ⟨rfl, rfl, yle rfl, yle rfl⟩ (m := 1) rfl ⟨by omega, by omega⟩ (tcP_sees hG0 hG (by omega) (by omega) hc3) (fr1 := fr - 1) (lo1 := lo - 20) ?_
  refine xt_pure rfl rfl rfl (st1 := .int 206 :: _) rfl ?_
  refine xt_ic rfl rfl (fun hb => ?_) (fun hb => ?_)
  · replace h := zif_t (p := x1.toInt < 206) hb h
    refine xt_pure rfl rfl rfl (st1 := .int 0 :: _) rfl ?_
    cases h
    exact xt_iret rfl rfl rfl rfl ⟨rfl, rfl⟩
  · replace h := zif_f (p := x1.toInt < 206) hb h
    refine xt_pure rfl rfl rfl rfl ?_
    obtain ⟨x4, S5, hc6, h⟩ := zbi h
    refine zt_Vi rfl rfl rfl rfl (xmC 133 rfl) ⟨rfl, rfl, yle rfl, yle rfl⟩ (m := 1) rfl ⟨by omega, by omega⟩ (tcP_sees hG0 hG (by omega) (by omega) hc6) (fr1 := fr - 1) (lo1 := lo - 20) ?_
    refine xt_pure rfl rfl rfl (st1 := .int 216 :: _) rfl ?_
    refine xt_ic rfl rfl (fun hb => ?_) (fun hb => ?_)
    · replace h := zif_t (p := 216 < x4.toInt) hb h
      refine xt_pure rfl rfl rfl (st1 := .int 0 :: _) rfl ?_
      cases h
      exact xt_iret rfl rfl rfl rfl ⟨rfl, rfl⟩
    · replace h := zif_f (p := 216 < x4.toInt) hb h
      refine xt_pure rfl rfl rfl (st1 := .int 1 :: _) rfl ?_
      refine xt_pure rfl rfl rfl rfl ?_
      cases h
      exact xt_iret rfl rfl rfl rfl ⟨rfl, rfl⟩
def cP_seesPart  (N : Nat)  (S : zS) : Option (Int32 × zS) := (zb (cP_sees N  S) fun x1 S2 => (if x1 = (203 : Int32) then some (1, S2) else (zb (cP_sees N  S2) fun x4 S5 => (if x4 = (205 : Int32) then some (1, S5) else (zb (cP_seesKind N  S5) fun x7 S8 => (if x7 = (0 : Int32) then some (0, S8) else some (1, S8)))))))
theorem tcP_seesPart {X : List Int32} {D0 : List xE} {a : Nat} {p : Nat → Nat} (hG0 : ((85, .inl (7, 1, .ref a)) : xE) ∈ D0) (hG : ∀ e ∈ zgP a p, e ∈ D0)  {N fr lo : Nat} (hf : 2 ≤ fr) (hl : 40 ≤ lo)  {S S2 : zS} {r : Int32}  (h : cP_seesPart N  S = some (r, S2)) : yK X fr lo 58 [.ref 85] (zD zTP (zaP a p) S D0) 0 0 (zQi zTP (zaP a p) D0 r S2) := by
  unfold cP_seesPart at h
  refine yK.of rfl (yle rfl) (L := [_]) rfl ?_
  refine xt_pure rfl rfl rfl rfl ?_
  obtain ⟨x1, S2, hc3, h⟩ := zbi h
  refine zt_Vi rfl rfl rfl rfl (xmC 133 rfl) ⟨rfl, rfl, yle rfl, yle rfl⟩ (m := 1) rfl ⟨by omega, by omega⟩ (tcP_sees hG0 hG (by omega) (by omega) hc3) (fr1 := fr - 1) (lo1 := lo - 20) ?_
  refine xt_pure rfl rfl rfl (st1 := .int 203 :: _) rfl ?_
  refine xt_ic rfl rfl (fun hb => ?_) (fun hb => ?_)
  · replace h := zif_t (p := x1 = (203 : Int32)) hb h
    refine xt_pure rfl rfl rfl (st1 := .int 1 :: _) rfl ?_
    refine xt_pure rfl rfl rfl rfl ?_
    cases h
    exact xt_iret rfl rfl rfl rfl ⟨rfl, rfl⟩
  · replace h := zif_f (p := x1 = (203 : Int32)) hb h
    refine xt_pure rfl rfl rfl rfl ?_
    obtain ⟨x4, S5, hc6, h⟩ := zbi h
    refine zt_Vi rfl rfl rfl rfl (xmC 133 rfl) ⟨rfl, rfl, yle rfl, yle rfl⟩ (m := 1) rfl ⟨by omega, by omega⟩ (tcP_sees hG0 hG (by omega) (by omega) hc6) (fr1 := fr - 1) (lo1 := lo - 20) ?_
    refine xt_pure rfl rfl rfl (st1 := .int 205 :: _) rfl ?_
    refine xt_ic rfl rfl (fun hb => ?_) (fun hb => ?_)
    · replace h := zif_t (p := x4 = (205 : Int32)) hb h
      refine xt_pure rfl rfl rfl (st1 := .int 1 :: _) rfl ?_
      refine xt_pure rfl rfl rfl rfl ?_
      cases h
      exact xt_iret rfl rfl rfl rfl ⟨rfl, rfl⟩
    · replace h := zif_f (p := x4 = (205 : Int32)) hb h
      refine xt_pure rfl rfl rfl rfl ?_
      obtain ⟨x7, S8, hc9, h⟩ := zbi h
      refine zt_Vi rfl rfl rfl rfl (xmC 133 rfl) ⟨rfl, rfl, yle rfl, yle rfl⟩ (m := 1) rfl ⟨by omega, by omega⟩ (tcP_seesKind hG0 hG (by omega) (by omega) hc9) (fr1 := fr - 1) (lo1 := lo - 20) ?_
      refine xt_if rfl rfl (fun hb => ?_) (fun hb => ?_)
      · replace h := zif_t (p := x7 = (0 : Int32)) hb h
        refine xt_pure rfl rfl rfl (st1 := .int 0 :: _) rfl ?_
        cases h
        exact xt_iret rfl rfl rfl rfl ⟨rfl, rfl⟩
      · replace h := zif_f (p := x7 = (0 : Int32)) hb h
        refine xt_pure rfl rfl rfl (st1 := .int 1 :: _) rfl ?_
        refine xt_pure rfl rfl rfl rfl ?_
        cases h
        exact xt_iret rfl rfl rfl rfl ⟨rfl, rfl⟩
def cP_enter  (N : Nat) (v1 : Int32) (S : zS) : Option (Unit × zS) := (if v1.toInt < 10 then some ((), S) else (zb (cP_refuse N  S) fun _ S2 => some ((), S2)))
theorem tcP_enter {X : List Int32} {D0 : List xE} {a : Nat} {p : Nat → Nat} (hG0 : ((85, .inl (7, 1, .ref a)) : xE) ∈ D0) (hG : ∀ e ∈ zgP a p, e ∈ D0)  {N fr lo : Nat} (hf : 1 ≤ fr) (hl : 20 ≤ lo) {v1 : Int32} {S S2 : zS} {r : Unit}  (h : cP_enter N v1 S = some (r, S2)) : yK X fr lo 60 [.ref 85, .int v1] (zD zTP (zaP a p) S D0) 0 0 (zQv zTP (zaP a p) D0 r S2) := by
  unfold cP_enter at h
  refine yK.of rfl (yle rfl) (L := [_, _]) rfl ?_
  refine xt_pure rfl rfl rfl rfl ?_
  refine xt_pure rfl rfl rfl (st1 := .int 10 :: _) rfl ?_
  refine xt_ic rfl rfl (fun hb => ?_) (fun hb => ?_)
  · replace h := zif_t (p := v1.toInt < 10) hb h
    cases h
    exact xt_vret rfl rfl rfl ⟨rfl, rfl⟩
  · replace h := zif_f (p := v1.toInt < 10) hb h
    refine xt_pure rfl rfl rfl rfl ?_
    obtain ⟨_, S2, hc3, h⟩ := zbi h
    refine zt_Vv rfl rfl rfl rfl (xmC 133 rfl) ⟨rfl, rfl, yle rfl, yle rfl⟩ (m := 1) rfl ⟨by omega, by omega⟩ (tcP_refuse hG0 hG (by omega) (by omega) hc3) (fr1 := fr - 1) (lo1 := lo - 20) ?_
    cases h
    exact xt_vret rfl rfl rfl ⟨rfl, rfl⟩
def cP_find_63_86_2  (N : Nat)  : Nat → Int32 → Int64 → Int32 → zS → Option (Int32 × zS)
  | 0, _, _, _, _ => none
  | n + 1, l1, l2, l4, S => (if l1.toInt ≤ l4.toInt then some ((-9), S) else (if (Int32.ofNat (zB S 8).length).toInt ≤ l4.toInt then some ((-9), S) else (zg (gI (zB S 8) l4) fun x1 => (if x1 ≠ l2 then (cP_find_63_86_2 N n) l1 l2 (l4 + 1) S else some (l4, S)))))
theorem tcP_find_63_86_2 {X : List Int32} {D0 : List xE} {a : Nat} {p : Nat → Nat} (hG0 : ((85, .inl (7, 1, .ref a)) : xE) ∈ D0) (hG : ∀ e ∈ zgP a p, e ∈ D0)  {N fr lo : Nat}   (hf : 0 ≤ fr) (hl : 0 ≤ lo)  : ∀ {n : Nat} {l1 : Int32} {l2 : Int64} {l4 : Int32}  {S S2 : zS} {r : Int32} , cP_find_63_86_2 N n l1 l2 l4 S = some (r, S2) → yT X fr lo 63 2 [some (.ref 86), some (.int l1), some (.long l2), none, some (.int l4)] [] (zD zTP (zaP a p) S D0) 0 0 (zQi zTP (zaP a p) D0 r S2) := by
  intro n
  induction n with
  | zero =>
    intro l1 l2 l4  S S2 r  h
    have h : (none : Option (Int32 × zS)) = some (r, S2) := h
    cases h
  | succ n ih =>
    intro l1 l2 l4  S S2 r  h
    rw [cP_find_63_86_2] at h
    refine xt_pure rfl rfl rfl rfl ?_
    refine xt_pure rfl rfl rfl rfl ?_
    refine xt_ic rfl rfl (fun hb => ?_) (fun hb => ?_)
    · replace h := zif_t (p := l1.toInt ≤ l4.toInt) hb h
      refine xt_pure rfl rfl rfl (st1 := .int (-9) :: _) rfl ?_
      cases h
      exact xt_iret rfl rfl rfl rfl ⟨rfl, rfl⟩
    · replace h := zif_f (p := l1.toInt ≤ l4.toInt) hb h
      refine xt_pure rfl rfl rfl rfl ?_
      refine xt_pure rfl rfl rfl rfl ?_
      refine zr_lenJ (l := (zB S 8)) rfl rfl (zmB 8 rfl rfl (l := (zB S 8)) rfl) rfl ?_
      refine xt_ic rfl rfl (fun hb => ?_) (fun hb => ?_)
      · replace h := zif_t (p := (Int32.ofNat (zB S 8).length).toInt ≤ l4.toInt) hb h
        refine xt_pure rfl rfl rfl (st1 := .int (-9) :: _) rfl ?_
        cases h
        exact xt_iret rfl rfl rfl rfl ⟨rfl, rfl⟩
      · replace h := zif_f (p := (Int32.ofNat (zB S 8).length).toInt ≤ l4.toInt) hb h
        refine xt_pure rfl rfl rfl rfl ?_
        refine xt_pure rfl rfl rfl rfl ?_
        obtain ⟨x1, hx1, h⟩ := zgi h
        refine zr_lld (l := (zB S 8)) rfl rfl (zmB 8 rfl rfl (l := (zB S 8)) rfl) hx1 ?_
        refine xt_pure rfl rfl rfl rfl ?_
        refine zt_lc rfl rfl rfl (fun hb => ?_) (fun hb => ?_)
        · replace h := zif_t (p := x1 ≠ l2) hb h
          refine xt_pure rfl rfl rfl (L1 := [_, _, _, _, some (.int (_ + 1))]) rfl ?_
          refine xt_pure rfl rfl rfl rfl ?_
          exact ih h
        · replace h := zif_f (p := x1 ≠ l2) hb h
          refine xt_pure rfl rfl rfl rfl ?_
          cases h
          exact xt_iret rfl rfl rfl rfl ⟨rfl, rfl⟩
def cP_find_63_86  (N : Nat) (v1 : Int32) (v2 : Int64) (S : zS) : Option (Int32 × zS) := cP_find_63_86_2 N N v1 v2 0 S
theorem tcP_find_63_86 {X : List Int32} {D0 : List xE} {a : Nat} {p : Nat → Nat} (hG0 : ((85, .inl (7, 1, .ref a)) : xE) ∈ D0) (hG : ∀ e ∈ zgP a p, e ∈ D0)  {N fr lo : Nat} (hf : 0 ≤ fr) (hl : 0 ≤ lo) {v1 : Int32} {v2 : Int64} {S S2 : zS} {r : Int32}  (h : cP_find_63_86 N v1 v2 S = some (r, S2)) : yK X fr lo 63 [.ref 86, .int v1, .long v2] (zD zTP (zaP a p) S D0) 0 0 (zQi zTP (zaP a p) D0 r S2) := by
  unfold cP_find_63_86 at h
  refine yK.of rfl (yle rfl) (L := [_, _, _, _, _]) rfl ?_
  refine xt_pure rfl rfl rfl (st1 := .int 0 :: _) rfl ?_
  refine xt_pure rfl rfl rfl (L1 := [_, _, _, _, _]) rfl ?_
  exact tcP_find_63_86_2 hG0 hG hf hl h
def cP_find_63_87_2  (N : Nat)  : Nat → Int32 → Int64 → Int32 → zS → Option (Int32 × zS)
  | 0, _, _, _, _ => none
  | n + 1, l1, l2, l4, S => (if l1.toInt ≤ l4.toInt then some ((-9), S) else (if (Int32.ofNat (zB S 9).length).toInt ≤ l4.toInt then some ((-9), S) else (zg (gI (zB S 9) l4) fun x1 => (if x1 ≠ l2 then (cP_find_63_87_2 N n) l1 l2 (l4 + 1) S else some (l4, S)))))
theorem tcP_find_63_87_2 {X : List Int32} {D0 : List xE} {a : Nat} {p : Nat → Nat} (hG0 : ((85, .inl (7, 1, .ref a)) : xE) ∈ D0) (hG : ∀ e ∈ zgP a p, e ∈ D0)  {N fr lo : Nat}   (hf : 0 ≤ fr) (hl : 0 ≤ lo)  : ∀ {n : Nat} {l1 : Int32} {l2 : Int64} {l4 : Int32}  {S S2 : zS} {r : Int32} , cP_find_63_87_2 N n l1 l2 l4 S = some (r, S2) → yT X fr lo 63 2 [some (.ref 87), some (.int l1), some (.long l2), none, some (.int l4)] [] (zD zTP (zaP a p) S D0) 0 0 (zQi zTP (zaP a p) D0 r S2) := by
  intro n
  induction n with
  | zero =>
    intro l1 l2 l4  S S2 r  h
    have h : (none : Option (Int32 × zS)) = some (r, S2) := h
    cases h
  | succ n ih =>
    intro l1 l2 l4  S S2 r  h
    rw [cP_find_63_87_2] at h
    refine xt_pure rfl rfl rfl rfl ?_
    refine xt_pure rfl rfl rfl rfl ?_
    refine xt_ic rfl rfl (fun hb => ?_) (fun hb => ?_)
    · replace h := zif_t (p := l1.toInt ≤ l4.toInt) hb h
      refine xt_pure rfl rfl rfl (st1 := .int (-9) :: _) rfl ?_
      cases h
      exact xt_iret rfl rfl rfl rfl ⟨rfl, rfl⟩
    · replace h := zif_f (p := l1.toInt ≤ l4.toInt) hb h
      refine xt_pure rfl rfl rfl rfl ?_
      refine xt_pure rfl rfl rfl rfl ?_
      refine zr_lenJ (l := (zB S 9)) rfl rfl (zmB 9 rfl rfl (l := (zB S 9)) rfl) rfl ?_
      refine xt_ic rfl rfl (fun hb => ?_) (fun hb => ?_)
      · replace h := zif_t (p := (Int32.ofNat (zB S 9).length).toInt ≤ l4.toInt) hb h
        refine xt_pure rfl rfl rfl (st1 := .int (-9) :: _) rfl ?_
        cases h
        exact xt_iret rfl rfl rfl rfl ⟨rfl, rfl⟩
      · replace h := zif_f (p := (Int32.ofNat (zB S 9).length).toInt ≤ l4.toInt) hb h
        refine xt_pure rfl rfl rfl rfl ?_
        refine xt_pure rfl rfl rfl rfl ?_
        obtain ⟨x1, hx1, h⟩ := zgi h
        refine zr_lld (l := (zB S 9)) rfl rfl (zmB 9 rfl rfl (l := (zB S 9)) rfl) hx1 ?_
        refine xt_pure rfl rfl rfl rfl ?_
        refine zt_lc rfl rfl rfl (fun hb => ?_) (fun hb => ?_)
        · replace h := zif_t (p := x1 ≠ l2) hb h
          refine xt_pure rfl rfl rfl (L1 := [_, _, _, _, some (.int (_ + 1))]) rfl ?_
          refine xt_pure rfl rfl rfl rfl ?_
          exact ih h
        · replace h := zif_f (p := x1 ≠ l2) hb h
          refine xt_pure rfl rfl rfl rfl ?_
          cases h
          exact xt_iret rfl rfl rfl rfl ⟨rfl, rfl⟩
def cP_find_63_87  (N : Nat) (v1 : Int32) (v2 : Int64) (S : zS) : Option (Int32 × zS) := cP_find_63_87_2 N N v1 v2 0 S
theorem tcP_find_63_87 {X : List Int32} {D0 : List xE} {a : Nat} {p : Nat → Nat} (hG0 : ((85, .inl (7, 1, .ref a)) : xE) ∈ D0) (hG : ∀ e ∈ zgP a p, e ∈ D0)  {N fr lo : Nat} (hf : 0 ≤ fr) (hl : 0 ≤ lo) {v1 : Int32} {v2 : Int64} {S S2 : zS} {r : Int32}  (h : cP_find_63_87 N v1 v2 S = some (r, S2)) : yK X fr lo 63 [.ref 87, .int v1, .long v2] (zD zTP (zaP a p) S D0) 0 0 (zQi zTP (zaP a p) D0 r S2) := by
  unfold cP_find_63_87 at h
  refine yK.of rfl (yle rfl) (L := [_, _, _, _, _]) rfl ?_
  refine xt_pure rfl rfl rfl (st1 := .int 0 :: _) rfl ?_
  refine xt_pure rfl rfl rfl (L1 := [_, _, _, _, _]) rfl ?_
  exact tcP_find_63_87_2 hG0 hG hf hl h
def cP_readNewName  (N : Nat) (v1 : Int32) (S : zS) : Option (Int64 × zS) := (zg (gI (zB S 4) (zI S 5)) fun x1 => (zb (cP_sees N  S) fun x2 S3 => (if x2 ≠ (3 : Int32) then (zb (cP_refuse N  S3) fun _ S6 => some (0, S6)) else (if v1 = (0 : Int32) then (zb (cP_refuse N  S3) fun _ S9 => some (0, S9)) else (zb (cP_find_63_86 N (zI S3 14) x1 S3) fun x11 S12 => (if x11 ≠ ((-9) : Int32) then (zb (cP_refuse N  S12) fun _ S15 => some (0, S15)) else (zb (cP_find_63_87 N (zI S12 22) x1 S12) fun x17 S18 => (if x17 = ((-9) : Int32) then (zb (cP_next N  S18) fun _ S21 => some (x1, S21)) else (zb (cP_refuse N  S18) fun _ S24 => some (0, S24))))))))))
theorem tcP_readNewName {X : List Int32} {D0 : List xE} {a : Nat} {p : Nat → Nat} (hG0 : ((85, .inl (7, 1, .ref a)) : xE) ∈ D0) (hG : ∀ e ∈ zgP a p, e ∈ D0)  {N fr lo : Nat} (hf : 1 ≤ fr) (hl : 24 ≤ lo) {v1 : Int32} {S S2 : zS} {r : Int64}  (h : cP_readNewName N v1 S = some (r, S2)) : yK X fr lo 62 [.ref 85, .int v1] (zD zTP (zaP a p) S D0) 0 0 (zQl zTP (zaP a p) D0 r S2) := by
  unfold cP_readNewName at h
  refine yK.of rfl (yle rfl) (L := [_, _, _, _]) rfl ?_
  refine xt_pure rfl rfl rfl rfl ?_
  refine xt_getf rfl rfl (xmC 133 rfl) ?_
  refine xt_getf rfl rfl (xmC 131 rfl) ?_
  refine xt_pure rfl rfl rfl rfl ?_
  refine zt_gI 5 rfl rfl rfl rfl (x := (zI S 5)) rfl ?_
  obtain ⟨x1, hx1, h⟩ := zgi h
  refine zr_lld (l := (zB S 4)) rfl rfl (zmB 4 rfl rfl (l := (zB S 4)) rfl) hx1 ?_
  refine xt_pure rfl rfl rfl (L1 := [_, _, _, _]) rfl ?_
  refine xt_pure rfl rfl rfl rfl ?_
  obtain ⟨x2, S3, hc4, h⟩ := zbi h
  refine zt_Vi rfl rfl rfl rfl (xmC 133 rfl) ⟨rfl, rfl, yle rfl, yle rfl⟩ (m := 1) rfl ⟨by omega, by omega⟩ (tcP_sees hG0 hG (by omega) (by omega) hc4) (fr1 := fr - 1) (lo1 := lo - 20) ?_
  refine xt_pure rfl rfl rfl (st1 := .int 3 :: _) rfl ?_
  refine xt_ic rfl rfl (fun hb => ?_) (fun hb => ?_)
  · replace h := zif_t (p := x2 ≠ (3 : Int32)) hb h
    refine xt_pure rfl rfl rfl rfl ?_
    obtain ⟨_, S6, hc7, h⟩ := zbi h
    refine zt_Vv rfl rfl rfl rfl (xmC 133 rfl) ⟨rfl, rfl, yle rfl, yle rfl⟩ (m := 1) rfl ⟨by omega, by omega⟩ (tcP_refuse hG0 hG (by omega) (by omega) hc7) (fr1 := fr - 1) (lo1 := lo - 20) ?_
    refine xt_pure rfl rfl rfl (st1 := .long 0 :: _) rfl ?_
    cases h
    exact xt_lret rfl rfl rfl ⟨rfl, rfl⟩
  · replace h := zif_f (p := x2 ≠ (3 : Int32)) hb h
    refine xt_pure rfl rfl rfl rfl ?_
    refine xt_if rfl rfl (fun hb => ?_) (fun hb => ?_)
    · replace h := zif_t (p := v1 = (0 : Int32)) hb h
      refine xt_pure rfl rfl rfl rfl ?_
      obtain ⟨_, S9, hc10, h⟩ := zbi h
      refine zt_Vv rfl rfl rfl rfl (xmC 133 rfl) ⟨rfl, rfl, yle rfl, yle rfl⟩ (m := 1) rfl ⟨by omega, by omega⟩ (tcP_refuse hG0 hG (by omega) (by omega) hc10) (fr1 := fr - 1) (lo1 := lo - 20) ?_
      refine xt_pure rfl rfl rfl (st1 := .long 0 :: _) rfl ?_
      cases h
      exact xt_lret rfl rfl rfl ⟨rfl, rfl⟩
    · replace h := zif_f (p := v1 = (0 : Int32)) hb h
      refine xt_pure rfl rfl rfl rfl ?_
      refine xt_getf rfl rfl (xmC 134 rfl) ?_
      refine xt_pure rfl rfl rfl rfl ?_
      refine xt_getf rfl rfl (zmr hG0) ?_
      refine zt_gI 14 rfl rfl rfl rfl (x := (zI S3 14)) rfl ?_
      refine xt_pure rfl rfl rfl rfl ?_
      obtain ⟨x11, S12, hc13, h⟩ := zbi h
      refine zt_Si rfl rfl (by decide) rfl rfl ⟨rfl, yle rfl, yle rfl⟩ (m := 5) rfl ⟨by omega, by omega⟩ (tcP_find_63_86 hG0 hG (by omega) (by omega) hc13) (fr1 := fr - 1) (lo1 := lo - 24) ?_
      refine xt_pure rfl rfl rfl (st1 := .int (-9) :: _) rfl ?_
      refine xt_ic rfl rfl (fun hb => ?_) (fun hb => ?_)
      · replace h := zif_t (p := x11 ≠ ((-9) : Int32)) hb h
        refine xt_pure rfl rfl rfl rfl ?_
        obtain ⟨_, S15, hc16, h⟩ := zbi h
        refine zt_Vv rfl rfl rfl rfl (xmC 133 rfl) ⟨rfl, rfl, yle rfl, yle rfl⟩ (m := 1) rfl ⟨by omega, by omega⟩ (tcP_refuse hG0 hG (by omega) (by omega) hc16) (fr1 := fr - 1) (lo1 := lo - 20) ?_
        refine xt_pure rfl rfl rfl (st1 := .long 0 :: _) rfl ?_
        cases h
        exact xt_lret rfl rfl rfl ⟨rfl, rfl⟩
      · replace h := zif_f (p := x11 ≠ ((-9) : Int32)) hb h
        refine xt_pure rfl rfl rfl rfl ?_
        refine xt_getf rfl rfl (xmC 135 rfl) ?_
        refine xt_pure rfl rfl rfl rfl ?_
        refine xt_getf rfl rfl (zmr hG0) ?_
        refine zt_gI 22 rfl rfl rfl rfl (x := (zI S12 22)) rfl ?_
        refine xt_pure rfl rfl rfl rfl ?_
        obtain ⟨x17, S18, hc19, h⟩ := zbi h
        refine zt_Si rfl rfl (by decide) rfl rfl ⟨rfl, yle rfl, yle rfl⟩ (m := 5) rfl ⟨by omega, by omega⟩ (tcP_find_63_87 hG0 hG (by omega) (by omega) hc19) (fr1 := fr - 1) (lo1 := lo - 24) ?_
        refine xt_pure rfl rfl rfl (st1 := .int (-9) :: _) rfl ?_
        refine xt_ic rfl rfl (fun hb => ?_) (fun hb => ?_)
        · replace h := zif_t (p := x17 = ((-9) : Int32)) hb h
          refine xt_pure rfl rfl rfl rfl ?_
          obtain ⟨_, S21, hc22, h⟩ := zbi h
          refine zt_Vv rfl rfl rfl rfl (xmC 133 rfl) ⟨rfl, rfl, yle rfl, yle rfl⟩ (m := 1) rfl ⟨by omega, by omega⟩ (tcP_next hG0 hG (by omega) (by omega) hc22) (fr1 := fr - 1) (lo1 := lo - 20) ?_
          refine xt_pure rfl rfl rfl rfl ?_
          cases h
          exact xt_lret rfl rfl rfl ⟨rfl, rfl⟩
        · replace h := zif_f (p := x17 = ((-9) : Int32)) hb h
          refine xt_pure rfl rfl rfl rfl ?_
          obtain ⟨_, S24, hc25, h⟩ := zbi h
          refine zt_Vv rfl rfl rfl rfl (xmC 133 rfl) ⟨rfl, rfl, yle rfl, yle rfl⟩ (m := 1) rfl ⟨by omega, by omega⟩ (tcP_refuse hG0 hG (by omega) (by omega) hc25) (fr1 := fr - 1) (lo1 := lo - 20) ?_
          refine xt_pure rfl rfl rfl (st1 := .long 0 :: _) rfl ?_
          cases h
          exact xt_lret rfl rfl rfl ⟨rfl, rfl⟩
def cP_readNewPart_11  (N : Nat)  (l1 : Int32) (l2 : Int32) (l3 : Int32) (l4 : Int32) (s1 : Int32) (S : zS) : Option (Int32 × zS) := (zb (cP_readNewName N s1 S) fun x1 S2 => (if (zI S2 6) = ((-9) : Int32) then (if zok (zB S2 8) l4 then (if zok (zA S2 15) l4 then (if zok (zA S2 16) l4 then (if zok (zA S2 17) l4 then (if zok (zA S2 21) l4 then some (l4, (zsI (zsA (zsA (zsA (zsA (zsB S2 8 (zs (zB S2 8) l4 x1)) 15 (zs (zA S2 15) l4 l1)) 16 (zs (zA S2 16) l4 l2)) 17 (zs (zA S2 17) l4 l3)) 21 (zs (zA S2 21) l4 (-9))) 14 ((zI S2 14) + 1))) else none) else none) else none) else none) else none) else some (0, S2)))
theorem tcP_readNewPart_11 {X : List Int32} {D0 : List xE} {a : Nat} {p : Nat → Nat} (hG0 : ((85, .inl (7, 1, .ref a)) : xE) ∈ D0) (hG : ∀ e ∈ zgP a p, e ∈ D0)  {N fr lo : Nat}   (hf : 2 ≤ fr) (hl : 47 ≤ lo) {l1 : Int32} {l2 : Int32} {l3 : Int32} {l4 : Int32} {s1 : Int32}  {S S2 : zS} {r : Int32}  (h : cP_readNewPart_11 N l1 l2 l3 l4 s1 S = some (r, S2)) : yT X fr lo 61 11 [some (.ref 85), some (.int l1), some (.int l2), some (.int l3), some (.int l4), none, none] [.int s1, .ref 85] (zD zTP (zaP a p) S D0) 0 0 (zQi zTP (zaP a p) D0 r S2) := by
  unfold cP_readNewPart_11 at h
  obtain ⟨x1, S2, hc3, h⟩ := zbi h
  refine zt_Vl rfl rfl rfl rfl (xmC 133 rfl) ⟨rfl, rfl, yle rfl, yle rfl⟩ (m := 4) rfl ⟨by omega, by omega⟩ (tcP_readNewName hG0 hG (by omega) (by omega) hc3) (fr1 := fr - 1) (lo1 := lo - 23) ?_
  refine xt_pure rfl rfl rfl (L1 := [_, _, _, _, _, _, _]) rfl ?_
  refine xt_pure rfl rfl rfl rfl ?_
  refine zt_gI 6 rfl rfl rfl rfl (x := (zI S2 6)) rfl ?_
  refine xt_pure rfl rfl rfl (st1 := .int (-9) :: _) rfl ?_
  refine xt_ic rfl rfl (fun hb => ?_) (fun hb => ?_)
  · replace h := zif_t (p := (zI S2 6) = ((-9) : Int32)) hb h
    refine xt_pure rfl rfl rfl rfl ?_
    refine xt_getf rfl rfl (xmC 134 rfl) ?_
    refine xt_pure rfl rfl rfl rfl ?_
    refine xt_pure rfl rfl rfl rfl ?_
    obtain ⟨hg, h⟩ := zgd h
    refine zt_lst 8 rfl rfl rfl rfl (l := (zB S2 8)) rfl hg ?_
    refine xt_pure rfl rfl rfl rfl ?_
    refine xt_getf rfl rfl (zmr hG0) ?_
    refine xt_getf rfl rfl (zmr (ymm hG 0 rfl)) ?_
    refine xt_pure rfl rfl rfl rfl ?_
    refine xt_pure rfl rfl rfl rfl ?_
    obtain ⟨hg, h⟩ := zgd h
    refine zt_ist 15 rfl rfl rfl rfl (l := (zA S2 15)) rfl hg ?_
    refine xt_pure rfl rfl rfl rfl ?_
    refine xt_getf rfl rfl (zmr hG0) ?_
    refine xt_getf rfl rfl (zmr (ymm hG 1 rfl)) ?_
    refine xt_pure rfl rfl rfl rfl ?_
    refine xt_pure rfl rfl rfl rfl ?_
    obtain ⟨hg, h⟩ := zgd h
    refine zt_ist 16 rfl rfl rfl rfl (l := (zA S2 16)) rfl hg ?_
    refine xt_pure rfl rfl rfl rfl ?_
    refine xt_getf rfl rfl (zmr hG0) ?_
    refine xt_getf rfl rfl (zmr (ymm hG 2 rfl)) ?_
    refine xt_pure rfl rfl rfl rfl ?_
    refine xt_pure rfl rfl rfl rfl ?_
    obtain ⟨hg, h⟩ := zgd h
    refine zt_ist 17 rfl rfl rfl rfl (l := (zA S2 17)) rfl hg ?_
    refine xt_pure rfl rfl rfl rfl ?_
    refine xt_getf rfl rfl (zmr hG0) ?_
    refine xt_getf rfl rfl (zmr (ymm hG 6 rfl)) ?_
    refine xt_pure rfl rfl rfl rfl ?_
    refine xt_pure rfl rfl rfl (st1 := .int (-9) :: _) rfl ?_
    obtain ⟨hg, h⟩ := zgd h
    refine zt_ist 21 rfl rfl rfl rfl (l := (zA S2 21)) rfl hg ?_
    refine xt_pure rfl rfl rfl rfl ?_
    refine xt_getf rfl rfl (zmr hG0) ?_
    refine xt_pure rfl rfl rfl rfl ?_
    refine zt_gI 14 rfl rfl rfl rfl (x := (zI S2 14)) rfl ?_
    refine xt_pure rfl rfl rfl (st1 := .int 1 :: _) rfl ?_
    refine xt_pure rfl rfl rfl rfl ?_
    refine zt_pI 14 rfl rfl rfl rfl rfl rfl ?_
    refine xt_pure rfl rfl rfl rfl ?_
    cases h
    exact xt_iret rfl rfl rfl rfl ⟨rfl, rfl⟩
  · replace h := zif_f (p := (zI S2 6) = ((-9) : Int32)) hb h
    refine xt_pure rfl rfl rfl (st1 := .int 0 :: _) rfl ?_
    cases h
    exact xt_iret rfl rfl rfl rfl ⟨rfl, rfl⟩
def cP_readNewPart  (N : Nat) (v1 : Int32) (v2 : Int32) (v3 : Int32) (S : zS) : Option (Int32 × zS) := (if 20 ≤ (zI S 14).toInt then cP_readNewPart_11 N v1 v2 v3 (zI S 14) 0 S else cP_readNewPart_11 N v1 v2 v3 (zI S 14) 1 S)
theorem tcP_readNewPart {X : List Int32} {D0 : List xE} {a : Nat} {p : Nat → Nat} (hG0 : ((85, .inl (7, 1, .ref a)) : xE) ∈ D0) (hG : ∀ e ∈ zgP a p, e ∈ D0)  {N fr lo : Nat} (hf : 2 ≤ fr) (hl : 47 ≤ lo) {v1 : Int32} {v2 : Int32} {v3 : Int32} {S S2 : zS} {r : Int32}  (h : cP_readNewPart N v1 v2 v3 S = some (r, S2)) : yK X fr lo 61 [.ref 85, .int v1, .int v2, .int v3] (zD zTP (zaP a p) S D0) 0 0 (zQi zTP (zaP a p) D0 r S2) := by
  unfold cP_readNewPart at h
  refine yK.of rfl (yle rfl) (L := [_, _, _, _, _, _, _]) rfl ?_
  refine xt_pure rfl rfl rfl rfl ?_
  refine xt_getf rfl rfl (zmr hG0) ?_
  refine zt_gI 14 rfl rfl rfl rfl (x := (zI S 14)) rfl ?_
  refine xt_pure rfl rfl rfl (L1 := [_, _, _, _, _, _, _]) rfl ?_
  refine xt_pure rfl rfl rfl rfl ?_
  refine xt_pure rfl rfl rfl rfl ?_
  refine xt_pure rfl rfl rfl (st1 := .int 20 :: _) rfl ?_
  refine xt_ic rfl rfl (fun hb => ?_) (fun hb => ?_)
  · replace h := zif_t (p := 20 ≤ (zI S 14).toInt) hb h
    refine xt_pure rfl rfl rfl (st1 := .int 0 :: _) rfl ?_
    exact tcP_readNewPart_11 hG0 hG hf hl h
  · replace h := zif_f (p := 20 ≤ (zI S 14).toInt) hb h
    refine xt_pure rfl rfl rfl (st1 := .int 1 :: _) rfl ?_
    refine xt_pure rfl rfl rfl rfl ?_
    exact tcP_readNewPart_11 hG0 hG hf hl h
def cP_readBounds_85  (N : Nat)  (l1 : Int32) (l3 : Int32) (l4 : Int32) (l5 : Int32) (S : zS) : Option (Unit × zS) := (if zok (zA S 20) l1 then (if zok (zA S 18) l1 then (if zok (zA S 19) l1 then some ((), (zsA (zsA (zsA S 20 (zs (zA S 20) l1 l3)) 18 (zs (zA S 18) l1 l4)) 19 (zs (zA S 19) l1 l5))) else none) else none) else none)
theorem tcP_readBounds_85 {X : List Int32} {D0 : List xE} {a : Nat} {p : Nat → Nat} (hG0 : ((85, .inl (7, 1, .ref a)) : xE) ∈ D0) (hG : ∀ e ∈ zgP a p, e ∈ D0)  {N fr lo : Nat}   (hf : 2 ≤ fr) (hl : 44 ≤ lo) {l1 : Int32} {l3 : Int32} {l4 : Int32} {l5 : Int32} {d2 : Int32} {S S2 : zS} {r : Unit}  (h : cP_readBounds_85 N l1 l3 l4 l5 S = some (r, S2)) : yT X fr lo 80 85 [some (.ref 85), some (.int l1), some (.int d2), some (.int l3), some (.int l4), some (.int l5)] [] (zD zTP (zaP a p) S D0) 0 0 (zQv zTP (zaP a p) D0 r S2) := by
  unfold cP_readBounds_85 at h
  refine xt_pure rfl rfl rfl rfl ?_
  refine xt_getf rfl rfl (zmr hG0) ?_
  refine xt_getf rfl rfl (zmr (ymm hG 5 rfl)) ?_
  refine xt_pure rfl rfl rfl rfl ?_
  refine xt_pure rfl rfl rfl rfl ?_
  obtain ⟨hg, h⟩ := zgd h
  refine zt_ist 20 rfl rfl rfl rfl (l := (zA S 20)) rfl hg ?_
  refine xt_pure rfl rfl rfl rfl ?_
  refine xt_getf rfl rfl (zmr hG0) ?_
  refine xt_getf rfl rfl (zmr (ymm hG 3 rfl)) ?_
  refine xt_pure rfl rfl rfl rfl ?_
  refine xt_pure rfl rfl rfl rfl ?_
  obtain ⟨hg, h⟩ := zgd h
  refine zt_ist 18 rfl rfl rfl rfl (l := (zA S 18)) rfl hg ?_
  refine xt_pure rfl rfl rfl rfl ?_
  refine xt_getf rfl rfl (zmr hG0) ?_
  refine xt_getf rfl rfl (zmr (ymm hG 4 rfl)) ?_
  refine xt_pure rfl rfl rfl rfl ?_
  refine xt_pure rfl rfl rfl rfl ?_
  obtain ⟨hg, h⟩ := zgd h
  refine zt_ist 19 rfl rfl rfl rfl (l := (zA S 19)) rfl hg ?_
  cases h
  exact xt_vret rfl rfl rfl ⟨rfl, rfl⟩
def cP_readBounds  (N : Nat) (v1 : Int32) (v2 : Int32) (S : zS) : Option (Unit × zS) := (if v2 = 1 then (zb (cP_readNumber N 0 999999 S) fun x1 S2 => (zb (cP_readNumber N x1 999999 S2) fun x4 S5 => cP_readBounds_85 N v1 0 x1 x4 S5)) else if v2 = 2 then (zb (cP_readNumber N 0 999999 S) fun x8 S9 => cP_readBounds_85 N v1 0 0 x8 S9) else if v2 = 3 then (zb (cP_readNumber N 0 9999 S) fun x12 S13 => (zb (cP_readNumber N x12 9999 S13) fun x15 S16 => cP_readBounds_85 N v1 0 x12 x15 S16)) else if v2 = 4 then (zb (cP_readNumber N 2 8 S) fun x19 S20 => cP_readBounds_85 N v1 x19 0 (x19 - 1) S20) else if v2 = 5 then (zb (cP_readNumber N 1 8 S) fun x23 S24 => (zb (cP_readNumber N 0 x23 S24) fun x26 S27 => (zb (cP_readNumber N x26 x23 S27) fun x29 S30 => cP_readBounds_85 N v1 x23 x26 x29 S30))) else if v2 = 6 then (zb (cP_readNumber N 1 24 S) fun x33 S34 => cP_readBounds_85 N v1 0 0 x33 S34) else if v2 = 7 then (zb (cP_readNumber N 1 4 S) fun x37 S38 => (zb (cP_readNumber N 1 6 S38) fun x40 S41 => cP_readBounds_85 N v1 x37 0 x40 S41)) else if v2 = 8 then (zb (cP_readNumber N 1 8 S) fun x44 S45 => cP_readBounds_85 N v1 0 0 x44 S45) else if v2 = 9 then (zb (cP_readNumber N 1 8 S) fun x48 S49 => cP_readBounds_85 N v1 0 0 x48 S49) else cP_readBounds_85 N v1 0 0 1 S)
set_option maxRecDepth 20000 in
theorem tcP_readBounds {X : List Int32} {D0 : List xE} {a : Nat} {p : Nat → Nat} (hG0 : ((85, .inl (7, 1, .ref a)) : xE) ∈ D0) (hG : ∀ e ∈ zgP a p, e ∈ D0)  {N fr lo : Nat} (hf : 2 ≤ fr) (hl : 44 ≤ lo) {v1 : Int32} {v2 : Int32} {S S2 : zS} {r : Unit}  (h : cP_readBounds N v1 v2 S = some (r, S2)) : yK X fr lo 80 [.ref 85, .int v1, .int v2] (zD zTP (zaP a p) S D0) 0 0 (zQv zTP (zaP a p) D0 r S2) := by
  unfold cP_readBounds at h
  refine yK.of rfl (yle rfl) (L := [_, _, _, _, _, _]) rfl ?_
  refine xt_pure rfl rfl rfl (st1 := .int 0 :: _) rfl ?_
  refine xt_pure rfl rfl rfl (L1 := [_, _, _, _, _, _]) rfl ?_
  refine xt_pure rfl rfl rfl (st1 := .int 0 :: _) rfl ?_
  refine xt_pure rfl rfl rfl (L1 := [_, _, _, _, _, _]) rfl ?_
  refine xt_pure rfl rfl rfl (st1 := .int 1 :: _) rfl ?_
  refine xt_pure rfl rfl rfl (L1 := [_, _, _, _, _, _]) rfl ?_
  refine xt_pure rfl rfl rfl rfl ?_
  by_cases hw7 : v2 = 1
  · replace h := zif_t (p := v2 = 1) hw7 h
    refine zt_sw (tg := 8) rfl rfl rfl hw7 rfl ?_
    refine xt_pure rfl rfl rfl rfl ?_
    refine xt_pure rfl rfl rfl (st1 := .int 0 :: _) rfl ?_
    refine xt_pure rfl rfl rfl (st1 := .int 999999 :: _) rfl ?_
    obtain ⟨x1, S2, hc3, h⟩ := zbi h
    refine zt_Vi rfl rfl rfl rfl (xmC 133 rfl) ⟨rfl, rfl, yle rfl, yle rfl⟩ (m := 5) rfl ⟨by omega, by omega⟩ (tcP_readNumber hG0 hG (by omega) (by omega) hc3) (fr1 := fr - 1) (lo1 := lo - 24) ?_
    refine xt_pure rfl rfl rfl (L1 := [_, _, _, _, _, _]) rfl ?_
    refine xt_pure rfl rfl rfl rfl ?_
    refine xt_pure rfl rfl rfl rfl ?_
    refine xt_pure rfl rfl rfl (st1 := .int 999999 :: _) rfl ?_
    obtain ⟨x4, S5, hc6, h⟩ := zbi h
    refine zt_Vi rfl rfl rfl rfl (xmC 133 rfl) ⟨rfl, rfl, yle rfl, yle rfl⟩ (m := 5) rfl ⟨by omega, by omega⟩ (tcP_readNumber hG0 hG (by omega) (by omega) hc6) (fr1 := fr - 1) (lo1 := lo - 24) ?_
    refine xt_pure rfl rfl rfl (L1 := [_, _, _, _, _, _]) rfl ?_
    refine xt_pure rfl rfl rfl rfl ?_
    exact tcP_readBounds_85 hG0 hG hf hl h
  replace h := zif_f (p := v2 = 1) hw7 h
  by_cases hw11 : v2 = 2
  · replace h := zif_t (p := v2 = 2) hw11 h
    refine zt_sw (tg := 19) rfl rfl rfl hw11 rfl ?_
    refine xt_pure rfl rfl rfl rfl ?_
    refine xt_pure rfl rfl rfl (st1 := .int 0 :: _) rfl ?_
    refine xt_pure rfl rfl rfl (st1 := .int 999999 :: _) rfl ?_
    obtain ⟨x8, S9, hc10, h⟩ := zbi h
    refine zt_Vi rfl rfl rfl rfl (xmC 133 rfl) ⟨rfl, rfl, yle rfl, yle rfl⟩ (m := 5) rfl ⟨by omega, by omega⟩ (tcP_readNumber hG0 hG (by omega) (by omega) hc10) (fr1 := fr - 1) (lo1 := lo - 24) ?_
    refine xt_pure rfl rfl rfl (L1 := [_, _, _, _, _, _]) rfl ?_
    refine xt_pure rfl rfl rfl rfl ?_
    exact tcP_readBounds_85 hG0 hG hf hl h
  replace h := zif_f (p := v2 = 2) hw11 h
  by_cases hw18 : v2 = 3
  · replace h := zif_t (p := v2 = 3) hw18 h
    refine zt_sw (tg := 25) rfl rfl rfl hw18 rfl ?_
    refine xt_pure rfl rfl rfl rfl ?_
    refine xt_pure rfl rfl rfl (st1 := .int 0 :: _) rfl ?_
    refine xt_pure rfl rfl rfl (st1 := .int 9999 :: _) rfl ?_
    obtain ⟨x12, S13, hc14, h⟩ := zbi h
    refine zt_Vi rfl rfl rfl rfl (xmC 133 rfl) ⟨rfl, rfl, yle rfl, yle rfl⟩ (m := 5) rfl ⟨by omega, by omega⟩ (tcP_readNumber hG0 hG (by omega) (by omega) hc14) (fr1 := fr - 1) (lo1 := lo - 24) ?_
    refine xt_pure rfl rfl rfl (L1 := [_, _, _, _, _, _]) rfl ?_
    refine xt_pure rfl rfl rfl rfl ?_
    refine xt_pure rfl rfl rfl rfl ?_
    refine xt_pure rfl rfl rfl (st1 := .int 9999 :: _) rfl ?_
    obtain ⟨x15, S16, hc17, h⟩ := zbi h
    refine zt_Vi rfl rfl rfl rfl (xmC 133 rfl) ⟨rfl, rfl, yle rfl, yle rfl⟩ (m := 5) rfl ⟨by omega, by omega⟩ (tcP_readNumber hG0 hG (by omega) (by omega) hc17) (fr1 := fr - 1) (lo1 := lo - 24) ?_
    refine xt_pure rfl rfl rfl (L1 := [_, _, _, _, _, _]) rfl ?_
    refine xt_pure rfl rfl rfl rfl ?_
    exact tcP_readBounds_85 hG0 hG hf hl h
  replace h := zif_f (p := v2 = 3) hw18 h
  by_cases hw22 : v2 = 4
  · replace h := zif_t (p := v2 = 4) hw22 h
    refine zt_sw (tg := 36) rfl rfl rfl hw22 rfl ?_
    refine xt_pure rfl rfl rfl rfl ?_
    refine xt_pure rfl rfl rfl (st1 := .int 2 :: _) rfl ?_
    refine xt_pure rfl rfl rfl (st1 := .int 8 :: _) rfl ?_
    obtain ⟨x19, S20, hc21, h⟩ := zbi h
    refine zt_Vi rfl rfl rfl rfl (xmC 133 rfl) ⟨rfl, rfl, yle rfl, yle rfl⟩ (m := 5) rfl ⟨by omega, by omega⟩ (tcP_readNumber hG0 hG (by omega) (by omega) hc21) (fr1 := fr - 1) (lo1 := lo - 24) ?_
    refine xt_pure rfl rfl rfl (L1 := [_, _, _, _, _, _]) rfl ?_
    refine xt_pure rfl rfl rfl rfl ?_
    refine xt_pure rfl rfl rfl (st1 := .int 1 :: _) rfl ?_
    refine xt_pure rfl rfl rfl rfl ?_
    refine xt_pure rfl rfl rfl (L1 := [_, _, _, _, _, _]) rfl ?_
    refine xt_pure rfl rfl rfl rfl ?_
    exact tcP_readBounds_85 hG0 hG hf hl h
  replace h := zif_f (p := v2 = 4) hw22 h
  by_cases hw32 : v2 = 5
  · replace h := zif_t (p := v2 = 5) hw32 h
    refine zt_sw (tg := 46) rfl rfl rfl hw32 rfl ?_
    refine xt_pure rfl rfl rfl rfl ?_
    refine xt_pure rfl rfl rfl (st1 := .int 1 :: _) rfl ?_
    refine xt_pure rfl rfl rfl (st1 := .int 8 :: _) rfl ?_
    obtain ⟨x23, S24, hc25, h⟩ := zbi h
    refine zt_Vi rfl rfl rfl rfl (xmC 133 rfl) ⟨rfl, rfl, yle rfl, yle rfl⟩ (m := 5) rfl ⟨by omega, by omega⟩ (tcP_readNumber hG0 hG (by omega) (by omega) hc25) (fr1 := fr - 1) (lo1 := lo - 24) ?_
    refine xt_pure rfl rfl rfl (L1 := [_, _, _, _, _, _]) rfl ?_
    refine xt_pure rfl rfl rfl rfl ?_
    refine xt_pure rfl rfl rfl (st1 := .int 0 :: _) rfl ?_
    refine xt_pure rfl rfl rfl rfl ?_
    obtain ⟨x26, S27, hc28, h⟩ := zbi h
    refine zt_Vi rfl rfl rfl rfl (xmC 133 rfl) ⟨rfl, rfl, yle rfl, yle rfl⟩ (m := 5) rfl ⟨by omega, by omega⟩ (tcP_readNumber hG0 hG (by omega) (by omega) hc28) (fr1 := fr - 1) (lo1 := lo - 24) ?_
    refine xt_pure rfl rfl rfl (L1 := [_, _, _, _, _, _]) rfl ?_
    refine xt_pure rfl rfl rfl rfl ?_
    refine xt_pure rfl rfl rfl rfl ?_
    refine xt_pure rfl rfl rfl rfl ?_
    obtain ⟨x29, S30, hc31, h⟩ := zbi h
    refine zt_Vi rfl rfl rfl rfl (xmC 133 rfl) ⟨rfl, rfl, yle rfl, yle rfl⟩ (m := 5) rfl ⟨by omega, by omega⟩ (tcP_readNumber hG0 hG (by omega) (by omega) hc31) (fr1 := fr - 1) (lo1 := lo - 24) ?_
    refine xt_pure rfl rfl rfl (L1 := [_, _, _, _, _, _]) rfl ?_
    refine xt_pure rfl rfl rfl rfl ?_
    exact tcP_readBounds_85 hG0 hG hf hl h
  replace h := zif_f (p := v2 = 5) hw32 h
  by_cases hw36 : v2 = 6
  · replace h := zif_t (p := v2 = 6) hw36 h
    refine zt_sw (tg := 62) rfl rfl rfl hw36 rfl ?_
    refine xt_pure rfl rfl rfl rfl ?_
    refine xt_pure rfl rfl rfl (st1 := .int 1 :: _) rfl ?_
    refine xt_pure rfl rfl rfl (st1 := .int 24 :: _) rfl ?_
    obtain ⟨x33, S34, hc35, h⟩ := zbi h
    refine zt_Vi rfl rfl rfl rfl (xmC 133 rfl) ⟨rfl, rfl, yle rfl, yle rfl⟩ (m := 5) rfl ⟨by omega, by omega⟩ (tcP_readNumber hG0 hG (by omega) (by omega) hc35) (fr1 := fr - 1) (lo1 := lo - 24) ?_
    refine xt_pure rfl rfl rfl (L1 := [_, _, _, _, _, _]) rfl ?_
    refine xt_pure rfl rfl rfl rfl ?_
    exact tcP_readBounds_85 hG0 hG hf hl h
  replace h := zif_f (p := v2 = 6) hw36 h
  by_cases hw43 : v2 = 7
  · replace h := zif_t (p := v2 = 7) hw43 h
    refine zt_sw (tg := 68) rfl rfl rfl hw43 rfl ?_
    refine xt_pure rfl rfl rfl rfl ?_
    refine xt_pure rfl rfl rfl (st1 := .int 1 :: _) rfl ?_
    refine xt_pure rfl rfl rfl (st1 := .int 4 :: _) rfl ?_
    obtain ⟨x37, S38, hc39, h⟩ := zbi h
    refine zt_Vi rfl rfl rfl rfl (xmC 133 rfl) ⟨rfl, rfl, yle rfl, yle rfl⟩ (m := 5) rfl ⟨by omega, by omega⟩ (tcP_readNumber hG0 hG (by omega) (by omega) hc39) (fr1 := fr - 1) (lo1 := lo - 24) ?_
    refine xt_pure rfl rfl rfl (L1 := [_, _, _, _, _, _]) rfl ?_
    refine xt_pure rfl rfl rfl rfl ?_
    refine xt_pure rfl rfl rfl (st1 := .int 1 :: _) rfl ?_
    refine xt_pure rfl rfl rfl (st1 := .int 6 :: _) rfl ?_
    obtain ⟨x40, S41, hc42, h⟩ := zbi h
    refine zt_Vi rfl rfl rfl rfl (xmC 133 rfl) ⟨rfl, rfl, yle rfl, yle rfl⟩ (m := 5) rfl ⟨by omega, by omega⟩ (tcP_readNumber hG0 hG (by omega) (by omega) hc42) (fr1 := fr - 1) (lo1 := lo - 24) ?_
    refine xt_pure rfl rfl rfl (L1 := [_, _, _, _, _, _]) rfl ?_
    refine xt_pure rfl rfl rfl rfl ?_
    exact tcP_readBounds_85 hG0 hG hf hl h
  replace h := zif_f (p := v2 = 7) hw43 h
  by_cases hw47 : v2 = 8
  · replace h := zif_t (p := v2 = 8) hw47 h
    refine zt_sw (tg := 79) rfl rfl rfl hw47 rfl ?_
    refine xt_pure rfl rfl rfl rfl ?_
    refine xt_pure rfl rfl rfl (st1 := .int 1 :: _) rfl ?_
    refine xt_pure rfl rfl rfl (st1 := .int 8 :: _) rfl ?_
    obtain ⟨x44, S45, hc46, h⟩ := zbi h
    refine zt_Vi rfl rfl rfl rfl (xmC 133 rfl) ⟨rfl, rfl, yle rfl, yle rfl⟩ (m := 5) rfl ⟨by omega, by omega⟩ (tcP_readNumber hG0 hG (by omega) (by omega) hc46) (fr1 := fr - 1) (lo1 := lo - 24) ?_
    refine xt_pure rfl rfl rfl (L1 := [_, _, _, _, _, _]) rfl ?_
    refine xt_pure rfl rfl rfl rfl ?_
    exact tcP_readBounds_85 hG0 hG hf hl h
  replace h := zif_f (p := v2 = 8) hw47 h
  by_cases hw51 : v2 = 9
  · replace h := zif_t (p := v2 = 9) hw51 h
    refine zt_sw (tg := 79) rfl rfl rfl hw51 rfl ?_
    refine xt_pure rfl rfl rfl rfl ?_
    refine xt_pure rfl rfl rfl (st1 := .int 1 :: _) rfl ?_
    refine xt_pure rfl rfl rfl (st1 := .int 8 :: _) rfl ?_
    obtain ⟨x48, S49, hc50, h⟩ := zbi h
    refine zt_Vi rfl rfl rfl rfl (xmC 133 rfl) ⟨rfl, rfl, yle rfl, yle rfl⟩ (m := 5) rfl ⟨by omega, by omega⟩ (tcP_readNumber hG0 hG (by omega) (by omega) hc50) (fr1 := fr - 1) (lo1 := lo - 24) ?_
    refine xt_pure rfl rfl rfl (L1 := [_, _, _, _, _, _]) rfl ?_
    refine xt_pure rfl rfl rfl rfl ?_
    exact tcP_readBounds_85 hG0 hG hf hl h
  replace h := zif_f (p := v2 = 9) hw51 h
  have hxhw7 : ¬ v2.toInt = 1 := fun h => hw7 (by rw [xi32_eq, h]; rfl)
  have hxhw11 : ¬ v2.toInt = 2 := fun h => hw11 (by rw [xi32_eq, h]; rfl)
  have hxhw18 : ¬ v2.toInt = 3 := fun h => hw18 (by rw [xi32_eq, h]; rfl)
  have hxhw22 : ¬ v2.toInt = 4 := fun h => hw22 (by rw [xi32_eq, h]; rfl)
  have hxhw32 : ¬ v2.toInt = 5 := fun h => hw32 (by rw [xi32_eq, h]; rfl)
  have hxhw36 : ¬ v2.toInt = 6 := fun h => hw36 (by rw [xi32_eq, h]; rfl)
  have hxhw43 : ¬ v2.toInt = 7 := fun h => hw43 (by rw [xi32_eq, h]; rfl)
  have hxhw47 : ¬ v2.toInt = 8 := fun h => hw47 (by rw [xi32_eq, h]; rfl)
  have hxhw51 : ¬ v2.toInt = 9 := fun h => hw51 (by rw [xi32_eq, h]; rfl)
  refine yt_tsd rfl rfl (by omega) rfl ?_
  exact tcP_readBounds_85 hG0 hG hf hl h
def cP_node  (N : Nat)  (S : zS) : Option (Unit × zS) := (if (zI S 27).toInt < 250 then some ((), (zsI S 27 ((zI S 27) + 1))) else (zb (cP_refuse N  S) fun _ S2 => some ((), S2)))
theorem tcP_node {X : List Int32} {D0 : List xE} {a : Nat} {p : Nat → Nat} (hG0 : ((85, .inl (7, 1, .ref a)) : xE) ∈ D0) (hG : ∀ e ∈ zgP a p, e ∈ D0)  {N fr lo : Nat} (hf : 1 ≤ fr) (hl : 20 ≤ lo)  {S S2 : zS} {r : Unit}  (h : cP_node N  S = some (r, S2)) : yK X fr lo 69 [.ref 85] (zD zTP (zaP a p) S D0) 0 0 (zQv zTP (zaP a p) D0 r S2) := by
  unfold cP_node at h
  refine yK.of rfl (yle rfl) (L := [_]) rfl ?_
  refine xt_pure rfl rfl rfl rfl ?_
  refine xt_getf rfl rfl (zmr hG0) ?_
  refine zt_gI 27 rfl rfl rfl rfl (x := (zI S 27)) rfl ?_
  refine xt_pure rfl rfl rfl (st1 := .int 250 :: _) rfl ?_
  refine xt_ic rfl rfl (fun hb => ?_) (fun hb => ?_)
  · replace h := zif_t (p := (zI S 27).toInt < 250) hb h
    refine xt_pure rfl rfl rfl rfl ?_
    refine xt_getf rfl rfl (zmr hG0) ?_
    refine xt_pure rfl rfl rfl rfl ?_
    refine zt_gI 27 rfl rfl rfl rfl (x := (zI S 27)) rfl ?_
    refine xt_pure rfl rfl rfl (st1 := .int 1 :: _) rfl ?_
    refine xt_pure rfl rfl rfl rfl ?_
    refine zt_pI 27 rfl rfl rfl rfl rfl rfl ?_
    cases h
    exact xt_vret rfl rfl rfl ⟨rfl, rfl⟩
  · replace h := zif_f (p := (zI S 27).toInt < 250) hb h
    refine xt_pure rfl rfl rfl rfl ?_
    obtain ⟨_, S2, hc3, h⟩ := zbi h
    refine zt_Vv rfl rfl rfl rfl (xmC 133 rfl) ⟨rfl, rfl, yle rfl, yle rfl⟩ (m := 1) rfl ⟨by omega, by omega⟩ (tcP_refuse hG0 hG (by omega) (by omega) hc3) (fr1 := fr - 1) (lo1 := lo - 20) ?_
    refine xt_pure rfl rfl rfl rfl ?_
    cases h
    exact xt_vret rfl rfl rfl ⟨rfl, rfl⟩
def cP_readUse  (N : Nat) (v1 : Int32) (S : zS) : Option (Int32 × zS) := (zb (cP_sees N  S) fun x1 S2 => (if x1 ≠ (3 : Int32) then (zb (cP_refuse N  S2) fun _ S5 => some ((if (249 : Int32) < (zI S 7) then 249 else (zI S 7)), S5)) else (zg (gI (zA S2 3) (zI S2 5)) fun x7 => (if zok (zA S2 10) (if (249 : Int32) < (zI S 7) then 249 else (zI S 7)) then (zg (gI (zB S2 4) (zI S2 5)) fun x8 => (if zok (zB S2 11) (if (249 : Int32) < (zI S 7) then 249 else (zI S 7)) then (if zok (zA S2 13) (if (249 : Int32) < (zI S 7) then 249 else (zI S 7)) then (zb (cP_next N  (zsI (zsA (zsB (zsA S2 10 (zs (zA S2 10) (if (249 : Int32) < (zI S 7) then 249 else (zI S 7)) x7)) 11 (zs (zB S2 11) (if (249 : Int32) < (zI S 7) then 249 else (zI S 7)) x8)) 13 (zs (zA S2 13) (if (249 : Int32) < (zI S 7) then 249 else (zI S 7)) v1)) 7 ((if (249 : Int32) < (zI S 7) then 249 else (zI S 7)) + 1))) fun _ S10 => some ((if (249 : Int32) < (zI S 7) then 249 else (zI S 7)), S10)) else none) else none)) else none))))
theorem tcP_readUse {X : List Int32} {D0 : List xE} {a : Nat} {p : Nat → Nat} (hG0 : ((85, .inl (7, 1, .ref a)) : xE) ∈ D0) (hG : ∀ e ∈ zgP a p, e ∈ D0)  {N fr lo : Nat} (hf : 1 ≤ fr) (hl : 100 ≤ lo) {v1 : Int32} {S S2 : zS} {r : Int32}  (h : cP_readUse N v1 S = some (r, S2)) : yK X fr lo 72 [.ref 85, .int v1] (zD zTP (zaP a p) S D0) 0 0 (zQi zTP (zaP a p) D0 r S2) := by
  unfold cP_readUse at h
  refine yK.of rfl (yle rfl) (L := [_, _, _]) rfl ?_
  refine xt_pure rfl rfl rfl rfl ?_
  refine zt_gI 7 rfl rfl rfl rfl (x := (zI S 7)) rfl ?_
  refine xt_pure rfl rfl rfl (st1 := .int 249 :: _) rfl ?_
  refine xt_min rfl rfl rfl ⟨yle rfl, by omega, by omega⟩ ?_
  refine xt_pure rfl rfl rfl (L1 := [_, _, _]) rfl ?_
  refine xt_pure rfl rfl rfl rfl ?_
  obtain ⟨x1, S2, hc3, h⟩ := zbi h
  refine zt_Vi rfl rfl rfl rfl (xmC 133 rfl) ⟨rfl, rfl, yle rfl, yle rfl⟩ (m := 1) rfl ⟨by omega, by omega⟩ (tcP_sees hG0 hG (by omega) (by omega) hc3) (fr1 := fr - 1) (lo1 := lo - 20) ?_
  refine xt_pure rfl rfl rfl (st1 := .int 3 :: _) rfl ?_
  refine xt_ic rfl rfl (fun hb => ?_) (fun hb => ?_)
  · replace h := zif_t (p := x1 ≠ (3 : Int32)) hb h
    refine xt_pure rfl rfl rfl rfl ?_
    obtain ⟨_, S5, hc6, h⟩ := zbi h
    refine zt_Vv rfl rfl rfl rfl (xmC 133 rfl) ⟨rfl, rfl, yle rfl, yle rfl⟩ (m := 1) rfl ⟨by omega, by omega⟩ (tcP_refuse hG0 hG (by omega) (by omega) hc6) (fr1 := fr - 1) (lo1 := lo - 20) ?_
    refine xt_pure rfl rfl rfl rfl ?_
    cases h
    exact xt_iret rfl rfl rfl rfl ⟨rfl, rfl⟩
  · replace h := zif_f (p := x1 ≠ (3 : Int32)) hb h
    refine xt_pure rfl rfl rfl rfl ?_
    refine xt_getf rfl rfl (xmC 136 rfl) ?_
    refine xt_pure rfl rfl rfl rfl ?_
    refine xt_pure rfl rfl rfl rfl ?_
    refine xt_getf rfl rfl (xmC 133 rfl) ?_
    refine xt_getf rfl rfl (xmC 130 rfl) ?_
    refine xt_pure rfl rfl rfl rfl ?_
    refine zt_gI 5 rfl rfl rfl rfl (x := (zI S2 5)) rfl ?_
    obtain ⟨x7, hx7, h⟩ := zgi h
    refine zr_ild (l := (zA S2 3)) rfl rfl (zmA 3 rfl rfl (l := (zA S2 3)) rfl) hx7 ?_
    obtain ⟨hg, h⟩ := zgd h
    refine zt_ist 10 rfl rfl rfl rfl (l := (zA S2 10)) rfl hg ?_
    refine xt_pure rfl rfl rfl rfl ?_
    refine xt_getf rfl rfl (xmC 137 rfl) ?_
    refine xt_pure rfl rfl rfl rfl ?_
    refine xt_pure rfl rfl rfl rfl ?_
    refine xt_getf rfl rfl (xmC 133 rfl) ?_
    refine xt_getf rfl rfl (xmC 131 rfl) ?_
    refine xt_pure rfl rfl rfl rfl ?_
    refine zt_gI 5 rfl rfl rfl rfl (x := (zI S2 5)) rfl ?_
    obtain ⟨x8, hx8, h⟩ := zgi h
    refine zr_lld (l := (zB S2 4)) rfl rfl (zmB 4 rfl rfl (l := (zB S2 4)) rfl) hx8 ?_
    obtain ⟨hg, h⟩ := zgd h
    refine zt_lst 11 rfl rfl rfl rfl (l := (zB S2 11)) rfl hg ?_
    refine xt_pure rfl rfl rfl rfl ?_
    refine xt_getf rfl rfl (xmC 139 rfl) ?_
    refine xt_pure rfl rfl rfl rfl ?_
    refine xt_pure rfl rfl rfl rfl ?_
    obtain ⟨hg, h⟩ := zgd h
    refine zt_ist 13 rfl rfl rfl rfl (l := (zA S2 13)) rfl hg ?_
    refine xt_pure rfl rfl rfl rfl ?_
    refine xt_pure rfl rfl rfl rfl ?_
    refine xt_pure rfl rfl rfl (st1 := .int 1 :: _) rfl ?_
    refine xt_pure rfl rfl rfl rfl ?_
    refine zt_pI 7 rfl rfl rfl rfl rfl rfl ?_
    refine xt_pure rfl rfl rfl rfl ?_
    obtain ⟨_, S10, hc11, h⟩ := zbi h
    refine zt_Vv rfl rfl rfl rfl (xmC 133 rfl) ⟨rfl, rfl, yle rfl, yle rfl⟩ (m := 1) rfl ⟨by omega, by omega⟩ (tcP_next hG0 hG (by omega) (by omega) hc11) (fr1 := fr - 1) (lo1 := lo - 20) ?_
    refine xt_pure rfl rfl rfl rfl ?_
    refine xt_pure rfl rfl rfl rfl ?_
    cases h
    exact xt_iret rfl rfl rfl rfl ⟨rfl, rfl⟩
def cP_levelOf  (N : Nat) (v0 : Int32) (S : zS) : Option (Int32 × zS) := (if v0 = 37 then some (4, S) else if v0 = 42 then some (4, S) else if v0 = 43 then some (3, S) else if v0 = 45 then some (3, S) else if v0 = 47 then some (4, S) else if v0 = 60 then some (2, S) else if v0 = 61 then some (2, S) else if v0 = 62 then some (2, S) else if v0 = 219 then some (0, S) else if v0 = 220 then some (1, S) else some ((-9), S))
set_option maxRecDepth 20000 in
theorem tcP_levelOf {X : List Int32} {D0 : List xE} {a : Nat} {p : Nat → Nat} (hG0 : ((85, .inl (7, 1, .ref a)) : xE) ∈ D0) (hG : ∀ e ∈ zgP a p, e ∈ D0)  {N fr lo : Nat} (hf : 0 ≤ fr) (hl : 0 ≤ lo) {v0 : Int32} {S S2 : zS} {r : Int32}  (h : cP_levelOf N v0 S = some (r, S2)) : yK X fr lo 77 [.int v0] (zD zTP (zaP a p) S D0) 0 0 (zQi zTP (zaP a p) D0 r S2) := by
  unfold cP_levelOf at h
  refine yK.of rfl (yle rfl) (L := [_]) rfl ?_
  refine xt_pure rfl rfl rfl rfl ?_
  by_cases hw1 : v0 = 37
  · replace h := zif_t (p := v0 = 37) hw1 h
    refine zt_sw (tg := 10) rfl rfl rfl hw1 rfl ?_
    refine xt_pure rfl rfl rfl (st1 := .int 4 :: _) rfl ?_
    cases h
    exact xt_iret rfl rfl rfl rfl ⟨rfl, rfl⟩
  replace h := zif_f (p := v0 = 37) hw1 h
  by_cases hw2 : v0 = 42
  · replace h := zif_t (p := v0 = 42) hw2 h
    refine zt_sw (tg := 10) rfl rfl rfl hw2 rfl ?_
    refine xt_pure rfl rfl rfl (st1 := .int 4 :: _) rfl ?_
    cases h
    exact xt_iret rfl rfl rfl rfl ⟨rfl, rfl⟩
  replace h := zif_f (p := v0 = 42) hw2 h
  by_cases hw3 : v0 = 43
  · replace h := zif_t (p := v0 = 43) hw3 h
    refine zt_sw (tg := 8) rfl rfl rfl hw3 rfl ?_
    refine xt_pure rfl rfl rfl (st1 := .int 3 :: _) rfl ?_
    cases h
    exact xt_iret rfl rfl rfl rfl ⟨rfl, rfl⟩
  replace h := zif_f (p := v0 = 43) hw3 h
  by_cases hw4 : v0 = 45
  · replace h := zif_t (p := v0 = 45) hw4 h
    refine zt_sw (tg := 8) rfl rfl rfl hw4 rfl ?_
    refine xt_pure rfl rfl rfl (st1 := .int 3 :: _) rfl ?_
    cases h
    exact xt_iret rfl rfl rfl rfl ⟨rfl, rfl⟩
  replace h := zif_f (p := v0 = 45) hw4 h
  by_cases hw5 : v0 = 47
  · replace h := zif_t (p := v0 = 47) hw5 h
    refine zt_sw (tg := 10) rfl rfl rfl hw5 rfl ?_
    refine xt_pure rfl rfl rfl (st1 := .int 4 :: _) rfl ?_
    cases h
    exact xt_iret rfl rfl rfl rfl ⟨rfl, rfl⟩
  replace h := zif_f (p := v0 = 47) hw5 h
  by_cases hw6 : v0 = 60
  · replace h := zif_t (p := v0 = 60) hw6 h
    refine zt_sw (tg := 6) rfl rfl rfl hw6 rfl ?_
    refine xt_pure rfl rfl rfl (st1 := .int 2 :: _) rfl ?_
    cases h
    exact xt_iret rfl rfl rfl rfl ⟨rfl, rfl⟩
  replace h := zif_f (p := v0 = 60) hw6 h
  by_cases hw7 : v0 = 61
  · replace h := zif_t (p := v0 = 61) hw7 h
    refine zt_sw (tg := 6) rfl rfl rfl hw7 rfl ?_
    refine xt_pure rfl rfl rfl (st1 := .int 2 :: _) rfl ?_
    cases h
    exact xt_iret rfl rfl rfl rfl ⟨rfl, rfl⟩
  replace h := zif_f (p := v0 = 61) hw7 h
  by_cases hw8 : v0 = 62
  · replace h := zif_t (p := v0 = 62) hw8 h
    refine zt_sw (tg := 6) rfl rfl rfl hw8 rfl ?_
    refine xt_pure rfl rfl rfl (st1 := .int 2 :: _) rfl ?_
    cases h
    exact xt_iret rfl rfl rfl rfl ⟨rfl, rfl⟩
  replace h := zif_f (p := v0 = 62) hw8 h
  by_cases hw9 : v0 = 219
  · replace h := zif_t (p := v0 = 219) hw9 h
    refine zt_sw (tg := 2) rfl rfl rfl hw9 rfl ?_
    refine xt_pure rfl rfl rfl (st1 := .int 0 :: _) rfl ?_
    cases h
    exact xt_iret rfl rfl rfl rfl ⟨rfl, rfl⟩
  replace h := zif_f (p := v0 = 219) hw9 h
  by_cases hw10 : v0 = 220
  · replace h := zif_t (p := v0 = 220) hw10 h
    refine zt_sw (tg := 4) rfl rfl rfl hw10 rfl ?_
    refine xt_pure rfl rfl rfl (st1 := .int 1 :: _) rfl ?_
    cases h
    exact xt_iret rfl rfl rfl rfl ⟨rfl, rfl⟩
  replace h := zif_f (p := v0 = 220) hw10 h
  have hxhw1 : ¬ v0.toInt = 37 := fun h => hw1 (by rw [xi32_eq, h]; rfl)
  have hxhw2 : ¬ v0.toInt = 42 := fun h => hw2 (by rw [xi32_eq, h]; rfl)
  have hxhw3 : ¬ v0.toInt = 43 := fun h => hw3 (by rw [xi32_eq, h]; rfl)
  have hxhw4 : ¬ v0.toInt = 45 := fun h => hw4 (by rw [xi32_eq, h]; rfl)
  have hxhw5 : ¬ v0.toInt = 47 := fun h => hw5 (by rw [xi32_eq, h]; rfl)
  have hxhw6 : ¬ v0.toInt = 60 := fun h => hw6 (by rw [xi32_eq, h]; rfl)
  have hxhw7 : ¬ v0.toInt = 61 := fun h => hw7 (by rw [xi32_eq, h]; rfl)
  have hxhw8 : ¬ v0.toInt = 62 := fun h => hw8 (by rw [xi32_eq, h]; rfl)
  have hxhw9 : ¬ v0.toInt = 219 := fun h => hw9 (by rw [xi32_eq, h]; rfl)
  have hxhw10 : ¬ v0.toInt = 220 := fun h => hw10 (by rw [xi32_eq, h]; rfl)
  refine yt_lsd rfl rfl (by simp [Op.lookupswitch.offset]; omega) rfl ?_
  refine xt_pure rfl rfl rfl (st1 := .int (-9) :: _) rfl ?_
  cases h
  exact xt_iret rfl rfl rfl rfl ⟨rfl, rfl⟩
def cP_doingOf  (N : Nat) (v0 : Int32) (S : zS) : Option (Int32 × zS) := (if v0 = 37 then some (25, S) else if v0 = 42 then some (23, S) else if v0 = 43 then some (21, S) else if v0 = 45 then some (22, S) else if v0 = 47 then some (24, S) else if v0 = 60 then some (19, S) else if v0 = 61 then some (18, S) else if v0 = 62 then some (20, S) else some (15, S))
set_option maxRecDepth 20000 in
theorem tcP_doingOf {X : List Int32} {D0 : List xE} {a : Nat} {p : Nat → Nat} (hG0 : ((85, .inl (7, 1, .ref a)) : xE) ∈ D0) (hG : ∀ e ∈ zgP a p, e ∈ D0)  {N fr lo : Nat} (hf : 0 ≤ fr) (hl : 0 ≤ lo) {v0 : Int32} {S S2 : zS} {r : Int32}  (h : cP_doingOf N v0 S = some (r, S2)) : yK X fr lo 78 [.int v0] (zD zTP (zaP a p) S D0) 0 0 (zQi zTP (zaP a p) D0 r S2) := by
  unfold cP_doingOf at h
  refine yK.of rfl (yle rfl) (L := [_]) rfl ?_
  refine xt_pure rfl rfl rfl rfl ?_
  by_cases hw1 : v0 = 37
  · replace h := zif_t (p := v0 = 37) hw1 h
    refine zt_sw (tg := 16) rfl rfl rfl hw1 rfl ?_
    refine xt_pure rfl rfl rfl (st1 := .int 25 :: _) rfl ?_
    cases h
    exact xt_iret rfl rfl rfl rfl ⟨rfl, rfl⟩
  replace h := zif_f (p := v0 = 37) hw1 h
  by_cases hw2 : v0 = 42
  · replace h := zif_t (p := v0 = 42) hw2 h
    refine zt_sw (tg := 12) rfl rfl rfl hw2 rfl ?_
    refine xt_pure rfl rfl rfl (st1 := .int 23 :: _) rfl ?_
    cases h
    exact xt_iret rfl rfl rfl rfl ⟨rfl, rfl⟩
  replace h := zif_f (p := v0 = 42) hw2 h
  by_cases hw3 : v0 = 43
  · replace h := zif_t (p := v0 = 43) hw3 h
    refine zt_sw (tg := 8) rfl rfl rfl hw3 rfl ?_
    refine xt_pure rfl rfl rfl (st1 := .int 21 :: _) rfl ?_
    cases h
    exact xt_iret rfl rfl rfl rfl ⟨rfl, rfl⟩
  replace h := zif_f (p := v0 = 43) hw3 h
  by_cases hw4 : v0 = 45
  · replace h := zif_t (p := v0 = 45) hw4 h
    refine zt_sw (tg := 10) rfl rfl rfl hw4 rfl ?_
    refine xt_pure rfl rfl rfl (st1 := .int 22 :: _) rfl ?_
    cases h
    exact xt_iret rfl rfl rfl rfl ⟨rfl, rfl⟩
  replace h := zif_f (p := v0 = 45) hw4 h
  by_cases hw5 : v0 = 47
  · replace h := zif_t (p := v0 = 47) hw5 h
    refine zt_sw (tg := 14) rfl rfl rfl hw5 rfl ?_
    refine xt_pure rfl rfl rfl (st1 := .int 24 :: _) rfl ?_
    cases h
    exact xt_iret rfl rfl rfl rfl ⟨rfl, rfl⟩
  replace h := zif_f (p := v0 = 47) hw5 h
  by_cases hw6 : v0 = 60
  · replace h := zif_t (p := v0 = 60) hw6 h
    refine zt_sw (tg := 4) rfl rfl rfl hw6 rfl ?_
    refine xt_pure rfl rfl rfl (st1 := .int 19 :: _) rfl ?_
    cases h
    exact xt_iret rfl rfl rfl rfl ⟨rfl, rfl⟩
  replace h := zif_f (p := v0 = 60) hw6 h
  by_cases hw7 : v0 = 61
  · replace h := zif_t (p := v0 = 61) hw7 h
    refine zt_sw (tg := 2) rfl rfl rfl hw7 rfl ?_
    refine xt_pure rfl rfl rfl (st1 := .int 18 :: _) rfl ?_
    cases h
    exact xt_iret rfl rfl rfl rfl ⟨rfl, rfl⟩
  replace h := zif_f (p := v0 = 61) hw7 h
  by_cases hw8 : v0 = 62
  · replace h := zif_t (p := v0 = 62) hw8 h
    refine zt_sw (tg := 6) rfl rfl rfl hw8 rfl ?_
    refine xt_pure rfl rfl rfl (st1 := .int 20 :: _) rfl ?_
    cases h
    exact xt_iret rfl rfl rfl rfl ⟨rfl, rfl⟩
  replace h := zif_f (p := v0 = 62) hw8 h
  by_cases hw9 : v0 = 38
  · refine zt_sw (tg := 18) rfl rfl rfl hw9 rfl ?_
    refine xt_pure rfl rfl rfl (st1 := .int 15 :: _) rfl ?_
    cases h
    exact xt_iret rfl rfl rfl rfl ⟨rfl, rfl⟩
  by_cases hw10 : v0 = 39
  · refine zt_sw (tg := 18) rfl rfl rfl hw10 rfl ?_
    refine xt_pure rfl rfl rfl (st1 := .int 15 :: _) rfl ?_
    cases h
    exact xt_iret rfl rfl rfl rfl ⟨rfl, rfl⟩
  by_cases hw11 : v0 = 40
  · refine zt_sw (tg := 18) rfl rfl rfl hw11 rfl ?_
    refine xt_pure rfl rfl rfl (st1 := .int 15 :: _) rfl ?_
    cases h
    exact xt_iret rfl rfl rfl rfl ⟨rfl, rfl⟩
  by_cases hw12 : v0 = 41
  · refine zt_sw (tg := 18) rfl rfl rfl hw12 rfl ?_
    refine xt_pure rfl rfl rfl (st1 := .int 15 :: _) rfl ?_
    cases h
    exact xt_iret rfl rfl rfl rfl ⟨rfl, rfl⟩
  by_cases hw13 : v0 = 44
  · refine zt_sw (tg := 18) rfl rfl rfl hw13 rfl ?_
    refine xt_pure rfl rfl rfl (st1 := .int 15 :: _) rfl ?_
    cases h
    exact xt_iret rfl rfl rfl rfl ⟨rfl, rfl⟩
  by_cases hw14 : v0 = 46
  · refine zt_sw (tg := 18) rfl rfl rfl hw14 rfl ?_
    refine xt_pure rfl rfl rfl (st1 := .int 15 :: _) rfl ?_
    cases h
    exact xt_iret rfl rfl rfl rfl ⟨rfl, rfl⟩
  by_cases hw15 : v0 = 48
  · refine zt_sw (tg := 18) rfl rfl rfl hw15 rfl ?_
    refine xt_pure rfl rfl rfl (st1 := .int 15 :: _) rfl ?_
    cases h
    exact xt_iret rfl rfl rfl rfl ⟨rfl, rfl⟩
  by_cases hw16 : v0 = 49
  · refine zt_sw (tg := 18) rfl rfl rfl hw16 rfl ?_
    refine xt_pure rfl rfl rfl (st1 := .int 15 :: _) rfl ?_
    cases h
    exact xt_iret rfl rfl rfl rfl ⟨rfl, rfl⟩
  by_cases hw17 : v0 = 50
  · refine zt_sw (tg := 18) rfl rfl rfl hw17 rfl ?_
    refine xt_pure rfl rfl rfl (st1 := .int 15 :: _) rfl ?_
    cases h
    exact xt_iret rfl rfl rfl rfl ⟨rfl, rfl⟩
  by_cases hw18 : v0 = 51
  · refine zt_sw (tg := 18) rfl rfl rfl hw18 rfl ?_
    refine xt_pure rfl rfl rfl (st1 := .int 15 :: _) rfl ?_
    cases h
    exact xt_iret rfl rfl rfl rfl ⟨rfl, rfl⟩
  by_cases hw19 : v0 = 52
  · refine zt_sw (tg := 18) rfl rfl rfl hw19 rfl ?_
    refine xt_pure rfl rfl rfl (st1 := .int 15 :: _) rfl ?_
    cases h
    exact xt_iret rfl rfl rfl rfl ⟨rfl, rfl⟩
  by_cases hw20 : v0 = 53
  · refine zt_sw (tg := 18) rfl rfl rfl hw20 rfl ?_
    refine xt_pure rfl rfl rfl (st1 := .int 15 :: _) rfl ?_
    cases h
    exact xt_iret rfl rfl rfl rfl ⟨rfl, rfl⟩
  by_cases hw21 : v0 = 54
  · refine zt_sw (tg := 18) rfl rfl rfl hw21 rfl ?_
    refine xt_pure rfl rfl rfl (st1 := .int 15 :: _) rfl ?_
    cases h
    exact xt_iret rfl rfl rfl rfl ⟨rfl, rfl⟩
  by_cases hw22 : v0 = 55
  · refine zt_sw (tg := 18) rfl rfl rfl hw22 rfl ?_
    refine xt_pure rfl rfl rfl (st1 := .int 15 :: _) rfl ?_
    cases h
    exact xt_iret rfl rfl rfl rfl ⟨rfl, rfl⟩
  by_cases hw23 : v0 = 56
  · refine zt_sw (tg := 18) rfl rfl rfl hw23 rfl ?_
    refine xt_pure rfl rfl rfl (st1 := .int 15 :: _) rfl ?_
    cases h
    exact xt_iret rfl rfl rfl rfl ⟨rfl, rfl⟩
  by_cases hw24 : v0 = 57
  · refine zt_sw (tg := 18) rfl rfl rfl hw24 rfl ?_
    refine xt_pure rfl rfl rfl (st1 := .int 15 :: _) rfl ?_
    cases h
    exact xt_iret rfl rfl rfl rfl ⟨rfl, rfl⟩
  by_cases hw25 : v0 = 58
  · refine zt_sw (tg := 18) rfl rfl rfl hw25 rfl ?_
    refine xt_pure rfl rfl rfl (st1 := .int 15 :: _) rfl ?_
    cases h
    exact xt_iret rfl rfl rfl rfl ⟨rfl, rfl⟩
  by_cases hw26 : v0 = 59
  · refine zt_sw (tg := 18) rfl rfl rfl hw26 rfl ?_
    refine xt_pure rfl rfl rfl (st1 := .int 15 :: _) rfl ?_
    cases h
    exact xt_iret rfl rfl rfl rfl ⟨rfl, rfl⟩
  have hxhw1 : ¬ v0.toInt = 37 := fun h => hw1 (by rw [xi32_eq, h]; rfl)
  have hxhw2 : ¬ v0.toInt = 42 := fun h => hw2 (by rw [xi32_eq, h]; rfl)
  have hxhw3 : ¬ v0.toInt = 43 := fun h => hw3 (by rw [xi32_eq, h]; rfl)
  have hxhw4 : ¬ v0.toInt = 45 := fun h => hw4 (by rw [xi32_eq, h]; rfl)
  have hxhw5 : ¬ v0.toInt = 47 := fun h => hw5 (by rw [xi32_eq, h]; rfl)
  have hxhw6 : ¬ v0.toInt = 60 := fun h => hw6 (by rw [xi32_eq, h]; rfl)
  have hxhw7 : ¬ v0.toInt = 61 := fun h => hw7 (by rw [xi32_eq, h]; rfl)
  have hxhw8 : ¬ v0.toInt = 62 := fun h => hw8 (by rw [xi32_eq, h]; rfl)
  have hxhw9 : ¬ v0.toInt = 38 := fun h => hw9 (by rw [xi32_eq, h]; rfl)
  have hxhw10 : ¬ v0.toInt = 39 := fun h => hw10 (by rw [xi32_eq, h]; rfl)
  have hxhw11 : ¬ v0.toInt = 40 := fun h => hw11 (by rw [xi32_eq, h]; rfl)
  have hxhw12 : ¬ v0.toInt = 41 := fun h => hw12 (by rw [xi32_eq, h]; rfl)
  have hxhw13 : ¬ v0.toInt = 44 := fun h => hw13 (by rw [xi32_eq, h]; rfl)
  have hxhw14 : ¬ v0.toInt = 46 := fun h => hw14 (by rw [xi32_eq, h]; rfl)
  have hxhw15 : ¬ v0.toInt = 48 := fun h => hw15 (by rw [xi32_eq, h]; rfl)
  have hxhw16 : ¬ v0.toInt = 49 := fun h => hw16 (by rw [xi32_eq, h]; rfl)
  have hxhw17 : ¬ v0.toInt = 50 := fun h => hw17 (by rw [xi32_eq, h]; rfl)
  have hxhw18 : ¬ v0.toInt = 51 := fun h => hw18 (by rw [xi32_eq, h]; rfl)
  have hxhw19 : ¬ v0.toInt = 52 := fun h => hw19 (by rw [xi32_eq, h]; rfl)
  have hxhw20 : ¬ v0.toInt = 53 := fun h => hw20 (by rw [xi32_eq, h]; rfl)
  have hxhw21 : ¬ v0.toInt = 54 := fun h => hw21 (by rw [xi32_eq, h]; rfl)
  have hxhw22 : ¬ v0.toInt = 55 := fun h => hw22 (by rw [xi32_eq, h]; rfl)
  have hxhw23 : ¬ v0.toInt = 56 := fun h => hw23 (by rw [xi32_eq, h]; rfl)
  have hxhw24 : ¬ v0.toInt = 57 := fun h => hw24 (by rw [xi32_eq, h]; rfl)
  have hxhw25 : ¬ v0.toInt = 58 := fun h => hw25 (by rw [xi32_eq, h]; rfl)
  have hxhw26 : ¬ v0.toInt = 59 := fun h => hw26 (by rw [xi32_eq, h]; rfl)
  refine yt_tsd rfl rfl (by omega) rfl ?_
  refine xt_pure rfl rfl rfl (st1 := .int 15 :: _) rfl ?_
  cases h
  exact xt_iret rfl rfl rfl rfl ⟨rfl, rfl⟩
def cP_readSort  (N : Nat)  (S : zS) : Option (Int32 × zS) := (zb (cP_sees N  S) fun x1 S2 => (if (x1 - 228).toInt < 0 then (zb (cP_refuse N  S2) fun _ S5 => some (0, S5)) else (if (x1 - 228).toInt ≤ 7 then (zb (cP_next N  S2) fun _ S8 => some ((x1 - 228), S8)) else (zb (cP_refuse N  S2) fun _ S11 => some (0, S11)))))
theorem tcP_readSort {X : List Int32} {D0 : List xE} {a : Nat} {p : Nat → Nat} (hG0 : ((85, .inl (7, 1, .ref a)) : xE) ∈ D0) (hG : ∀ e ∈ zgP a p, e ∈ D0)  {N fr lo : Nat} (hf : 1 ≤ fr) (hl : 20 ≤ lo)  {S S2 : zS} {r : Int32}  (h : cP_readSort N  S = some (r, S2)) : yK X fr lo 75 [.ref 85] (zD zTP (zaP a p) S D0) 0 0 (zQi zTP (zaP a p) D0 r S2) := by
  unfold cP_readSort at h
  refine yK.of rfl (yle rfl) (L := [_, _]) rfl ?_
  refine xt_pure rfl rfl rfl rfl ?_
  obtain ⟨x1, S2, hc3, h⟩ := zbi h
  refine zt_Vi rfl rfl rfl rfl (xmC 133 rfl) ⟨rfl, rfl, yle rfl, yle rfl⟩ (m := 1) rfl ⟨by omega, by omega⟩ (tcP_sees hG0 hG (by omega) (by omega) hc3) (fr1 := fr - 1) (lo1 := lo - 20) ?_
  refine xt_pure rfl rfl rfl (st1 := .int 228 :: _) rfl ?_
  refine xt_pure rfl rfl rfl rfl ?_
  refine xt_pure rfl rfl rfl (L1 := [_, _]) rfl ?_
  refine xt_pure rfl rfl rfl rfl ?_
  refine xt_if rfl rfl (fun hb => ?_) (fun hb => ?_)
  · replace h := zif_t (p := (x1 - 228).toInt < 0) hb h
    refine xt_pure rfl rfl rfl rfl ?_
    obtain ⟨_, S5, hc6, h⟩ := zbi h
    refine zt_Vv rfl rfl rfl rfl (xmC 133 rfl) ⟨rfl, rfl, yle rfl, yle rfl⟩ (m := 1) rfl ⟨by omega, by omega⟩ (tcP_refuse hG0 hG (by omega) (by omega) hc6) (fr1 := fr - 1) (lo1 := lo - 20) ?_
    refine xt_pure rfl rfl rfl (st1 := .int 0 :: _) rfl ?_
    cases h
    exact xt_iret rfl rfl rfl rfl ⟨rfl, rfl⟩
  · replace h := zif_f (p := (x1 - 228).toInt < 0) hb h
    refine xt_pure rfl rfl rfl rfl ?_
    refine xt_pure rfl rfl rfl (st1 := .int 7 :: _) rfl ?_
    refine xt_ic rfl rfl (fun hb => ?_) (fun hb => ?_)
    · replace h := zif_t (p := (x1 - 228).toInt ≤ 7) hb h
      refine xt_pure rfl rfl rfl rfl ?_
      obtain ⟨_, S8, hc9, h⟩ := zbi h
      refine zt_Vv rfl rfl rfl rfl (xmC 133 rfl) ⟨rfl, rfl, yle rfl, yle rfl⟩ (m := 1) rfl ⟨by omega, by omega⟩ (tcP_next hG0 hG (by omega) (by omega) hc9) (fr1 := fr - 1) (lo1 := lo - 20) ?_
      refine xt_pure rfl rfl rfl rfl ?_
      cases h
      exact xt_iret rfl rfl rfl rfl ⟨rfl, rfl⟩
    · replace h := zif_f (p := (x1 - 228).toInt ≤ 7) hb h
      refine xt_pure rfl rfl rfl rfl ?_
      obtain ⟨_, S11, hc12, h⟩ := zbi h
      refine zt_Vv rfl rfl rfl rfl (xmC 133 rfl) ⟨rfl, rfl, yle rfl, yle rfl⟩ (m := 1) rfl ⟨by omega, by omega⟩ (tcP_refuse hG0 hG (by omega) (by omega) hc12) (fr1 := fr - 1) (lo1 := lo - 20) ?_
      refine xt_pure rfl rfl rfl (st1 := .int 0 :: _) rfl ?_
      cases h
      exact xt_iret rfl rfl rfl rfl ⟨rfl, rfl⟩
