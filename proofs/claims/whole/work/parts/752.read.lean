/-! MIRRORS: read of the class -/
def cP_read  (N : Nat)  (S : zS) : Option (Int32 × zS) := (zb (cP_begin N  S) fun _ S2 => (zb (cP_split N  (zsI (zsI (zsI S2 5 0) 6 (-9)) 7 0)) fun _ S5 => (zb (cP_readHead N  S5) fun _ S8 => (zb (cP_readParts N  S8) fun _ S11 => (zb (cP_readRules N  S11) fun _ S14 => (zb (cP_sees N  S14) fun x16 S17 => (if x16 = (0 : Int32) then (if (zI S17 6) ≠ ((-9) : Int32) then some ((zI S17 6), S17) else (zb (cP_findNames N  S17) fun _ S20 => some ((zI S20 6), S20))) else (zb (cP_refuse N  S17) fun _ S23 => (if (zI S23 6) ≠ ((-9) : Int32) then some ((zI S23 6), S23) else (zb (cP_findNames N  S23) fun _ S26 => some ((zI S26 6), S26)))))))))))
theorem tcP_read {X : List Int32} {D0 : List xE} {a : Nat} {p : Nat → Nat} (hG0 : ((85, .inl (7, 1, .ref a)) : xE) ∈ D0) (hG : ∀ e ∈ zgP a p, e ∈ D0)  {N fr lo : Nat} (hf : 9 + 4 * (N / 16) ≤ fr) (hl : 263 + 93 * (N / 16) ≤ lo) {Da D1 : List xE} {uu : Value} (hDa : Da = (85, .inl (7, 1, uu)) :: D1) (hD0 : D0 = (85, .inl (7, 1, .ref a)) :: D1)  {S S2 : zS} {r : Int32}  (h : cP_read N  S = some (r, S2)) : yK X fr lo 26 [.ref 85, .ref a] (zD zTP (zaP a p) S Da) 0 0 (zQi zTP (zaP a p) D0 r S2) := by
  subst hDa hD0
  unfold cP_read at h
  refine yK.of rfl (yle rfl) (L := [_, _]) rfl ?_
  refine xt_pure rfl rfl rfl rfl ?_
  refine xt_pure rfl rfl rfl rfl ?_
  refine zt_f0 rfl rfl rfl rfl ?_
  refine xt_pure rfl rfl rfl rfl ?_
  refine xt_getf rfl rfl (zmr hG0) ?_
  obtain ⟨_, S2, hc3, h⟩ := zbi h
  refine zt_Vv rfl rfl rfl rfl (zmr (ymm hG 0 rfl)) ⟨rfl, rfl, yle rfl, yle rfl⟩ (m := 1) rfl ⟨by omega, by omega⟩ (tcP_begin hG0 hG (by omega) (by omega) hc3) (fr1 := fr - 1) (lo1 := lo - 20) ?_
  refine xt_pure rfl rfl rfl rfl ?_
  refine xt_pure rfl rfl rfl (st1 := .int 0 :: _) rfl ?_
  refine zt_pI 5 rfl rfl rfl rfl rfl rfl ?_
  refine xt_pure rfl rfl rfl rfl ?_
  refine xt_pure rfl rfl rfl (st1 := .int (-9) :: _) rfl ?_
  refine zt_pI 6 rfl rfl rfl rfl rfl rfl ?_
  refine xt_pure rfl rfl rfl rfl ?_
  refine xt_pure rfl rfl rfl (st1 := .int 0 :: _) rfl ?_
  refine zt_pI 7 rfl rfl rfl rfl rfl rfl ?_
  refine xt_pure rfl rfl rfl rfl ?_
  refine xt_getf rfl rfl (xmC 133 rfl) ?_
  obtain ⟨_, S5, hc6, h⟩ := zbi h
  refine zt_Vv rfl rfl rfl rfl (xmC 127 rfl) ⟨rfl, rfl, yle rfl, yle rfl⟩ (m := 3) rfl ⟨by omega, by omega⟩ (tcP_split hG0 hG (by omega) (by omega) hc6) (fr1 := fr - 1) (lo1 := lo - 22) ?_
  refine xt_pure rfl rfl rfl rfl ?_
  obtain ⟨_, S8, hc9, h⟩ := zbi h
  refine zt_Vv rfl rfl rfl rfl (xmC 133 rfl) ⟨rfl, rfl, yle rfl, yle rfl⟩ (m := 1) rfl ⟨by omega, by omega⟩ (tcP_readHead hG0 hG (by omega) (by omega) hc9) (fr1 := fr - 1) (lo1 := lo - 20) ?_
  refine xt_pure rfl rfl rfl rfl ?_
  obtain ⟨_, S11, hc12, h⟩ := zbi h
  refine zt_Vv rfl rfl rfl rfl (xmC 133 rfl) ⟨rfl, rfl, yle rfl, yle rfl⟩ (m := 5) rfl ⟨by omega, by omega⟩ (tcP_readParts hG0 hG (by omega) (by omega) hc12) (fr1 := fr - 1) (lo1 := lo - 24) ?_
  refine xt_pure rfl rfl rfl rfl ?_
  obtain ⟨_, S14, hc15, h⟩ := zbi h
  refine zt_Vv rfl rfl rfl rfl (xmC 133 rfl) ⟨rfl, rfl, yle rfl, yle rfl⟩ (m := 2) rfl ⟨by omega, by omega⟩ (tcP_readRules hG0 hG (by omega) (by omega) hc15) (fr1 := fr - 1) (lo1 := lo - 21) ?_
  refine xt_pure rfl rfl rfl rfl ?_
  obtain ⟨x16, S17, hc18, h⟩ := zbi h
  refine zt_Vi rfl rfl rfl rfl (xmC 133 rfl) ⟨rfl, rfl, yle rfl, yle rfl⟩ (m := 1) rfl ⟨by omega, by omega⟩ (tcP_sees hG0 hG (by omega) (by omega) hc18) (fr1 := fr - 1) (lo1 := lo - 20) ?_
  refine xt_if rfl rfl (fun hb => ?_) (fun hb => ?_)
  · replace h := zif_t (p := x16 = (0 : Int32)) hb h
    refine xt_pure rfl rfl rfl rfl ?_
    refine zt_gI 6 rfl rfl rfl rfl (x := (zI S17 6)) rfl ?_
    refine xt_pure rfl rfl rfl (st1 := .int (-9) :: _) rfl ?_
    refine xt_ic rfl rfl (fun hb => ?_) (fun hb => ?_)
    · replace h := zif_t (p := (zI S17 6) ≠ ((-9) : Int32)) hb h
      refine xt_pure rfl rfl rfl rfl ?_
      refine zt_gI 6 rfl rfl rfl rfl (x := (zI S17 6)) rfl ?_
      cases h
      exact xt_iret rfl rfl rfl rfl ⟨rfl, rfl⟩
    · replace h := zif_f (p := (zI S17 6) ≠ ((-9) : Int32)) hb h
      refine xt_pure rfl rfl rfl rfl ?_
      obtain ⟨_, S20, hc21, h⟩ := zbi h
      refine zt_Vv rfl rfl rfl rfl (xmC 133 rfl) ⟨rfl, rfl, yle rfl, yle rfl⟩ (m := 5) rfl ⟨by omega, by omega⟩ (tcP_findNames hG0 hG (by omega) (by omega) hc21) (fr1 := fr - 1) (lo1 := lo - 24) ?_
      refine xt_pure rfl rfl rfl rfl ?_
      refine zt_gI 6 rfl rfl rfl rfl (x := (zI S20 6)) rfl ?_
      cases h
      exact xt_iret rfl rfl rfl rfl ⟨rfl, rfl⟩
  · replace h := zif_f (p := x16 = (0 : Int32)) hb h
    refine xt_pure rfl rfl rfl rfl ?_
    obtain ⟨_, S23, hc24, h⟩ := zbi h
    refine zt_Vv rfl rfl rfl rfl (xmC 133 rfl) ⟨rfl, rfl, yle rfl, yle rfl⟩ (m := 1) rfl ⟨by omega, by omega⟩ (tcP_refuse hG0 hG (by omega) (by omega) hc24) (fr1 := fr - 1) (lo1 := lo - 20) ?_
    refine xt_pure rfl rfl rfl rfl ?_
    refine zt_gI 6 rfl rfl rfl rfl (x := (zI S23 6)) rfl ?_
    refine xt_pure rfl rfl rfl (st1 := .int (-9) :: _) rfl ?_
    refine xt_ic rfl rfl (fun hb => ?_) (fun hb => ?_)
    · replace h := zif_t (p := (zI S23 6) ≠ ((-9) : Int32)) hb h
      refine xt_pure rfl rfl rfl rfl ?_
      refine zt_gI 6 rfl rfl rfl rfl (x := (zI S23 6)) rfl ?_
      cases h
      exact xt_iret rfl rfl rfl rfl ⟨rfl, rfl⟩
    · replace h := zif_f (p := (zI S23 6) ≠ ((-9) : Int32)) hb h
      refine xt_pure rfl rfl rfl rfl ?_
      obtain ⟨_, S26, hc27, h⟩ := zbi h
      refine zt_Vv rfl rfl rfl rfl (xmC 133 rfl) ⟨rfl, rfl, yle rfl, yle rfl⟩ (m := 5) rfl ⟨by omega, by omega⟩ (tcP_findNames hG0 hG (by omega) (by omega) hc27) (fr1 := fr - 1) (lo1 := lo - 24) ?_
      refine xt_pure rfl rfl rfl rfl ?_
      refine zt_gI 6 rfl rfl rfl rfl (x := (zI S26 6)) rfl ?_
      cases h
      exact xt_iret rfl rfl rfl rfl ⟨rfl, rfl⟩
