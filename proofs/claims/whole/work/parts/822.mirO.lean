/-! MIRRORS: an object that is being made, the class -/
def zTO : List (Nat × Nat × Nat) := [(0, 6, 0), (0, 6, 1), (4, 1, 0), (0, 0, 2), (0, 0, 5), (0, 0, 6), (3, 0, 0)]
def zaO (ob oi : Nat) (i : Nat) : Nat := ([ob, ob, oi, 206, 206, 206, 207] : List Nat).getD i 0
def cO_loadNumber_4 (ne : Int32) (sn : List Int32)  (N : Nat)  : Nat → Int32 → Int32 → Int32 → zS → Option (Int32 × zS)
  | 0, _, _, _, _ => none
  | n + 1, l1, l2, l3, S => (if l1.toInt ≤ l3.toInt then some (l2, S) else (if (zI S 4).toInt < (zI S 3).toInt then (zg (gI (zA S 6) (zI S 4)) fun x1 => (cO_loadNumber_4 ne sn N n) l1 ((l2 <<< ((8 : Int32) &&& 31)) ||| x1) (l3 + 1) (zsI S 4 ((zI S 4) + 1))) else some (0, (zsI S 5 1))))
theorem tcO_loadNumber_4 {X : List Int32} {D0 : List xE} {ob oi : Nat} {ne : Int32} {sn : List Int32} (hO2 : ((ob, .inl (6, 2, .ref oi)) : xE) ∈ D0) (hL0 : ((106, .inl (5, 2, .int ne)) : xE) ∈ D0) (hSn : ((108, .inr (0, sn.map Value.int)) : xE) ∈ D0)  {N fr lo : Nat}   (hf : 0 ≤ fr) (hl : 0 ≤ lo)  : ∀ {n : Nat} {l1 : Int32} {l2 : Int32} {l3 : Int32}  {S S2 : zS} {r : Int32} , cO_loadNumber_4 ne sn N n l1 l2 l3 S = some (r, S2) → yT X fr lo 202 4 [some (.ref 206), some (.int l1), some (.int l2), some (.int l3)] [] (zD zTO (zaO ob oi) S D0) 0 0 (zQi zTO (zaO ob oi) D0 r S2) := by
  intro n
  induction n with
  | zero =>
    intro l1 l2 l3  S S2 r  h
    have h : (none : Option (Int32 × zS)) = some (r, S2) := h
    cases h
  | succ n ih =>
    intro l1 l2 l3  S S2 r  h
    rw [cO_loadNumber_4] at h
    refine xt_pure rfl rfl rfl rfl ?_
    refine xt_pure rfl rfl rfl rfl ?_
    refine xt_ic rfl rfl (fun hb => ?_) (fun hb => ?_)
    · replace h := zif_t (p := l1.toInt ≤ l3.toInt) hb h
      refine xt_pure rfl rfl rfl rfl ?_
      cases h
      exact xt_iret rfl rfl rfl rfl ⟨rfl, rfl⟩
    · replace h := zif_f (p := l1.toInt ≤ l3.toInt) hb h
      refine xt_pure rfl rfl rfl rfl ?_
      refine zt_gI 4 rfl rfl rfl rfl (x := (zI S 4)) rfl ?_
      refine xt_pure rfl rfl rfl rfl ?_
      refine zt_gI 3 rfl rfl rfl rfl (x := (zI S 3)) rfl ?_
      refine xt_ic rfl rfl (fun hb => ?_) (fun hb => ?_)
      · replace h := zif_t (p := (zI S 4).toInt < (zI S 3).toInt) hb h
        refine xt_pure rfl rfl rfl rfl ?_
        refine xt_pure rfl rfl rfl (st1 := .int 8 :: _) rfl ?_
        refine xt_pure rfl rfl rfl rfl ?_
        refine xt_pure rfl rfl rfl rfl ?_
        refine xt_getf rfl rfl (xmC 174 rfl) ?_
        refine xt_pure rfl rfl rfl rfl ?_
        refine zt_gI 4 rfl rfl rfl rfl (x := (zI S 4)) rfl ?_
        obtain ⟨x1, hx1, h⟩ := zgi h
        refine zr_ild (l := (zA S 6)) rfl rfl (zmA 6 rfl rfl (l := (zA S 6)) rfl) hx1 ?_
        refine xt_pure rfl rfl rfl rfl ?_
        refine xt_pure rfl rfl rfl (L1 := [_, _, _, _]) rfl ?_
        refine xt_pure rfl rfl rfl rfl ?_
        refine xt_pure rfl rfl rfl rfl ?_
        refine zt_gI 4 rfl rfl rfl rfl (x := (zI S 4)) rfl ?_
        refine xt_pure rfl rfl rfl (st1 := .int 1 :: _) rfl ?_
        refine xt_pure rfl rfl rfl rfl ?_
        refine zt_pI 4 rfl rfl rfl rfl rfl rfl ?_
        refine xt_pure rfl rfl rfl (L1 := [_, _, _, some (.int (_ + 1))]) rfl ?_
        refine xt_pure rfl rfl rfl rfl ?_
        exact ih h
      · replace h := zif_f (p := (zI S 4).toInt < (zI S 3).toInt) hb h
        refine xt_pure rfl rfl rfl rfl ?_
        refine xt_pure rfl rfl rfl (st1 := .int 1 :: _) rfl ?_
        refine zt_pI 5 rfl rfl rfl rfl rfl rfl ?_
        refine xt_pure rfl rfl rfl (st1 := .int 0 :: _) rfl ?_
        cases h
        exact xt_iret rfl rfl rfl rfl ⟨rfl, rfl⟩
def cO_loadNumber (ne : Int32) (sn : List Int32)  (N : Nat) (v1 : Int32) (S : zS) : Option (Int32 × zS) := cO_loadNumber_4 ne sn N N v1 0 0 S
theorem tcO_loadNumber {X : List Int32} {D0 : List xE} {ob oi : Nat} {ne : Int32} {sn : List Int32} (hO2 : ((ob, .inl (6, 2, .ref oi)) : xE) ∈ D0) (hL0 : ((106, .inl (5, 2, .int ne)) : xE) ∈ D0) (hSn : ((108, .inr (0, sn.map Value.int)) : xE) ∈ D0)  {N fr lo : Nat} (hf : 0 ≤ fr) (hl : 0 ≤ lo) {v1 : Int32} {S S2 : zS} {r : Int32}  (h : cO_loadNumber ne sn N v1 S = some (r, S2)) : yK X fr lo 202 [.ref 206, .int v1] (zD zTO (zaO ob oi) S D0) 0 0 (zQi zTO (zaO ob oi) D0 r S2) := by
  unfold cO_loadNumber at h
  refine yK.of rfl (yle rfl) (L := [_, _, _, _]) rfl ?_
  refine xt_pure rfl rfl rfl (st1 := .int 0 :: _) rfl ?_
  refine xt_pure rfl rfl rfl (L1 := [_, _, _, _]) rfl ?_
  refine xt_pure rfl rfl rfl (st1 := .int 0 :: _) rfl ?_
  refine xt_pure rfl rfl rfl (L1 := [_, _, _, _]) rfl ?_
  exact tcO_loadNumber_4 hO2 hL0 hSn hf hl h
def cO_bytesOf (ne : Int32) (sn : List Int32)  (N : Nat) (v0 : Int32) (S : zS) : Option (Int32 × zS) := (if v0 = 1 then some (4, S) else if v0 = 2 then some (8, S) else if v0 = 3 then some (2, S) else some (1, S))
set_option maxRecDepth 20000 in
theorem tcO_bytesOf {X : List Int32} {D0 : List xE} {ob oi : Nat} {ne : Int32} {sn : List Int32} (hO2 : ((ob, .inl (6, 2, .ref oi)) : xE) ∈ D0) (hL0 : ((106, .inl (5, 2, .int ne)) : xE) ∈ D0) (hSn : ((108, .inr (0, sn.map Value.int)) : xE) ∈ D0)  {N fr lo : Nat} (hf : 0 ≤ fr) (hl : 0 ≤ lo) {v0 : Int32} {S S2 : zS} {r : Int32}  (h : cO_bytesOf ne sn N v0 S = some (r, S2)) : yK X fr lo 126 [.int v0] (zD zTO (zaO ob oi) S D0) 0 0 (zQi zTO (zaO ob oi) D0 r S2) := by
  unfold cO_bytesOf at h
  refine yK.of rfl (yle rfl) (L := [_]) rfl ?_
  refine xt_pure rfl rfl rfl rfl ?_
  by_cases hw1 : v0 = 1
  · replace h := zif_t (p := v0 = 1) hw1 h
    refine zt_sw (tg := 2) rfl rfl rfl hw1 rfl ?_
    refine xt_pure rfl rfl rfl (st1 := .int 4 :: _) rfl ?_
    cases h
    exact xt_iret rfl rfl rfl rfl ⟨rfl, rfl⟩
  replace h := zif_f (p := v0 = 1) hw1 h
  by_cases hw2 : v0 = 2
  · replace h := zif_t (p := v0 = 2) hw2 h
    refine zt_sw (tg := 4) rfl rfl rfl hw2 rfl ?_
    refine xt_pure rfl rfl rfl (st1 := .int 8 :: _) rfl ?_
    cases h
    exact xt_iret rfl rfl rfl rfl ⟨rfl, rfl⟩
  replace h := zif_f (p := v0 = 2) hw2 h
  by_cases hw3 : v0 = 3
  · replace h := zif_t (p := v0 = 3) hw3 h
    refine zt_sw (tg := 6) rfl rfl rfl hw3 rfl ?_
    refine xt_pure rfl rfl rfl (st1 := .int 2 :: _) rfl ?_
    cases h
    exact xt_iret rfl rfl rfl rfl ⟨rfl, rfl⟩
  replace h := zif_f (p := v0 = 3) hw3 h
  have hxhw1 : ¬ v0.toInt = 1 := fun h => hw1 (by rw [xi32_eq, h]; rfl)
  have hxhw2 : ¬ v0.toInt = 2 := fun h => hw2 (by rw [xi32_eq, h]; rfl)
  have hxhw3 : ¬ v0.toInt = 3 := fun h => hw3 (by rw [xi32_eq, h]; rfl)
  refine yt_tsd rfl rfl (by omega) rfl ?_
  refine xt_pure rfl rfl rfl (st1 := .int 1 :: _) rfl ?_
  cases h
  exact xt_iret rfl rfl rfl rfl ⟨rfl, rfl⟩
def cO_holds (ne : Int32) (sn : List Int32)  (N : Nat) (v1 : Int64) (S : zS) : Option (Int32 × zS) := (if v1.toInt < 0 then some (0, S) else (if ne.toInt64.toInt ≤ v1.toInt then some (0, S) else some (1, S)))
theorem tcO_holds {X : List Int32} {D0 : List xE} {ob oi : Nat} {ne : Int32} {sn : List Int32} (hO2 : ((ob, .inl (6, 2, .ref oi)) : xE) ∈ D0) (hL0 : ((106, .inl (5, 2, .int ne)) : xE) ∈ D0) (hSn : ((108, .inr (0, sn.map Value.int)) : xE) ∈ D0)  {N fr lo : Nat} (hf : 0 ≤ fr) (hl : 0 ≤ lo) {v1 : Int64} {S S2 : zS} {r : Int32}  (h : cO_holds ne sn N v1 S = some (r, S2)) : yK X fr lo 92 [.ref 106, .long v1] (zD zTO (zaO ob oi) S D0) 0 0 (zQi zTO (zaO ob oi) D0 r S2) := by
  unfold cO_holds at h
  refine yK.of rfl (yle rfl) (L := [_, _, _]) rfl ?_
  refine xt_pure rfl rfl rfl rfl ?_
  refine xt_pure rfl rfl rfl (st1 := .long 0 :: _) rfl ?_
  refine zt_lc rfl rfl rfl (fun hb => ?_) (fun hb => ?_)
  · replace h := zif_t (p := v1.toInt < 0) hb h
    refine xt_pure rfl rfl rfl (st1 := .int 0 :: _) rfl ?_
    cases h
    exact xt_iret rfl rfl rfl rfl ⟨rfl, rfl⟩
  · replace h := zif_f (p := v1.toInt < 0) hb h
    refine xt_pure rfl rfl rfl rfl ?_
    refine xt_pure rfl rfl rfl rfl ?_
    refine xt_getf rfl rfl (zmr hL0) ?_
    refine xt_pure rfl rfl rfl rfl ?_
    refine zt_lc rfl rfl rfl (fun hb => ?_) (fun hb => ?_)
    · replace h := zif_t (p := ne.toInt64.toInt ≤ v1.toInt) hb h
      refine xt_pure rfl rfl rfl (st1 := .int 0 :: _) rfl ?_
      cases h
      exact xt_iret rfl rfl rfl rfl ⟨rfl, rfl⟩
    · replace h := zif_f (p := ne.toInt64.toInt ≤ v1.toInt) hb h
      refine xt_pure rfl rfl rfl (st1 := .int 1 :: _) rfl ?_
      refine xt_pure rfl rfl rfl rfl ?_
      cases h
      exact xt_iret rfl rfl rfl rfl ⟨rfl, rfl⟩
def cO_isSigned (ne : Int32) (sn : List Int32)  (N : Nat) (v1 : Int64) (S : zS) : Option (Int32 × zS) := (zb (cO_holds ne sn N v1 S) fun x1 S2 => (if x1 = (0 : Int32) then some (0, S2) else (zg (gI sn v1.toInt32) fun x4 => (if x4 = ((-9) : Int32) then some (0, S2) else some (1, S2)))))
theorem tcO_isSigned {X : List Int32} {D0 : List xE} {ob oi : Nat} {ne : Int32} {sn : List Int32} (hO2 : ((ob, .inl (6, 2, .ref oi)) : xE) ∈ D0) (hL0 : ((106, .inl (5, 2, .int ne)) : xE) ∈ D0) (hSn : ((108, .inr (0, sn.map Value.int)) : xE) ∈ D0)  {N fr lo : Nat} (hf : 1 ≤ fr) (hl : 22 ≤ lo) {v1 : Int64} {S S2 : zS} {r : Int32}  (h : cO_isSigned ne sn N v1 S = some (r, S2)) : yK X fr lo 105 [.ref 106, .long v1] (zD zTO (zaO ob oi) S D0) 0 0 (zQi zTO (zaO ob oi) D0 r S2) := by
  unfold cO_isSigned at h
  refine yK.of rfl (yle rfl) (L := [_, _, _]) rfl ?_
  refine xt_pure rfl rfl rfl rfl ?_
  refine xt_pure rfl rfl rfl rfl ?_
  obtain ⟨x1, S2, hc3, h⟩ := zbi h
  refine zt_Vi rfl rfl rfl rfl (xmC 140 rfl) ⟨rfl, rfl, yle rfl, yle rfl⟩ (m := 3) rfl ⟨by omega, by omega⟩ (tcO_holds hO2 hL0 hSn (by omega) (by omega) hc3) (fr1 := fr - 1) (lo1 := lo - 22) ?_
  refine xt_if rfl rfl (fun hb => ?_) (fun hb => ?_)
  · replace h := zif_t (p := x1 = (0 : Int32)) hb h
    refine xt_pure rfl rfl rfl (st1 := .int 0 :: _) rfl ?_
    cases h
    exact xt_iret rfl rfl rfl rfl ⟨rfl, rfl⟩
  · replace h := zif_f (p := x1 = (0 : Int32)) hb h
    refine xt_pure rfl rfl rfl rfl ?_
    refine xt_getf rfl rfl (xmC 141 rfl) ?_
    refine xt_pure rfl rfl rfl rfl ?_
    refine xt_pure rfl rfl rfl rfl ?_
    obtain ⟨x4, hx4, h⟩ := zgi h
    refine zr_ild (l := sn) rfl rfl (zmr hSn) hx4 ?_
    refine xt_pure rfl rfl rfl (st1 := .int (-9) :: _) rfl ?_
    refine xt_ic rfl rfl (fun hb => ?_) (fun hb => ?_)
    · replace h := zif_t (p := x4 = ((-9) : Int32)) hb h
      refine xt_pure rfl rfl rfl (st1 := .int 0 :: _) rfl ?_
      cases h
      exact xt_iret rfl rfl rfl rfl ⟨rfl, rfl⟩
    · replace h := zif_f (p := x4 = ((-9) : Int32)) hb h
      refine xt_pure rfl rfl rfl (st1 := .int 1 :: _) rfl ?_
      refine xt_pure rfl rfl rfl rfl ?_
      cases h
      exact xt_iret rfl rfl rfl rfl ⟨rfl, rfl⟩
def cO_put (ne : Int32) (sn : List Int32)  (N : Nat) (v1 : Int32) (v2 : Int64) (S : zS) : Option (Unit × zS) := (if (zI S 0) = 0 then (if v2 = (0 : Int64) then (if zok (zB S 2) v1 then some ((), (zsB S 2 (zs (zB S 2) v1 0))) else none) else (if zok (zB S 2) v1 then some ((), (zsB S 2 (zs (zB S 2) v1 1))) else none)) else if (zI S 0) = 1 then (if zok (zB S 2) v1 then some ((), (zsB S 2 (zs (zB S 2) v1 v2.toInt32.toInt64))) else none) else if (zI S 0) = 3 then (if zok (zB S 2) v1 then some ((), (zsB S 2 (zs (zB S 2) v1 (v2 &&& 65535)))) else none) else (if zok (zB S 2) v1 then some ((), (zsB S 2 (zs (zB S 2) v1 v2))) else none))
set_option maxRecDepth 20000 in
theorem tcO_put {X : List Int32} {D0 : List xE} {ob oi : Nat} {ne : Int32} {sn : List Int32} (hO2 : ((ob, .inl (6, 2, .ref oi)) : xE) ∈ D0) (hL0 : ((106, .inl (5, 2, .int ne)) : xE) ∈ D0) (hSn : ((108, .inr (0, sn.map Value.int)) : xE) ∈ D0)  {N fr lo : Nat} (hf : 0 ≤ fr) (hl : 0 ≤ lo) {v1 : Int32} {v2 : Int64} {S S2 : zS} {r : Unit}  (h : cO_put ne sn N v1 v2 S = some (r, S2)) : yK X fr lo 96 [.ref ob, .int v1, .long v2] (zD zTO (zaO ob oi) S D0) 0 0 (zQv zTO (zaO ob oi) D0 r S2) := by
  unfold cO_put at h
  refine yK.of rfl (yle rfl) (L := [_, _, _, _]) rfl ?_
  refine xt_pure rfl rfl rfl rfl ?_
  refine zt_gI 0 rfl rfl rfl rfl (x := (zI S 0)) rfl ?_
  by_cases hw1 : (zI S 0) = 0
  · replace h := zif_t (p := (zI S 0) = 0) hw1 h
    refine zt_sw (tg := 3) rfl rfl rfl hw1 rfl ?_
    refine xt_pure rfl rfl rfl rfl ?_
    refine xt_getf rfl rfl (zmr hO2) ?_
    refine xt_pure rfl rfl rfl rfl ?_
    refine xt_pure rfl rfl rfl rfl ?_
    refine xt_pure rfl rfl rfl (st1 := .long 0 :: _) rfl ?_
    refine zt_lc rfl rfl rfl (fun hb => ?_) (fun hb => ?_)
    · replace h := zif_t (p := v2 = (0 : Int64)) hb h
      refine xt_pure rfl rfl rfl (st1 := .long 0 :: _) rfl ?_
      obtain ⟨hg, h⟩ := zgd h
      refine zt_lst 2 rfl rfl rfl rfl (l := (zB S 2)) rfl hg ?_
      refine xt_pure rfl rfl rfl rfl ?_
      cases h
      exact xt_vret rfl rfl rfl ⟨rfl, rfl⟩
    · replace h := zif_f (p := v2 = (0 : Int64)) hb h
      refine xt_pure rfl rfl rfl (st1 := .long 1 :: _) rfl ?_
      refine xt_pure rfl rfl rfl rfl ?_
      obtain ⟨hg, h⟩ := zgd h
      refine zt_lst 2 rfl rfl rfl rfl (l := (zB S 2)) rfl hg ?_
      refine xt_pure rfl rfl rfl rfl ?_
      cases h
      exact xt_vret rfl rfl rfl ⟨rfl, rfl⟩
  replace h := zif_f (p := (zI S 0) = 0) hw1 h
  by_cases hw2 : (zI S 0) = 1
  · replace h := zif_t (p := (zI S 0) = 1) hw2 h
    refine zt_sw (tg := 15) rfl rfl rfl hw2 rfl ?_
    refine xt_pure rfl rfl rfl rfl ?_
    refine xt_getf rfl rfl (zmr hO2) ?_
    refine xt_pure rfl rfl rfl rfl ?_
    refine xt_pure rfl rfl rfl rfl ?_
    refine xt_pure rfl rfl rfl rfl ?_
    refine xt_pure rfl rfl rfl rfl ?_
    obtain ⟨hg, h⟩ := zgd h
    refine zt_lst 2 rfl rfl rfl rfl (l := (zB S 2)) rfl hg ?_
    refine xt_pure rfl rfl rfl rfl ?_
    cases h
    exact xt_vret rfl rfl rfl ⟨rfl, rfl⟩
  replace h := zif_f (p := (zI S 0) = 1) hw2 h
  by_cases hw3 : (zI S 0) = 3
  · replace h := zif_t (p := (zI S 0) = 3) hw3 h
    refine zt_sw (tg := 23) rfl rfl rfl hw3 rfl ?_
    refine xt_pure rfl rfl rfl rfl ?_
    refine xt_getf rfl rfl (zmr hO2) ?_
    refine xt_pure rfl rfl rfl rfl ?_
    refine xt_pure rfl rfl rfl rfl ?_
    refine xt_pure rfl rfl rfl (st1 := .long 65535 :: _) rfl ?_
    refine xt_pure rfl rfl rfl rfl ?_
    obtain ⟨hg, h⟩ := zgd h
    refine zt_lst 2 rfl rfl rfl rfl (l := (zB S 2)) rfl hg ?_
    refine xt_pure rfl rfl rfl rfl ?_
    cases h
    exact xt_vret rfl rfl rfl ⟨rfl, rfl⟩
  replace h := zif_f (p := (zI S 0) = 3) hw3 h
  by_cases hw4 : (zI S 0) = 2
  · refine zt_sw (tg := 31) rfl rfl rfl hw4 rfl ?_
    refine xt_pure rfl rfl rfl rfl ?_
    refine xt_getf rfl rfl (zmr hO2) ?_
    refine xt_pure rfl rfl rfl rfl ?_
    refine xt_pure rfl rfl rfl rfl ?_
    obtain ⟨hg, h⟩ := zgd h
    refine zt_lst 2 rfl rfl rfl rfl (l := (zB S 2)) rfl hg ?_
    cases h
    exact xt_vret rfl rfl rfl ⟨rfl, rfl⟩
  have hxhw1 : ¬ (zI S 0).toInt = 0 := fun h => hw1 (by rw [xi32_eq, h]; rfl)
  have hxhw2 : ¬ (zI S 0).toInt = 1 := fun h => hw2 (by rw [xi32_eq, h]; rfl)
  have hxhw3 : ¬ (zI S 0).toInt = 3 := fun h => hw3 (by rw [xi32_eq, h]; rfl)
  have hxhw4 : ¬ (zI S 0).toInt = 2 := fun h => hw4 (by rw [xi32_eq, h]; rfl)
  refine yt_tsd rfl rfl (by omega) rfl ?_
  refine xt_pure rfl rfl rfl rfl ?_
  refine xt_getf rfl rfl (zmr hO2) ?_
  refine xt_pure rfl rfl rfl rfl ?_
  refine xt_pure rfl rfl rfl rfl ?_
  obtain ⟨hg, h⟩ := zgd h
  refine zt_lst 2 rfl rfl rfl rfl (l := (zB S 2)) rfl hg ?_
  cases h
  exact xt_vret rfl rfl rfl ⟨rfl, rfl⟩
def cO_loadItem_61 (ne : Int32) (sn : List Int32)  (N : Nat)  (l2 : Int32) (s0 : Int64) (S : zS) : Option (Unit × zS) := (if (zI S 5) ≠ (0 : Int32) then (zb (cO_put ne sn N l2 s0 (zsI S 5 1)) fun _ S8 => some ((), S8)) else (if s0 = ((-9) : Int64) then (zb (cO_put ne sn N l2 s0 (zsI S 5 0)) fun _ S11 => some ((), S11)) else (if (zI S 0) ≠ (5 : Int32) then (zb (cO_isSigned ne sn N s0 S) fun x13 S14 => (if x13 ≠ (0 : Int32) then (zb (cO_put ne sn N l2 s0 (zsI S14 5 0)) fun _ S17 => some ((), S17)) else (zb (cO_put ne sn N l2 s0 (zsI S14 5 1)) fun _ S20 => some ((), S20)))) else (zb (cO_holds ne sn N s0 S) fun x22 S23 => (if x22 = (0 : Int32) then (zb (cO_put ne sn N l2 s0 (zsI S23 5 1)) fun _ S26 => some ((), S26)) else (zb (cO_put ne sn N l2 s0 (zsI S23 5 0)) fun _ S29 => some ((), S29)))))))
theorem tcO_loadItem_61 {X : List Int32} {D0 : List xE} {ob oi : Nat} {ne : Int32} {sn : List Int32} (hO2 : ((ob, .inl (6, 2, .ref oi)) : xE) ∈ D0) (hL0 : ((106, .inl (5, 2, .int ne)) : xE) ∈ D0) (hSn : ((108, .inr (0, sn.map Value.int)) : xE) ∈ D0)  {N fr lo : Nat}   (hf : 2 ≤ fr) (hl : 44 ≤ lo) {l2 : Int32} {s0 : Int64} {d3 : Int64} {S S2 : zS} {r : Unit}  (h : cO_loadItem_61 ne sn N l2 s0 S = some (r, S2)) : yT X fr lo 205 61 [some (.ref 206), some (.ref ob), some (.int l2), some (.long d3), none] [.long s0] (zD zTO (zaO ob oi) S D0) 0 0 (zQv zTO (zaO ob oi) D0 r S2) := by
  unfold cO_loadItem_61 at h
  refine xt_pure rfl rfl rfl (L1 := [_, _, _, _, _]) rfl ?_
  refine xt_pure rfl rfl rfl rfl ?_
  refine xt_pure rfl rfl rfl rfl ?_
  refine zt_gI 5 rfl rfl rfl rfl (x := (zI S 5)) rfl ?_
  refine xt_if rfl rfl (fun hb => ?_) (fun hb => ?_)
  · replace h := zif_t (p := (zI S 5) ≠ (0 : Int32)) hb h
    refine xt_pure rfl rfl rfl (st1 := .int 1 :: _) rfl ?_
    refine xt_pure rfl rfl rfl rfl ?_
    refine zt_pI 5 rfl rfl rfl rfl rfl rfl ?_
    refine xt_pure rfl rfl rfl rfl ?_
    refine xt_pure rfl rfl rfl rfl ?_
    refine xt_pure rfl rfl rfl rfl ?_
    obtain ⟨_, S8, hc9, h⟩ := zbi h
    refine zt_Vv rfl rfl rfl rfl (zmr hO2) ⟨rfl, rfl, yle rfl, yle rfl⟩ (m := 4) rfl ⟨by omega, by omega⟩ (tcO_put hO2 hL0 hSn (by omega) (by omega) hc9) (fr1 := fr - 1) (lo1 := lo - 23) ?_
    cases h
    exact xt_vret rfl rfl rfl ⟨rfl, rfl⟩
  · replace h := zif_f (p := (zI S 5) ≠ (0 : Int32)) hb h
    refine xt_pure rfl rfl rfl rfl ?_
    refine xt_pure rfl rfl rfl (st1 := .long (-9) :: _) rfl ?_
    refine zt_lc rfl rfl rfl (fun hb => ?_) (fun hb => ?_)
    · replace h := zif_t (p := s0 = ((-9) : Int64)) hb h
      refine xt_pure rfl rfl rfl (st1 := .int 0 :: _) rfl ?_
      refine zt_pI 5 rfl rfl rfl rfl rfl rfl ?_
      refine xt_pure rfl rfl rfl rfl ?_
      refine xt_pure rfl rfl rfl rfl ?_
      refine xt_pure rfl rfl rfl rfl ?_
      obtain ⟨_, S11, hc12, h⟩ := zbi h
      refine zt_Vv rfl rfl rfl rfl (zmr hO2) ⟨rfl, rfl, yle rfl, yle rfl⟩ (m := 4) rfl ⟨by omega, by omega⟩ (tcO_put hO2 hL0 hSn (by omega) (by omega) hc12) (fr1 := fr - 1) (lo1 := lo - 23) ?_
      cases h
      exact xt_vret rfl rfl rfl ⟨rfl, rfl⟩
    · replace h := zif_f (p := s0 = ((-9) : Int64)) hb h
      refine xt_pure rfl rfl rfl rfl ?_
      refine zt_gI 0 rfl rfl rfl rfl (x := (zI S 0)) rfl ?_
      refine xt_pure rfl rfl rfl (st1 := .int 5 :: _) rfl ?_
      refine xt_ic rfl rfl (fun hb => ?_) (fun hb => ?_)
      · replace h := zif_t (p := (zI S 0) ≠ (5 : Int32)) hb h
        refine xt_pure rfl rfl rfl rfl ?_
        refine xt_getf rfl rfl (xmC 173 rfl) ?_
        refine xt_pure rfl rfl rfl rfl ?_
        obtain ⟨x13, S14, hc15, h⟩ := zbi h
        refine zt_Vi rfl rfl rfl rfl (xmC 140 rfl) ⟨rfl, rfl, yle rfl, yle rfl⟩ (m := 3) rfl ⟨by omega, by omega⟩ (tcO_isSigned hO2 hL0 hSn (by omega) (by omega) hc15) (fr1 := fr - 1) (lo1 := lo - 22) ?_
        refine xt_if rfl rfl (fun hb => ?_) (fun hb => ?_)
        · replace h := zif_t (p := x13 ≠ (0 : Int32)) hb h
          refine xt_pure rfl rfl rfl (st1 := .int 0 :: _) rfl ?_
          refine zt_pI 5 rfl rfl rfl rfl rfl rfl ?_
          refine xt_pure rfl rfl rfl rfl ?_
          refine xt_pure rfl rfl rfl rfl ?_
          refine xt_pure rfl rfl rfl rfl ?_
          obtain ⟨_, S17, hc18, h⟩ := zbi h
          refine zt_Vv rfl rfl rfl rfl (zmr hO2) ⟨rfl, rfl, yle rfl, yle rfl⟩ (m := 4) rfl ⟨by omega, by omega⟩ (tcO_put hO2 hL0 hSn (by omega) (by omega) hc18) (fr1 := fr - 1) (lo1 := lo - 23) ?_
          cases h
          exact xt_vret rfl rfl rfl ⟨rfl, rfl⟩
        · replace h := zif_f (p := x13 ≠ (0 : Int32)) hb h
          refine xt_pure rfl rfl rfl (st1 := .int 1 :: _) rfl ?_
          refine xt_pure rfl rfl rfl rfl ?_
          refine zt_pI 5 rfl rfl rfl rfl rfl rfl ?_
          refine xt_pure rfl rfl rfl rfl ?_
          refine xt_pure rfl rfl rfl rfl ?_
          refine xt_pure rfl rfl rfl rfl ?_
          obtain ⟨_, S20, hc21, h⟩ := zbi h
          refine zt_Vv rfl rfl rfl rfl (zmr hO2) ⟨rfl, rfl, yle rfl, yle rfl⟩ (m := 4) rfl ⟨by omega, by omega⟩ (tcO_put hO2 hL0 hSn (by omega) (by omega) hc21) (fr1 := fr - 1) (lo1 := lo - 23) ?_
          cases h
          exact xt_vret rfl rfl rfl ⟨rfl, rfl⟩
      · replace h := zif_f (p := (zI S 0) ≠ (5 : Int32)) hb h
        refine xt_pure rfl rfl rfl rfl ?_
        refine xt_getf rfl rfl (xmC 173 rfl) ?_
        refine xt_pure rfl rfl rfl rfl ?_
        obtain ⟨x22, S23, hc24, h⟩ := zbi h
        refine zt_Vi rfl rfl rfl rfl (xmC 140 rfl) ⟨rfl, rfl, yle rfl, yle rfl⟩ (m := 3) rfl ⟨by omega, by omega⟩ (tcO_holds hO2 hL0 hSn (by omega) (by omega) hc24) (fr1 := fr - 1) (lo1 := lo - 22) ?_
        refine xt_if rfl rfl (fun hb => ?_) (fun hb => ?_)
        · replace h := zif_t (p := x22 = (0 : Int32)) hb h
          refine xt_pure rfl rfl rfl (st1 := .int 1 :: _) rfl ?_
          refine xt_pure rfl rfl rfl rfl ?_
          refine zt_pI 5 rfl rfl rfl rfl rfl rfl ?_
          refine xt_pure rfl rfl rfl rfl ?_
          refine xt_pure rfl rfl rfl rfl ?_
          refine xt_pure rfl rfl rfl rfl ?_
          obtain ⟨_, S26, hc27, h⟩ := zbi h
          refine zt_Vv rfl rfl rfl rfl (zmr hO2) ⟨rfl, rfl, yle rfl, yle rfl⟩ (m := 4) rfl ⟨by omega, by omega⟩ (tcO_put hO2 hL0 hSn (by omega) (by omega) hc27) (fr1 := fr - 1) (lo1 := lo - 23) ?_
          cases h
          exact xt_vret rfl rfl rfl ⟨rfl, rfl⟩
        · replace h := zif_f (p := x22 = (0 : Int32)) hb h
          refine xt_pure rfl rfl rfl rfl ?_
          refine xt_pure rfl rfl rfl (st1 := .int 0 :: _) rfl ?_
          refine zt_pI 5 rfl rfl rfl rfl rfl rfl ?_
          refine xt_pure rfl rfl rfl rfl ?_
          refine xt_pure rfl rfl rfl rfl ?_
          refine xt_pure rfl rfl rfl rfl ?_
          obtain ⟨_, S29, hc30, h⟩ := zbi h
          refine zt_Vv rfl rfl rfl rfl (zmr hO2) ⟨rfl, rfl, yle rfl, yle rfl⟩ (m := 4) rfl ⟨by omega, by omega⟩ (tcO_put hO2 hL0 hSn (by omega) (by omega) hc30) (fr1 := fr - 1) (lo1 := lo - 23) ?_
          cases h
          exact xt_vret rfl rfl rfl ⟨rfl, rfl⟩
def cO_loadItem_44 (ne : Int32) (sn : List Int32)  (N : Nat)  (l2 : Int32) (l3 : Int64) (S : zS) : Option (Unit × zS) := (if (zI S 0) = (5 : Int32) then (if l3 ≠ (0 : Int64) then cO_loadItem_61 ne sn N l2 (l3 - 1) S else cO_loadItem_61 ne sn N l2 (-9) S) else (if (zI S 0) ≠ (6 : Int32) then (zb (cO_put ne sn N l2 l3 S) fun _ S32 => some ((), S32)) else (if l3 ≠ (0 : Int64) then cO_loadItem_61 ne sn N l2 (l3 - 1) S else cO_loadItem_61 ne sn N l2 (-9) S)))
theorem tcO_loadItem_44 {X : List Int32} {D0 : List xE} {ob oi : Nat} {ne : Int32} {sn : List Int32} (hO2 : ((ob, .inl (6, 2, .ref oi)) : xE) ∈ D0) (hL0 : ((106, .inl (5, 2, .int ne)) : xE) ∈ D0) (hSn : ((108, .inr (0, sn.map Value.int)) : xE) ∈ D0)  {N fr lo : Nat}   (hf : 2 ≤ fr) (hl : 44 ≤ lo) {l2 : Int32} {l3 : Int64}  {S S2 : zS} {r : Unit}  (h : cO_loadItem_44 ne sn N l2 l3 S = some (r, S2)) : yT X fr lo 205 44 [some (.ref 206), some (.ref ob), some (.int l2), some (.long l3), none] [] (zD zTO (zaO ob oi) S D0) 0 0 (zQv zTO (zaO ob oi) D0 r S2) := by
  unfold cO_loadItem_44 at h
  refine xt_pure rfl rfl rfl rfl ?_
  refine zt_gI 0 rfl rfl rfl rfl (x := (zI S 0)) rfl ?_
  refine xt_pure rfl rfl rfl (st1 := .int 5 :: _) rfl ?_
  refine xt_ic rfl rfl (fun hb => ?_) (fun hb => ?_)
  · replace h := zif_t (p := (zI S 0) = (5 : Int32)) hb h
    refine xt_pure rfl rfl rfl rfl ?_
    refine xt_pure rfl rfl rfl (st1 := .long 0 :: _) rfl ?_
    refine zt_lc rfl rfl rfl (fun hb => ?_) (fun hb => ?_)
    · replace h := zif_t (p := l3 ≠ (0 : Int64)) hb h
      refine xt_pure rfl rfl rfl rfl ?_
      refine xt_pure rfl rfl rfl (st1 := .long 1 :: _) rfl ?_
      refine xt_pure rfl rfl rfl rfl ?_
      exact tcO_loadItem_61 hO2 hL0 hSn hf hl h
    · replace h := zif_f (p := l3 ≠ (0 : Int64)) hb h
      refine xt_pure rfl rfl rfl (st1 := .long (-9) :: _) rfl ?_
      refine xt_pure rfl rfl rfl rfl ?_
      exact tcO_loadItem_61 hO2 hL0 hSn hf hl h
  · replace h := zif_f (p := (zI S 0) = (5 : Int32)) hb h
    refine xt_pure rfl rfl rfl rfl ?_
    refine zt_gI 0 rfl rfl rfl rfl (x := (zI S 0)) rfl ?_
    refine xt_pure rfl rfl rfl (st1 := .int 6 :: _) rfl ?_
    refine xt_ic rfl rfl (fun hb => ?_) (fun hb => ?_)
    · replace h := zif_t (p := (zI S 0) ≠ (6 : Int32)) hb h
      refine xt_pure rfl rfl rfl rfl ?_
      refine xt_pure rfl rfl rfl rfl ?_
      refine xt_pure rfl rfl rfl rfl ?_
      obtain ⟨_, S32, hc33, h⟩ := zbi h
      refine zt_Vv rfl rfl rfl rfl (zmr hO2) ⟨rfl, rfl, yle rfl, yle rfl⟩ (m := 4) rfl ⟨by omega, by omega⟩ (tcO_put hO2 hL0 hSn (by omega) (by omega) hc33) (fr1 := fr - 1) (lo1 := lo - 23) ?_
      cases h
      exact xt_vret rfl rfl rfl ⟨rfl, rfl⟩
    · replace h := zif_f (p := (zI S 0) ≠ (6 : Int32)) hb h
      refine xt_pure rfl rfl rfl rfl ?_
      refine xt_pure rfl rfl rfl (st1 := .long 0 :: _) rfl ?_
      refine zt_lc rfl rfl rfl (fun hb => ?_) (fun hb => ?_)
      · replace h := zif_t (p := l3 ≠ (0 : Int64)) hb h
        refine xt_pure rfl rfl rfl rfl ?_
        refine xt_pure rfl rfl rfl (st1 := .long 1 :: _) rfl ?_
        refine xt_pure rfl rfl rfl rfl ?_
        exact tcO_loadItem_61 hO2 hL0 hSn hf hl h
      · replace h := zif_f (p := l3 ≠ (0 : Int64)) hb h
        refine xt_pure rfl rfl rfl (st1 := .long (-9) :: _) rfl ?_
        refine xt_pure rfl rfl rfl rfl ?_
        exact tcO_loadItem_61 hO2 hL0 hSn hf hl h
def cO_loadItem_32 (ne : Int32) (sn : List Int32)  (N : Nat)  (l2 : Int32) (l3 : Int64) (S : zS) : Option (Unit × zS) := (if (zI S 0) ≠ (7 : Int32) then cO_loadItem_44 ne sn N l2 l3 S else (zb (cO_holds ne sn N l3 S) fun x34 S35 => (if x34 ≠ (0 : Int32) then cO_loadItem_44 ne sn N l2 l3 S35 else cO_loadItem_44 ne sn N l2 l3 (zsI S35 5 1))))
theorem tcO_loadItem_32 {X : List Int32} {D0 : List xE} {ob oi : Nat} {ne : Int32} {sn : List Int32} (hO2 : ((ob, .inl (6, 2, .ref oi)) : xE) ∈ D0) (hL0 : ((106, .inl (5, 2, .int ne)) : xE) ∈ D0) (hSn : ((108, .inr (0, sn.map Value.int)) : xE) ∈ D0)  {N fr lo : Nat}   (hf : 2 ≤ fr) (hl : 44 ≤ lo) {l2 : Int32} {l3 : Int64}  {S S2 : zS} {r : Unit}  (h : cO_loadItem_32 ne sn N l2 l3 S = some (r, S2)) : yT X fr lo 205 32 [some (.ref 206), some (.ref ob), some (.int l2), some (.long l3), none] [] (zD zTO (zaO ob oi) S D0) 0 0 (zQv zTO (zaO ob oi) D0 r S2) := by
  unfold cO_loadItem_32 at h
  refine xt_pure rfl rfl rfl rfl ?_
  refine zt_gI 0 rfl rfl rfl rfl (x := (zI S 0)) rfl ?_
  refine xt_pure rfl rfl rfl (st1 := .int 7 :: _) rfl ?_
  refine xt_ic rfl rfl (fun hb => ?_) (fun hb => ?_)
  · replace h := zif_t (p := (zI S 0) ≠ (7 : Int32)) hb h
    exact tcO_loadItem_44 hO2 hL0 hSn hf hl h
  · replace h := zif_f (p := (zI S 0) ≠ (7 : Int32)) hb h
    refine xt_pure rfl rfl rfl rfl ?_
    refine xt_getf rfl rfl (xmC 173 rfl) ?_
    refine xt_pure rfl rfl rfl rfl ?_
    obtain ⟨x34, S35, hc36, h⟩ := zbi h
    refine zt_Vi rfl rfl rfl rfl (xmC 140 rfl) ⟨rfl, rfl, yle rfl, yle rfl⟩ (m := 3) rfl ⟨by omega, by omega⟩ (tcO_holds hO2 hL0 hSn (by omega) (by omega) hc36) (fr1 := fr - 1) (lo1 := lo - 22) ?_
    refine xt_if rfl rfl (fun hb => ?_) (fun hb => ?_)
    · replace h := zif_t (p := x34 ≠ (0 : Int32)) hb h
      exact tcO_loadItem_44 hO2 hL0 hSn hf hl h
    · replace h := zif_f (p := x34 ≠ (0 : Int32)) hb h
      refine xt_pure rfl rfl rfl rfl ?_
      refine xt_pure rfl rfl rfl (st1 := .int 1 :: _) rfl ?_
      refine zt_pI 5 rfl rfl rfl rfl rfl rfl ?_
      exact tcO_loadItem_44 hO2 hL0 hSn hf hl h
def cO_loadItem (ne : Int32) (sn : List Int32)  (N : Nat) (v2 : Int32) (S : zS) : Option (Unit × zS) := (if (zI S 0) ≠ (2 : Int32) then (zb (cO_bytesOf ne sn N (zI S 0) S) fun x1 S2 => (zb (cO_loadNumber ne sn N x1 S2) fun x4 S5 => (if (zI S5 0) ≠ (0 : Int32) then cO_loadItem_32 ne sn N v2 x4.toInt64 S5 else (if 1 < x4.toInt64.toInt then cO_loadItem_44 ne sn N v2 x4.toInt64 (zsI S5 5 1) else cO_loadItem_32 ne sn N v2 x4.toInt64 S5)))) else (zb (cO_loadNumber ne sn N 4 S) fun x37 S38 => (zb (cO_loadNumber ne sn N 4 S38) fun x40 S41 => (if (zI S41 0) ≠ (0 : Int32) then cO_loadItem_32 ne sn N v2 ((x37.toInt64 <<< ((32 : Int32).toInt64 &&& 63)) ||| (x40.toInt64 &&& 4294967295)) S41 else (if 1 < ((x37.toInt64 <<< ((32 : Int32).toInt64 &&& 63)) ||| (x40.toInt64 &&& 4294967295)).toInt then cO_loadItem_44 ne sn N v2 ((x37.toInt64 <<< ((32 : Int32).toInt64 &&& 63)) ||| (x40.toInt64 &&& 4294967295)) (zsI S41 5 1) else cO_loadItem_32 ne sn N v2 ((x37.toInt64 <<< ((32 : Int32).toInt64 &&& 63)) ||| (x40.toInt64 &&& 4294967295)) S41)))))
theorem tcO_loadItem {X : List Int32} {D0 : List xE} {ob oi : Nat} {ne : Int32} {sn : List Int32} (hO2 : ((ob, .inl (6, 2, .ref oi)) : xE) ∈ D0) (hL0 : ((106, .inl (5, 2, .int ne)) : xE) ∈ D0) (hSn : ((108, .inr (0, sn.map Value.int)) : xE) ∈ D0)  {N fr lo : Nat} (hf : 2 ≤ fr) (hl : 44 ≤ lo) {v2 : Int32} {S S2 : zS} {r : Unit}  (h : cO_loadItem ne sn N v2 S = some (r, S2)) : yK X fr lo 205 [.ref 206, .ref ob, .int v2] (zD zTO (zaO ob oi) S D0) 0 0 (zQv zTO (zaO ob oi) D0 r S2) := by
  unfold cO_loadItem at h
  refine yK.of rfl (yle rfl) (L := [_, _, _, _, _]) rfl ?_
  refine xt_pure rfl rfl rfl rfl ?_
  refine zt_gI 0 rfl rfl rfl rfl (x := (zI S 0)) rfl ?_
  refine xt_pure rfl rfl rfl (st1 := .int 2 :: _) rfl ?_
  refine xt_ic rfl rfl (fun hb => ?_) (fun hb => ?_)
  · replace h := zif_t (p := (zI S 0) ≠ (2 : Int32)) hb h
    refine xt_pure rfl rfl rfl rfl ?_
    refine xt_pure rfl rfl rfl rfl ?_
    refine zt_gI 0 rfl rfl rfl rfl (x := (zI S 0)) rfl ?_
    obtain ⟨x1, S2, hc3, h⟩ := zbi h
    refine zt_Si rfl rfl (by decide) rfl rfl ⟨rfl, yle rfl, yle rfl⟩ (m := 1) rfl ⟨by omega, by omega⟩ (tcO_bytesOf hO2 hL0 hSn (by omega) (by omega) hc3) (fr1 := fr - 1) (lo1 := lo - 20) ?_
    obtain ⟨x4, S5, hc6, h⟩ := zbi h
    refine zt_Vi rfl rfl rfl rfl (xmC 173 rfl) ⟨rfl, rfl, yle rfl, yle rfl⟩ (m := 4) rfl ⟨by omega, by omega⟩ (tcO_loadNumber hO2 hL0 hSn (by omega) (by omega) hc6) (fr1 := fr - 1) (lo1 := lo - 23) ?_
    refine xt_pure rfl rfl rfl rfl ?_
    refine xt_pure rfl rfl rfl (L1 := [_, _, _, _, _]) rfl ?_
    refine xt_pure rfl rfl rfl rfl ?_
    refine zt_gI 0 rfl rfl rfl rfl (x := (zI S5 0)) rfl ?_
    refine xt_if rfl rfl (fun hb => ?_) (fun hb => ?_)
    · replace h := zif_t (p := (zI S5 0) ≠ (0 : Int32)) hb h
      exact tcO_loadItem_32 hO2 hL0 hSn hf hl h
    · replace h := zif_f (p := (zI S5 0) ≠ (0 : Int32)) hb h
      refine xt_pure rfl rfl rfl rfl ?_
      refine xt_pure rfl rfl rfl (st1 := .long 1 :: _) rfl ?_
      refine zt_lc rfl rfl rfl (fun hb => ?_) (fun hb => ?_)
      · replace h := zif_t (p := 1 < x4.toInt64.toInt) hb h
        refine xt_pure rfl rfl rfl rfl ?_
        refine xt_pure rfl rfl rfl (st1 := .int 1 :: _) rfl ?_
        refine zt_pI 5 rfl rfl rfl rfl rfl rfl ?_
        exact tcO_loadItem_44 hO2 hL0 hSn hf hl h
      · replace h := zif_f (p := 1 < x4.toInt64.toInt) hb h
        exact tcO_loadItem_32 hO2 hL0 hSn hf hl h
  · replace h := zif_f (p := (zI S 0) ≠ (2 : Int32)) hb h
    refine xt_pure rfl rfl rfl rfl ?_
    refine xt_pure rfl rfl rfl (st1 := .int 4 :: _) rfl ?_
    obtain ⟨x37, S38, hc39, h⟩ := zbi h
    refine zt_Vi rfl rfl rfl rfl (xmC 173 rfl) ⟨rfl, rfl, yle rfl, yle rfl⟩ (m := 4) rfl ⟨by omega, by omega⟩ (tcO_loadNumber hO2 hL0 hSn (by omega) (by omega) hc39) (fr1 := fr - 1) (lo1 := lo - 23) ?_
    refine xt_pure rfl rfl rfl rfl ?_
    refine xt_pure rfl rfl rfl (st1 := .int 32 :: _) rfl ?_
    refine xt_pure rfl rfl rfl rfl ?_
    refine xt_pure rfl rfl rfl rfl ?_
    refine xt_pure rfl rfl rfl (st1 := .int 4 :: _) rfl ?_
    obtain ⟨x40, S41, hc42, h⟩ := zbi h
    refine zt_Vi rfl rfl rfl rfl (xmC 173 rfl) ⟨rfl, rfl, yle rfl, yle rfl⟩ (m := 4) rfl ⟨by omega, by omega⟩ (tcO_loadNumber hO2 hL0 hSn (by omega) (by omega) hc42) (fr1 := fr - 1) (lo1 := lo - 23) ?_
    refine xt_pure rfl rfl rfl rfl ?_
    refine xt_pure rfl rfl rfl (st1 := .long 4294967295 :: _) rfl ?_
    refine xt_pure rfl rfl rfl rfl ?_
    refine xt_pure rfl rfl rfl rfl ?_
    refine xt_pure rfl rfl rfl rfl ?_
    refine xt_pure rfl rfl rfl (L1 := [_, _, _, _, _]) rfl ?_
    refine xt_pure rfl rfl rfl rfl ?_
    refine zt_gI 0 rfl rfl rfl rfl (x := (zI S41 0)) rfl ?_
    refine xt_if rfl rfl (fun hb => ?_) (fun hb => ?_)
    · replace h := zif_t (p := (zI S41 0) ≠ (0 : Int32)) hb h
      exact tcO_loadItem_32 hO2 hL0 hSn hf hl h
    · replace h := zif_f (p := (zI S41 0) ≠ (0 : Int32)) hb h
      refine xt_pure rfl rfl rfl rfl ?_
      refine xt_pure rfl rfl rfl (st1 := .long 1 :: _) rfl ?_
      refine zt_lc rfl rfl rfl (fun hb => ?_) (fun hb => ?_)
      · replace h := zif_t (p := 1 < ((x37.toInt64 <<< ((32 : Int32).toInt64 &&& 63)) ||| (x40.toInt64 &&& 4294967295)).toInt) hb h
        refine xt_pure rfl rfl rfl rfl ?_
        refine xt_pure rfl rfl rfl (st1 := .int 1 :: _) rfl ?_
        refine zt_pI 5 rfl rfl rfl rfl rfl rfl ?_
        exact tcO_loadItem_44 hO2 hL0 hSn hf hl h
      · replace h := zif_f (p := 1 < ((x37.toInt64 <<< ((32 : Int32).toInt64 &&& 63)) ||| (x40.toInt64 &&& 4294967295)).toInt) hb h
        exact tcO_loadItem_32 hO2 hL0 hSn hf hl h
