/-! MIRRORS: the reference reads, small calls -/
def rQ_isLetter  (N : Nat) (v0 : Int32) (S : zS) : Option (Int32 × zS) := (if v0.toInt < 97 then some (0, S) else (if 122 < v0.toInt then some (0, S) else some (1, S)))
theorem trQ_isLetter {X : List Int32} {D0 : List xE} {a : Nat} {p : Nat → Nat} (hG0 : ((209, .inl (14, 9, .ref a)) : xE) ∈ D0) (hG : ∀ e ∈ zgQ a p, e ∈ D0)  {N fr lo : Nat} (hf : 0 ≤ fr) (hl : 0 ≤ lo) {v0 : Int32} {S S2 : zS} {r : Int32}  (h : rQ_isLetter N v0 S = some (r, S2)) : yK X fr lo 212 [.int v0] (zD zTQ (zaQ a p) S D0) 0 0 (zQi zTQ (zaQ a p) D0 r S2) := by
  unfold rQ_isLetter at h
  refine yK.of rfl (yle rfl) (L := [_]) rfl ?_
  refine xt_pure rfl rfl rfl rfl ?_
  refine xt_pure rfl rfl rfl (st1 := .int 97 :: _) rfl ?_
  refine xt_ic rfl rfl (fun hb => ?_) (fun hb => ?_)
  · replace h := zif_t (p := v0.toInt < 97) hb h
    refine xt_pure rfl rfl rfl (st1 := .int 0 :: _) rfl ?_
    cases h
    exact xt_iret rfl rfl rfl rfl ⟨rfl, rfl⟩
  · replace h := zif_f (p := v0.toInt < 97) hb h
    refine xt_pure rfl rfl rfl rfl ?_
    refine xt_pure rfl rfl rfl (st1 := .int 122 :: _) rfl ?_
    refine xt_ic rfl rfl (fun hb => ?_) (fun hb => ?_)
    · replace h := zif_t (p := 122 < v0.toInt) hb h
      refine xt_pure rfl rfl rfl (st1 := .int 0 :: _) rfl ?_
      cases h
      exact xt_iret rfl rfl rfl rfl ⟨rfl, rfl⟩
    · replace h := zif_f (p := 122 < v0.toInt) hb h
      refine xt_pure rfl rfl rfl (st1 := .int 1 :: _) rfl ?_
      refine xt_pure rfl rfl rfl rfl ?_
      cases h
      exact xt_iret rfl rfl rfl rfl ⟨rfl, rfl⟩
def rQ_isDigit  (N : Nat) (v0 : Int32) (S : zS) : Option (Int32 × zS) := (if v0.toInt < 48 then some (0, S) else (if 57 < v0.toInt then some (0, S) else some (1, S)))
theorem trQ_isDigit {X : List Int32} {D0 : List xE} {a : Nat} {p : Nat → Nat} (hG0 : ((209, .inl (14, 9, .ref a)) : xE) ∈ D0) (hG : ∀ e ∈ zgQ a p, e ∈ D0)  {N fr lo : Nat} (hf : 0 ≤ fr) (hl : 0 ≤ lo) {v0 : Int32} {S S2 : zS} {r : Int32}  (h : rQ_isDigit N v0 S = some (r, S2)) : yK X fr lo 214 [.int v0] (zD zTQ (zaQ a p) S D0) 0 0 (zQi zTQ (zaQ a p) D0 r S2) := by
  unfold rQ_isDigit at h
  refine yK.of rfl (yle rfl) (L := [_]) rfl ?_
  refine xt_pure rfl rfl rfl rfl ?_
  refine xt_pure rfl rfl rfl (st1 := .int 48 :: _) rfl ?_
  refine xt_ic rfl rfl (fun hb => ?_) (fun hb => ?_)
  · replace h := zif_t (p := v0.toInt < 48) hb h
    refine xt_pure rfl rfl rfl (st1 := .int 0 :: _) rfl ?_
    cases h
    exact xt_iret rfl rfl rfl rfl ⟨rfl, rfl⟩
  · replace h := zif_f (p := v0.toInt < 48) hb h
    refine xt_pure rfl rfl rfl rfl ?_
    refine xt_pure rfl rfl rfl (st1 := .int 57 :: _) rfl ?_
    refine xt_ic rfl rfl (fun hb => ?_) (fun hb => ?_)
    · replace h := zif_t (p := 57 < v0.toInt) hb h
      refine xt_pure rfl rfl rfl (st1 := .int 0 :: _) rfl ?_
      cases h
      exact xt_iret rfl rfl rfl rfl ⟨rfl, rfl⟩
    · replace h := zif_f (p := 57 < v0.toInt) hb h
      refine xt_pure rfl rfl rfl (st1 := .int 1 :: _) rfl ?_
      refine xt_pure rfl rfl rfl rfl ?_
      cases h
      exact xt_iret rfl rfl rfl rfl ⟨rfl, rfl⟩
def rQ_at  (N : Nat) (v1 : Int32) (S : zS) : Option (Int32 × zS) := (if (zI S 0).toInt ≤ v1.toInt then some (0, S) else (zg (gI (zA S 1) v1) fun x1 => some (x1, S)))
theorem trQ_at {X : List Int32} {D0 : List xE} {a : Nat} {p : Nat → Nat} (hG0 : ((209, .inl (14, 9, .ref a)) : xE) ∈ D0) (hG : ∀ e ∈ zgQ a p, e ∈ D0)  {N fr lo : Nat} (hf : 0 ≤ fr) (hl : 0 ≤ lo) {v1 : Int32} {S S2 : zS} {r : Int32}  (h : rQ_at N v1 S = some (r, S2)) : yK X fr lo 213 [.ref 209, .int v1] (zD zTQ (zaQ a p) S D0) 0 0 (zQi zTQ (zaQ a p) D0 r S2) := by
  unfold rQ_at at h
  refine yK.of rfl (yle rfl) (L := [_, _]) rfl ?_
  refine xt_pure rfl rfl rfl rfl ?_
  refine xt_pure rfl rfl rfl rfl ?_
  refine zt_gI 0 rfl rfl rfl rfl (x := (zI S 0)) rfl ?_
  refine xt_ic rfl rfl (fun hb => ?_) (fun hb => ?_)
  · replace h := zif_t (p := (zI S 0).toInt ≤ v1.toInt) hb h
    refine xt_pure rfl rfl rfl (st1 := .int 0 :: _) rfl ?_
    cases h
    exact xt_iret rfl rfl rfl rfl ⟨rfl, rfl⟩
  · replace h := zif_f (p := (zI S 0).toInt ≤ v1.toInt) hb h
    refine xt_pure rfl rfl rfl rfl ?_
    refine xt_getf rfl rfl (xmC 176 rfl) ?_
    refine xt_pure rfl rfl rfl rfl ?_
    obtain ⟨x1, hx1, h⟩ := zgi h
    refine zr_bld (l := (zA S 1)) rfl rfl (by decide) (zmA 1 rfl rfl (l := (zA S 1)) rfl) hx1 ?_
    refine xt_pure rfl rfl rfl rfl ?_
    cases h
    exact xt_iret rfl rfl rfl rfl ⟨rfl, rfl⟩
def rQ_next_115  (N : Nat)  : Nat → Int32 → zS → Option (Unit × zS)
  | 0, _, _ => none
  | n + 1, l3, S => (if (zI S 4).toInt ≤ l3.toInt then some ((), S) else (if (zI S 2) ≠ (2 : Int32) then some ((), S) else (zg (gI (zA S 1) l3) fun x14 => (rQ_next_115 N n) (l3 + 1) (zsI S 5 (((10 * (zI S 5)) + x14) - 48)))))
theorem trQ_next_115 {X : List Int32} {D0 : List xE} {a : Nat} {p : Nat → Nat} (hG0 : ((209, .inl (14, 9, .ref a)) : xE) ∈ D0) (hG : ∀ e ∈ zgQ a p, e ∈ D0)  {N fr lo : Nat}   (hf : 1 ≤ fr) (hl : 21 ≤ lo)  : ∀ {n : Nat} {l3 : Int32} {d1 : Int32} {d2 : Int32} {S S2 : zS} {r : Unit} , rQ_next_115 N n l3 S = some (r, S2) → yT X fr lo 211 115 [some (.ref 209), some (.int d1), some (.int d2), some (.int l3)] [] (zD zTQ (zaQ a p) S D0) 0 0 (zQv zTQ (zaQ a p) D0 r S2) := by
  intro n
  induction n with
  | zero =>
    intro l3 d1 d2 S S2 r  h
    have h : (none : Option (Unit × zS)) = some (r, S2) := h
    cases h
  | succ n ih =>
    intro l3 d1 d2 S S2 r  h
    rw [rQ_next_115] at h
    refine xt_pure rfl rfl rfl rfl ?_
    refine xt_pure rfl rfl rfl rfl ?_
    refine zt_gI 4 rfl rfl rfl rfl (x := (zI S 4)) rfl ?_
    refine xt_ic rfl rfl (fun hb => ?_) (fun hb => ?_)
    · replace h := zif_t (p := (zI S 4).toInt ≤ l3.toInt) hb h
      refine xt_pure rfl rfl rfl rfl ?_
      cases h
      exact xt_vret rfl rfl rfl ⟨rfl, rfl⟩
    · replace h := zif_f (p := (zI S 4).toInt ≤ l3.toInt) hb h
      refine xt_pure rfl rfl rfl rfl ?_
      refine zt_gI 2 rfl rfl rfl rfl (x := (zI S 2)) rfl ?_
      refine xt_pure rfl rfl rfl (st1 := .int 2 :: _) rfl ?_
      refine xt_ic rfl rfl (fun hb => ?_) (fun hb => ?_)
      · replace h := zif_t (p := (zI S 2) ≠ (2 : Int32)) hb h
        refine xt_pure rfl rfl rfl rfl ?_
        cases h
        exact xt_vret rfl rfl rfl ⟨rfl, rfl⟩
      · replace h := zif_f (p := (zI S 2) ≠ (2 : Int32)) hb h
        refine xt_pure rfl rfl rfl rfl ?_
        refine xt_pure rfl rfl rfl (st1 := .int 10 :: _) rfl ?_
        refine xt_pure rfl rfl rfl rfl ?_
        refine zt_gI 5 rfl rfl rfl rfl (x := (zI S 5)) rfl ?_
        refine xt_pure rfl rfl rfl rfl ?_
        refine xt_pure rfl rfl rfl rfl ?_
        refine xt_getf rfl rfl (xmC 176 rfl) ?_
        refine xt_pure rfl rfl rfl rfl ?_
        obtain ⟨x14, hx14, h⟩ := zgi h
        refine zr_bld (l := (zA S 1)) rfl rfl (by decide) (zmA 1 rfl rfl (l := (zA S 1)) rfl) hx14 ?_
        refine xt_pure rfl rfl rfl rfl ?_
        refine xt_pure rfl rfl rfl (st1 := .int 48 :: _) rfl ?_
        refine xt_pure rfl rfl rfl rfl ?_
        refine zt_pI 5 rfl rfl rfl rfl rfl rfl ?_
        refine xt_pure rfl rfl rfl (L1 := [_, _, _, some (.int (_ + 1))]) rfl ?_
        refine xt_pure rfl rfl rfl rfl ?_
        exact ih h
def rQ_next_84  (N : Nat)  : Nat → zS → Option (Unit × zS)
  | 0, _ => none
  | n + 1, S => (zb (rQ_at N (zI S 4) S) fun x8 S9 => (zb (rQ_isDigit N x8 S9) fun x11 S12 => (if x11 = (0 : Int32) then (if ((zI S12 4) - (zI S12 3)).toInt ≤ 6 then rQ_next_115 N N (zI S12 3) (zsI (zsI S12 2 2) 5 0) else rQ_next_115 N N (zI S12 3) (zsI (zsI S12 2 4) 5 0)) else (rQ_next_84 N n)  (zsI S12 4 ((zI S12 4) + 1)))))
theorem trQ_next_84 {X : List Int32} {D0 : List xE} {a : Nat} {p : Nat → Nat} (hG0 : ((209, .inl (14, 9, .ref a)) : xE) ∈ D0) (hG : ∀ e ∈ zgQ a p, e ∈ D0)  {N fr lo : Nat}   (hf : 1 ≤ fr) (hl : 21 ≤ lo)  : ∀ {n : Nat}  {d1 : Int32} {d2 : Int32} {S S2 : zS} {r : Unit} , rQ_next_84 N n  S = some (r, S2) → yT X fr lo 211 84 [some (.ref 209), some (.int d1), some (.int d2), none] [] (zD zTQ (zaQ a p) S D0) 0 0 (zQv zTQ (zaQ a p) D0 r S2) := by
  intro n
  induction n with
  | zero =>
    intro  d1 d2 S S2 r  h
    have h : (none : Option (Unit × zS)) = some (r, S2) := h
    cases h
  | succ n ih =>
    intro  d1 d2 S S2 r  h
    rw [rQ_next_84] at h
    refine xt_pure rfl rfl rfl rfl ?_
    refine xt_pure rfl rfl rfl rfl ?_
    refine zt_gI 4 rfl rfl rfl rfl (x := (zI S 4)) rfl ?_
    obtain ⟨x8, S9, hc10, h⟩ := zbi h
    refine zt_Vi rfl rfl rfl rfl (xmC 176 rfl) ⟨rfl, rfl, yle rfl, yle rfl⟩ (m := 2) rfl ⟨by omega, by omega⟩ (trQ_at hG0 hG (by omega) (by omega) hc10) (fr1 := fr - 1) (lo1 := lo - 21) ?_
    obtain ⟨x11, S12, hc13, h⟩ := zbi h
    refine zt_Si rfl rfl (by decide) rfl rfl ⟨rfl, yle rfl, yle rfl⟩ (m := 1) rfl ⟨by omega, by omega⟩ (trQ_isDigit hG0 hG (by omega) (by omega) hc13) (fr1 := fr - 1) (lo1 := lo - 20) ?_
    refine xt_if rfl rfl (fun hb => ?_) (fun hb => ?_)
    · replace h := zif_t (p := x11 = (0 : Int32)) hb h
      refine xt_pure rfl rfl rfl rfl ?_
      refine xt_pure rfl rfl rfl rfl ?_
      refine zt_gI 4 rfl rfl rfl rfl (x := (zI S12 4)) rfl ?_
      refine xt_pure rfl rfl rfl rfl ?_
      refine zt_gI 3 rfl rfl rfl rfl (x := (zI S12 3)) rfl ?_
      refine xt_pure rfl rfl rfl rfl ?_
      refine xt_pure rfl rfl rfl (st1 := .int 6 :: _) rfl ?_
      refine xt_ic rfl rfl (fun hb => ?_) (fun hb => ?_)
      · replace h := zif_t (p := ((zI S12 4) - (zI S12 3)).toInt ≤ 6) hb h
        refine xt_pure rfl rfl rfl (st1 := .int 2 :: _) rfl ?_
        refine zt_pI 2 rfl rfl rfl rfl rfl rfl ?_
        refine xt_pure rfl rfl rfl rfl ?_
        refine xt_pure rfl rfl rfl (st1 := .int 0 :: _) rfl ?_
        refine zt_pI 5 rfl rfl rfl rfl rfl rfl ?_
        refine xt_pure rfl rfl rfl rfl ?_
        refine zt_gI 3 rfl rfl rfl rfl (x := (zI S12 3)) rfl ?_
        refine xt_pure rfl rfl rfl (L1 := [_, _, _, _]) rfl ?_
        exact trQ_next_115 hG0 hG hf hl h
      · replace h := zif_f (p := ((zI S12 4) - (zI S12 3)).toInt ≤ 6) hb h
        refine xt_pure rfl rfl rfl (st1 := .int 4 :: _) rfl ?_
        refine xt_pure rfl rfl rfl rfl ?_
        refine zt_pI 2 rfl rfl rfl rfl rfl rfl ?_
        refine xt_pure rfl rfl rfl rfl ?_
        refine xt_pure rfl rfl rfl (st1 := .int 0 :: _) rfl ?_
        refine zt_pI 5 rfl rfl rfl rfl rfl rfl ?_
        refine xt_pure rfl rfl rfl rfl ?_
        refine zt_gI 3 rfl rfl rfl rfl (x := (zI S12 3)) rfl ?_
        refine xt_pure rfl rfl rfl (L1 := [_, _, _, _]) rfl ?_
        exact trQ_next_115 hG0 hG hf hl h
    · replace h := zif_f (p := x11 = (0 : Int32)) hb h
      refine xt_pure rfl rfl rfl rfl ?_
      refine xt_pure rfl rfl rfl rfl ?_
      refine zt_gI 4 rfl rfl rfl rfl (x := (zI S12 4)) rfl ?_
      refine xt_pure rfl rfl rfl (st1 := .int 1 :: _) rfl ?_
      refine xt_pure rfl rfl rfl rfl ?_
      refine zt_pI 4 rfl rfl rfl rfl rfl rfl ?_
      refine xt_pure rfl rfl rfl rfl ?_
      exact ih h
def rQ_next_49  (N : Nat)  : Nat → zS → Option (Unit × zS)
  | 0, _ => none
  | n + 1, S => (zb (rQ_at N (zI S 4) S) fun x15 S16 => (zb (rQ_isLetter N x15 S16) fun x18 S19 => (if x18 ≠ (0 : Int32) then (rQ_next_49 N n)  (zsI S19 4 ((zI S19 4) + 1)) else (zb (rQ_at N (zI S19 4) S19) fun x21 S22 => (zb (rQ_isDigit N x21 S22) fun x24 S25 => (if x24 = (0 : Int32) then (if ((zI S25 4) - (zI S25 3)).toInt ≤ 8 then some ((), (zsI S25 2 1)) else some ((), (zsI S25 2 4))) else (rQ_next_49 N n)  (zsI S25 4 ((zI S25 4) + 1))))))))
theorem trQ_next_49 {X : List Int32} {D0 : List xE} {a : Nat} {p : Nat → Nat} (hG0 : ((209, .inl (14, 9, .ref a)) : xE) ∈ D0) (hG : ∀ e ∈ zgQ a p, e ∈ D0)  {N fr lo : Nat}   (hf : 1 ≤ fr) (hl : 21 ≤ lo)  : ∀ {n : Nat}  {d1 : Int32} {d2 : Int32} {S S2 : zS} {r : Unit} , rQ_next_49 N n  S = some (r, S2) → yT X fr lo 211 49 [some (.ref 209), some (.int d1), some (.int d2), none] [] (zD zTQ (zaQ a p) S D0) 0 0 (zQv zTQ (zaQ a p) D0 r S2) := by
  intro n
  induction n with
  | zero =>
    intro  d1 d2 S S2 r  h
    have h : (none : Option (Unit × zS)) = some (r, S2) := h
    cases h
  | succ n ih =>
    intro  d1 d2 S S2 r  h
    rw [rQ_next_49] at h
    refine xt_pure rfl rfl rfl rfl ?_
    refine xt_pure rfl rfl rfl rfl ?_
    refine zt_gI 4 rfl rfl rfl rfl (x := (zI S 4)) rfl ?_
    obtain ⟨x15, S16, hc17, h⟩ := zbi h
    refine zt_Vi rfl rfl rfl rfl (xmC 176 rfl) ⟨rfl, rfl, yle rfl, yle rfl⟩ (m := 2) rfl ⟨by omega, by omega⟩ (trQ_at hG0 hG (by omega) (by omega) hc17) (fr1 := fr - 1) (lo1 := lo - 21) ?_
    obtain ⟨x18, S19, hc20, h⟩ := zbi h
    refine zt_Si rfl rfl (by decide) rfl rfl ⟨rfl, yle rfl, yle rfl⟩ (m := 1) rfl ⟨by omega, by omega⟩ (trQ_isLetter hG0 hG (by omega) (by omega) hc20) (fr1 := fr - 1) (lo1 := lo - 20) ?_
    refine xt_if rfl rfl (fun hb => ?_) (fun hb => ?_)
    · replace h := zif_t (p := x18 ≠ (0 : Int32)) hb h
      refine xt_pure rfl rfl rfl rfl ?_
      refine xt_pure rfl rfl rfl rfl ?_
      refine zt_gI 4 rfl rfl rfl rfl (x := (zI S19 4)) rfl ?_
      refine xt_pure rfl rfl rfl (st1 := .int 1 :: _) rfl ?_
      refine xt_pure rfl rfl rfl rfl ?_
      refine zt_pI 4 rfl rfl rfl rfl rfl rfl ?_
      refine xt_pure rfl rfl rfl rfl ?_
      exact ih h
    · replace h := zif_f (p := x18 ≠ (0 : Int32)) hb h
      refine xt_pure rfl rfl rfl rfl ?_
      refine xt_pure rfl rfl rfl rfl ?_
      refine zt_gI 4 rfl rfl rfl rfl (x := (zI S19 4)) rfl ?_
      obtain ⟨x21, S22, hc23, h⟩ := zbi h
      refine zt_Vi rfl rfl rfl rfl (xmC 176 rfl) ⟨rfl, rfl, yle rfl, yle rfl⟩ (m := 2) rfl ⟨by omega, by omega⟩ (trQ_at hG0 hG (by omega) (by omega) hc23) (fr1 := fr - 1) (lo1 := lo - 21) ?_
      obtain ⟨x24, S25, hc26, h⟩ := zbi h
      refine zt_Si rfl rfl (by decide) rfl rfl ⟨rfl, yle rfl, yle rfl⟩ (m := 1) rfl ⟨by omega, by omega⟩ (trQ_isDigit hG0 hG (by omega) (by omega) hc26) (fr1 := fr - 1) (lo1 := lo - 20) ?_
      refine xt_if rfl rfl (fun hb => ?_) (fun hb => ?_)
      · replace h := zif_t (p := x24 = (0 : Int32)) hb h
        refine xt_pure rfl rfl rfl rfl ?_
        refine xt_pure rfl rfl rfl rfl ?_
        refine zt_gI 4 rfl rfl rfl rfl (x := (zI S25 4)) rfl ?_
        refine xt_pure rfl rfl rfl rfl ?_
        refine zt_gI 3 rfl rfl rfl rfl (x := (zI S25 3)) rfl ?_
        refine xt_pure rfl rfl rfl rfl ?_
        refine xt_pure rfl rfl rfl (st1 := .int 8 :: _) rfl ?_
        refine xt_ic rfl rfl (fun hb => ?_) (fun hb => ?_)
        · replace h := zif_t (p := ((zI S25 4) - (zI S25 3)).toInt ≤ 8) hb h
          refine xt_pure rfl rfl rfl (st1 := .int 1 :: _) rfl ?_
          refine zt_pI 2 rfl rfl rfl rfl rfl rfl ?_
          refine xt_pure rfl rfl rfl rfl ?_
          cases h
          exact xt_vret rfl rfl rfl ⟨rfl, rfl⟩
        · replace h := zif_f (p := ((zI S25 4) - (zI S25 3)).toInt ≤ 8) hb h
          refine xt_pure rfl rfl rfl (st1 := .int 4 :: _) rfl ?_
          refine xt_pure rfl rfl rfl rfl ?_
          refine zt_pI 2 rfl rfl rfl rfl rfl rfl ?_
          refine xt_pure rfl rfl rfl rfl ?_
          cases h
          exact xt_vret rfl rfl rfl ⟨rfl, rfl⟩
      · replace h := zif_f (p := x24 = (0 : Int32)) hb h
        refine xt_pure rfl rfl rfl rfl ?_
        refine xt_pure rfl rfl rfl rfl ?_
        refine zt_gI 4 rfl rfl rfl rfl (x := (zI S25 4)) rfl ?_
        refine xt_pure rfl rfl rfl (st1 := .int 1 :: _) rfl ?_
        refine xt_pure rfl rfl rfl rfl ?_
        refine zt_pI 4 rfl rfl rfl rfl rfl rfl ?_
        refine xt_pure rfl rfl rfl rfl ?_
        exact ih h
def rQ_next_21  (N : Nat)  (l1 : Int32) (S : zS) : Option (Unit × zS) := (if l1 ≠ (zI S 0) then (zg (gI (zA S 1) l1) fun x1 => (zb (rQ_isLetter N x1 (zsI (zsI (zsI (zsI S 3 l1) 4 l1) 2 0) 4 (l1 + 1))) fun x2 S3 => (if x2 = (0 : Int32) then (zb (rQ_isDigit N x1 S3) fun x5 S6 => (if x5 = (0 : Int32) then (if x1 = (59 : Int32) then some ((), (zsI S6 2 3)) else (if x1 = (123 : Int32) then some ((), (zsI S6 2 3)) else (if x1 = (125 : Int32) then some ((), (zsI S6 2 3)) else (if x1 = (40 : Int32) then some ((), (zsI S6 2 3)) else (if x1 = (41 : Int32) then some ((), (zsI S6 2 3)) else (if x1 = (91 : Int32) then some ((), (zsI S6 2 3)) else (if x1 = (93 : Int32) then some ((), (zsI S6 2 3)) else (if x1 = (44 : Int32) then some ((), (zsI S6 2 3)) else (if x1 = (61 : Int32) then some ((), (zsI S6 2 3)) else (if x1 = (60 : Int32) then some ((), (zsI S6 2 3)) else (if x1 = (62 : Int32) then some ((), (zsI S6 2 3)) else (if x1 = (43 : Int32) then some ((), (zsI S6 2 3)) else (if x1 = (45 : Int32) then some ((), (zsI S6 2 3)) else (if x1 = (42 : Int32) then some ((), (zsI S6 2 3)) else (if x1 = (47 : Int32) then some ((), (zsI S6 2 3)) else (if x1 ≠ (37 : Int32) then some ((), (zsI S6 2 4)) else some ((), (zsI S6 2 3)))))))))))))))))) else rQ_next_84 N N  S6)) else rQ_next_49 N N  S3))) else some ((), (zsI (zsI (zsI S 3 l1) 4 l1) 2 0)))
theorem trQ_next_21 {X : List Int32} {D0 : List xE} {a : Nat} {p : Nat → Nat} (hG0 : ((209, .inl (14, 9, .ref a)) : xE) ∈ D0) (hG : ∀ e ∈ zgQ a p, e ∈ D0)  {N fr lo : Nat}   (hf : 1 ≤ fr) (hl : 21 ≤ lo) {l1 : Int32}  {S S2 : zS} {r : Unit}  (h : rQ_next_21 N l1 S = some (r, S2)) : yT X fr lo 211 21 [some (.ref 209), some (.int l1), none, none] [] (zD zTQ (zaQ a p) S D0) 0 0 (zQv zTQ (zaQ a p) D0 r S2) := by
  unfold rQ_next_21 at h
  refine xt_pure rfl rfl rfl rfl ?_
  refine xt_pure rfl rfl rfl rfl ?_
  refine zt_pI 3 rfl rfl rfl rfl rfl rfl ?_
  refine xt_pure rfl rfl rfl rfl ?_
  refine xt_pure rfl rfl rfl rfl ?_
  refine zt_pI 4 rfl rfl rfl rfl rfl rfl ?_
  refine xt_pure rfl rfl rfl rfl ?_
  refine xt_pure rfl rfl rfl (st1 := .int 0 :: _) rfl ?_
  refine zt_pI 2 rfl rfl rfl rfl rfl rfl ?_
  refine xt_pure rfl rfl rfl rfl ?_
  refine xt_pure rfl rfl rfl rfl ?_
  refine zt_gI 0 rfl rfl rfl rfl (x := (zI S 0)) rfl ?_
  refine xt_ic rfl rfl (fun hb => ?_) (fun hb => ?_)
  · replace h := zif_t (p := l1 ≠ (zI S 0)) hb h
    refine xt_pure rfl rfl rfl rfl ?_
    refine xt_getf rfl rfl (xmC 176 rfl) ?_
    refine xt_pure rfl rfl rfl rfl ?_
    obtain ⟨x1, hx1, h⟩ := zgi h
    refine zr_bld (l := (zA S 1)) rfl rfl (by decide) (zmA 1 rfl rfl (l := (zA S 1)) rfl) hx1 ?_
    refine xt_pure rfl rfl rfl (L1 := [_, _, _, _]) rfl ?_
    refine xt_pure rfl rfl rfl rfl ?_
    refine xt_pure rfl rfl rfl rfl ?_
    refine zt_gI 4 rfl rfl rfl rfl (x := l1) rfl ?_
    refine xt_pure rfl rfl rfl (st1 := .int 1 :: _) rfl ?_
    refine xt_pure rfl rfl rfl rfl ?_
    refine zt_pI 4 rfl rfl rfl rfl rfl rfl ?_
    refine xt_pure rfl rfl rfl rfl ?_
    obtain ⟨x2, S3, hc4, h⟩ := zbi h
    refine zt_Si rfl rfl (by decide) rfl rfl ⟨rfl, yle rfl, yle rfl⟩ (m := 1) rfl ⟨by omega, by omega⟩ (trQ_isLetter hG0 hG (by omega) (by omega) hc4) (fr1 := fr - 1) (lo1 := lo - 20) ?_
    refine xt_if rfl rfl (fun hb => ?_) (fun hb => ?_)
    · replace h := zif_t (p := x2 = (0 : Int32)) hb h
      refine xt_pure rfl rfl rfl rfl ?_
      obtain ⟨x5, S6, hc7, h⟩ := zbi h
      refine zt_Si rfl rfl (by decide) rfl rfl ⟨rfl, yle rfl, yle rfl⟩ (m := 1) rfl ⟨by omega, by omega⟩ (trQ_isDigit hG0 hG (by omega) (by omega) hc7) (fr1 := fr - 1) (lo1 := lo - 20) ?_
      refine xt_if rfl rfl (fun hb => ?_) (fun hb => ?_)
      · replace h := zif_t (p := x5 = (0 : Int32)) hb h
        refine xt_pure rfl rfl rfl rfl ?_
        refine xt_pure rfl rfl rfl rfl ?_
        refine xt_pure rfl rfl rfl (st1 := .int 59 :: _) rfl ?_
        refine xt_ic rfl rfl (fun hb => ?_) (fun hb => ?_)
        · replace h := zif_t (p := x1 = (59 : Int32)) hb h
          refine xt_pure rfl rfl rfl (st1 := .int 3 :: _) rfl ?_
          refine xt_pure rfl rfl rfl rfl ?_
          refine zt_pI 2 rfl rfl rfl rfl rfl rfl ?_
          cases h
          exact xt_vret rfl rfl rfl ⟨rfl, rfl⟩
        · replace h := zif_f (p := x1 = (59 : Int32)) hb h
          refine xt_pure rfl rfl rfl rfl ?_
          refine xt_pure rfl rfl rfl (st1 := .int 123 :: _) rfl ?_
          refine xt_ic rfl rfl (fun hb => ?_) (fun hb => ?_)
          · replace h := zif_t (p := x1 = (123 : Int32)) hb h
            refine xt_pure rfl rfl rfl (st1 := .int 3 :: _) rfl ?_
            refine xt_pure rfl rfl rfl rfl ?_
            refine zt_pI 2 rfl rfl rfl rfl rfl rfl ?_
            cases h
            exact xt_vret rfl rfl rfl ⟨rfl, rfl⟩
          · replace h := zif_f (p := x1 = (123 : Int32)) hb h
            refine xt_pure rfl rfl rfl rfl ?_
            refine xt_pure rfl rfl rfl (st1 := .int 125 :: _) rfl ?_
            refine xt_ic rfl rfl (fun hb => ?_) (fun hb => ?_)
            · replace h := zif_t (p := x1 = (125 : Int32)) hb h
              refine xt_pure rfl rfl rfl (st1 := .int 3 :: _) rfl ?_
              refine xt_pure rfl rfl rfl rfl ?_
              refine zt_pI 2 rfl rfl rfl rfl rfl rfl ?_
              cases h
              exact xt_vret rfl rfl rfl ⟨rfl, rfl⟩
            · replace h := zif_f (p := x1 = (125 : Int32)) hb h
              refine xt_pure rfl rfl rfl rfl ?_
              refine xt_pure rfl rfl rfl (st1 := .int 40 :: _) rfl ?_
              refine xt_ic rfl rfl (fun hb => ?_) (fun hb => ?_)
              · replace h := zif_t (p := x1 = (40 : Int32)) hb h
                refine xt_pure rfl rfl rfl (st1 := .int 3 :: _) rfl ?_
                refine xt_pure rfl rfl rfl rfl ?_
                refine zt_pI 2 rfl rfl rfl rfl rfl rfl ?_
                cases h
                exact xt_vret rfl rfl rfl ⟨rfl, rfl⟩
              · replace h := zif_f (p := x1 = (40 : Int32)) hb h
                refine xt_pure rfl rfl rfl rfl ?_
                refine xt_pure rfl rfl rfl (st1 := .int 41 :: _) rfl ?_
                refine xt_ic rfl rfl (fun hb => ?_) (fun hb => ?_)
                · replace h := zif_t (p := x1 = (41 : Int32)) hb h
                  refine xt_pure rfl rfl rfl (st1 := .int 3 :: _) rfl ?_
                  refine xt_pure rfl rfl rfl rfl ?_
                  refine zt_pI 2 rfl rfl rfl rfl rfl rfl ?_
                  cases h
                  exact xt_vret rfl rfl rfl ⟨rfl, rfl⟩
                · replace h := zif_f (p := x1 = (41 : Int32)) hb h
                  refine xt_pure rfl rfl rfl rfl ?_
                  refine xt_pure rfl rfl rfl (st1 := .int 91 :: _) rfl ?_
                  refine xt_ic rfl rfl (fun hb => ?_) (fun hb => ?_)
                  · replace h := zif_t (p := x1 = (91 : Int32)) hb h
                    refine xt_pure rfl rfl rfl (st1 := .int 3 :: _) rfl ?_
                    refine xt_pure rfl rfl rfl rfl ?_
                    refine zt_pI 2 rfl rfl rfl rfl rfl rfl ?_
                    cases h
                    exact xt_vret rfl rfl rfl ⟨rfl, rfl⟩
                  · replace h := zif_f (p := x1 = (91 : Int32)) hb h
                    refine xt_pure rfl rfl rfl rfl ?_
                    refine xt_pure rfl rfl rfl (st1 := .int 93 :: _) rfl ?_
                    refine xt_ic rfl rfl (fun hb => ?_) (fun hb => ?_)
                    · replace h := zif_t (p := x1 = (93 : Int32)) hb h
                      refine xt_pure rfl rfl rfl (st1 := .int 3 :: _) rfl ?_
                      refine xt_pure rfl rfl rfl rfl ?_
                      refine zt_pI 2 rfl rfl rfl rfl rfl rfl ?_
                      cases h
                      exact xt_vret rfl rfl rfl ⟨rfl, rfl⟩
                    · replace h := zif_f (p := x1 = (93 : Int32)) hb h
                      refine xt_pure rfl rfl rfl rfl ?_
                      refine xt_pure rfl rfl rfl (st1 := .int 44 :: _) rfl ?_
                      refine xt_ic rfl rfl (fun hb => ?_) (fun hb => ?_)
                      · replace h := zif_t (p := x1 = (44 : Int32)) hb h
                        refine xt_pure rfl rfl rfl (st1 := .int 3 :: _) rfl ?_
                        refine xt_pure rfl rfl rfl rfl ?_
                        refine zt_pI 2 rfl rfl rfl rfl rfl rfl ?_
                        cases h
                        exact xt_vret rfl rfl rfl ⟨rfl, rfl⟩
                      · replace h := zif_f (p := x1 = (44 : Int32)) hb h
                        refine xt_pure rfl rfl rfl rfl ?_
                        refine xt_pure rfl rfl rfl (st1 := .int 61 :: _) rfl ?_
                        refine xt_ic rfl rfl (fun hb => ?_) (fun hb => ?_)
                        · replace h := zif_t (p := x1 = (61 : Int32)) hb h
                          refine xt_pure rfl rfl rfl (st1 := .int 3 :: _) rfl ?_
                          refine xt_pure rfl rfl rfl rfl ?_
                          refine zt_pI 2 rfl rfl rfl rfl rfl rfl ?_
                          cases h
                          exact xt_vret rfl rfl rfl ⟨rfl, rfl⟩
                        · replace h := zif_f (p := x1 = (61 : Int32)) hb h
                          refine xt_pure rfl rfl rfl rfl ?_
                          refine xt_pure rfl rfl rfl (st1 := .int 60 :: _) rfl ?_
                          refine xt_ic rfl rfl (fun hb => ?_) (fun hb => ?_)
                          · replace h := zif_t (p := x1 = (60 : Int32)) hb h
                            refine xt_pure rfl rfl rfl (st1 := .int 3 :: _) rfl ?_
                            refine xt_pure rfl rfl rfl rfl ?_
                            refine zt_pI 2 rfl rfl rfl rfl rfl rfl ?_
                            cases h
                            exact xt_vret rfl rfl rfl ⟨rfl, rfl⟩
                          · replace h := zif_f (p := x1 = (60 : Int32)) hb h
                            refine xt_pure rfl rfl rfl rfl ?_
                            refine xt_pure rfl rfl rfl (st1 := .int 62 :: _) rfl ?_
                            refine xt_ic rfl rfl (fun hb => ?_) (fun hb => ?_)
                            · replace h := zif_t (p := x1 = (62 : Int32)) hb h
                              refine xt_pure rfl rfl rfl (st1 := .int 3 :: _) rfl ?_
                              refine xt_pure rfl rfl rfl rfl ?_
                              refine zt_pI 2 rfl rfl rfl rfl rfl rfl ?_
                              cases h
                              exact xt_vret rfl rfl rfl ⟨rfl, rfl⟩
                            · replace h := zif_f (p := x1 = (62 : Int32)) hb h
                              refine xt_pure rfl rfl rfl rfl ?_
                              refine xt_pure rfl rfl rfl (st1 := .int 43 :: _) rfl ?_
                              refine xt_ic rfl rfl (fun hb => ?_) (fun hb => ?_)
                              · replace h := zif_t (p := x1 = (43 : Int32)) hb h
                                refine xt_pure rfl rfl rfl (st1 := .int 3 :: _) rfl ?_
                                refine xt_pure rfl rfl rfl rfl ?_
                                refine zt_pI 2 rfl rfl rfl rfl rfl rfl ?_
                                cases h
                                exact xt_vret rfl rfl rfl ⟨rfl, rfl⟩
                              · replace h := zif_f (p := x1 = (43 : Int32)) hb h
                                refine xt_pure rfl rfl rfl rfl ?_
                                refine xt_pure rfl rfl rfl (st1 := .int 45 :: _) rfl ?_
                                refine xt_ic rfl rfl (fun hb => ?_) (fun hb => ?_)
                                · replace h := zif_t (p := x1 = (45 : Int32)) hb h
                                  refine xt_pure rfl rfl rfl (st1 := .int 3 :: _) rfl ?_
                                  refine xt_pure rfl rfl rfl rfl ?_
                                  refine zt_pI 2 rfl rfl rfl rfl rfl rfl ?_
                                  cases h
                                  exact xt_vret rfl rfl rfl ⟨rfl, rfl⟩
                                · replace h := zif_f (p := x1 = (45 : Int32)) hb h
                                  refine xt_pure rfl rfl rfl rfl ?_
                                  refine xt_pure rfl rfl rfl (st1 := .int 42 :: _) rfl ?_
                                  refine xt_ic rfl rfl (fun hb => ?_) (fun hb => ?_)
                                  · replace h := zif_t (p := x1 = (42 : Int32)) hb h
                                    refine xt_pure rfl rfl rfl (st1 := .int 3 :: _) rfl ?_
                                    refine xt_pure rfl rfl rfl rfl ?_
                                    refine zt_pI 2 rfl rfl rfl rfl rfl rfl ?_
                                    cases h
                                    exact xt_vret rfl rfl rfl ⟨rfl, rfl⟩
                                  · replace h := zif_f (p := x1 = (42 : Int32)) hb h
                                    refine xt_pure rfl rfl rfl rfl ?_
                                    refine xt_pure rfl rfl rfl (st1 := .int 47 :: _) rfl ?_
                                    refine xt_ic rfl rfl (fun hb => ?_) (fun hb => ?_)
                                    · replace h := zif_t (p := x1 = (47 : Int32)) hb h
                                      refine xt_pure rfl rfl rfl (st1 := .int 3 :: _) rfl ?_
                                      refine xt_pure rfl rfl rfl rfl ?_
                                      refine zt_pI 2 rfl rfl rfl rfl rfl rfl ?_
                                      cases h
                                      exact xt_vret rfl rfl rfl ⟨rfl, rfl⟩
                                    · replace h := zif_f (p := x1 = (47 : Int32)) hb h
                                      refine xt_pure rfl rfl rfl rfl ?_
                                      refine xt_pure rfl rfl rfl (st1 := .int 37 :: _) rfl ?_
                                      refine xt_ic rfl rfl (fun hb => ?_) (fun hb => ?_)
                                      · replace h := zif_t (p := x1 ≠ (37 : Int32)) hb h
                                        refine xt_pure rfl rfl rfl (st1 := .int 4 :: _) rfl ?_
                                        refine zt_pI 2 rfl rfl rfl rfl rfl rfl ?_
                                        cases h
                                        exact xt_vret rfl rfl rfl ⟨rfl, rfl⟩
                                      · replace h := zif_f (p := x1 ≠ (37 : Int32)) hb h
                                        refine xt_pure rfl rfl rfl (st1 := .int 3 :: _) rfl ?_
                                        refine xt_pure rfl rfl rfl rfl ?_
                                        refine zt_pI 2 rfl rfl rfl rfl rfl rfl ?_
                                        cases h
                                        exact xt_vret rfl rfl rfl ⟨rfl, rfl⟩
      · replace h := zif_f (p := x5 = (0 : Int32)) hb h
        exact trQ_next_84 hG0 hG hf hl h
    · replace h := zif_f (p := x2 = (0 : Int32)) hb h
      exact trQ_next_49 hG0 hG hf hl h
  · replace h := zif_f (p := l1 ≠ (zI S 0)) hb h
    cases h
    exact xt_vret rfl rfl rfl ⟨rfl, rfl⟩
def rQ_next_3  (N : Nat)  : Nat → Int32 → zS → Option (Unit × zS)
  | 0, _, _ => none
  | n + 1, l1, S => (if (zI S 0).toInt ≤ l1.toInt then rQ_next_21 N l1 S else (zg (gI (zA S 1) l1) fun x27 => (if x27 = (32 : Int32) then (rQ_next_3 N n) (l1 + 1) S else (zg (gI (zA S 1) l1) fun x28 => (if x28 ≠ (10 : Int32) then rQ_next_21 N l1 S else (rQ_next_3 N n) (l1 + 1) S)))))
theorem trQ_next_3 {X : List Int32} {D0 : List xE} {a : Nat} {p : Nat → Nat} (hG0 : ((209, .inl (14, 9, .ref a)) : xE) ∈ D0) (hG : ∀ e ∈ zgQ a p, e ∈ D0)  {N fr lo : Nat}   (hf : 1 ≤ fr) (hl : 21 ≤ lo)  : ∀ {n : Nat} {l1 : Int32}  {S S2 : zS} {r : Unit} , rQ_next_3 N n l1 S = some (r, S2) → yT X fr lo 211 3 [some (.ref 209), some (.int l1), none, none] [] (zD zTQ (zaQ a p) S D0) 0 0 (zQv zTQ (zaQ a p) D0 r S2) := by
  intro n
  induction n with
  | zero =>
    intro l1  S S2 r  h
    have h : (none : Option (Unit × zS)) = some (r, S2) := h
    cases h
  | succ n ih =>
    intro l1  S S2 r  h
    rw [rQ_next_3] at h
    refine xt_pure rfl rfl rfl rfl ?_
    refine xt_pure rfl rfl rfl rfl ?_
    refine zt_gI 0 rfl rfl rfl rfl (x := (zI S 0)) rfl ?_
    refine xt_ic rfl rfl (fun hb => ?_) (fun hb => ?_)
    · replace h := zif_t (p := (zI S 0).toInt ≤ l1.toInt) hb h
      exact trQ_next_21 hG0 hG hf hl h
    · replace h := zif_f (p := (zI S 0).toInt ≤ l1.toInt) hb h
      refine xt_pure rfl rfl rfl rfl ?_
      refine xt_getf rfl rfl (xmC 176 rfl) ?_
      refine xt_pure rfl rfl rfl rfl ?_
      obtain ⟨x27, hx27, h⟩ := zgi h
      refine zr_bld (l := (zA S 1)) rfl rfl (by decide) (zmA 1 rfl rfl (l := (zA S 1)) rfl) hx27 ?_
      refine xt_pure rfl rfl rfl (st1 := .int 32 :: _) rfl ?_
      refine xt_ic rfl rfl (fun hb => ?_) (fun hb => ?_)
      · replace h := zif_t (p := x27 = (32 : Int32)) hb h
        refine xt_pure rfl rfl rfl (L1 := [_, some (.int (_ + 1)), _, _]) rfl ?_
        refine xt_pure rfl rfl rfl rfl ?_
        exact ih h
      · replace h := zif_f (p := x27 = (32 : Int32)) hb h
        refine xt_pure rfl rfl rfl rfl ?_
        refine xt_getf rfl rfl (xmC 176 rfl) ?_
        refine xt_pure rfl rfl rfl rfl ?_
        obtain ⟨x28, hx28, h⟩ := zgi h
        refine zr_bld (l := (zA S 1)) rfl rfl (by decide) (zmA 1 rfl rfl (l := (zA S 1)) rfl) hx28 ?_
        refine xt_pure rfl rfl rfl (st1 := .int 10 :: _) rfl ?_
        refine xt_ic rfl rfl (fun hb => ?_) (fun hb => ?_)
        · replace h := zif_t (p := x28 ≠ (10 : Int32)) hb h
          exact trQ_next_21 hG0 hG hf hl h
        · replace h := zif_f (p := x28 ≠ (10 : Int32)) hb h
          refine xt_pure rfl rfl rfl (L1 := [_, some (.int (_ + 1)), _, _]) rfl ?_
          refine xt_pure rfl rfl rfl rfl ?_
          exact ih h
def rQ_next  (N : Nat)  (S : zS) : Option (Unit × zS) := rQ_next_3 N N (zI S 4) S
theorem trQ_next {X : List Int32} {D0 : List xE} {a : Nat} {p : Nat → Nat} (hG0 : ((209, .inl (14, 9, .ref a)) : xE) ∈ D0) (hG : ∀ e ∈ zgQ a p, e ∈ D0)  {N fr lo : Nat} (hf : 1 ≤ fr) (hl : 21 ≤ lo)  {S S2 : zS} {r : Unit}  (h : rQ_next N  S = some (r, S2)) : yK X fr lo 211 [.ref 209] (zD zTQ (zaQ a p) S D0) 0 0 (zQv zTQ (zaQ a p) D0 r S2) := by
  unfold rQ_next at h
  refine yK.of rfl (yle rfl) (L := [_, _, _, _]) rfl ?_
  refine xt_pure rfl rfl rfl rfl ?_
  refine zt_gI 4 rfl rfl rfl rfl (x := (zI S 4)) rfl ?_
  refine xt_pure rfl rfl rfl (L1 := [_, _, _, _]) rfl ?_
  exact trQ_next_3 hG0 hG hf hl h
def rQ_good  (N : Nat)  (S : zS) : Option (Int32 × zS) := (if 0 ≤ (zI S 6).toInt then some (0, S) else some (1, S))
theorem trQ_good {X : List Int32} {D0 : List xE} {a : Nat} {p : Nat → Nat} (hG0 : ((209, .inl (14, 9, .ref a)) : xE) ∈ D0) (hG : ∀ e ∈ zgQ a p, e ∈ D0)  {N fr lo : Nat} (hf : 0 ≤ fr) (hl : 0 ≤ lo)  {S S2 : zS} {r : Int32}  (h : rQ_good N  S = some (r, S2)) : yK X fr lo 216 [.ref 209] (zD zTQ (zaQ a p) S D0) 0 0 (zQi zTQ (zaQ a p) D0 r S2) := by
  unfold rQ_good at h
  refine yK.of rfl (yle rfl) (L := [_]) rfl ?_
  refine xt_pure rfl rfl rfl rfl ?_
  refine zt_gI 6 rfl rfl rfl rfl (x := (zI S 6)) rfl ?_
  refine xt_if rfl rfl (fun hb => ?_) (fun hb => ?_)
  · replace h := zif_t (p := 0 ≤ (zI S 6).toInt) hb h
    refine xt_pure rfl rfl rfl (st1 := .int 0 :: _) rfl ?_
    cases h
    exact xt_iret rfl rfl rfl rfl ⟨rfl, rfl⟩
  · replace h := zif_f (p := 0 ≤ (zI S 6).toInt) hb h
    refine xt_pure rfl rfl rfl (st1 := .int 1 :: _) rfl ?_
    refine xt_pure rfl rfl rfl rfl ?_
    cases h
    exact xt_iret rfl rfl rfl rfl ⟨rfl, rfl⟩
def rQ_wrong  (N : Nat)  (S : zS) : Option (Unit × zS) := (if 0 ≤ (zI S 6).toInt then some ((), S) else some ((), (zsI S 6 (zI S 3))))
theorem trQ_wrong {X : List Int32} {D0 : List xE} {a : Nat} {p : Nat → Nat} (hG0 : ((209, .inl (14, 9, .ref a)) : xE) ∈ D0) (hG : ∀ e ∈ zgQ a p, e ∈ D0)  {N fr lo : Nat} (hf : 0 ≤ fr) (hl : 0 ≤ lo)  {S S2 : zS} {r : Unit}  (h : rQ_wrong N  S = some (r, S2)) : yK X fr lo 218 [.ref 209] (zD zTQ (zaQ a p) S D0) 0 0 (zQv zTQ (zaQ a p) D0 r S2) := by
  unfold rQ_wrong at h
  refine yK.of rfl (yle rfl) (L := [_]) rfl ?_
  refine xt_pure rfl rfl rfl rfl ?_
  refine zt_gI 6 rfl rfl rfl rfl (x := (zI S 6)) rfl ?_
  refine xt_if rfl rfl (fun hb => ?_) (fun hb => ?_)
  · replace h := zif_t (p := 0 ≤ (zI S 6).toInt) hb h
    cases h
    exact xt_vret rfl rfl rfl ⟨rfl, rfl⟩
  · replace h := zif_f (p := 0 ≤ (zI S 6).toInt) hb h
    refine xt_pure rfl rfl rfl rfl ?_
    refine xt_pure rfl rfl rfl rfl ?_
    refine zt_gI 3 rfl rfl rfl rfl (x := (zI S 3)) rfl ?_
    refine zt_pI 6 rfl rfl rfl rfl rfl rfl ?_
    cases h
    exact xt_vret rfl rfl rfl ⟨rfl, rfl⟩
def rQ_isName_8  (N : Nat)  : Nat → Int32 → zS → Option (Int32 × zS)
  | 0, _, _ => none
  | n + 1, l1, S => (if 36 ≤ l1.toInt then some (1, S) else (zg (gI zwords l1) fun bsq1 => (zb (rS_isWord bsq1 N S) fun x2 S3 => (if x2 = (0 : Int32) then (rQ_isName_8 N n) (l1 + 1) S3 else some (0, S3)))))
theorem trQ_isName_8 {X : List Int32} {D0 : List xE} {a : Nat} {p : Nat → Nat} (hG0 : ((209, .inl (14, 9, .ref a)) : xE) ∈ D0) (hG : ∀ e ∈ zgQ a p, e ∈ D0)  {N fr lo : Nat}   (hf : 5 ≤ fr) (hl : 164 ≤ lo)  : ∀ {n : Nat} {l1 : Int32}  {S S2 : zS} {r : Int32} , rQ_isName_8 N n l1 S = some (r, S2) → yT X fr lo 228 8 [some (.ref 209), some (.int l1)] [] (zD zTQ (zaQ a p) S D0) 0 0 (zQi zTQ (zaQ a p) D0 r S2) := by
  intro n
  induction n with
  | zero =>
    intro l1  S S2 r  h
    have h : (none : Option (Int32 × zS)) = some (r, S2) := h
    cases h
  | succ n ih =>
    intro l1  S S2 r  h
    rw [rQ_isName_8] at h
    refine xt_pure rfl rfl rfl rfl ?_
    refine xt_pure rfl rfl rfl rfl ?_
    refine xt_getf rfl rfl (xmC 178 rfl) ?_
    refine zr_lenV (l := zw229) (x := 36) rfl rfl (xmC 216 rfl) rfl rfl ?_
    refine xt_ic rfl rfl (fun hb => ?_) (fun hb => ?_)
    · replace h := zif_t (p := 36 ≤ l1.toInt) hb h
      refine xt_pure rfl rfl rfl (st1 := .int 1 :: _) rfl ?_
      cases h
      exact xt_iret rfl rfl rfl rfl ⟨rfl, rfl⟩
    · replace h := zif_f (p := 36 ≤ l1.toInt) hb h
      refine xt_pure rfl rfl rfl rfl ?_
      refine xt_pure rfl rfl rfl rfl ?_
      refine xt_getf rfl rfl (xmC 178 rfl) ?_
      refine xt_pure rfl rfl rfl rfl ?_
      obtain ⟨bsq1, hbsq1, h⟩ := zgi h
      obtain ⟨skq1, saq1, hsq1, hsq1a, hsq1b, hsq1c⟩ := zwd (X := X) hbsq1
      refine zr_ald (l := zw229) rfl rfl ⟨by decide, rfl⟩ (xmC 216 rfl) hsq1 ?_
      obtain ⟨x2, S3, hc4, h⟩ := zbi h
      refine zt_Vi rfl rfl rfl rfl (xmC 176 rfl) ⟨rfl, rfl, yle rfl, yle rfl⟩ (m := 3) rfl ⟨by omega, by omega⟩ (trS_isWord hG0 hG hsq1a hsq1b hsq1c (by omega) (by omega) hc4) (fr1 := fr - 1) (lo1 := lo - 22) ?_
      refine xt_if rfl rfl (fun hb => ?_) (fun hb => ?_)
      · replace h := zif_t (p := x2 = (0 : Int32)) hb h
        refine xt_pure rfl rfl rfl (L1 := [_, some (.int (_ + 1))]) rfl ?_
        refine xt_pure rfl rfl rfl rfl ?_
        exact ih h
      · replace h := zif_f (p := x2 = (0 : Int32)) hb h
        refine xt_pure rfl rfl rfl (st1 := .int 0 :: _) rfl ?_
        cases h
        exact xt_iret rfl rfl rfl rfl ⟨rfl, rfl⟩
def rQ_isName  (N : Nat)  (S : zS) : Option (Int32 × zS) := (if (zI S 2) = (1 : Int32) then rQ_isName_8 N N 0 S else some (0, S))
theorem trQ_isName {X : List Int32} {D0 : List xE} {a : Nat} {p : Nat → Nat} (hG0 : ((209, .inl (14, 9, .ref a)) : xE) ∈ D0) (hG : ∀ e ∈ zgQ a p, e ∈ D0)  {N fr lo : Nat} (hf : 5 ≤ fr) (hl : 164 ≤ lo)  {S S2 : zS} {r : Int32}  (h : rQ_isName N  S = some (r, S2)) : yK X fr lo 228 [.ref 209] (zD zTQ (zaQ a p) S D0) 0 0 (zQi zTQ (zaQ a p) D0 r S2) := by
  unfold rQ_isName at h
  refine yK.of rfl (yle rfl) (L := [_, _]) rfl ?_
  refine xt_pure rfl rfl rfl rfl ?_
  refine zt_gI 2 rfl rfl rfl rfl (x := (zI S 2)) rfl ?_
  refine xt_pure rfl rfl rfl (st1 := .int 1 :: _) rfl ?_
  refine xt_ic rfl rfl (fun hb => ?_) (fun hb => ?_)
  · replace h := zif_t (p := (zI S 2) = (1 : Int32)) hb h
    refine xt_pure rfl rfl rfl (st1 := .int 0 :: _) rfl ?_
    refine xt_pure rfl rfl rfl (L1 := [_, _]) rfl ?_
    exact trQ_isName_8 hG0 hG hf hl h
  · replace h := zif_f (p := (zI S 2) = (1 : Int32)) hb h
    refine xt_pure rfl rfl rfl (st1 := .int 0 :: _) rfl ?_
    cases h
    exact xt_iret rfl rfl rfl rfl ⟨rfl, rfl⟩
def rQ_isSign  (N : Nat) (v1 : Int32) (S : zS) : Option (Int32 × zS) := (if (zI S 2) ≠ (3 : Int32) then some (0, S) else (zg (gI (zA S 1) (zI S 3)) fun x1 => (if x1 ≠ v1 then some (0, S) else some (1, S))))
theorem trQ_isSign {X : List Int32} {D0 : List xE} {a : Nat} {p : Nat → Nat} (hG0 : ((209, .inl (14, 9, .ref a)) : xE) ∈ D0) (hG : ∀ e ∈ zgQ a p, e ∈ D0)  {N fr lo : Nat} (hf : 0 ≤ fr) (hl : 0 ≤ lo) {v1 : Int32} {S S2 : zS} {r : Int32}  (h : rQ_isSign N v1 S = some (r, S2)) : yK X fr lo 220 [.ref 209, .int v1] (zD zTQ (zaQ a p) S D0) 0 0 (zQi zTQ (zaQ a p) D0 r S2) := by
  unfold rQ_isSign at h
  refine yK.of rfl (yle rfl) (L := [_, _]) rfl ?_
  refine xt_pure rfl rfl rfl rfl ?_
  refine zt_gI 2 rfl rfl rfl rfl (x := (zI S 2)) rfl ?_
  refine xt_pure rfl rfl rfl (st1 := .int 3 :: _) rfl ?_
  refine xt_ic rfl rfl (fun hb => ?_) (fun hb => ?_)
  · replace h := zif_t (p := (zI S 2) ≠ (3 : Int32)) hb h
    refine xt_pure rfl rfl rfl (st1 := .int 0 :: _) rfl ?_
    cases h
    exact xt_iret rfl rfl rfl rfl ⟨rfl, rfl⟩
  · replace h := zif_f (p := (zI S 2) ≠ (3 : Int32)) hb h
    refine xt_pure rfl rfl rfl rfl ?_
    refine xt_getf rfl rfl (xmC 176 rfl) ?_
    refine xt_pure rfl rfl rfl rfl ?_
    refine zt_gI 3 rfl rfl rfl rfl (x := (zI S 3)) rfl ?_
    obtain ⟨x1, hx1, h⟩ := zgi h
    refine zr_bld (l := (zA S 1)) rfl rfl (by decide) (zmA 1 rfl rfl (l := (zA S 1)) rfl) hx1 ?_
    refine xt_pure rfl rfl rfl rfl ?_
    refine xt_ic rfl rfl (fun hb => ?_) (fun hb => ?_)
    · replace h := zif_t (p := x1 ≠ v1) hb h
      refine xt_pure rfl rfl rfl (st1 := .int 0 :: _) rfl ?_
      cases h
      exact xt_iret rfl rfl rfl rfl ⟨rfl, rfl⟩
    · replace h := zif_f (p := x1 ≠ v1) hb h
      refine xt_pure rfl rfl rfl (st1 := .int 1 :: _) rfl ?_
      refine xt_pure rfl rfl rfl rfl ?_
      cases h
      exact xt_iret rfl rfl rfl rfl ⟨rfl, rfl⟩
def rQ_sign  (N : Nat) (v1 : Int32) (S : zS) : Option (Unit × zS) := (zb (rQ_good N  S) fun x1 S2 => (if x1 = (0 : Int32) then (zb (rQ_wrong N  S2) fun _ S5 => some ((), S5)) else (zb (rQ_isSign N v1 S2) fun x7 S8 => (if x7 = (0 : Int32) then (zb (rQ_wrong N  S8) fun _ S11 => some ((), S11)) else (zb (rQ_next N  S8) fun _ S14 => some ((), S14))))))
theorem trQ_sign {X : List Int32} {D0 : List xE} {a : Nat} {p : Nat → Nat} (hG0 : ((209, .inl (14, 9, .ref a)) : xE) ∈ D0) (hG : ∀ e ∈ zgQ a p, e ∈ D0)  {N fr lo : Nat} (hf : 2 ≤ fr) (hl : 44 ≤ lo) {v1 : Int32} {S S2 : zS} {r : Unit}  (h : rQ_sign N v1 S = some (r, S2)) : yK X fr lo 219 [.ref 209, .int v1] (zD zTQ (zaQ a p) S D0) 0 0 (zQv zTQ (zaQ a p) D0 r S2) := by
  unfold rQ_sign at h
  refine yK.of rfl (yle rfl) (L := [_, _]) rfl ?_
  refine xt_pure rfl rfl rfl rfl ?_
  obtain ⟨x1, S2, hc3, h⟩ := zbi h
  refine zt_Vi rfl rfl rfl rfl (xmC 176 rfl) ⟨rfl, rfl, yle rfl, yle rfl⟩ (m := 1) rfl ⟨by omega, by omega⟩ (trQ_good hG0 hG (by omega) (by omega) hc3) (fr1 := fr - 1) (lo1 := lo - 20) ?_
  refine xt_if rfl rfl (fun hb => ?_) (fun hb => ?_)
  · replace h := zif_t (p := x1 = (0 : Int32)) hb h
    refine xt_pure rfl rfl rfl rfl ?_
    obtain ⟨_, S5, hc6, h⟩ := zbi h
    refine zt_Vv rfl rfl rfl rfl (xmC 176 rfl) ⟨rfl, rfl, yle rfl, yle rfl⟩ (m := 1) rfl ⟨by omega, by omega⟩ (trQ_wrong hG0 hG (by omega) (by omega) hc6) (fr1 := fr - 1) (lo1 := lo - 20) ?_
    cases h
    exact xt_vret rfl rfl rfl ⟨rfl, rfl⟩
  · replace h := zif_f (p := x1 = (0 : Int32)) hb h
    refine xt_pure rfl rfl rfl rfl ?_
    refine xt_pure rfl rfl rfl rfl ?_
    obtain ⟨x7, S8, hc9, h⟩ := zbi h
    refine zt_Vi rfl rfl rfl rfl (xmC 176 rfl) ⟨rfl, rfl, yle rfl, yle rfl⟩ (m := 2) rfl ⟨by omega, by omega⟩ (trQ_isSign hG0 hG (by omega) (by omega) hc9) (fr1 := fr - 1) (lo1 := lo - 21) ?_
    refine xt_if rfl rfl (fun hb => ?_) (fun hb => ?_)
    · replace h := zif_t (p := x7 = (0 : Int32)) hb h
      refine xt_pure rfl rfl rfl rfl ?_
      obtain ⟨_, S11, hc12, h⟩ := zbi h
      refine zt_Vv rfl rfl rfl rfl (xmC 176 rfl) ⟨rfl, rfl, yle rfl, yle rfl⟩ (m := 1) rfl ⟨by omega, by omega⟩ (trQ_wrong hG0 hG (by omega) (by omega) hc12) (fr1 := fr - 1) (lo1 := lo - 20) ?_
      cases h
      exact xt_vret rfl rfl rfl ⟨rfl, rfl⟩
    · replace h := zif_f (p := x7 = (0 : Int32)) hb h
      refine xt_pure rfl rfl rfl rfl ?_
      obtain ⟨_, S14, hc15, h⟩ := zbi h
      refine zt_Vv rfl rfl rfl rfl (xmC 176 rfl) ⟨rfl, rfl, yle rfl, yle rfl⟩ (m := 4) rfl ⟨by omega, by omega⟩ (trQ_next hG0 hG (by omega) (by omega) hc15) (fr1 := fr - 1) (lo1 := lo - 23) ?_
      refine xt_pure rfl rfl rfl rfl ?_
      cases h
      exact xt_vret rfl rfl rfl ⟨rfl, rfl⟩
def rQ_number  (N : Nat) (v1 : Int32) (v2 : Int32) (S : zS) : Option (Int32 × zS) := (zb (rQ_good N  S) fun x1 S2 => (if x1 = (0 : Int32) then (zb (rQ_wrong N  S2) fun _ S5 => some (v1, S5)) else (if (zI S2 2) ≠ (2 : Int32) then (zb (rQ_wrong N  S2) fun _ S8 => some (v1, S8)) else (if (zI S2 5).toInt < v1.toInt then (zb (rQ_wrong N  S2) fun _ S11 => some (v1, S11)) else (if v2.toInt < (zI S2 5).toInt then (zb (rQ_wrong N  S2) fun _ S14 => some (v1, S14)) else (zb (rQ_next N  S2) fun _ S17 => some ((zI S2 5), S17)))))))
theorem trQ_number {X : List Int32} {D0 : List xE} {a : Nat} {p : Nat → Nat} (hG0 : ((209, .inl (14, 9, .ref a)) : xE) ∈ D0) (hG : ∀ e ∈ zgQ a p, e ∈ D0)  {N fr lo : Nat} (hf : 2 ≤ fr) (hl : 44 ≤ lo) {v1 : Int32} {v2 : Int32} {S S2 : zS} {r : Int32}  (h : rQ_number N v1 v2 S = some (r, S2)) : yK X fr lo 221 [.ref 209, .int v1, .int v2] (zD zTQ (zaQ a p) S D0) 0 0 (zQi zTQ (zaQ a p) D0 r S2) := by
  unfold rQ_number at h
  refine yK.of rfl (yle rfl) (L := [_, _, _, _]) rfl ?_
  refine xt_pure rfl rfl rfl rfl ?_
  obtain ⟨x1, S2, hc3, h⟩ := zbi h
  refine zt_Vi rfl rfl rfl rfl (xmC 176 rfl) ⟨rfl, rfl, yle rfl, yle rfl⟩ (m := 1) rfl ⟨by omega, by omega⟩ (trQ_good hG0 hG (by omega) (by omega) hc3) (fr1 := fr - 1) (lo1 := lo - 20) ?_
  refine xt_if rfl rfl (fun hb => ?_) (fun hb => ?_)
  · replace h := zif_t (p := x1 = (0 : Int32)) hb h
    refine xt_pure rfl rfl rfl rfl ?_
    obtain ⟨_, S5, hc6, h⟩ := zbi h
    refine zt_Vv rfl rfl rfl rfl (xmC 176 rfl) ⟨rfl, rfl, yle rfl, yle rfl⟩ (m := 1) rfl ⟨by omega, by omega⟩ (trQ_wrong hG0 hG (by omega) (by omega) hc6) (fr1 := fr - 1) (lo1 := lo - 20) ?_
    refine xt_pure rfl rfl rfl rfl ?_
    cases h
    exact xt_iret rfl rfl rfl rfl ⟨rfl, rfl⟩
  · replace h := zif_f (p := x1 = (0 : Int32)) hb h
    refine xt_pure rfl rfl rfl rfl ?_
    refine zt_gI 2 rfl rfl rfl rfl (x := (zI S2 2)) rfl ?_
    refine xt_pure rfl rfl rfl (st1 := .int 2 :: _) rfl ?_
    refine xt_ic rfl rfl (fun hb => ?_) (fun hb => ?_)
    · replace h := zif_t (p := (zI S2 2) ≠ (2 : Int32)) hb h
      refine xt_pure rfl rfl rfl rfl ?_
      obtain ⟨_, S8, hc9, h⟩ := zbi h
      refine zt_Vv rfl rfl rfl rfl (xmC 176 rfl) ⟨rfl, rfl, yle rfl, yle rfl⟩ (m := 1) rfl ⟨by omega, by omega⟩ (trQ_wrong hG0 hG (by omega) (by omega) hc9) (fr1 := fr - 1) (lo1 := lo - 20) ?_
      refine xt_pure rfl rfl rfl rfl ?_
      cases h
      exact xt_iret rfl rfl rfl rfl ⟨rfl, rfl⟩
    · replace h := zif_f (p := (zI S2 2) ≠ (2 : Int32)) hb h
      refine xt_pure rfl rfl rfl rfl ?_
      refine zt_gI 5 rfl rfl rfl rfl (x := (zI S2 5)) rfl ?_
      refine xt_pure rfl rfl rfl rfl ?_
      refine xt_ic rfl rfl (fun hb => ?_) (fun hb => ?_)
      · replace h := zif_t (p := (zI S2 5).toInt < v1.toInt) hb h
        refine xt_pure rfl rfl rfl rfl ?_
        obtain ⟨_, S11, hc12, h⟩ := zbi h
        refine zt_Vv rfl rfl rfl rfl (xmC 176 rfl) ⟨rfl, rfl, yle rfl, yle rfl⟩ (m := 1) rfl ⟨by omega, by omega⟩ (trQ_wrong hG0 hG (by omega) (by omega) hc12) (fr1 := fr - 1) (lo1 := lo - 20) ?_
        refine xt_pure rfl rfl rfl rfl ?_
        cases h
        exact xt_iret rfl rfl rfl rfl ⟨rfl, rfl⟩
      · replace h := zif_f (p := (zI S2 5).toInt < v1.toInt) hb h
        refine xt_pure rfl rfl rfl rfl ?_
        refine zt_gI 5 rfl rfl rfl rfl (x := (zI S2 5)) rfl ?_
        refine xt_pure rfl rfl rfl rfl ?_
        refine xt_ic rfl rfl (fun hb => ?_) (fun hb => ?_)
        · replace h := zif_t (p := v2.toInt < (zI S2 5).toInt) hb h
          refine xt_pure rfl rfl rfl rfl ?_
          obtain ⟨_, S14, hc15, h⟩ := zbi h
          refine zt_Vv rfl rfl rfl rfl (xmC 176 rfl) ⟨rfl, rfl, yle rfl, yle rfl⟩ (m := 1) rfl ⟨by omega, by omega⟩ (trQ_wrong hG0 hG (by omega) (by omega) hc15) (fr1 := fr - 1) (lo1 := lo - 20) ?_
          refine xt_pure rfl rfl rfl rfl ?_
          cases h
          exact xt_iret rfl rfl rfl rfl ⟨rfl, rfl⟩
        · replace h := zif_f (p := v2.toInt < (zI S2 5).toInt) hb h
          refine xt_pure rfl rfl rfl rfl ?_
          refine zt_gI 5 rfl rfl rfl rfl (x := (zI S2 5)) rfl ?_
          refine xt_pure rfl rfl rfl (L1 := [_, _, _, _]) rfl ?_
          refine xt_pure rfl rfl rfl rfl ?_
          obtain ⟨_, S17, hc18, h⟩ := zbi h
          refine zt_Vv rfl rfl rfl rfl (xmC 176 rfl) ⟨rfl, rfl, yle rfl, yle rfl⟩ (m := 4) rfl ⟨by omega, by omega⟩ (trQ_next hG0 hG (by omega) (by omega) hc18) (fr1 := fr - 1) (lo1 := lo - 23) ?_
          refine xt_pure rfl rfl rfl rfl ?_
          cases h
          exact xt_iret rfl rfl rfl rfl ⟨rfl, rfl⟩
def rQ_name_5  (N : Nat)  : Nat → Int64 → Int32 → zS → Option (Int64 × zS)
  | 0, _, _, _ => none
  | n + 1, l1, l3, S => (if (zI S 4).toInt ≤ l3.toInt then some (l1, S) else (zg (gI (zA S 1) l3) fun x1 => (rQ_name_5 N n) ((l1 <<< ((8 : Int32).toInt64 &&& 63)) ||| x1.toInt64) (l3 + 1) S))
theorem trQ_name_5 {X : List Int32} {D0 : List xE} {a : Nat} {p : Nat → Nat} (hG0 : ((209, .inl (14, 9, .ref a)) : xE) ∈ D0) (hG : ∀ e ∈ zgQ a p, e ∈ D0)  {N fr lo : Nat}   (hf : 0 ≤ fr) (hl : 0 ≤ lo)  : ∀ {n : Nat} {l1 : Int64} {l3 : Int32}  {S S2 : zS} {r : Int64} , rQ_name_5 N n l1 l3 S = some (r, S2) → yT X fr lo 229 5 [some (.ref 209), some (.long l1), none, some (.int l3)] [] (zD zTQ (zaQ a p) S D0) 0 0 (zQl zTQ (zaQ a p) D0 r S2) := by
  intro n
  induction n with
  | zero =>
    intro l1 l3  S S2 r  h
    have h : (none : Option (Int64 × zS)) = some (r, S2) := h
    cases h
  | succ n ih =>
    intro l1 l3  S S2 r  h
    rw [rQ_name_5] at h
    refine xt_pure rfl rfl rfl rfl ?_
    refine xt_pure rfl rfl rfl rfl ?_
    refine zt_gI 4 rfl rfl rfl rfl (x := (zI S 4)) rfl ?_
    refine xt_ic rfl rfl (fun hb => ?_) (fun hb => ?_)
    · replace h := zif_t (p := (zI S 4).toInt ≤ l3.toInt) hb h
      refine xt_pure rfl rfl rfl rfl ?_
      cases h
      exact xt_lret rfl rfl rfl ⟨rfl, rfl⟩
    · replace h := zif_f (p := (zI S 4).toInt ≤ l3.toInt) hb h
      refine xt_pure rfl rfl rfl rfl ?_
      refine xt_pure rfl rfl rfl (st1 := .int 8 :: _) rfl ?_
      refine xt_pure rfl rfl rfl rfl ?_
      refine xt_pure rfl rfl rfl rfl ?_
      refine xt_getf rfl rfl (xmC 176 rfl) ?_
      refine xt_pure rfl rfl rfl rfl ?_
      obtain ⟨x1, hx1, h⟩ := zgi h
      refine zr_bld (l := (zA S 1)) rfl rfl (by decide) (zmA 1 rfl rfl (l := (zA S 1)) rfl) hx1 ?_
      refine xt_pure rfl rfl rfl rfl ?_
      refine xt_pure rfl rfl rfl rfl ?_
      refine xt_pure rfl rfl rfl (L1 := [_, _, _, _]) rfl ?_
      refine xt_pure rfl rfl rfl (L1 := [_, _, _, some (.int (_ + 1))]) rfl ?_
      refine xt_pure rfl rfl rfl rfl ?_
      exact ih h
def rQ_name  (N : Nat)  (S : zS) : Option (Int64 × zS) := rQ_name_5 N N 0 (zI S 3) S
theorem trQ_name {X : List Int32} {D0 : List xE} {a : Nat} {p : Nat → Nat} (hG0 : ((209, .inl (14, 9, .ref a)) : xE) ∈ D0) (hG : ∀ e ∈ zgQ a p, e ∈ D0)  {N fr lo : Nat} (hf : 0 ≤ fr) (hl : 0 ≤ lo)  {S S2 : zS} {r : Int64}  (h : rQ_name N  S = some (r, S2)) : yK X fr lo 229 [.ref 209] (zD zTQ (zaQ a p) S D0) 0 0 (zQl zTQ (zaQ a p) D0 r S2) := by
  unfold rQ_name at h
  refine yK.of rfl (yle rfl) (L := [_, _, _, _]) rfl ?_
  refine xt_pure rfl rfl rfl (st1 := .long 0 :: _) rfl ?_
  refine xt_pure rfl rfl rfl (L1 := [_, _, _, _]) rfl ?_
  refine xt_pure rfl rfl rfl rfl ?_
  refine zt_gI 3 rfl rfl rfl rfl (x := (zI S 3)) rfl ?_
  refine xt_pure rfl rfl rfl (L1 := [_, _, _, _]) rfl ?_
  exact trQ_name_5 hG0 hG hf hl h
def rQ_partOf_2  (N : Nat)  : Nat → Int64 → Int32 → zS → Option (Int32 × zS)
  | 0, _, _, _ => none
  | n + 1, l1, l3, S => (if (zI S 14).toInt ≤ l3.toInt then some ((-9), S) else (zg (gI (zB S 15) l3) fun x1 => (if x1 ≠ l1 then (rQ_partOf_2 N n) l1 (l3 + 1) S else some (l3, S))))
theorem trQ_partOf_2 {X : List Int32} {D0 : List xE} {a : Nat} {p : Nat → Nat} (hG0 : ((209, .inl (14, 9, .ref a)) : xE) ∈ D0) (hG : ∀ e ∈ zgQ a p, e ∈ D0)  {N fr lo : Nat}   (hf : 0 ≤ fr) (hl : 0 ≤ lo)  : ∀ {n : Nat} {l1 : Int64} {l3 : Int32}  {S S2 : zS} {r : Int32} , rQ_partOf_2 N n l1 l3 S = some (r, S2) → yT X fr lo 230 2 [some (.ref 209), some (.long l1), none, some (.int l3)] [] (zD zTQ (zaQ a p) S D0) 0 0 (zQi zTQ (zaQ a p) D0 r S2) := by
  intro n
  induction n with
  | zero =>
    intro l1 l3  S S2 r  h
    have h : (none : Option (Int32 × zS)) = some (r, S2) := h
    cases h
  | succ n ih =>
    intro l1 l3  S S2 r  h
    rw [rQ_partOf_2] at h
    refine xt_pure rfl rfl rfl rfl ?_
    refine xt_pure rfl rfl rfl rfl ?_
    refine xt_getf rfl rfl (zmr hG0) ?_
    refine zt_gI 14 rfl rfl rfl rfl (x := (zI S 14)) rfl ?_
    refine xt_ic rfl rfl (fun hb => ?_) (fun hb => ?_)
    · replace h := zif_t (p := (zI S 14).toInt ≤ l3.toInt) hb h
      refine xt_pure rfl rfl rfl (st1 := .int (-9) :: _) rfl ?_
      cases h
      exact xt_iret rfl rfl rfl rfl ⟨rfl, rfl⟩
    · replace h := zif_f (p := (zI S 14).toInt ≤ l3.toInt) hb h
      refine xt_pure rfl rfl rfl rfl ?_
      refine xt_getf rfl rfl (zmr hG0) ?_
      refine xt_getf rfl rfl (zmr (ymm hG 0 rfl)) ?_
      refine xt_pure rfl rfl rfl rfl ?_
      obtain ⟨x1, hx1, h⟩ := zgi h
      refine zr_lld (l := (zB S 15)) rfl rfl (zmB 15 rfl rfl (l := (zB S 15)) rfl) hx1 ?_
      refine xt_pure rfl rfl rfl rfl ?_
      refine zt_lc rfl rfl rfl (fun hb => ?_) (fun hb => ?_)
      · replace h := zif_t (p := x1 ≠ l1) hb h
        refine xt_pure rfl rfl rfl (L1 := [_, _, _, some (.int (_ + 1))]) rfl ?_
        refine xt_pure rfl rfl rfl rfl ?_
        exact ih h
      · replace h := zif_f (p := x1 ≠ l1) hb h
        refine xt_pure rfl rfl rfl rfl ?_
        cases h
        exact xt_iret rfl rfl rfl rfl ⟨rfl, rfl⟩
def rQ_partOf  (N : Nat) (v1 : Int64) (S : zS) : Option (Int32 × zS) := rQ_partOf_2 N N v1 0 S
theorem trQ_partOf {X : List Int32} {D0 : List xE} {a : Nat} {p : Nat → Nat} (hG0 : ((209, .inl (14, 9, .ref a)) : xE) ∈ D0) (hG : ∀ e ∈ zgQ a p, e ∈ D0)  {N fr lo : Nat} (hf : 0 ≤ fr) (hl : 0 ≤ lo) {v1 : Int64} {S S2 : zS} {r : Int32}  (h : rQ_partOf N v1 S = some (r, S2)) : yK X fr lo 230 [.ref 209, .long v1] (zD zTQ (zaQ a p) S D0) 0 0 (zQi zTQ (zaQ a p) D0 r S2) := by
  unfold rQ_partOf at h
  refine yK.of rfl (yle rfl) (L := [_, _, _, _]) rfl ?_
  refine xt_pure rfl rfl rfl (st1 := .int 0 :: _) rfl ?_
  refine xt_pure rfl rfl rfl (L1 := [_, _, _, _]) rfl ?_
  exact trQ_partOf_2 hG0 hG hf hl h
def rQ_figureOf_2  (N : Nat)  : Nat → Int64 → Int32 → zS → Option (Int32 × zS)
  | 0, _, _, _ => none
  | n + 1, l1, l3, S => (if (zI S 23).toInt ≤ l3.toInt then some ((-9), S) else (zg (gI (zB S 24) l3) fun x1 => (if x1 ≠ l1 then (rQ_figureOf_2 N n) l1 (l3 + 1) S else some (l3, S))))
theorem trQ_figureOf_2 {X : List Int32} {D0 : List xE} {a : Nat} {p : Nat → Nat} (hG0 : ((209, .inl (14, 9, .ref a)) : xE) ∈ D0) (hG : ∀ e ∈ zgQ a p, e ∈ D0)  {N fr lo : Nat}   (hf : 0 ≤ fr) (hl : 0 ≤ lo)  : ∀ {n : Nat} {l1 : Int64} {l3 : Int32}  {S S2 : zS} {r : Int32} , rQ_figureOf_2 N n l1 l3 S = some (r, S2) → yT X fr lo 231 2 [some (.ref 209), some (.long l1), none, some (.int l3)] [] (zD zTQ (zaQ a p) S D0) 0 0 (zQi zTQ (zaQ a p) D0 r S2) := by
  intro n
  induction n with
  | zero =>
    intro l1 l3  S S2 r  h
    have h : (none : Option (Int32 × zS)) = some (r, S2) := h
    cases h
  | succ n ih =>
    intro l1 l3  S S2 r  h
    rw [rQ_figureOf_2] at h
    refine xt_pure rfl rfl rfl rfl ?_
    refine xt_pure rfl rfl rfl rfl ?_
    refine xt_getf rfl rfl (zmr hG0) ?_
    refine zt_gI 23 rfl rfl rfl rfl (x := (zI S 23)) rfl ?_
    refine xt_ic rfl rfl (fun hb => ?_) (fun hb => ?_)
    · replace h := zif_t (p := (zI S 23).toInt ≤ l3.toInt) hb h
      refine xt_pure rfl rfl rfl (st1 := .int (-9) :: _) rfl ?_
      cases h
      exact xt_iret rfl rfl rfl rfl ⟨rfl, rfl⟩
    · replace h := zif_f (p := (zI S 23).toInt ≤ l3.toInt) hb h
      refine xt_pure rfl rfl rfl rfl ?_
      refine xt_getf rfl rfl (zmr hG0) ?_
      refine xt_getf rfl rfl (zmr (ymm hG 8 rfl)) ?_
      refine xt_pure rfl rfl rfl rfl ?_
      obtain ⟨x1, hx1, h⟩ := zgi h
      refine zr_lld (l := (zB S 24)) rfl rfl (zmB 24 rfl rfl (l := (zB S 24)) rfl) hx1 ?_
      refine xt_pure rfl rfl rfl rfl ?_
      refine zt_lc rfl rfl rfl (fun hb => ?_) (fun hb => ?_)
      · replace h := zif_t (p := x1 ≠ l1) hb h
        refine xt_pure rfl rfl rfl (L1 := [_, _, _, some (.int (_ + 1))]) rfl ?_
        refine xt_pure rfl rfl rfl rfl ?_
        exact ih h
      · replace h := zif_f (p := x1 ≠ l1) hb h
        refine xt_pure rfl rfl rfl rfl ?_
        cases h
        exact xt_iret rfl rfl rfl rfl ⟨rfl, rfl⟩
def rQ_figureOf  (N : Nat) (v1 : Int64) (S : zS) : Option (Int32 × zS) := rQ_figureOf_2 N N v1 0 S
theorem trQ_figureOf {X : List Int32} {D0 : List xE} {a : Nat} {p : Nat → Nat} (hG0 : ((209, .inl (14, 9, .ref a)) : xE) ∈ D0) (hG : ∀ e ∈ zgQ a p, e ∈ D0)  {N fr lo : Nat} (hf : 0 ≤ fr) (hl : 0 ≤ lo) {v1 : Int64} {S S2 : zS} {r : Int32}  (h : rQ_figureOf N v1 S = some (r, S2)) : yK X fr lo 231 [.ref 209, .long v1] (zD zTQ (zaQ a p) S D0) 0 0 (zQi zTQ (zaQ a p) D0 r S2) := by
  unfold rQ_figureOf at h
  refine yK.of rfl (yle rfl) (L := [_, _, _, _]) rfl ?_
  refine xt_pure rfl rfl rfl (st1 := .int 0 :: _) rfl ?_
  refine xt_pure rfl rfl rfl (L1 := [_, _, _, _]) rfl ?_
  exact trQ_figureOf_2 hG0 hG hf hl h
def rQ_deeper  (N : Nat)  (S : zS) : Option (Unit × zS) := (zb (rQ_good N  S) fun x1 S2 => (if x1 = (0 : Int32) then some ((), (zsI S2 7 ((zI S2 7) + 1))) else (if (zI S2 7) ≠ (10 : Int32) then some ((), (zsI S2 7 ((zI S2 7) + 1))) else (zb (rQ_wrong N  S2) fun _ S5 => some ((), (zsI S5 7 ((zI S5 7) + 1)))))))
theorem trQ_deeper {X : List Int32} {D0 : List xE} {a : Nat} {p : Nat → Nat} (hG0 : ((209, .inl (14, 9, .ref a)) : xE) ∈ D0) (hG : ∀ e ∈ zgQ a p, e ∈ D0)  {N fr lo : Nat} (hf : 1 ≤ fr) (hl : 20 ≤ lo)  {S S2 : zS} {r : Unit}  (h : rQ_deeper N  S = some (r, S2)) : yK X fr lo 226 [.ref 209] (zD zTQ (zaQ a p) S D0) 0 0 (zQv zTQ (zaQ a p) D0 r S2) := by
  unfold rQ_deeper at h
  refine yK.of rfl (yle rfl) (L := [_]) rfl ?_
  refine xt_pure rfl rfl rfl rfl ?_
  obtain ⟨x1, S2, hc3, h⟩ := zbi h
  refine zt_Vi rfl rfl rfl rfl (xmC 176 rfl) ⟨rfl, rfl, yle rfl, yle rfl⟩ (m := 1) rfl ⟨by omega, by omega⟩ (trQ_good hG0 hG (by omega) (by omega) hc3) (fr1 := fr - 1) (lo1 := lo - 20) ?_
  refine xt_if rfl rfl (fun hb => ?_) (fun hb => ?_)
  · replace h := zif_t (p := x1 = (0 : Int32)) hb h
    refine xt_pure rfl rfl rfl rfl ?_
    refine xt_pure rfl rfl rfl rfl ?_
    refine zt_gI 7 rfl rfl rfl rfl (x := (zI S2 7)) rfl ?_
    refine xt_pure rfl rfl rfl (st1 := .int 1 :: _) rfl ?_
    refine xt_pure rfl rfl rfl rfl ?_
    refine zt_pI 7 rfl rfl rfl rfl rfl rfl ?_
    cases h
    exact xt_vret rfl rfl rfl ⟨rfl, rfl⟩
  · replace h := zif_f (p := x1 = (0 : Int32)) hb h
    refine xt_pure rfl rfl rfl rfl ?_
    refine zt_gI 7 rfl rfl rfl rfl (x := (zI S2 7)) rfl ?_
    refine xt_pure rfl rfl rfl (st1 := .int 10 :: _) rfl ?_
    refine xt_ic rfl rfl (fun hb => ?_) (fun hb => ?_)
    · replace h := zif_t (p := (zI S2 7) ≠ (10 : Int32)) hb h
      refine xt_pure rfl rfl rfl rfl ?_
      refine xt_pure rfl rfl rfl rfl ?_
      refine zt_gI 7 rfl rfl rfl rfl (x := (zI S2 7)) rfl ?_
      refine xt_pure rfl rfl rfl (st1 := .int 1 :: _) rfl ?_
      refine xt_pure rfl rfl rfl rfl ?_
      refine zt_pI 7 rfl rfl rfl rfl rfl rfl ?_
      cases h
      exact xt_vret rfl rfl rfl ⟨rfl, rfl⟩
    · replace h := zif_f (p := (zI S2 7) ≠ (10 : Int32)) hb h
      refine xt_pure rfl rfl rfl rfl ?_
      obtain ⟨_, S5, hc6, h⟩ := zbi h
      refine zt_Vv rfl rfl rfl rfl (xmC 176 rfl) ⟨rfl, rfl, yle rfl, yle rfl⟩ (m := 1) rfl ⟨by omega, by omega⟩ (trQ_wrong hG0 hG (by omega) (by omega) hc6) (fr1 := fr - 1) (lo1 := lo - 20) ?_
      refine xt_pure rfl rfl rfl rfl ?_
      refine xt_pure rfl rfl rfl rfl ?_
      refine zt_gI 7 rfl rfl rfl rfl (x := (zI S5 7)) rfl ?_
      refine xt_pure rfl rfl rfl (st1 := .int 1 :: _) rfl ?_
      refine xt_pure rfl rfl rfl rfl ?_
      refine zt_pI 7 rfl rfl rfl rfl rfl rfl ?_
      cases h
      exact xt_vret rfl rfl rfl ⟨rfl, rfl⟩
def rQ_kindAtHand_2  (N : Nat)  : Nat → Int32 → zS → Option (Int32 × zS)
  | 0, _, _ => none
  | n + 1, l1, S => (if 11 ≤ l1.toInt then some ((-9), S) else (zg (gI zwords (6 + l1)) fun bsq1 => (zb (rS_isWord bsq1 N S) fun x2 S3 => (if x2 = (0 : Int32) then (rQ_kindAtHand_2 N n) (l1 + 1) S3 else some (l1, S3)))))
theorem trQ_kindAtHand_2 {X : List Int32} {D0 : List xE} {a : Nat} {p : Nat → Nat} (hG0 : ((209, .inl (14, 9, .ref a)) : xE) ∈ D0) (hG : ∀ e ∈ zgQ a p, e ∈ D0)  {N fr lo : Nat}   (hf : 5 ≤ fr) (hl : 164 ≤ lo)  : ∀ {n : Nat} {l1 : Int32}  {S S2 : zS} {r : Int32} , rQ_kindAtHand_2 N n l1 S = some (r, S2) → yT X fr lo 224 2 [some (.ref 209), some (.int l1)] [] (zD zTQ (zaQ a p) S D0) 0 0 (zQi zTQ (zaQ a p) D0 r S2) := by
  intro n
  induction n with
  | zero =>
    intro l1  S S2 r  h
    have h : (none : Option (Int32 × zS)) = some (r, S2) := h
    cases h
  | succ n ih =>
    intro l1  S S2 r  h
    rw [rQ_kindAtHand_2] at h
    refine xt_pure rfl rfl rfl rfl ?_
    refine xt_pure rfl rfl rfl (st1 := .int 11 :: _) rfl ?_
    refine xt_ic rfl rfl (fun hb => ?_) (fun hb => ?_)
    · replace h := zif_t (p := 11 ≤ l1.toInt) hb h
      refine xt_pure rfl rfl rfl (st1 := .int (-9) :: _) rfl ?_
      cases h
      exact xt_iret rfl rfl rfl rfl ⟨rfl, rfl⟩
    · replace h := zif_f (p := 11 ≤ l1.toInt) hb h
      refine xt_pure rfl rfl rfl rfl ?_
      refine xt_pure rfl rfl rfl rfl ?_
      refine xt_getf rfl rfl (xmC 178 rfl) ?_
      refine xt_pure rfl rfl rfl (st1 := .int 6 :: _) rfl ?_
      refine xt_pure rfl rfl rfl rfl ?_
      refine xt_pure rfl rfl rfl rfl ?_
      obtain ⟨bsq1, hbsq1, h⟩ := zgi h
      obtain ⟨skq1, saq1, hsq1, hsq1a, hsq1b, hsq1c⟩ := zwd (X := X) hbsq1
      refine zr_ald (l := zw229) rfl rfl ⟨by decide, rfl⟩ (xmC 216 rfl) hsq1 ?_
      obtain ⟨x2, S3, hc4, h⟩ := zbi h
      refine zt_Vi rfl rfl rfl rfl (xmC 176 rfl) ⟨rfl, rfl, yle rfl, yle rfl⟩ (m := 3) rfl ⟨by omega, by omega⟩ (trS_isWord hG0 hG hsq1a hsq1b hsq1c (by omega) (by omega) hc4) (fr1 := fr - 1) (lo1 := lo - 22) ?_
      refine xt_if rfl rfl (fun hb => ?_) (fun hb => ?_)
      · replace h := zif_t (p := x2 = (0 : Int32)) hb h
        refine xt_pure rfl rfl rfl (L1 := [_, some (.int (_ + 1))]) rfl ?_
        refine xt_pure rfl rfl rfl rfl ?_
        exact ih h
      · replace h := zif_f (p := x2 = (0 : Int32)) hb h
        refine xt_pure rfl rfl rfl rfl ?_
        cases h
        exact xt_iret rfl rfl rfl rfl ⟨rfl, rfl⟩
def rQ_kindAtHand  (N : Nat)  (S : zS) : Option (Int32 × zS) := rQ_kindAtHand_2 N N 0 S
theorem trQ_kindAtHand {X : List Int32} {D0 : List xE} {a : Nat} {p : Nat → Nat} (hG0 : ((209, .inl (14, 9, .ref a)) : xE) ∈ D0) (hG : ∀ e ∈ zgQ a p, e ∈ D0)  {N fr lo : Nat} (hf : 5 ≤ fr) (hl : 164 ≤ lo)  {S S2 : zS} {r : Int32}  (h : rQ_kindAtHand N  S = some (r, S2)) : yK X fr lo 224 [.ref 209] (zD zTQ (zaQ a p) S D0) 0 0 (zQi zTQ (zaQ a p) D0 r S2) := by
  unfold rQ_kindAtHand at h
  refine yK.of rfl (yle rfl) (L := [_, _]) rfl ?_
  refine xt_pure rfl rfl rfl (st1 := .int 0 :: _) rfl ?_
  refine xt_pure rfl rfl rfl (L1 := [_, _]) rfl ?_
  exact trQ_kindAtHand_2 hG0 hG hf hl h
def rQ_isKind  (N : Nat)  (S : zS) : Option (Int32 × zS) := (zb (rQ_kindAtHand N  S) fun x1 S2 => (if x1 = ((-9) : Int32) then some (0, S2) else some (1, S2)))
theorem trQ_isKind {X : List Int32} {D0 : List xE} {a : Nat} {p : Nat → Nat} (hG0 : ((209, .inl (14, 9, .ref a)) : xE) ∈ D0) (hG : ∀ e ∈ zgQ a p, e ∈ D0)  {N fr lo : Nat} (hf : 6 ≤ fr) (hl : 185 ≤ lo)  {S S2 : zS} {r : Int32}  (h : rQ_isKind N  S = some (r, S2)) : yK X fr lo 223 [.ref 209] (zD zTQ (zaQ a p) S D0) 0 0 (zQi zTQ (zaQ a p) D0 r S2) := by
  unfold rQ_isKind at h
  refine yK.of rfl (yle rfl) (L := [_]) rfl ?_
  refine xt_pure rfl rfl rfl rfl ?_
  obtain ⟨x1, S2, hc3, h⟩ := zbi h
  refine zt_Vi rfl rfl rfl rfl (xmC 176 rfl) ⟨rfl, rfl, yle rfl, yle rfl⟩ (m := 2) rfl ⟨by omega, by omega⟩ (trQ_kindAtHand hG0 hG (by omega) (by omega) hc3) (fr1 := fr - 1) (lo1 := lo - 21) ?_
  refine xt_pure rfl rfl rfl (st1 := .int (-9) :: _) rfl ?_
  refine xt_ic rfl rfl (fun hb => ?_) (fun hb => ?_)
  · replace h := zif_t (p := x1 = ((-9) : Int32)) hb h
    refine xt_pure rfl rfl rfl (st1 := .int 0 :: _) rfl ?_
    cases h
    exact xt_iret rfl rfl rfl rfl ⟨rfl, rfl⟩
  · replace h := zif_f (p := x1 = ((-9) : Int32)) hb h
    refine xt_pure rfl rfl rfl (st1 := .int 1 :: _) rfl ?_
    refine xt_pure rfl rfl rfl rfl ?_
    cases h
    exact xt_iret rfl rfl rfl rfl ⟨rfl, rfl⟩
def rQ_freshPart  (N : Nat)  (S : zS) : Option (Int32 × zS) := (zb (rQ_good N  S) fun x1 S2 => (if x1 = (0 : Int32) then (zb (rQ_wrong N  S2) fun _ S5 => some (0, S5)) else (zb (rQ_isName N  S2) fun x7 S8 => (if x7 = (0 : Int32) then (zb (rQ_wrong N  S8) fun _ S11 => some (0, S11)) else (if (zI S8 14) = (20 : Int32) then (zb (rQ_wrong N  S8) fun _ S14 => some (0, S14)) else (zb (rQ_name N  S8) fun x16 S17 => (zb (rQ_partOf N x16 S17) fun x19 S20 => (if x19 ≠ ((-9) : Int32) then (zb (rQ_wrong N  S20) fun _ S23 => some (0, S23)) else (zb (rQ_name N  S20) fun x25 S26 => (zb (rQ_figureOf N x25 S26) fun x28 S29 => (if x28 = ((-9) : Int32) then (zb (rQ_name N  (zsI S29 14 ((zI S29 14) + 1))) fun x31 S32 => (if zok (zB S32 15) (zI S29 14) then (if zok (zA S32 22) (zI S29 14) then (if zok (zA S32 19) (zI S29 14) then (if zok (zA S32 20) (zI S29 14) then (if zok (zA S32 21) (zI S29 14) then (zb (rQ_next N  (zsA (zsA (zsA (zsA (zsB S32 15 (zs (zB S32 15) (zI S29 14) x31)) 22 (zs (zA S32 22) (zI S29 14) (-9))) 19 (zs (zA S32 19) (zI S29 14) 0)) 20 (zs (zA S32 20) (zI S29 14) 0)) 21 (zs (zA S32 21) (zI S29 14) 0))) fun _ S35 => some ((zI S29 14), S35)) else none) else none) else none) else none) else none)) else (zb (rQ_wrong N  S29) fun _ S38 => some (0, S38)))))))))))))
theorem trQ_freshPart {X : List Int32} {D0 : List xE} {a : Nat} {p : Nat → Nat} (hG0 : ((209, .inl (14, 9, .ref a)) : xE) ∈ D0) (hG : ∀ e ∈ zgQ a p, e ∈ D0)  {N fr lo : Nat} (hf : 6 ≤ fr) (hl : 185 ≤ lo)  {S S2 : zS} {r : Int32}  (h : rQ_freshPart N  S = some (r, S2)) : yK X fr lo 227 [.ref 209] (zD zTQ (zaQ a p) S D0) 0 0 (zQi zTQ (zaQ a p) D0 r S2) := by
  unfold rQ_freshPart at h
  refine yK.of rfl (yle rfl) (L := [_, _]) rfl ?_
  refine xt_pure rfl rfl rfl rfl ?_
  obtain ⟨x1, S2, hc3, h⟩ := zbi h
  refine zt_Vi rfl rfl rfl rfl (xmC 176 rfl) ⟨rfl, rfl, yle rfl, yle rfl⟩ (m := 1) rfl ⟨by omega, by omega⟩ (trQ_good hG0 hG (by omega) (by omega) hc3) (fr1 := fr - 1) (lo1 := lo - 20) ?_
  refine xt_if rfl rfl (fun hb => ?_) (fun hb => ?_)
  · replace h := zif_t (p := x1 = (0 : Int32)) hb h
    refine xt_pure rfl rfl rfl rfl ?_
    obtain ⟨_, S5, hc6, h⟩ := zbi h
    refine zt_Vv rfl rfl rfl rfl (xmC 176 rfl) ⟨rfl, rfl, yle rfl, yle rfl⟩ (m := 1) rfl ⟨by omega, by omega⟩ (trQ_wrong hG0 hG (by omega) (by omega) hc6) (fr1 := fr - 1) (lo1 := lo - 20) ?_
    refine xt_pure rfl rfl rfl (st1 := .int 0 :: _) rfl ?_
    cases h
    exact xt_iret rfl rfl rfl rfl ⟨rfl, rfl⟩
  · replace h := zif_f (p := x1 = (0 : Int32)) hb h
    refine xt_pure rfl rfl rfl rfl ?_
    obtain ⟨x7, S8, hc9, h⟩ := zbi h
    refine zt_Vi rfl rfl rfl rfl (xmC 176 rfl) ⟨rfl, rfl, yle rfl, yle rfl⟩ (m := 2) rfl ⟨by omega, by omega⟩ (trQ_isName hG0 hG (by omega) (by omega) hc9) (fr1 := fr - 1) (lo1 := lo - 21) ?_
    refine xt_if rfl rfl (fun hb => ?_) (fun hb => ?_)
    · replace h := zif_t (p := x7 = (0 : Int32)) hb h
      refine xt_pure rfl rfl rfl rfl ?_
      obtain ⟨_, S11, hc12, h⟩ := zbi h
      refine zt_Vv rfl rfl rfl rfl (xmC 176 rfl) ⟨rfl, rfl, yle rfl, yle rfl⟩ (m := 1) rfl ⟨by omega, by omega⟩ (trQ_wrong hG0 hG (by omega) (by omega) hc12) (fr1 := fr - 1) (lo1 := lo - 20) ?_
      refine xt_pure rfl rfl rfl (st1 := .int 0 :: _) rfl ?_
      cases h
      exact xt_iret rfl rfl rfl rfl ⟨rfl, rfl⟩
    · replace h := zif_f (p := x7 = (0 : Int32)) hb h
      refine xt_pure rfl rfl rfl rfl ?_
      refine xt_getf rfl rfl (zmr hG0) ?_
      refine zt_gI 14 rfl rfl rfl rfl (x := (zI S8 14)) rfl ?_
      refine xt_pure rfl rfl rfl (st1 := .int 20 :: _) rfl ?_
      refine xt_ic rfl rfl (fun hb => ?_) (fun hb => ?_)
      · replace h := zif_t (p := (zI S8 14) = (20 : Int32)) hb h
        refine xt_pure rfl rfl rfl rfl ?_
        obtain ⟨_, S14, hc15, h⟩ := zbi h
        refine zt_Vv rfl rfl rfl rfl (xmC 176 rfl) ⟨rfl, rfl, yle rfl, yle rfl⟩ (m := 1) rfl ⟨by omega, by omega⟩ (trQ_wrong hG0 hG (by omega) (by omega) hc15) (fr1 := fr - 1) (lo1 := lo - 20) ?_
        refine xt_pure rfl rfl rfl (st1 := .int 0 :: _) rfl ?_
        cases h
        exact xt_iret rfl rfl rfl rfl ⟨rfl, rfl⟩
      · replace h := zif_f (p := (zI S8 14) = (20 : Int32)) hb h
        refine xt_pure rfl rfl rfl rfl ?_
        refine xt_pure rfl rfl rfl rfl ?_
        obtain ⟨x16, S17, hc18, h⟩ := zbi h
        refine zt_Vl rfl rfl rfl rfl (xmC 176 rfl) ⟨rfl, rfl, yle rfl, yle rfl⟩ (m := 4) rfl ⟨by omega, by omega⟩ (trQ_name hG0 hG (by omega) (by omega) hc18) (fr1 := fr - 1) (lo1 := lo - 23) ?_
        obtain ⟨x19, S20, hc21, h⟩ := zbi h
        refine zt_Vi rfl rfl rfl rfl (xmC 176 rfl) ⟨rfl, rfl, yle rfl, yle rfl⟩ (m := 4) rfl ⟨by omega, by omega⟩ (trQ_partOf hG0 hG (by omega) (by omega) hc21) (fr1 := fr - 1) (lo1 := lo - 23) ?_
        refine xt_pure rfl rfl rfl (st1 := .int (-9) :: _) rfl ?_
        refine xt_ic rfl rfl (fun hb => ?_) (fun hb => ?_)
        · replace h := zif_t (p := x19 ≠ ((-9) : Int32)) hb h
          refine xt_pure rfl rfl rfl rfl ?_
          obtain ⟨_, S23, hc24, h⟩ := zbi h
          refine zt_Vv rfl rfl rfl rfl (xmC 176 rfl) ⟨rfl, rfl, yle rfl, yle rfl⟩ (m := 1) rfl ⟨by omega, by omega⟩ (trQ_wrong hG0 hG (by omega) (by omega) hc24) (fr1 := fr - 1) (lo1 := lo - 20) ?_
          refine xt_pure rfl rfl rfl (st1 := .int 0 :: _) rfl ?_
          cases h
          exact xt_iret rfl rfl rfl rfl ⟨rfl, rfl⟩
        · replace h := zif_f (p := x19 ≠ ((-9) : Int32)) hb h
          refine xt_pure rfl rfl rfl rfl ?_
          refine xt_pure rfl rfl rfl rfl ?_
          obtain ⟨x25, S26, hc27, h⟩ := zbi h
          refine zt_Vl rfl rfl rfl rfl (xmC 176 rfl) ⟨rfl, rfl, yle rfl, yle rfl⟩ (m := 4) rfl ⟨by omega, by omega⟩ (trQ_name hG0 hG (by omega) (by omega) hc27) (fr1 := fr - 1) (lo1 := lo - 23) ?_
          obtain ⟨x28, S29, hc30, h⟩ := zbi h
          refine zt_Vi rfl rfl rfl rfl (xmC 176 rfl) ⟨rfl, rfl, yle rfl, yle rfl⟩ (m := 4) rfl ⟨by omega, by omega⟩ (trQ_figureOf hG0 hG (by omega) (by omega) hc30) (fr1 := fr - 1) (lo1 := lo - 23) ?_
          refine xt_pure rfl rfl rfl (st1 := .int (-9) :: _) rfl ?_
          refine xt_ic rfl rfl (fun hb => ?_) (fun hb => ?_)
          · replace h := zif_t (p := x28 = ((-9) : Int32)) hb h
            refine xt_pure rfl rfl rfl rfl ?_
            refine xt_getf rfl rfl (zmr hG0) ?_
            refine zt_gI 14 rfl rfl rfl rfl (x := (zI S29 14)) rfl ?_
            refine xt_pure rfl rfl rfl (L1 := [_, _]) rfl ?_
            refine xt_pure rfl rfl rfl rfl ?_
            refine xt_getf rfl rfl (zmr hG0) ?_
            refine xt_pure rfl rfl rfl rfl ?_
            refine zt_gI 14 rfl rfl rfl rfl (x := (zI S29 14)) rfl ?_
            refine xt_pure rfl rfl rfl (st1 := .int 1 :: _) rfl ?_
            refine xt_pure rfl rfl rfl rfl ?_
            refine zt_pI 14 rfl rfl rfl rfl rfl rfl ?_
            refine xt_pure rfl rfl rfl rfl ?_
            refine xt_getf rfl rfl (zmr hG0) ?_
            refine xt_getf rfl rfl (zmr (ymm hG 0 rfl)) ?_
            refine xt_pure rfl rfl rfl rfl ?_
            refine xt_pure rfl rfl rfl rfl ?_
            obtain ⟨x31, S32, hc33, h⟩ := zbi h
            refine zt_Vl rfl rfl rfl rfl (xmC 176 rfl) ⟨rfl, rfl, yle rfl, yle rfl⟩ (m := 4) rfl ⟨by omega, by omega⟩ (trQ_name hG0 hG (by omega) (by omega) hc33) (fr1 := fr - 1) (lo1 := lo - 23) ?_
            obtain ⟨hg, h⟩ := zgd h
            refine zt_lst 15 rfl rfl rfl rfl (l := (zB S32 15)) rfl hg ?_
            refine xt_pure rfl rfl rfl rfl ?_
            refine xt_getf rfl rfl (zmr hG0) ?_
            refine xt_getf rfl rfl (zmr (ymm hG 7 rfl)) ?_
            refine xt_pure rfl rfl rfl rfl ?_
            refine xt_pure rfl rfl rfl (st1 := .int (-9) :: _) rfl ?_
            obtain ⟨hg, h⟩ := zgd h
            refine zt_ist 22 rfl rfl rfl rfl (l := (zA S32 22)) rfl hg ?_
            refine xt_pure rfl rfl rfl rfl ?_
            refine xt_getf rfl rfl (zmr hG0) ?_
            refine xt_getf rfl rfl (zmr (ymm hG 4 rfl)) ?_
            refine xt_pure rfl rfl rfl rfl ?_
            refine xt_pure rfl rfl rfl (st1 := .int 0 :: _) rfl ?_
            obtain ⟨hg, h⟩ := zgd h
            refine zt_ist 19 rfl rfl rfl rfl (l := (zA S32 19)) rfl hg ?_
            refine xt_pure rfl rfl rfl rfl ?_
            refine xt_getf rfl rfl (zmr hG0) ?_
            refine xt_getf rfl rfl (zmr (ymm hG 5 rfl)) ?_
            refine xt_pure rfl rfl rfl rfl ?_
            refine xt_pure rfl rfl rfl (st1 := .int 0 :: _) rfl ?_
            obtain ⟨hg, h⟩ := zgd h
            refine zt_ist 20 rfl rfl rfl rfl (l := (zA S32 20)) rfl hg ?_
            refine xt_pure rfl rfl rfl rfl ?_
            refine xt_getf rfl rfl (zmr hG0) ?_
            refine xt_getf rfl rfl (zmr (ymm hG 6 rfl)) ?_
            refine xt_pure rfl rfl rfl rfl ?_
            refine xt_pure rfl rfl rfl (st1 := .int 0 :: _) rfl ?_
            obtain ⟨hg, h⟩ := zgd h
            refine zt_ist 21 rfl rfl rfl rfl (l := (zA S32 21)) rfl hg ?_
            refine xt_pure rfl rfl rfl rfl ?_
            obtain ⟨_, S35, hc36, h⟩ := zbi h
            refine zt_Vv rfl rfl rfl rfl (xmC 176 rfl) ⟨rfl, rfl, yle rfl, yle rfl⟩ (m := 4) rfl ⟨by omega, by omega⟩ (trQ_next hG0 hG (by omega) (by omega) hc36) (fr1 := fr - 1) (lo1 := lo - 23) ?_
            refine xt_pure rfl rfl rfl rfl ?_
            cases h
            exact xt_iret rfl rfl rfl rfl ⟨rfl, rfl⟩
          · replace h := zif_f (p := x28 = ((-9) : Int32)) hb h
            refine xt_pure rfl rfl rfl rfl ?_
            obtain ⟨_, S38, hc39, h⟩ := zbi h
            refine zt_Vv rfl rfl rfl rfl (xmC 176 rfl) ⟨rfl, rfl, yle rfl, yle rfl⟩ (m := 1) rfl ⟨by omega, by omega⟩ (trQ_wrong hG0 hG (by omega) (by omega) hc39) (fr1 := fr - 1) (lo1 := lo - 20) ?_
            refine xt_pure rfl rfl rfl (st1 := .int 0 :: _) rfl ?_
            cases h
            exact xt_iret rfl rfl rfl rfl ⟨rfl, rfl⟩
def rQ_counts_10  (N : Nat)   (S : zS) : Option (Unit × zS) := (zb (rQ_good N  S) fun x4 S5 => (if x4 = (0 : Int32) then some ((), (zsI S5 31 ((zI S 31) + 0))) else some ((), (zsI S5 31 ((zI S 31) + 1)))))
theorem trQ_counts_10 {X : List Int32} {D0 : List xE} {a : Nat} {p : Nat → Nat} (hG0 : ((209, .inl (14, 9, .ref a)) : xE) ∈ D0) (hG : ∀ e ∈ zgQ a p, e ∈ D0)  {N fr lo : Nat}   (hf : 1 ≤ fr) (hl : 20 ≤ lo)   {S S2 : zS} {r : Unit}  (h : rQ_counts_10 N  S = some (r, S2)) : yT X fr lo 239 10 [some (.ref 209)] [] (zD zTQ (zaQ a p) S D0) 0 0 (zQv zTQ (zaQ a p) D0 r S2) := by
  unfold rQ_counts_10 at h
  refine xt_pure rfl rfl rfl rfl ?_
  refine xt_getf rfl rfl (zmr hG0) ?_
  refine xt_pure rfl rfl rfl rfl ?_
  refine zt_gI 31 rfl rfl rfl rfl (x := (zI S 31)) rfl ?_
  refine xt_pure rfl rfl rfl rfl ?_
  obtain ⟨x4, S5, hc6, h⟩ := zbi h
  refine zt_Vi rfl rfl rfl rfl (xmC 176 rfl) ⟨rfl, rfl, yle rfl, yle rfl⟩ (m := 1) rfl ⟨by omega, by omega⟩ (trQ_good hG0 hG (by omega) (by omega) hc6) (fr1 := fr - 1) (lo1 := lo - 20) ?_
  refine xt_if rfl rfl (fun hb => ?_) (fun hb => ?_)
  · replace h := zif_t (p := x4 = (0 : Int32)) hb h
    refine xt_pure rfl rfl rfl (st1 := .int 0 :: _) rfl ?_
    refine xt_pure rfl rfl rfl rfl ?_
    refine zt_pI 31 rfl rfl rfl rfl rfl rfl ?_
    cases h
    exact xt_vret rfl rfl rfl ⟨rfl, rfl⟩
  · replace h := zif_f (p := x4 = (0 : Int32)) hb h
    refine xt_pure rfl rfl rfl (st1 := .int 1 :: _) rfl ?_
    refine xt_pure rfl rfl rfl rfl ?_
    refine xt_pure rfl rfl rfl rfl ?_
    refine zt_pI 31 rfl rfl rfl rfl rfl rfl ?_
    cases h
    exact xt_vret rfl rfl rfl ⟨rfl, rfl⟩
def rQ_counts  (N : Nat)  (S : zS) : Option (Unit × zS) := (zb (rQ_good N  S) fun x1 S2 => (if x1 = (0 : Int32) then rQ_counts_10 N  S2 else (if (zI S2 31) ≠ (250 : Int32) then rQ_counts_10 N  S2 else (zb (rQ_wrong N  S2) fun _ S8 => rQ_counts_10 N  S8))))
theorem trQ_counts {X : List Int32} {D0 : List xE} {a : Nat} {p : Nat → Nat} (hG0 : ((209, .inl (14, 9, .ref a)) : xE) ∈ D0) (hG : ∀ e ∈ zgQ a p, e ∈ D0)  {N fr lo : Nat} (hf : 1 ≤ fr) (hl : 20 ≤ lo)  {S S2 : zS} {r : Unit}  (h : rQ_counts N  S = some (r, S2)) : yK X fr lo 239 [.ref 209] (zD zTQ (zaQ a p) S D0) 0 0 (zQv zTQ (zaQ a p) D0 r S2) := by
  unfold rQ_counts at h
  refine yK.of rfl (yle rfl) (L := [_]) rfl ?_
  refine xt_pure rfl rfl rfl rfl ?_
  obtain ⟨x1, S2, hc3, h⟩ := zbi h
  refine zt_Vi rfl rfl rfl rfl (xmC 176 rfl) ⟨rfl, rfl, yle rfl, yle rfl⟩ (m := 1) rfl ⟨by omega, by omega⟩ (trQ_good hG0 hG (by omega) (by omega) hc3) (fr1 := fr - 1) (lo1 := lo - 20) ?_
  refine xt_if rfl rfl (fun hb => ?_) (fun hb => ?_)
  · replace h := zif_t (p := x1 = (0 : Int32)) hb h
    exact trQ_counts_10 hG0 hG hf hl h
  · replace h := zif_f (p := x1 = (0 : Int32)) hb h
    refine xt_pure rfl rfl rfl rfl ?_
    refine xt_getf rfl rfl (zmr hG0) ?_
    refine zt_gI 31 rfl rfl rfl rfl (x := (zI S2 31)) rfl ?_
    refine xt_pure rfl rfl rfl (st1 := .int 250 :: _) rfl ?_
    refine xt_ic rfl rfl (fun hb => ?_) (fun hb => ?_)
    · replace h := zif_t (p := (zI S2 31) ≠ (250 : Int32)) hb h
      exact trQ_counts_10 hG0 hG hf hl h
    · replace h := zif_f (p := (zI S2 31) ≠ (250 : Int32)) hb h
      refine xt_pure rfl rfl rfl rfl ?_
      obtain ⟨_, S8, hc9, h⟩ := zbi h
      refine zt_Vv rfl rfl rfl rfl (xmC 176 rfl) ⟨rfl, rfl, yle rfl, yle rfl⟩ (m := 1) rfl ⟨by omega, by omega⟩ (trQ_wrong hG0 hG (by omega) (by omega) hc9) (fr1 := fr - 1) (lo1 := lo - 20) ?_
      exact trQ_counts_10 hG0 hG hf hl h
def rQ_node_16  (N : Nat)  (l1 : Int32) (l2 : Int32) (l3 : Int32) (l4 : Int32) (s1 : Int32) (s2 : Int32) (S : zS) : Option (Int32 × zS) := (if zok (zA S 33) l4 then (if zok (zA S 35) l4 then (if zok (zA S 36) l4 then (if zok (zB S 34) l4 then some (l4, (zsB (zsA (zsA (zsA (zsI S 32 (s1 + s2)) 33 (zs (zA S 33) l4 l1)) 35 (zs (zA S 35) l4 l2)) 36 (zs (zA S 36) l4 l3)) 34 (zs (zB S 34) l4 0))) else none) else none) else none) else none)
theorem trQ_node_16 {X : List Int32} {D0 : List xE} {a : Nat} {p : Nat → Nat} (hG0 : ((209, .inl (14, 9, .ref a)) : xE) ∈ D0) (hG : ∀ e ∈ zgQ a p, e ∈ D0)  {N fr lo : Nat}   (hf : 0 ≤ fr) (hl : 0 ≤ lo) {l1 : Int32} {l2 : Int32} {l3 : Int32} {l4 : Int32} {s1 : Int32} {s2 : Int32}  {S S2 : zS} {r : Int32}  (h : rQ_node_16 N l1 l2 l3 l4 s1 s2 S = some (r, S2)) : yT X fr lo 241 16 [some (.ref 209), some (.int l1), some (.int l2), some (.int l3), some (.int l4)] [.int s2, .int s1, .ref a] (zD zTQ (zaQ a p) S D0) 0 0 (zQi zTQ (zaQ a p) D0 r S2) := by
  unfold rQ_node_16 at h
  refine xt_pure rfl rfl rfl rfl ?_
  refine zt_pI 32 rfl rfl rfl rfl rfl rfl ?_
  refine xt_pure rfl rfl rfl rfl ?_
  refine xt_getf rfl rfl (zmr hG0) ?_
  refine xt_getf rfl rfl (zmr (ymm hG 12 rfl)) ?_
  refine xt_pure rfl rfl rfl rfl ?_
  refine xt_pure rfl rfl rfl rfl ?_
  obtain ⟨hg, h⟩ := zgd h
  refine zt_ist 33 rfl rfl rfl rfl (l := (zA S 33)) rfl hg ?_
  refine xt_pure rfl rfl rfl rfl ?_
  refine xt_getf rfl rfl (zmr hG0) ?_
  refine xt_getf rfl rfl (zmr (ymm hG 14 rfl)) ?_
  refine xt_pure rfl rfl rfl rfl ?_
  refine xt_pure rfl rfl rfl rfl ?_
  obtain ⟨hg, h⟩ := zgd h
  refine zt_ist 35 rfl rfl rfl rfl (l := (zA S 35)) rfl hg ?_
  refine xt_pure rfl rfl rfl rfl ?_
  refine xt_getf rfl rfl (zmr hG0) ?_
  refine xt_getf rfl rfl (zmr (ymm hG 15 rfl)) ?_
  refine xt_pure rfl rfl rfl rfl ?_
  refine xt_pure rfl rfl rfl rfl ?_
  obtain ⟨hg, h⟩ := zgd h
  refine zt_ist 36 rfl rfl rfl rfl (l := (zA S 36)) rfl hg ?_
  refine xt_pure rfl rfl rfl rfl ?_
  refine xt_getf rfl rfl (zmr hG0) ?_
  refine xt_getf rfl rfl (zmr (ymm hG 13 rfl)) ?_
  refine xt_pure rfl rfl rfl rfl ?_
  refine xt_pure rfl rfl rfl (st1 := .long 0 :: _) rfl ?_
  obtain ⟨hg, h⟩ := zgd h
  refine zt_lst 34 rfl rfl rfl rfl (l := (zB S 34)) rfl hg ?_
  refine xt_pure rfl rfl rfl rfl ?_
  cases h
  exact xt_iret rfl rfl rfl rfl ⟨rfl, rfl⟩
def rQ_node  (N : Nat) (v1 : Int32) (v2 : Int32) (v3 : Int32) (S : zS) : Option (Int32 × zS) := (if 299 ≤ (zI S 32).toInt then rQ_node_16 N v1 v2 v3 (zI S 32) (zI S 32) 0 S else rQ_node_16 N v1 v2 v3 (zI S 32) (zI S 32) 1 S)
theorem trQ_node {X : List Int32} {D0 : List xE} {a : Nat} {p : Nat → Nat} (hG0 : ((209, .inl (14, 9, .ref a)) : xE) ∈ D0) (hG : ∀ e ∈ zgQ a p, e ∈ D0)  {N fr lo : Nat} (hf : 0 ≤ fr) (hl : 0 ≤ lo) {v1 : Int32} {v2 : Int32} {v3 : Int32} {S S2 : zS} {r : Int32}  (h : rQ_node N v1 v2 v3 S = some (r, S2)) : yK X fr lo 241 [.ref 209, .int v1, .int v2, .int v3] (zD zTQ (zaQ a p) S D0) 0 0 (zQi zTQ (zaQ a p) D0 r S2) := by
  unfold rQ_node at h
  refine yK.of rfl (yle rfl) (L := [_, _, _, _, _]) rfl ?_
  refine xt_pure rfl rfl rfl rfl ?_
  refine xt_getf rfl rfl (zmr hG0) ?_
  refine zt_gI 32 rfl rfl rfl rfl (x := (zI S 32)) rfl ?_
  refine xt_pure rfl rfl rfl (L1 := [_, _, _, _, _]) rfl ?_
  refine xt_pure rfl rfl rfl rfl ?_
  refine xt_getf rfl rfl (zmr hG0) ?_
  refine xt_pure rfl rfl rfl rfl ?_
  refine zt_gI 32 rfl rfl rfl rfl (x := (zI S 32)) rfl ?_
  refine xt_pure rfl rfl rfl rfl ?_
  refine xt_getf rfl rfl (zmr hG0) ?_
  refine zt_gI 32 rfl rfl rfl rfl (x := (zI S 32)) rfl ?_
  refine xt_pure rfl rfl rfl (st1 := .int 299 :: _) rfl ?_
  refine xt_ic rfl rfl (fun hb => ?_) (fun hb => ?_)
  · replace h := zif_t (p := 299 ≤ (zI S 32).toInt) hb h
    refine xt_pure rfl rfl rfl (st1 := .int 0 :: _) rfl ?_
    exact trQ_node_16 hG0 hG hf hl h
  · replace h := zif_f (p := 299 ≤ (zI S 32).toInt) hb h
    refine xt_pure rfl rfl rfl (st1 := .int 1 :: _) rfl ?_
    refine xt_pure rfl rfl rfl rfl ?_
    exact trQ_node_16 hG0 hG hf hl h
def rQ_step  (N : Nat)  (S : zS) : Option (Unit × zS) := (zb (rQ_good N  S) fun x1 S2 => (if x1 = (0 : Int32) then some ((), S2) else (zb (rQ_next N  S2) fun _ S5 => some ((), S5))))
theorem trQ_step {X : List Int32} {D0 : List xE} {a : Nat} {p : Nat → Nat} (hG0 : ((209, .inl (14, 9, .ref a)) : xE) ∈ D0) (hG : ∀ e ∈ zgQ a p, e ∈ D0)  {N fr lo : Nat} (hf : 2 ≤ fr) (hl : 44 ≤ lo)  {S S2 : zS} {r : Unit}  (h : rQ_step N  S = some (r, S2)) : yK X fr lo 240 [.ref 209] (zD zTQ (zaQ a p) S D0) 0 0 (zQv zTQ (zaQ a p) D0 r S2) := by
  unfold rQ_step at h
  refine yK.of rfl (yle rfl) (L := [_]) rfl ?_
  refine xt_pure rfl rfl rfl rfl ?_
  obtain ⟨x1, S2, hc3, h⟩ := zbi h
  refine zt_Vi rfl rfl rfl rfl (xmC 176 rfl) ⟨rfl, rfl, yle rfl, yle rfl⟩ (m := 1) rfl ⟨by omega, by omega⟩ (trQ_good hG0 hG (by omega) (by omega) hc3) (fr1 := fr - 1) (lo1 := lo - 20) ?_
  refine xt_if rfl rfl (fun hb => ?_) (fun hb => ?_)
  · replace h := zif_t (p := x1 = (0 : Int32)) hb h
    cases h
    exact xt_vret rfl rfl rfl ⟨rfl, rfl⟩
  · replace h := zif_f (p := x1 = (0 : Int32)) hb h
    refine xt_pure rfl rfl rfl rfl ?_
    obtain ⟨_, S5, hc6, h⟩ := zbi h
    refine zt_Vv rfl rfl rfl rfl (xmC 176 rfl) ⟨rfl, rfl, yle rfl, yle rfl⟩ (m := 4) rfl ⟨by omega, by omega⟩ (trQ_next hG0 hG (by omega) (by omega) hc6) (fr1 := fr - 1) (lo1 := lo - 23) ?_
    cases h
    exact xt_vret rfl rfl rfl ⟨rfl, rfl⟩
def rQ_refer_8  (N : Nat)  (l1 : Int32) (l2 : Int32) (S : zS) : Option (Unit × zS) := (zb (rQ_counts N  S) fun _ S8 => (zb (rQ_good N  S8) fun x10 S11 => (if x10 = (0 : Int32) then some ((), S11) else (zb (rQ_name N  S11) fun x13 S14 => (if zok (zB S14 10) (zI S11 9) then (if zok (zA S14 11) (zI S14 9) then (if zok (zA S14 12) (zI S14 9) then (if l2 = (0 : Int32) then (if zok (zA S14 13) (zI S14 9) then (zb (rQ_next N  (zsI (zsA (zsA (zsA (zsB S14 10 (zs (zB S14 10) (zI S11 9) x13)) 11 (zs (zA S14 11) (zI S14 9) (zI S14 3))) 12 (zs (zA S14 12) (zI S14 9) l1)) 13 (zs (zA S14 13) (zI S14 9) 0)) 9 ((zI S14 9) + 1))) fun _ S17 => some ((), S17)) else none) else (if zok (zA S14 13) (zI S14 9) then (zb (rQ_next N  (zsI (zsA (zsA (zsA (zsB S14 10 (zs (zB S14 10) (zI S11 9) x13)) 11 (zs (zA S14 11) (zI S14 9) (zI S14 3))) 12 (zs (zA S14 12) (zI S14 9) l1)) 13 (zs (zA S14 13) (zI S14 9) (zI S14 23))) 9 ((zI S14 9) + 1))) fun _ S20 => some ((), S20)) else none)) else none) else none) else none)))))
theorem trQ_refer_8 {X : List Int32} {D0 : List xE} {a : Nat} {p : Nat → Nat} (hG0 : ((209, .inl (14, 9, .ref a)) : xE) ∈ D0) (hG : ∀ e ∈ zgQ a p, e ∈ D0)  {N fr lo : Nat}   (hf : 6 ≤ fr) (hl : 185 ≤ lo) {l1 : Int32} {l2 : Int32}  {S S2 : zS} {r : Unit}  (h : rQ_refer_8 N l1 l2 S = some (r, S2)) : yT X fr lo 244 8 [some (.ref 209), some (.int l1), some (.int l2)] [] (zD zTQ (zaQ a p) S D0) 0 0 (zQv zTQ (zaQ a p) D0 r S2) := by
  unfold rQ_refer_8 at h
  refine xt_pure rfl rfl rfl rfl ?_
  obtain ⟨_, S8, hc9, h⟩ := zbi h
  refine zt_Vv rfl rfl rfl rfl (xmC 176 rfl) ⟨rfl, rfl, yle rfl, yle rfl⟩ (m := 1) rfl ⟨by omega, by omega⟩ (trQ_counts hG0 hG (by omega) (by omega) hc9) (fr1 := fr - 1) (lo1 := lo - 20) ?_
  refine xt_pure rfl rfl rfl rfl ?_
  obtain ⟨x10, S11, hc12, h⟩ := zbi h
  refine zt_Vi rfl rfl rfl rfl (xmC 176 rfl) ⟨rfl, rfl, yle rfl, yle rfl⟩ (m := 1) rfl ⟨by omega, by omega⟩ (trQ_good hG0 hG (by omega) (by omega) hc12) (fr1 := fr - 1) (lo1 := lo - 20) ?_
  refine xt_if rfl rfl (fun hb => ?_) (fun hb => ?_)
  · replace h := zif_t (p := x10 = (0 : Int32)) hb h
    cases h
    exact xt_vret rfl rfl rfl ⟨rfl, rfl⟩
  · replace h := zif_f (p := x10 = (0 : Int32)) hb h
    refine xt_pure rfl rfl rfl rfl ?_
    refine xt_getf rfl rfl (xmC 179 rfl) ?_
    refine xt_pure rfl rfl rfl rfl ?_
    refine zt_gI 9 rfl rfl rfl rfl (x := (zI S11 9)) rfl ?_
    refine xt_pure rfl rfl rfl rfl ?_
    obtain ⟨x13, S14, hc15, h⟩ := zbi h
    refine zt_Vl rfl rfl rfl rfl (xmC 176 rfl) ⟨rfl, rfl, yle rfl, yle rfl⟩ (m := 4) rfl ⟨by omega, by omega⟩ (trQ_name hG0 hG (by omega) (by omega) hc15) (fr1 := fr - 1) (lo1 := lo - 23) ?_
    obtain ⟨hg, h⟩ := zgd h
    refine zt_lst 10 rfl rfl rfl rfl (l := (zB S14 10)) rfl hg ?_
    refine xt_pure rfl rfl rfl rfl ?_
    refine xt_getf rfl rfl (xmC 180 rfl) ?_
    refine xt_pure rfl rfl rfl rfl ?_
    refine zt_gI 9 rfl rfl rfl rfl (x := (zI S14 9)) rfl ?_
    refine xt_pure rfl rfl rfl rfl ?_
    refine zt_gI 3 rfl rfl rfl rfl (x := (zI S14 3)) rfl ?_
    obtain ⟨hg, h⟩ := zgd h
    refine zt_ist 11 rfl rfl rfl rfl (l := (zA S14 11)) rfl hg ?_
    refine xt_pure rfl rfl rfl rfl ?_
    refine xt_getf rfl rfl (xmC 181 rfl) ?_
    refine xt_pure rfl rfl rfl rfl ?_
    refine zt_gI 9 rfl rfl rfl rfl (x := (zI S14 9)) rfl ?_
    refine xt_pure rfl rfl rfl rfl ?_
    obtain ⟨hg, h⟩ := zgd h
    refine zt_ist 12 rfl rfl rfl rfl (l := (zA S14 12)) rfl hg ?_
    refine xt_pure rfl rfl rfl rfl ?_
    refine xt_getf rfl rfl (xmC 182 rfl) ?_
    refine xt_pure rfl rfl rfl rfl ?_
    refine zt_gI 9 rfl rfl rfl rfl (x := (zI S14 9)) rfl ?_
    refine xt_pure rfl rfl rfl rfl ?_
    refine xt_if rfl rfl (fun hb => ?_) (fun hb => ?_)
    · replace h := zif_t (p := l2 = (0 : Int32)) hb h
      refine xt_pure rfl rfl rfl (st1 := .int 0 :: _) rfl ?_
      obtain ⟨hg, h⟩ := zgd h
      refine zt_ist 13 rfl rfl rfl rfl (l := (zA S14 13)) rfl hg ?_
      refine xt_pure rfl rfl rfl rfl ?_
      refine xt_pure rfl rfl rfl rfl ?_
      refine zt_gI 9 rfl rfl rfl rfl (x := (zI S14 9)) rfl ?_
      refine xt_pure rfl rfl rfl (st1 := .int 1 :: _) rfl ?_
      refine xt_pure rfl rfl rfl rfl ?_
      refine zt_pI 9 rfl rfl rfl rfl rfl rfl ?_
      refine xt_pure rfl rfl rfl rfl ?_
      obtain ⟨_, S17, hc18, h⟩ := zbi h
      refine zt_Vv rfl rfl rfl rfl (xmC 176 rfl) ⟨rfl, rfl, yle rfl, yle rfl⟩ (m := 4) rfl ⟨by omega, by omega⟩ (trQ_next hG0 hG (by omega) (by omega) hc18) (fr1 := fr - 1) (lo1 := lo - 23) ?_
      cases h
      exact xt_vret rfl rfl rfl ⟨rfl, rfl⟩
    · replace h := zif_f (p := l2 = (0 : Int32)) hb h
      refine xt_pure rfl rfl rfl rfl ?_
      refine xt_getf rfl rfl (zmr hG0) ?_
      refine zt_gI 23 rfl rfl rfl rfl (x := (zI S14 23)) rfl ?_
      refine xt_pure rfl rfl rfl rfl ?_
      obtain ⟨hg, h⟩ := zgd h
      refine zt_ist 13 rfl rfl rfl rfl (l := (zA S14 13)) rfl hg ?_
      refine xt_pure rfl rfl rfl rfl ?_
      refine xt_pure rfl rfl rfl rfl ?_
      refine zt_gI 9 rfl rfl rfl rfl (x := (zI S14 9)) rfl ?_
      refine xt_pure rfl rfl rfl (st1 := .int 1 :: _) rfl ?_
      refine xt_pure rfl rfl rfl rfl ?_
      refine zt_pI 9 rfl rfl rfl rfl rfl rfl ?_
      refine xt_pure rfl rfl rfl rfl ?_
      obtain ⟨_, S20, hc21, h⟩ := zbi h
      refine zt_Vv rfl rfl rfl rfl (xmC 176 rfl) ⟨rfl, rfl, yle rfl, yle rfl⟩ (m := 4) rfl ⟨by omega, by omega⟩ (trQ_next hG0 hG (by omega) (by omega) hc21) (fr1 := fr - 1) (lo1 := lo - 23) ?_
      cases h
      exact xt_vret rfl rfl rfl ⟨rfl, rfl⟩
def rQ_refer  (N : Nat) (v1 : Int32) (v2 : Int32) (S : zS) : Option (Unit × zS) := (zb (rQ_good N  S) fun x1 S2 => (if x1 = (0 : Int32) then (zb (rQ_wrong N  S2) fun _ S5 => rQ_refer_8 N v1 v2 S5) else (zb (rQ_isName N  S2) fun x22 S23 => (if x22 ≠ (0 : Int32) then rQ_refer_8 N v1 v2 S23 else (zb (rQ_wrong N  S23) fun _ S26 => rQ_refer_8 N v1 v2 S26)))))
theorem trQ_refer {X : List Int32} {D0 : List xE} {a : Nat} {p : Nat → Nat} (hG0 : ((209, .inl (14, 9, .ref a)) : xE) ∈ D0) (hG : ∀ e ∈ zgQ a p, e ∈ D0)  {N fr lo : Nat} (hf : 6 ≤ fr) (hl : 185 ≤ lo) {v1 : Int32} {v2 : Int32} {S S2 : zS} {r : Unit}  (h : rQ_refer N v1 v2 S = some (r, S2)) : yK X fr lo 244 [.ref 209, .int v1, .int v2] (zD zTQ (zaQ a p) S D0) 0 0 (zQv zTQ (zaQ a p) D0 r S2) := by
  unfold rQ_refer at h
  refine yK.of rfl (yle rfl) (L := [_, _, _]) rfl ?_
  refine xt_pure rfl rfl rfl rfl ?_
  obtain ⟨x1, S2, hc3, h⟩ := zbi h
  refine zt_Vi rfl rfl rfl rfl (xmC 176 rfl) ⟨rfl, rfl, yle rfl, yle rfl⟩ (m := 1) rfl ⟨by omega, by omega⟩ (trQ_good hG0 hG (by omega) (by omega) hc3) (fr1 := fr - 1) (lo1 := lo - 20) ?_
  refine xt_if rfl rfl (fun hb => ?_) (fun hb => ?_)
  · replace h := zif_t (p := x1 = (0 : Int32)) hb h
    refine xt_pure rfl rfl rfl rfl ?_
    obtain ⟨_, S5, hc6, h⟩ := zbi h
    refine zt_Vv rfl rfl rfl rfl (xmC 176 rfl) ⟨rfl, rfl, yle rfl, yle rfl⟩ (m := 1) rfl ⟨by omega, by omega⟩ (trQ_wrong hG0 hG (by omega) (by omega) hc6) (fr1 := fr - 1) (lo1 := lo - 20) ?_
    exact trQ_refer_8 hG0 hG hf hl h
  · replace h := zif_f (p := x1 = (0 : Int32)) hb h
    refine xt_pure rfl rfl rfl rfl ?_
    obtain ⟨x22, S23, hc24, h⟩ := zbi h
    refine zt_Vi rfl rfl rfl rfl (xmC 176 rfl) ⟨rfl, rfl, yle rfl, yle rfl⟩ (m := 2) rfl ⟨by omega, by omega⟩ (trQ_isName hG0 hG (by omega) (by omega) hc24) (fr1 := fr - 1) (lo1 := lo - 21) ?_
    refine xt_if rfl rfl (fun hb => ?_) (fun hb => ?_)
    · replace h := zif_t (p := x22 ≠ (0 : Int32)) hb h
      exact trQ_refer_8 hG0 hG hf hl h
    · replace h := zif_f (p := x22 ≠ (0 : Int32)) hb h
      refine xt_pure rfl rfl rfl rfl ?_
      obtain ⟨_, S26, hc27, h⟩ := zbi h
      refine zt_Vv rfl rfl rfl rfl (xmC 176 rfl) ⟨rfl, rfl, yle rfl, yle rfl⟩ (m := 1) rfl ⟨by omega, by omega⟩ (trQ_wrong hG0 hG (by omega) (by omega) hc27) (fr1 := fr - 1) (lo1 := lo - 20) ?_
      exact trQ_refer_8 hG0 hG hf hl h
def rQ_sorted_14  (N : Nat)  : Nat → Int32 → Int32 → Int32 → zS → Option (Int32 × zS)
  | 0, _, _, _, _ => none
  | n + 1, l1, l2, l3, S => (if 8 ≤ l3.toInt then (if l2 ≠ ((-9) : Int32) then (if zok (zA S 36) l1 then (zb (rQ_step N  (zsA S 36 (zs (zA S 36) l1 l2))) fun _ S11 => (zb (rQ_refer N l1 0 S11) fun _ S14 => some (l1, S14))) else none) else (zb (rQ_wrong N  S) fun _ S17 => (if zok (zA S17 36) l1 then (zb (rQ_step N  (zsA S17 36 (zs (zA S17 36) l1 l2))) fun _ S20 => (zb (rQ_refer N l1 0 S20) fun _ S23 => some (l1, S23))) else none))) else (zg (gI zwords (28 + l3)) fun bsq25 => (zb (rS_isWord bsq25 N S) fun x26 S27 => (if x26 = (0 : Int32) then (rQ_sorted_14 N n) l1 l2 (l3 + 1) S27 else (rQ_sorted_14 N n) l1 l3 (l3 + 1) S27))))
theorem trQ_sorted_14 {X : List Int32} {D0 : List xE} {a : Nat} {p : Nat → Nat} (hG0 : ((209, .inl (14, 9, .ref a)) : xE) ∈ D0) (hG : ∀ e ∈ zgQ a p, e ∈ D0)  {N fr lo : Nat}   (hf : 7 ≤ fr) (hl : 207 ≤ lo)  : ∀ {n : Nat} {l1 : Int32} {l2 : Int32} {l3 : Int32}  {S S2 : zS} {r : Int32} , rQ_sorted_14 N n l1 l2 l3 S = some (r, S2) → yT X fr lo 245 14 [some (.ref 209), some (.int l1), some (.int l2), some (.int l3)] [] (zD zTQ (zaQ a p) S D0) 0 0 (zQi zTQ (zaQ a p) D0 r S2) := by
  intro n
  induction n with
  | zero =>
    intro l1 l2 l3  S S2 r  h
    have h : (none : Option (Int32 × zS)) = some (r, S2) := h
    cases h
  | succ n ih =>
    intro l1 l2 l3  S S2 r  h
    rw [rQ_sorted_14] at h
    refine xt_pure rfl rfl rfl rfl ?_
    refine xt_pure rfl rfl rfl (st1 := .int 8 :: _) rfl ?_
    refine xt_ic rfl rfl (fun hb => ?_) (fun hb => ?_)
    · replace h := zif_t (p := 8 ≤ l3.toInt) hb h
      refine xt_pure rfl rfl rfl rfl ?_
      refine xt_pure rfl rfl rfl (st1 := .int (-9) :: _) rfl ?_
      refine xt_ic rfl rfl (fun hb => ?_) (fun hb => ?_)
      · replace h := zif_t (p := l2 ≠ ((-9) : Int32)) hb h
        refine xt_pure rfl rfl rfl rfl ?_
        refine xt_getf rfl rfl (zmr hG0) ?_
        refine xt_getf rfl rfl (zmr (ymm hG 15 rfl)) ?_
        refine xt_pure rfl rfl rfl rfl ?_
        refine xt_pure rfl rfl rfl rfl ?_
        obtain ⟨hg, h⟩ := zgd h
        refine zt_ist 36 rfl rfl rfl rfl (l := (zA S 36)) rfl hg ?_
        refine xt_pure rfl rfl rfl rfl ?_
        obtain ⟨_, S11, hc12, h⟩ := zbi h
        refine zt_Vv rfl rfl rfl rfl (xmC 176 rfl) ⟨rfl, rfl, yle rfl, yle rfl⟩ (m := 1) rfl ⟨by omega, by omega⟩ (trQ_step hG0 hG (by omega) (by omega) hc12) (fr1 := fr - 1) (lo1 := lo - 20) ?_
        refine xt_pure rfl rfl rfl rfl ?_
        refine xt_pure rfl rfl rfl rfl ?_
        refine xt_pure rfl rfl rfl (st1 := .int 0 :: _) rfl ?_
        obtain ⟨_, S14, hc15, h⟩ := zbi h
        refine zt_Vv rfl rfl rfl rfl (xmC 176 rfl) ⟨rfl, rfl, yle rfl, yle rfl⟩ (m := 3) rfl ⟨by omega, by omega⟩ (trQ_refer hG0 hG (by omega) (by omega) hc15) (fr1 := fr - 1) (lo1 := lo - 22) ?_
        refine xt_pure rfl rfl rfl rfl ?_
        cases h
        exact xt_iret rfl rfl rfl rfl ⟨rfl, rfl⟩
      · replace h := zif_f (p := l2 ≠ ((-9) : Int32)) hb h
        refine xt_pure rfl rfl rfl rfl ?_
        obtain ⟨_, S17, hc18, h⟩ := zbi h
        refine zt_Vv rfl rfl rfl rfl (xmC 176 rfl) ⟨rfl, rfl, yle rfl, yle rfl⟩ (m := 1) rfl ⟨by omega, by omega⟩ (trQ_wrong hG0 hG (by omega) (by omega) hc18) (fr1 := fr - 1) (lo1 := lo - 20) ?_
        refine xt_pure rfl rfl rfl rfl ?_
        refine xt_getf rfl rfl (zmr hG0) ?_
        refine xt_getf rfl rfl (zmr (ymm hG 15 rfl)) ?_
        refine xt_pure rfl rfl rfl rfl ?_
        refine xt_pure rfl rfl rfl rfl ?_
        obtain ⟨hg, h⟩ := zgd h
        refine zt_ist 36 rfl rfl rfl rfl (l := (zA S17 36)) rfl hg ?_
        refine xt_pure rfl rfl rfl rfl ?_
        obtain ⟨_, S20, hc21, h⟩ := zbi h
        refine zt_Vv rfl rfl rfl rfl (xmC 176 rfl) ⟨rfl, rfl, yle rfl, yle rfl⟩ (m := 1) rfl ⟨by omega, by omega⟩ (trQ_step hG0 hG (by omega) (by omega) hc21) (fr1 := fr - 1) (lo1 := lo - 20) ?_
        refine xt_pure rfl rfl rfl rfl ?_
        refine xt_pure rfl rfl rfl rfl ?_
        refine xt_pure rfl rfl rfl (st1 := .int 0 :: _) rfl ?_
        obtain ⟨_, S23, hc24, h⟩ := zbi h
        refine zt_Vv rfl rfl rfl rfl (xmC 176 rfl) ⟨rfl, rfl, yle rfl, yle rfl⟩ (m := 3) rfl ⟨by omega, by omega⟩ (trQ_refer hG0 hG (by omega) (by omega) hc24) (fr1 := fr - 1) (lo1 := lo - 22) ?_
        refine xt_pure rfl rfl rfl rfl ?_
        cases h
        exact xt_iret rfl rfl rfl rfl ⟨rfl, rfl⟩
    · replace h := zif_f (p := 8 ≤ l3.toInt) hb h
      refine xt_pure rfl rfl rfl rfl ?_
      refine xt_pure rfl rfl rfl rfl ?_
      refine xt_getf rfl rfl (xmC 178 rfl) ?_
      refine xt_pure rfl rfl rfl (st1 := .int 28 :: _) rfl ?_
      refine xt_pure rfl rfl rfl rfl ?_
      refine xt_pure rfl rfl rfl rfl ?_
      obtain ⟨bsq25, hbsq25, h⟩ := zgi h
      obtain ⟨skq25, saq25, hsq25, hsq25a, hsq25b, hsq25c⟩ := zwd (X := X) hbsq25
      refine zr_ald (l := zw229) rfl rfl ⟨by decide, rfl⟩ (xmC 216 rfl) hsq25 ?_
      obtain ⟨x26, S27, hc28, h⟩ := zbi h
      refine zt_Vi rfl rfl rfl rfl (xmC 176 rfl) ⟨rfl, rfl, yle rfl, yle rfl⟩ (m := 3) rfl ⟨by omega, by omega⟩ (trS_isWord hG0 hG hsq25a hsq25b hsq25c (by omega) (by omega) hc28) (fr1 := fr - 1) (lo1 := lo - 22) ?_
      refine xt_if rfl rfl (fun hb => ?_) (fun hb => ?_)
      · replace h := zif_t (p := x26 = (0 : Int32)) hb h
        refine xt_pure rfl rfl rfl rfl ?_
        refine xt_pure rfl rfl rfl (L1 := [_, _, _, _]) rfl ?_
        refine xt_pure rfl rfl rfl (L1 := [_, _, _, some (.int (_ + 1))]) rfl ?_
        refine xt_pure rfl rfl rfl rfl ?_
        exact ih h
      · replace h := zif_f (p := x26 = (0 : Int32)) hb h
        refine xt_pure rfl rfl rfl rfl ?_
        refine xt_pure rfl rfl rfl rfl ?_
        refine xt_pure rfl rfl rfl (L1 := [_, _, _, _]) rfl ?_
        refine xt_pure rfl rfl rfl (L1 := [_, _, _, some (.int (_ + 1))]) rfl ?_
        refine xt_pure rfl rfl rfl rfl ?_
        exact ih h
def rQ_sorted  (N : Nat)  (S : zS) : Option (Int32 × zS) := (zb (rQ_node N 7 0 0 S) fun x1 S2 => (zb (rQ_counts N  S2) fun _ S5 => (zb (rQ_step N  S5) fun _ S8 => rQ_sorted_14 N N x1 (-9) 0 S8)))
theorem trQ_sorted {X : List Int32} {D0 : List xE} {a : Nat} {p : Nat → Nat} (hG0 : ((209, .inl (14, 9, .ref a)) : xE) ∈ D0) (hG : ∀ e ∈ zgQ a p, e ∈ D0)  {N fr lo : Nat} (hf : 7 ≤ fr) (hl : 207 ≤ lo)  {S S2 : zS} {r : Int32}  (h : rQ_sorted N  S = some (r, S2)) : yK X fr lo 245 [.ref 209] (zD zTQ (zaQ a p) S D0) 0 0 (zQi zTQ (zaQ a p) D0 r S2) := by
  unfold rQ_sorted at h
  refine yK.of rfl (yle rfl) (L := [_, _, _, _]) rfl ?_
  refine xt_pure rfl rfl rfl rfl ?_
  refine xt_pure rfl rfl rfl (st1 := .int 7 :: _) rfl ?_
  refine xt_pure rfl rfl rfl (st1 := .int 0 :: _) rfl ?_
  refine xt_pure rfl rfl rfl (st1 := .int 0 :: _) rfl ?_
  obtain ⟨x1, S2, hc3, h⟩ := zbi h
  refine zt_Vi rfl rfl rfl rfl (xmC 176 rfl) ⟨rfl, rfl, yle rfl, yle rfl⟩ (m := 5) rfl ⟨by omega, by omega⟩ (trQ_node hG0 hG (by omega) (by omega) hc3) (fr1 := fr - 1) (lo1 := lo - 24) ?_
  refine xt_pure rfl rfl rfl (L1 := [_, _, _, _]) rfl ?_
  refine xt_pure rfl rfl rfl rfl ?_
  obtain ⟨_, S5, hc6, h⟩ := zbi h
  refine zt_Vv rfl rfl rfl rfl (xmC 176 rfl) ⟨rfl, rfl, yle rfl, yle rfl⟩ (m := 1) rfl ⟨by omega, by omega⟩ (trQ_counts hG0 hG (by omega) (by omega) hc6) (fr1 := fr - 1) (lo1 := lo - 20) ?_
  refine xt_pure rfl rfl rfl rfl ?_
  obtain ⟨_, S8, hc9, h⟩ := zbi h
  refine zt_Vv rfl rfl rfl rfl (xmC 176 rfl) ⟨rfl, rfl, yle rfl, yle rfl⟩ (m := 1) rfl ⟨by omega, by omega⟩ (trQ_step hG0 hG (by omega) (by omega) hc9) (fr1 := fr - 1) (lo1 := lo - 20) ?_
  refine xt_pure rfl rfl rfl (st1 := .int (-9) :: _) rfl ?_
  refine xt_pure rfl rfl rfl (L1 := [_, _, _, _]) rfl ?_
  refine xt_pure rfl rfl rfl (st1 := .int 0 :: _) rfl ?_
  refine xt_pure rfl rfl rfl (L1 := [_, _, _, _]) rfl ?_
  exact trQ_sorted_14 hG0 hG hf hl h
def rQ_bounds_14  (N : Nat)  (l1 : Int32) (s0 : Int32) (S : zS) : Option (Unit × zS) := (zb (rQ_number N 0 s0 S) fun x1 S2 => (if zok (zA S2 19) l1 then (zg (gI (zs (zA S2 19) l1 x1) l1) fun x4 => (zb (rQ_number N x4 s0 (zsA S2 19 (zs (zA S2 19) l1 x1))) fun x5 S6 => (if zok (zA S6 20) l1 then some ((), (zsA S6 20 (zs (zA S6 20) l1 x5))) else none))) else none))
theorem trQ_bounds_14 {X : List Int32} {D0 : List xE} {a : Nat} {p : Nat → Nat} (hG0 : ((209, .inl (14, 9, .ref a)) : xE) ∈ D0) (hG : ∀ e ∈ zgQ a p, e ∈ D0)  {N fr lo : Nat}   (hf : 3 ≤ fr) (hl : 67 ≤ lo) {l1 : Int32} {s0 : Int32} {d2 : Int32} {d3 : Int32} {S S2 : zS} {r : Unit}  (h : rQ_bounds_14 N l1 s0 S = some (r, S2)) : yT X fr lo 246 14 [some (.ref 209), some (.int l1), some (.int d2), some (.int d3), none] [.int s0] (zD zTQ (zaQ a p) S D0) 0 0 (zQv zTQ (zaQ a p) D0 r S2) := by
  unfold rQ_bounds_14 at h
  refine xt_pure rfl rfl rfl (L1 := [_, _, _, _, _]) rfl ?_
  refine xt_pure rfl rfl rfl rfl ?_
  refine xt_getf rfl rfl (zmr hG0) ?_
  refine xt_getf rfl rfl (zmr (ymm hG 4 rfl)) ?_
  refine xt_pure rfl rfl rfl rfl ?_
  refine xt_pure rfl rfl rfl rfl ?_
  refine xt_pure rfl rfl rfl (st1 := .int 0 :: _) rfl ?_
  refine xt_pure rfl rfl rfl rfl ?_
  obtain ⟨x1, S2, hc3, h⟩ := zbi h
  refine zt_Vi rfl rfl rfl rfl (xmC 176 rfl) ⟨rfl, rfl, yle rfl, yle rfl⟩ (m := 4) rfl ⟨by omega, by omega⟩ (trQ_number hG0 hG (by omega) (by omega) hc3) (fr1 := fr - 1) (lo1 := lo - 23) ?_
  obtain ⟨hg, h⟩ := zgd h
  refine zt_ist 19 rfl rfl rfl rfl (l := (zA S2 19)) rfl hg ?_
  refine xt_pure rfl rfl rfl rfl ?_
  refine xt_getf rfl rfl (zmr hG0) ?_
  refine xt_getf rfl rfl (zmr (ymm hG 5 rfl)) ?_
  refine xt_pure rfl rfl rfl rfl ?_
  refine xt_pure rfl rfl rfl rfl ?_
  refine xt_pure rfl rfl rfl rfl ?_
  refine xt_getf rfl rfl (zmr hG0) ?_
  refine xt_getf rfl rfl (zmr (ymm hG 4 rfl)) ?_
  refine xt_pure rfl rfl rfl rfl ?_
  obtain ⟨x4, hx4, h⟩ := zgi h
  refine zr_ild (l := (zs (zA S2 19) l1 x1)) rfl rfl (zmA 19 rfl rfl (l := (zs (zA S2 19) l1 x1)) rfl) hx4 ?_
  refine xt_pure rfl rfl rfl rfl ?_
  obtain ⟨x5, S6, hc7, h⟩ := zbi h
  refine zt_Vi rfl rfl rfl rfl (xmC 176 rfl) ⟨rfl, rfl, yle rfl, yle rfl⟩ (m := 4) rfl ⟨by omega, by omega⟩ (trQ_number hG0 hG (by omega) (by omega) hc7) (fr1 := fr - 1) (lo1 := lo - 23) ?_
  obtain ⟨hg, h⟩ := zgd h
  refine zt_ist 20 rfl rfl rfl rfl (l := (zA S6 20)) rfl hg ?_
  refine xt_pure rfl rfl rfl rfl ?_
  cases h
  exact xt_vret rfl rfl rfl ⟨rfl, rfl⟩
def rQ_bounds  (N : Nat) (v1 : Int32) (v2 : Int32) (S : zS) : Option (Unit × zS) := (if v2 = (1 : Int32) then (if v2 ≠ (3 : Int32) then rQ_bounds_14 N v1 999999 S else rQ_bounds_14 N v1 9999 S) else (if v2 ≠ (3 : Int32) then (if v2 ≠ (2 : Int32) then (if v2 ≠ (4 : Int32) then (if v2 ≠ (5 : Int32) then (if v2 ≠ (6 : Int32) then (if v2 ≠ (7 : Int32) then (if v2 = (8 : Int32) then (zb (rQ_number N 1 8 S) fun x8 S9 => (if zok (zA S9 20) v1 then some ((), (zsA S9 20 (zs (zA S9 20) v1 x8))) else none)) else (if v2 ≠ (9 : Int32) then some ((), S) else (zb (rQ_number N 1 8 S) fun x11 S12 => (if zok (zA S12 20) v1 then some ((), (zsA S12 20 (zs (zA S12 20) v1 x11))) else none)))) else (zb (rQ_number N 1 4 S) fun x14 S15 => (if zok (zA S15 21) v1 then (zb (rQ_number N 1 6 (zsA S15 21 (zs (zA S15 21) v1 x14))) fun x17 S18 => (if zok (zA S18 20) v1 then some ((), (zsA S18 20 (zs (zA S18 20) v1 x17))) else none)) else none))) else (zb (rQ_number N 1 24 S) fun x20 S21 => (if zok (zA S21 20) v1 then some ((), (zsA S21 20 (zs (zA S21 20) v1 x20))) else none))) else (zb (rQ_number N 1 8 S) fun x23 S24 => (if zok (zA S24 21) v1 then (zg (gI (zs (zA S24 21) v1 x23) v1) fun x26 => (zb (rQ_number N 0 x26 (zsA S24 21 (zs (zA S24 21) v1 x23))) fun x27 S28 => (if zok (zA S28 19) v1 then (zg (gI (zs (zA S28 19) v1 x27) v1) fun x30 => (zg (gI (zA S28 21) v1) fun x31 => (zb (rQ_number N x30 x31 (zsA S28 19 (zs (zA S28 19) v1 x27))) fun x32 S33 => (if zok (zA S33 20) v1 then some ((), (zsA S33 20 (zs (zA S33 20) v1 x32))) else none)))) else none))) else none))) else (zb (rQ_number N 2 8 S) fun x35 S36 => (if zok (zA S36 20) v1 then some ((), (zsA S36 20 (zs (zA S36 20) v1 (x35 - 1)))) else none))) else (zb (rQ_number N 0 999999 S) fun x38 S39 => (if zok (zA S39 20) v1 then some ((), (zsA S39 20 (zs (zA S39 20) v1 x38))) else none))) else (if v2 ≠ (3 : Int32) then rQ_bounds_14 N v1 999999 S else rQ_bounds_14 N v1 9999 S)))
theorem trQ_bounds {X : List Int32} {D0 : List xE} {a : Nat} {p : Nat → Nat} (hG0 : ((209, .inl (14, 9, .ref a)) : xE) ∈ D0) (hG : ∀ e ∈ zgQ a p, e ∈ D0)  {N fr lo : Nat} (hf : 3 ≤ fr) (hl : 67 ≤ lo) {v1 : Int32} {v2 : Int32} {S S2 : zS} {r : Unit}  (h : rQ_bounds N v1 v2 S = some (r, S2)) : yK X fr lo 246 [.ref 209, .int v1, .int v2] (zD zTQ (zaQ a p) S D0) 0 0 (zQv zTQ (zaQ a p) D0 r S2) := by
  unfold rQ_bounds at h
  refine yK.of rfl (yle rfl) (L := [_, _, _, _, _]) rfl ?_
  refine xt_pure rfl rfl rfl (st1 := .int 999999 :: _) rfl ?_
  refine xt_pure rfl rfl rfl (L1 := [_, _, _, _, _]) rfl ?_
  refine xt_pure rfl rfl rfl rfl ?_
  refine xt_pure rfl rfl rfl (st1 := .int 1 :: _) rfl ?_
  refine xt_ic rfl rfl (fun hb => ?_) (fun hb => ?_)
  · replace h := zif_t (p := v2 = (1 : Int32)) hb h
    refine xt_pure rfl rfl rfl rfl ?_
    refine xt_pure rfl rfl rfl (st1 := .int 3 :: _) rfl ?_
    refine xt_ic rfl rfl (fun hb => ?_) (fun hb => ?_)
    · replace h := zif_t (p := v2 ≠ (3 : Int32)) hb h
      refine xt_pure rfl rfl rfl rfl ?_
      exact trQ_bounds_14 hG0 hG hf hl h
    · replace h := zif_f (p := v2 ≠ (3 : Int32)) hb h
      refine xt_pure rfl rfl rfl (st1 := .int 9999 :: _) rfl ?_
      refine xt_pure rfl rfl rfl rfl ?_
      exact trQ_bounds_14 hG0 hG hf hl h
  · replace h := zif_f (p := v2 = (1 : Int32)) hb h
    refine xt_pure rfl rfl rfl rfl ?_
    refine xt_pure rfl rfl rfl (st1 := .int 3 :: _) rfl ?_
    refine xt_ic rfl rfl (fun hb => ?_) (fun hb => ?_)
    · replace h := zif_t (p := v2 ≠ (3 : Int32)) hb h
      refine xt_pure rfl rfl rfl rfl ?_
      refine xt_pure rfl rfl rfl (st1 := .int 2 :: _) rfl ?_
      refine xt_ic rfl rfl (fun hb => ?_) (fun hb => ?_)
      · replace h := zif_t (p := v2 ≠ (2 : Int32)) hb h
        refine xt_pure rfl rfl rfl rfl ?_
        refine xt_pure rfl rfl rfl (st1 := .int 4 :: _) rfl ?_
        refine xt_ic rfl rfl (fun hb => ?_) (fun hb => ?_)
        · replace h := zif_t (p := v2 ≠ (4 : Int32)) hb h
          refine xt_pure rfl rfl rfl rfl ?_
          refine xt_pure rfl rfl rfl (st1 := .int 5 :: _) rfl ?_
          refine xt_ic rfl rfl (fun hb => ?_) (fun hb => ?_)
          · replace h := zif_t (p := v2 ≠ (5 : Int32)) hb h
            refine xt_pure rfl rfl rfl rfl ?_
            refine xt_pure rfl rfl rfl (st1 := .int 6 :: _) rfl ?_
            refine xt_ic rfl rfl (fun hb => ?_) (fun hb => ?_)
            · replace h := zif_t (p := v2 ≠ (6 : Int32)) hb h
              refine xt_pure rfl rfl rfl rfl ?_
              refine xt_pure rfl rfl rfl (st1 := .int 7 :: _) rfl ?_
              refine xt_ic rfl rfl (fun hb => ?_) (fun hb => ?_)
              · replace h := zif_t (p := v2 ≠ (7 : Int32)) hb h
                refine xt_pure rfl rfl rfl rfl ?_
                refine xt_pure rfl rfl rfl (st1 := .int 8 :: _) rfl ?_
                refine xt_ic rfl rfl (fun hb => ?_) (fun hb => ?_)
                · replace h := zif_t (p := v2 = (8 : Int32)) hb h
                  refine xt_pure rfl rfl rfl rfl ?_
                  refine xt_getf rfl rfl (zmr hG0) ?_
                  refine xt_getf rfl rfl (zmr (ymm hG 5 rfl)) ?_
                  refine xt_pure rfl rfl rfl rfl ?_
                  refine xt_pure rfl rfl rfl rfl ?_
                  refine xt_pure rfl rfl rfl (st1 := .int 1 :: _) rfl ?_
                  refine xt_pure rfl rfl rfl (st1 := .int 8 :: _) rfl ?_
                  obtain ⟨x8, S9, hc10, h⟩ := zbi h
                  refine zt_Vi rfl rfl rfl rfl (xmC 176 rfl) ⟨rfl, rfl, yle rfl, yle rfl⟩ (m := 4) rfl ⟨by omega, by omega⟩ (trQ_number hG0 hG (by omega) (by omega) hc10) (fr1 := fr - 1) (lo1 := lo - 23) ?_
                  obtain ⟨hg, h⟩ := zgd h
                  refine zt_ist 20 rfl rfl rfl rfl (l := (zA S9 20)) rfl hg ?_
                  cases h
                  exact xt_vret rfl rfl rfl ⟨rfl, rfl⟩
                · replace h := zif_f (p := v2 = (8 : Int32)) hb h
                  refine xt_pure rfl rfl rfl rfl ?_
                  refine xt_pure rfl rfl rfl (st1 := .int 9 :: _) rfl ?_
                  refine xt_ic rfl rfl (fun hb => ?_) (fun hb => ?_)
                  · replace h := zif_t (p := v2 ≠ (9 : Int32)) hb h
                    cases h
                    exact xt_vret rfl rfl rfl ⟨rfl, rfl⟩
                  · replace h := zif_f (p := v2 ≠ (9 : Int32)) hb h
                    refine xt_pure rfl rfl rfl rfl ?_
                    refine xt_getf rfl rfl (zmr hG0) ?_
                    refine xt_getf rfl rfl (zmr (ymm hG 5 rfl)) ?_
                    refine xt_pure rfl rfl rfl rfl ?_
                    refine xt_pure rfl rfl rfl rfl ?_
                    refine xt_pure rfl rfl rfl (st1 := .int 1 :: _) rfl ?_
                    refine xt_pure rfl rfl rfl (st1 := .int 8 :: _) rfl ?_
                    obtain ⟨x11, S12, hc13, h⟩ := zbi h
                    refine zt_Vi rfl rfl rfl rfl (xmC 176 rfl) ⟨rfl, rfl, yle rfl, yle rfl⟩ (m := 4) rfl ⟨by omega, by omega⟩ (trQ_number hG0 hG (by omega) (by omega) hc13) (fr1 := fr - 1) (lo1 := lo - 23) ?_
                    obtain ⟨hg, h⟩ := zgd h
                    refine zt_ist 20 rfl rfl rfl rfl (l := (zA S12 20)) rfl hg ?_
                    cases h
                    exact xt_vret rfl rfl rfl ⟨rfl, rfl⟩
              · replace h := zif_f (p := v2 ≠ (7 : Int32)) hb h
                refine xt_pure rfl rfl rfl rfl ?_
                refine xt_getf rfl rfl (zmr hG0) ?_
                refine xt_getf rfl rfl (zmr (ymm hG 6 rfl)) ?_
                refine xt_pure rfl rfl rfl rfl ?_
                refine xt_pure rfl rfl rfl rfl ?_
                refine xt_pure rfl rfl rfl (st1 := .int 1 :: _) rfl ?_
                refine xt_pure rfl rfl rfl (st1 := .int 4 :: _) rfl ?_
                obtain ⟨x14, S15, hc16, h⟩ := zbi h
                refine zt_Vi rfl rfl rfl rfl (xmC 176 rfl) ⟨rfl, rfl, yle rfl, yle rfl⟩ (m := 4) rfl ⟨by omega, by omega⟩ (trQ_number hG0 hG (by omega) (by omega) hc16) (fr1 := fr - 1) (lo1 := lo - 23) ?_
                obtain ⟨hg, h⟩ := zgd h
                refine zt_ist 21 rfl rfl rfl rfl (l := (zA S15 21)) rfl hg ?_
                refine xt_pure rfl rfl rfl rfl ?_
                refine xt_getf rfl rfl (zmr hG0) ?_
                refine xt_getf rfl rfl (zmr (ymm hG 5 rfl)) ?_
                refine xt_pure rfl rfl rfl rfl ?_
                refine xt_pure rfl rfl rfl rfl ?_
                refine xt_pure rfl rfl rfl (st1 := .int 1 :: _) rfl ?_
                refine xt_pure rfl rfl rfl (st1 := .int 6 :: _) rfl ?_
                obtain ⟨x17, S18, hc19, h⟩ := zbi h
                refine zt_Vi rfl rfl rfl rfl (xmC 176 rfl) ⟨rfl, rfl, yle rfl, yle rfl⟩ (m := 4) rfl ⟨by omega, by omega⟩ (trQ_number hG0 hG (by omega) (by omega) hc19) (fr1 := fr - 1) (lo1 := lo - 23) ?_
                obtain ⟨hg, h⟩ := zgd h
                refine zt_ist 20 rfl rfl rfl rfl (l := (zA S18 20)) rfl hg ?_
                refine xt_pure rfl rfl rfl rfl ?_
                cases h
                exact xt_vret rfl rfl rfl ⟨rfl, rfl⟩
            · replace h := zif_f (p := v2 ≠ (6 : Int32)) hb h
              refine xt_pure rfl rfl rfl rfl ?_
              refine xt_getf rfl rfl (zmr hG0) ?_
              refine xt_getf rfl rfl (zmr (ymm hG 5 rfl)) ?_
              refine xt_pure rfl rfl rfl rfl ?_
              refine xt_pure rfl rfl rfl rfl ?_
              refine xt_pure rfl rfl rfl (st1 := .int 1 :: _) rfl ?_
              refine xt_pure rfl rfl rfl (st1 := .int 24 :: _) rfl ?_
              obtain ⟨x20, S21, hc22, h⟩ := zbi h
              refine zt_Vi rfl rfl rfl rfl (xmC 176 rfl) ⟨rfl, rfl, yle rfl, yle rfl⟩ (m := 4) rfl ⟨by omega, by omega⟩ (trQ_number hG0 hG (by omega) (by omega) hc22) (fr1 := fr - 1) (lo1 := lo - 23) ?_
              obtain ⟨hg, h⟩ := zgd h
              refine zt_ist 20 rfl rfl rfl rfl (l := (zA S21 20)) rfl hg ?_
              refine xt_pure rfl rfl rfl rfl ?_
              cases h
              exact xt_vret rfl rfl rfl ⟨rfl, rfl⟩
          · replace h := zif_f (p := v2 ≠ (5 : Int32)) hb h
            refine xt_pure rfl rfl rfl rfl ?_
            refine xt_getf rfl rfl (zmr hG0) ?_
            refine xt_getf rfl rfl (zmr (ymm hG 6 rfl)) ?_
            refine xt_pure rfl rfl rfl rfl ?_
            refine xt_pure rfl rfl rfl rfl ?_
            refine xt_pure rfl rfl rfl (st1 := .int 1 :: _) rfl ?_
            refine xt_pure rfl rfl rfl (st1 := .int 8 :: _) rfl ?_
            obtain ⟨x23, S24, hc25, h⟩ := zbi h
            refine zt_Vi rfl rfl rfl rfl (xmC 176 rfl) ⟨rfl, rfl, yle rfl, yle rfl⟩ (m := 4) rfl ⟨by omega, by omega⟩ (trQ_number hG0 hG (by omega) (by omega) hc25) (fr1 := fr - 1) (lo1 := lo - 23) ?_
            obtain ⟨hg, h⟩ := zgd h
            refine zt_ist 21 rfl rfl rfl rfl (l := (zA S24 21)) rfl hg ?_
            refine xt_pure rfl rfl rfl rfl ?_
            refine xt_getf rfl rfl (zmr hG0) ?_
            refine xt_getf rfl rfl (zmr (ymm hG 4 rfl)) ?_
            refine xt_pure rfl rfl rfl rfl ?_
            refine xt_pure rfl rfl rfl rfl ?_
            refine xt_pure rfl rfl rfl (st1 := .int 0 :: _) rfl ?_
            refine xt_pure rfl rfl rfl rfl ?_
            refine xt_getf rfl rfl (zmr hG0) ?_
            refine xt_getf rfl rfl (zmr (ymm hG 6 rfl)) ?_
            refine xt_pure rfl rfl rfl rfl ?_
            obtain ⟨x26, hx26, h⟩ := zgi h
            refine zr_ild (l := (zs (zA S24 21) v1 x23)) rfl rfl (zmA 21 rfl rfl (l := (zs (zA S24 21) v1 x23)) rfl) hx26 ?_
            obtain ⟨x27, S28, hc29, h⟩ := zbi h
            refine zt_Vi rfl rfl rfl rfl (xmC 176 rfl) ⟨rfl, rfl, yle rfl, yle rfl⟩ (m := 4) rfl ⟨by omega, by omega⟩ (trQ_number hG0 hG (by omega) (by omega) hc29) (fr1 := fr - 1) (lo1 := lo - 23) ?_
            obtain ⟨hg, h⟩ := zgd h
            refine zt_ist 19 rfl rfl rfl rfl (l := (zA S28 19)) rfl hg ?_
            refine xt_pure rfl rfl rfl rfl ?_
            refine xt_getf rfl rfl (zmr hG0) ?_
            refine xt_getf rfl rfl (zmr (ymm hG 5 rfl)) ?_
            refine xt_pure rfl rfl rfl rfl ?_
            refine xt_pure rfl rfl rfl rfl ?_
            refine xt_pure rfl rfl rfl rfl ?_
            refine xt_getf rfl rfl (zmr hG0) ?_
            refine xt_getf rfl rfl (zmr (ymm hG 4 rfl)) ?_
            refine xt_pure rfl rfl rfl rfl ?_
            obtain ⟨x30, hx30, h⟩ := zgi h
            refine zr_ild (l := (zs (zA S28 19) v1 x27)) rfl rfl (zmA 19 rfl rfl (l := (zs (zA S28 19) v1 x27)) rfl) hx30 ?_
            refine xt_pure rfl rfl rfl rfl ?_
            refine xt_getf rfl rfl (zmr hG0) ?_
            refine xt_getf rfl rfl (zmr (ymm hG 6 rfl)) ?_
            refine xt_pure rfl rfl rfl rfl ?_
            obtain ⟨x31, hx31, h⟩ := zgi h
            refine zr_ild (l := (zA S28 21)) rfl rfl (zmA 21 rfl rfl (l := (zA S28 21)) rfl) hx31 ?_
            obtain ⟨x32, S33, hc34, h⟩ := zbi h
            refine zt_Vi rfl rfl rfl rfl (xmC 176 rfl) ⟨rfl, rfl, yle rfl, yle rfl⟩ (m := 4) rfl ⟨by omega, by omega⟩ (trQ_number hG0 hG (by omega) (by omega) hc34) (fr1 := fr - 1) (lo1 := lo - 23) ?_
            obtain ⟨hg, h⟩ := zgd h
            refine zt_ist 20 rfl rfl rfl rfl (l := (zA S33 20)) rfl hg ?_
            refine xt_pure rfl rfl rfl rfl ?_
            cases h
            exact xt_vret rfl rfl rfl ⟨rfl, rfl⟩
        · replace h := zif_f (p := v2 ≠ (4 : Int32)) hb h
          refine xt_pure rfl rfl rfl rfl ?_
          refine xt_getf rfl rfl (zmr hG0) ?_
          refine xt_getf rfl rfl (zmr (ymm hG 5 rfl)) ?_
          refine xt_pure rfl rfl rfl rfl ?_
          refine xt_pure rfl rfl rfl rfl ?_
          refine xt_pure rfl rfl rfl (st1 := .int 2 :: _) rfl ?_
          refine xt_pure rfl rfl rfl (st1 := .int 8 :: _) rfl ?_
          obtain ⟨x35, S36, hc37, h⟩ := zbi h
          refine zt_Vi rfl rfl rfl rfl (xmC 176 rfl) ⟨rfl, rfl, yle rfl, yle rfl⟩ (m := 4) rfl ⟨by omega, by omega⟩ (trQ_number hG0 hG (by omega) (by omega) hc37) (fr1 := fr - 1) (lo1 := lo - 23) ?_
          refine xt_pure rfl rfl rfl (st1 := .int 1 :: _) rfl ?_
          refine xt_pure rfl rfl rfl rfl ?_
          obtain ⟨hg, h⟩ := zgd h
          refine zt_ist 20 rfl rfl rfl rfl (l := (zA S36 20)) rfl hg ?_
          refine xt_pure rfl rfl rfl rfl ?_
          cases h
          exact xt_vret rfl rfl rfl ⟨rfl, rfl⟩
      · replace h := zif_f (p := v2 ≠ (2 : Int32)) hb h
        refine xt_pure rfl rfl rfl rfl ?_
        refine xt_getf rfl rfl (zmr hG0) ?_
        refine xt_getf rfl rfl (zmr (ymm hG 5 rfl)) ?_
        refine xt_pure rfl rfl rfl rfl ?_
        refine xt_pure rfl rfl rfl rfl ?_
        refine xt_pure rfl rfl rfl (st1 := .int 0 :: _) rfl ?_
        refine xt_pure rfl rfl rfl rfl ?_
        obtain ⟨x38, S39, hc40, h⟩ := zbi h
        refine zt_Vi rfl rfl rfl rfl (xmC 176 rfl) ⟨rfl, rfl, yle rfl, yle rfl⟩ (m := 4) rfl ⟨by omega, by omega⟩ (trQ_number hG0 hG (by omega) (by omega) hc40) (fr1 := fr - 1) (lo1 := lo - 23) ?_
        obtain ⟨hg, h⟩ := zgd h
        refine zt_ist 20 rfl rfl rfl rfl (l := (zA S39 20)) rfl hg ?_
        refine xt_pure rfl rfl rfl rfl ?_
        cases h
        exact xt_vret rfl rfl rfl ⟨rfl, rfl⟩
    · replace h := zif_f (p := v2 ≠ (3 : Int32)) hb h
      refine xt_pure rfl rfl rfl rfl ?_
      refine xt_pure rfl rfl rfl (st1 := .int 3 :: _) rfl ?_
      refine xt_ic rfl rfl (fun hb => ?_) (fun hb => ?_)
      · replace h := zif_t (p := v2 ≠ (3 : Int32)) hb h
        refine xt_pure rfl rfl rfl rfl ?_
        exact trQ_bounds_14 hG0 hG hf hl h
      · replace h := zif_f (p := v2 ≠ (3 : Int32)) hb h
        refine xt_pure rfl rfl rfl (st1 := .int 9999 :: _) rfl ?_
        refine xt_pure rfl rfl rfl rfl ?_
        exact trQ_bounds_14 hG0 hG hf hl h
def rQ_word  (N : Nat)  (S : zS) : Option (Unit × zS) := (zb (rQ_good N  S) fun x1 S2 => (if x1 = (0 : Int32) then (zb (rQ_wrong N  S2) fun _ S5 => some ((), S5)) else (zb (rS_isWord zs_60 N S2) fun x7 S8 => (if x7 = (0 : Int32) then (zb (rQ_wrong N  S8) fun _ S11 => some ((), S11)) else (zb (rQ_next N  S8) fun _ S14 => some ((), S14))))))
theorem trQ_word {X : List Int32} {D0 : List xE} {a : Nat} {p : Nat → Nat} (hG0 : ((209, .inl (14, 9, .ref a)) : xE) ∈ D0) (hG : ∀ e ∈ zgQ a p, e ∈ D0)  {N fr lo : Nat} (hf : 5 ≤ fr) (hl : 164 ≤ lo)  {S S2 : zS} {r : Unit}  (h : rQ_word N  S = some (r, S2)) : yK X fr lo 215 [.ref 209, .ref 60] (zD zTQ (zaQ a p) S D0) 0 0 (zQv zTQ (zaQ a p) D0 r S2) := by
  unfold rQ_word at h
  refine yK.of rfl (yle rfl) (L := [_, _]) rfl ?_
  refine xt_pure rfl rfl rfl rfl ?_
  obtain ⟨x1, S2, hc3, h⟩ := zbi h
  refine zt_Vi rfl rfl rfl rfl (xmC 176 rfl) ⟨rfl, rfl, yle rfl, yle rfl⟩ (m := 1) rfl ⟨by omega, by omega⟩ (trQ_good hG0 hG (by omega) (by omega) hc3) (fr1 := fr - 1) (lo1 := lo - 20) ?_
  refine xt_if rfl rfl (fun hb => ?_) (fun hb => ?_)
  · replace h := zif_t (p := x1 = (0 : Int32)) hb h
    refine xt_pure rfl rfl rfl rfl ?_
    obtain ⟨_, S5, hc6, h⟩ := zbi h
    refine zt_Vv rfl rfl rfl rfl (xmC 176 rfl) ⟨rfl, rfl, yle rfl, yle rfl⟩ (m := 1) rfl ⟨by omega, by omega⟩ (trQ_wrong hG0 hG (by omega) (by omega) hc6) (fr1 := fr - 1) (lo1 := lo - 20) ?_
    cases h
    exact xt_vret rfl rfl rfl ⟨rfl, rfl⟩
  · replace h := zif_f (p := x1 = (0 : Int32)) hb h
    refine xt_pure rfl rfl rfl rfl ?_
    refine xt_pure rfl rfl rfl rfl ?_
    obtain ⟨x7, S8, hc9, h⟩ := zbi h
    refine zt_Vi rfl rfl rfl rfl (xmC 176 rfl) ⟨rfl, rfl, yle rfl, yle rfl⟩ (m := 3) rfl ⟨by omega, by omega⟩ (trS_isWord hG0 hG (List.mem_cons_of_mem _ (List.mem_of_getElem? (i := 88) rfl)) (List.mem_cons_of_mem _ (List.mem_of_getElem? (i := 89) rfl)) (List.mem_cons_of_mem _ (List.mem_of_getElem? (i := 90) rfl)) (by omega) (by omega) hc9) (fr1 := fr - 1) (lo1 := lo - 22) ?_
    refine xt_if rfl rfl (fun hb => ?_) (fun hb => ?_)
    · replace h := zif_t (p := x7 = (0 : Int32)) hb h
      refine xt_pure rfl rfl rfl rfl ?_
      obtain ⟨_, S11, hc12, h⟩ := zbi h
      refine zt_Vv rfl rfl rfl rfl (xmC 176 rfl) ⟨rfl, rfl, yle rfl, yle rfl⟩ (m := 1) rfl ⟨by omega, by omega⟩ (trQ_wrong hG0 hG (by omega) (by omega) hc12) (fr1 := fr - 1) (lo1 := lo - 20) ?_
      cases h
      exact xt_vret rfl rfl rfl ⟨rfl, rfl⟩
    · replace h := zif_f (p := x7 = (0 : Int32)) hb h
      refine xt_pure rfl rfl rfl rfl ?_
      obtain ⟨_, S14, hc15, h⟩ := zbi h
      refine zt_Vv rfl rfl rfl rfl (xmC 176 rfl) ⟨rfl, rfl, yle rfl, yle rfl⟩ (m := 4) rfl ⟨by omega, by omega⟩ (trQ_next hG0 hG (by omega) (by omega) hc15) (fr1 := fr - 1) (lo1 := lo - 23) ?_
      refine xt_pure rfl rfl rfl rfl ?_
      cases h
      exact xt_vret rfl rfl rfl ⟨rfl, rfl⟩
def rQ_word_215_209_6  (N : Nat)  (S : zS) : Option (Unit × zS) := (zb (rQ_good N  S) fun x1 S2 => (if x1 = (0 : Int32) then (zb (rQ_wrong N  S2) fun _ S5 => some ((), S5)) else (zb (rS_isWord zs_6 N S2) fun x7 S8 => (if x7 = (0 : Int32) then (zb (rQ_wrong N  S8) fun _ S11 => some ((), S11)) else (zb (rQ_next N  S8) fun _ S14 => some ((), S14))))))
theorem trQ_word_215_209_6 {X : List Int32} {D0 : List xE} {a : Nat} {p : Nat → Nat} (hG0 : ((209, .inl (14, 9, .ref a)) : xE) ∈ D0) (hG : ∀ e ∈ zgQ a p, e ∈ D0)  {N fr lo : Nat} (hf : 5 ≤ fr) (hl : 164 ≤ lo)  {S S2 : zS} {r : Unit}  (h : rQ_word_215_209_6 N  S = some (r, S2)) : yK X fr lo 215 [.ref 209, .ref 6] (zD zTQ (zaQ a p) S D0) 0 0 (zQv zTQ (zaQ a p) D0 r S2) := by
  unfold rQ_word_215_209_6 at h
  refine yK.of rfl (yle rfl) (L := [_, _]) rfl ?_
  refine xt_pure rfl rfl rfl rfl ?_
  obtain ⟨x1, S2, hc3, h⟩ := zbi h
  refine zt_Vi rfl rfl rfl rfl (xmC 176 rfl) ⟨rfl, rfl, yle rfl, yle rfl⟩ (m := 1) rfl ⟨by omega, by omega⟩ (trQ_good hG0 hG (by omega) (by omega) hc3) (fr1 := fr - 1) (lo1 := lo - 20) ?_
  refine xt_if rfl rfl (fun hb => ?_) (fun hb => ?_)
  · replace h := zif_t (p := x1 = (0 : Int32)) hb h
    refine xt_pure rfl rfl rfl rfl ?_
    obtain ⟨_, S5, hc6, h⟩ := zbi h
    refine zt_Vv rfl rfl rfl rfl (xmC 176 rfl) ⟨rfl, rfl, yle rfl, yle rfl⟩ (m := 1) rfl ⟨by omega, by omega⟩ (trQ_wrong hG0 hG (by omega) (by omega) hc6) (fr1 := fr - 1) (lo1 := lo - 20) ?_
    cases h
    exact xt_vret rfl rfl rfl ⟨rfl, rfl⟩
  · replace h := zif_f (p := x1 = (0 : Int32)) hb h
    refine xt_pure rfl rfl rfl rfl ?_
    refine xt_pure rfl rfl rfl rfl ?_
    obtain ⟨x7, S8, hc9, h⟩ := zbi h
    refine zt_Vi rfl rfl rfl rfl (xmC 176 rfl) ⟨rfl, rfl, yle rfl, yle rfl⟩ (m := 3) rfl ⟨by omega, by omega⟩ (trS_isWord hG0 hG (List.mem_cons_of_mem _ (List.mem_of_getElem? (i := 7) rfl)) (List.mem_cons_of_mem _ (List.mem_of_getElem? (i := 8) rfl)) (List.mem_cons_of_mem _ (List.mem_of_getElem? (i := 9) rfl)) (by omega) (by omega) hc9) (fr1 := fr - 1) (lo1 := lo - 22) ?_
    refine xt_if rfl rfl (fun hb => ?_) (fun hb => ?_)
    · replace h := zif_t (p := x7 = (0 : Int32)) hb h
      refine xt_pure rfl rfl rfl rfl ?_
      obtain ⟨_, S11, hc12, h⟩ := zbi h
      refine zt_Vv rfl rfl rfl rfl (xmC 176 rfl) ⟨rfl, rfl, yle rfl, yle rfl⟩ (m := 1) rfl ⟨by omega, by omega⟩ (trQ_wrong hG0 hG (by omega) (by omega) hc12) (fr1 := fr - 1) (lo1 := lo - 20) ?_
      cases h
      exact xt_vret rfl rfl rfl ⟨rfl, rfl⟩
    · replace h := zif_f (p := x7 = (0 : Int32)) hb h
      refine xt_pure rfl rfl rfl rfl ?_
      obtain ⟨_, S14, hc15, h⟩ := zbi h
      refine zt_Vv rfl rfl rfl rfl (xmC 176 rfl) ⟨rfl, rfl, yle rfl, yle rfl⟩ (m := 4) rfl ⟨by omega, by omega⟩ (trQ_next hG0 hG (by omega) (by omega) hc15) (fr1 := fr - 1) (lo1 := lo - 23) ?_
      refine xt_pure rfl rfl rfl rfl ?_
      cases h
      exact xt_vret rfl rfl rfl ⟨rfl, rfl⟩
