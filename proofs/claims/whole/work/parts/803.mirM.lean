/-! MIRRORS: the disk, the reference -/
def zTL : List (Nat × Nat × Nat) := [(0, 14, 38), (0, 14, 40), (0, 14, 41), (0, 14, 42), (3, 0, 0), (3, 0, 0)]
def zaL (i : Nat) : Nat := ([209, 209, 209, 209, 247, 248] : List Nat).getD i 0
def rK_tell_10  (N : Nat)  (l1 : Int32) (S : zS) : Option (Unit × zS) := some ((), (zsI (zsI (zsI S 1 ((zI S 1) + 1)) 2 (((31 * (zI S 2)) + l1) &&& 65535)) 3 (((zI S 3) * 31) + l1)))
theorem trK_tell_10 {X : List Int32} {D0 : List xE}   {N fr lo : Nat}   (hf : 0 ≤ fr) (hl : 0 ≤ lo) {l1 : Int32}  {S S2 : zS} {r : Unit}  (h : rK_tell_10 N l1 S = some (r, S2)) : yT X fr lo 281 10 [some (.ref 209), some (.int l1)] [] (zD zTL zaL S D0) 0 0 (zQv zTL zaL D0 r S2) := by
  unfold rK_tell_10 at h
  refine xt_pure rfl rfl rfl rfl ?_
  refine xt_pure rfl rfl rfl rfl ?_
  refine zt_gI 1 rfl rfl rfl rfl (x := (zI S 1)) rfl ?_
  refine xt_pure rfl rfl rfl (st1 := .int 1 :: _) rfl ?_
  refine xt_pure rfl rfl rfl rfl ?_
  refine zt_pI 1 rfl rfl rfl rfl rfl rfl ?_
  refine xt_pure rfl rfl rfl rfl ?_
  refine xt_pure rfl rfl rfl (st1 := .int 31 :: _) rfl ?_
  refine xt_pure rfl rfl rfl rfl ?_
  refine zt_gI 2 rfl rfl rfl rfl (x := (zI S 2)) rfl ?_
  refine xt_pure rfl rfl rfl rfl ?_
  refine xt_pure rfl rfl rfl rfl ?_
  refine xt_pure rfl rfl rfl rfl ?_
  refine xt_pure rfl rfl rfl (st1 := .int 65535 :: _) rfl ?_
  refine xt_pure rfl rfl rfl rfl ?_
  refine zt_pI 2 rfl rfl rfl rfl rfl rfl ?_
  refine xt_pure rfl rfl rfl rfl ?_
  refine xt_pure rfl rfl rfl rfl ?_
  refine zt_gI 3 rfl rfl rfl rfl (x := (zI S 3)) rfl ?_
  refine xt_pure rfl rfl rfl (st1 := .int 31 :: _) rfl ?_
  refine xt_pure rfl rfl rfl rfl ?_
  refine xt_pure rfl rfl rfl rfl ?_
  refine xt_pure rfl rfl rfl rfl ?_
  refine zt_pI 3 rfl rfl rfl rfl rfl rfl ?_
  cases h
  exact xt_vret rfl rfl rfl ⟨rfl, rfl⟩
def rK_tell  (N : Nat) (v1 : Int32) (S : zS) : Option (Unit × zS) := (if 1200 ≤ (zI S 1).toInt then rK_tell_10 N v1 S else (if zok (zA S 5) (zI S 1) then rK_tell_10 N v1 (zsA S 5 (zs (zA S 5) (zI S 1) v1)) else none))
theorem trK_tell {X : List Int32} {D0 : List xE}   {N fr lo : Nat} (hf : 0 ≤ fr) (hl : 0 ≤ lo) {v1 : Int32} {S S2 : zS} {r : Unit}  (h : rK_tell N v1 S = some (r, S2)) : yK X fr lo 281 [.ref 209, .int v1] (zD zTL zaL S D0) 0 0 (zQv zTL zaL D0 r S2) := by
  unfold rK_tell at h
  refine yK.of rfl (yle rfl) (L := [_, _]) rfl ?_
  refine xt_pure rfl rfl rfl rfl ?_
  refine zt_gI 1 rfl rfl rfl rfl (x := (zI S 1)) rfl ?_
  refine xt_pure rfl rfl rfl (st1 := .int 1200 :: _) rfl ?_
  refine xt_ic rfl rfl (fun hb => ?_) (fun hb => ?_)
  · replace h := zif_t (p := 1200 ≤ (zI S 1).toInt) hb h
    exact trK_tell_10 hf hl h
  · replace h := zif_f (p := 1200 ≤ (zI S 1).toInt) hb h
    refine xt_pure rfl rfl rfl rfl ?_
    refine xt_getf rfl rfl (xmC 197 rfl) ?_
    refine xt_pure rfl rfl rfl rfl ?_
    refine zt_gI 1 rfl rfl rfl rfl (x := (zI S 1)) rfl ?_
    refine xt_pure rfl rfl rfl rfl ?_
    obtain ⟨hg, h⟩ := zgd h
    refine zt_ist 5 rfl rfl rfl rfl (l := (zA S 5)) rfl hg ?_
    exact trK_tell_10 hf hl h
def rK_tellL_4  (N : Nat)  : Nat → Int64 → Int32 → zS → Option (Unit × zS)
  | 0, _, _, _ => none
  | n + 1, l1, l4, S => (if l4.toInt < 0 then some ((), S) else (zb (rK_tell N (((l1 >>> ((8 * l4).toInt64 &&& 63)) &&& 255).toInt32) S) fun _ S2 => (rK_tellL_4 N n) l1 (l4 + (-1)) S2))
theorem trK_tellL_4 {X : List Int32} {D0 : List xE}   {N fr lo : Nat}   (hf : 1 ≤ fr) (hl : 21 ≤ lo)  : ∀ {n : Nat} {l1 : Int64} {l4 : Int32} {d3 : Int32} {S S2 : zS} {r : Unit} , rK_tellL_4 N n l1 l4 S = some (r, S2) → yT X fr lo 282 4 [some (.ref 209), some (.long l1), none, some (.int d3), some (.int l4)] [] (zD zTL zaL S D0) 0 0 (zQv zTL zaL D0 r S2) := by
  intro n
  induction n with
  | zero =>
    intro l1 l4 d3 S S2 r  h
    have h : (none : Option (Unit × zS)) = some (r, S2) := h
    cases h
  | succ n ih =>
    intro l1 l4 d3 S S2 r  h
    rw [rK_tellL_4] at h
    refine xt_pure rfl rfl rfl rfl ?_
    refine xt_if rfl rfl (fun hb => ?_) (fun hb => ?_)
    · replace h := zif_t (p := l4.toInt < 0) hb h
      cases h
      exact xt_vret rfl rfl rfl ⟨rfl, rfl⟩
    · replace h := zif_f (p := l4.toInt < 0) hb h
      refine xt_pure rfl rfl rfl rfl ?_
      refine xt_pure rfl rfl rfl rfl ?_
      refine xt_pure rfl rfl rfl (st1 := .int 8 :: _) rfl ?_
      refine xt_pure rfl rfl rfl rfl ?_
      refine xt_pure rfl rfl rfl rfl ?_
      refine xt_pure rfl rfl rfl rfl ?_
      refine xt_pure rfl rfl rfl (st1 := .long 255 :: _) rfl ?_
      refine xt_pure rfl rfl rfl rfl ?_
      refine xt_pure rfl rfl rfl rfl ?_
      obtain ⟨_, S2, hc3, h⟩ := zbi h
      refine zt_Vv rfl rfl rfl rfl (xmC 176 rfl) ⟨rfl, rfl, yle rfl, yle rfl⟩ (m := 2) rfl ⟨by omega, by omega⟩ (trK_tell (by omega) (by omega) hc3) (fr1 := fr - 1) (lo1 := lo - 21) ?_
      refine xt_pure rfl rfl rfl (L1 := [_, _, _, _, some (.int (_ + (-1)))]) rfl ?_
      refine xt_pure rfl rfl rfl rfl ?_
      exact ih h
def rK_tellL  (N : Nat) (v1 : Int64) (v3 : Int32) (S : zS) : Option (Unit × zS) := rK_tellL_4 N N v1 (v3 - 1) S
theorem trK_tellL {X : List Int32} {D0 : List xE}   {N fr lo : Nat} (hf : 1 ≤ fr) (hl : 21 ≤ lo) {v1 : Int64} {v3 : Int32} {S S2 : zS} {r : Unit}  (h : rK_tellL N v1 v3 S = some (r, S2)) : yK X fr lo 282 [.ref 209, .long v1, .int v3] (zD zTL zaL S D0) 0 0 (zQv zTL zaL D0 r S2) := by
  unfold rK_tellL at h
  refine yK.of rfl (yle rfl) (L := [_, _, _, _, _]) rfl ?_
  refine xt_pure rfl rfl rfl rfl ?_
  refine xt_pure rfl rfl rfl (st1 := .int 1 :: _) rfl ?_
  refine xt_pure rfl rfl rfl rfl ?_
  refine xt_pure rfl rfl rfl (L1 := [_, _, _, _, _]) rfl ?_
  exact trK_tellL_4 hf hl h
def rK_tellAnswer_39  (N : Nat) (k16 : zH → Int32 → zS → Option (Unit × zS)) : Nat → zH → Int32 → Int32 → zS → Option (Unit × zS)
  | 0, _, _, _, _ => none
  | n + 1, ol2, l3, l4, S => (zg (gI ol2.2.2.2.1 l3) fun x39 => (if x39.toInt ≤ l4.toInt then k16 ol2 (l3 + 1) S else (zg (gI ol2.2.2.2.2 ((6 * l3) + l4)) fun x40 => (zb (rK_tellL N x40.toInt64 4 S) fun _ S42 => (rK_tellAnswer_39 N k16 n) ol2 l3 (l4 + 1) S42))))
theorem trK_tellAnswer_39 {X : List Int32} {D0 : List xE}   {N fr lo : Nat} {k16 : zH → Int32 → zS → Option (Unit × zS)} (hk16 : ∀ {oal2 : Nat} {ol2 : zH}  {l3 : Int32} {d1 : Int32} {u4 : Option Value} {S S2 : zS} {r : Unit} (hol2 : zOM D0 oal2 ol2), k16 ol2 l3 S = some (r, S2) → yT X fr lo 280 16 [some (.ref 209), some (.int d1), some (.ref oal2), some (.int l3), u4] [] (zD zTL zaL S D0) 0 0 (zQv zTL zaL D0 r S2)) (hf : 2 ≤ fr) (hl : 45 ≤ lo)  : ∀ {n : Nat} {oal2 : Nat} {ol2 : zH}  {l3 : Int32} {l4 : Int32} {d1 : Int32} {S S2 : zS} {r : Unit} (hol2 : zOM D0 oal2 ol2), rK_tellAnswer_39 N k16 n ol2 l3 l4 S = some (r, S2) → yT X fr lo 280 39 [some (.ref 209), some (.int d1), some (.ref oal2), some (.int l3), some (.int l4)] [] (zD zTL zaL S D0) 0 0 (zQv zTL zaL D0 r S2) := by
  intro n
  induction n with
  | zero =>
    intro oal2 ol2 l3 l4 d1 S S2 r hol2  h
    have h : (none : Option (Unit × zS)) = some (r, S2) := h
    cases h
  | succ n ih =>
    intro oal2 ol2 l3 l4 d1 S S2 r hol2  h
    rw [rK_tellAnswer_39] at h
    have hkl2 := hol2
    obtain ⟨ial2, ral2, cal2, q0l2, q1l2, q2l2, q3l2, q4l2, q5l2, q6l2, q7l2⟩ := hkl2
    refine xt_pure rfl rfl rfl rfl ?_
    refine xt_pure rfl rfl rfl rfl ?_
    refine xt_getf rfl rfl (zmr q3l2) ?_
    refine xt_pure rfl rfl rfl rfl ?_
    obtain ⟨x39, hx39, h⟩ := zgi h
    refine zr_ild (l := ol2.2.2.2.1) rfl rfl (zmr q6l2) hx39 ?_
    refine xt_ic rfl rfl (fun hb => ?_) (fun hb => ?_)
    · replace h := zif_t (p := x39.toInt ≤ l4.toInt) hb h
      refine xt_pure rfl rfl rfl rfl ?_
      refine xt_pure rfl rfl rfl (L1 := [_, _, _, some (.int (_ + 1)), _]) rfl ?_
      refine xt_pure rfl rfl rfl rfl ?_
      exact hk16 hol2 h
    · replace h := zif_f (p := x39.toInt ≤ l4.toInt) hb h
      refine xt_pure rfl rfl rfl rfl ?_
      refine xt_pure rfl rfl rfl rfl ?_
      refine xt_getf rfl rfl (zmr q4l2) ?_
      refine xt_pure rfl rfl rfl (st1 := .int 6 :: _) rfl ?_
      refine xt_pure rfl rfl rfl rfl ?_
      refine xt_pure rfl rfl rfl rfl ?_
      refine xt_pure rfl rfl rfl rfl ?_
      refine xt_pure rfl rfl rfl rfl ?_
      obtain ⟨x40, hx40, h⟩ := zgi h
      refine zr_ild (l := ol2.2.2.2.2) rfl rfl (zmr q7l2) hx40 ?_
      refine xt_pure rfl rfl rfl rfl ?_
      refine xt_pure rfl rfl rfl (st1 := .int 4 :: _) rfl ?_
      obtain ⟨_, S42, hc43, h⟩ := zbi h
      refine zt_Vv rfl rfl rfl rfl (xmC 176 rfl) ⟨rfl, rfl, yle rfl, yle rfl⟩ (m := 5) rfl ⟨by omega, by omega⟩ (trK_tellL (by omega) (by omega) hc43) (fr1 := fr - 1) (lo1 := lo - 24) ?_
      refine xt_pure rfl rfl rfl (L1 := [_, _, _, _, some (.int (_ + 1))]) rfl ?_
      refine xt_pure rfl rfl rfl rfl ?_
      exact ih hol2 h
def rK_tellAnswer_16  (N : Nat)  : Nat → zH → Int32 → zS → Option (Unit × zS)
  | 0, _, _, _ => none
  | n + 1, ol2, l3, S => (if ol2.2.1.toInt ≤ l3.toInt then (zb (rK_tellL N ((zI S 2).toInt64) 2 S) fun _ S11 => some ((), S11)) else (if ol2.1 ≠ (4 : Int32) then (if ol2.1 = (5 : Int32) then (zg (gI ol2.2.2.1 l3) fun x13 => (zb (rK_tell N (x13.toInt32 + 1) S) fun _ S15 => (rK_tellAnswer_16 N n) ol2 (l3 + 1) S15)) else (if ol2.1 ≠ (6 : Int32) then (zg (gI ol2.2.2.1 l3) fun x17 => (if ol2.1 ≠ (1 : Int32) then (if ol2.1 ≠ (2 : Int32) then (if ol2.1 ≠ (3 : Int32) then (zb (rK_tellL N x17 1 S) fun _ S19 => (rK_tellAnswer_16 N n) ol2 (l3 + 1) S19) else (zb (rK_tellL N x17 2 S) fun _ S22 => (rK_tellAnswer_16 N n) ol2 (l3 + 1) S22)) else (zb (rK_tellL N x17 8 S) fun _ S25 => (rK_tellAnswer_16 N n) ol2 (l3 + 1) S25)) else (zb (rK_tellL N x17 4 S) fun _ S28 => (rK_tellAnswer_16 N n) ol2 (l3 + 1) S28))) else (zg (gI ol2.2.2.1 l3) fun x30 => (zb (rK_tell N (x30.toInt32 + 1) S) fun _ S32 => (rK_tellAnswer_16 N n) ol2 (l3 + 1) S32)))) else (zg (gI ol2.2.2.2.1 l3) fun x34 => (if 0 ≤ x34.toInt then (zg (gI ol2.2.2.2.1 l3) fun x35 => (zb (rK_tell N x35 S) fun _ S37 => rK_tellAnswer_39 N (rK_tellAnswer_16 N n) N ol2 l3 0 S37)) else (zb (rK_tell N 255 S) fun _ S45 => rK_tellAnswer_39 N (rK_tellAnswer_16 N n) N ol2 l3 0 S45)))))
theorem trK_tellAnswer_16 {X : List Int32} {D0 : List xE}   {N fr lo : Nat}   (hf : 2 ≤ fr) (hl : 45 ≤ lo)  : ∀ {n : Nat} {oal2 : Nat} {ol2 : zH}  {l3 : Int32} {d1 : Int32} {u4 : Option Value} {S S2 : zS} {r : Unit} (hol2 : zOM D0 oal2 ol2), rK_tellAnswer_16 N n ol2 l3 S = some (r, S2) → yT X fr lo 280 16 [some (.ref 209), some (.int d1), some (.ref oal2), some (.int l3), u4] [] (zD zTL zaL S D0) 0 0 (zQv zTL zaL D0 r S2) := by
  intro n
  induction n with
  | zero =>
    intro oal2 ol2 l3 d1 u4 S S2 r hol2  h
    have h : (none : Option (Unit × zS)) = some (r, S2) := h
    cases h
  | succ n ih =>
    intro oal2 ol2 l3 d1 u4 S S2 r hol2  h
    rw [rK_tellAnswer_16] at h
    have hkl2 := hol2
    obtain ⟨ial2, ral2, cal2, q0l2, q1l2, q2l2, q3l2, q4l2, q5l2, q6l2, q7l2⟩ := hkl2
    refine xt_pure rfl rfl rfl rfl ?_
    refine xt_pure rfl rfl rfl rfl ?_
    refine xt_getf rfl rfl (zmr q1l2) ?_
    refine xt_ic rfl rfl (fun hb => ?_) (fun hb => ?_)
    · replace h := zif_t (p := ol2.2.1.toInt ≤ l3.toInt) hb h
      refine xt_pure rfl rfl rfl rfl ?_
      refine xt_pure rfl rfl rfl rfl ?_
      refine zt_gI 2 rfl rfl rfl rfl (x := (zI S 2)) rfl ?_
      refine xt_pure rfl rfl rfl rfl ?_
      refine xt_pure rfl rfl rfl (st1 := .int 2 :: _) rfl ?_
      obtain ⟨_, S11, hc12, h⟩ := zbi h
      refine zt_Vv rfl rfl rfl rfl (xmC 176 rfl) ⟨rfl, rfl, yle rfl, yle rfl⟩ (m := 5) rfl ⟨by omega, by omega⟩ (trK_tellL (by omega) (by omega) hc12) (fr1 := fr - 1) (lo1 := lo - 24) ?_
      cases h
      exact xt_vret rfl rfl rfl ⟨rfl, rfl⟩
    · replace h := zif_f (p := ol2.2.1.toInt ≤ l3.toInt) hb h
      refine xt_pure rfl rfl rfl rfl ?_
      refine xt_getf rfl rfl (zmr q0l2) ?_
      refine xt_pure rfl rfl rfl (st1 := .int 4 :: _) rfl ?_
      refine xt_ic rfl rfl (fun hb => ?_) (fun hb => ?_)
      · replace h := zif_t (p := ol2.1 ≠ (4 : Int32)) hb h
        refine xt_pure rfl rfl rfl rfl ?_
        refine xt_getf rfl rfl (zmr q0l2) ?_
        refine xt_pure rfl rfl rfl (st1 := .int 5 :: _) rfl ?_
        refine xt_ic rfl rfl (fun hb => ?_) (fun hb => ?_)
        · replace h := zif_t (p := ol2.1 = (5 : Int32)) hb h
          refine xt_pure rfl rfl rfl rfl ?_
          refine xt_pure rfl rfl rfl rfl ?_
          refine xt_getf rfl rfl (zmr q2l2) ?_
          refine xt_pure rfl rfl rfl rfl ?_
          obtain ⟨x13, hx13, h⟩ := zgi h
          refine zr_lld (l := ol2.2.2.1) rfl rfl (zmr q5l2) hx13 ?_
          refine xt_pure rfl rfl rfl rfl ?_
          refine xt_pure rfl rfl rfl (st1 := .int 1 :: _) rfl ?_
          refine xt_pure rfl rfl rfl rfl ?_
          obtain ⟨_, S15, hc16, h⟩ := zbi h
          refine zt_Vv rfl rfl rfl rfl (xmC 176 rfl) ⟨rfl, rfl, yle rfl, yle rfl⟩ (m := 2) rfl ⟨by omega, by omega⟩ (trK_tell (by omega) (by omega) hc16) (fr1 := fr - 1) (lo1 := lo - 21) ?_
          refine xt_pure rfl rfl rfl rfl ?_
          refine xt_pure rfl rfl rfl (L1 := [_, _, _, some (.int (_ + 1)), _]) rfl ?_
          refine xt_pure rfl rfl rfl rfl ?_
          exact ih hol2 h
        · replace h := zif_f (p := ol2.1 = (5 : Int32)) hb h
          refine xt_pure rfl rfl rfl rfl ?_
          refine xt_getf rfl rfl (zmr q0l2) ?_
          refine xt_pure rfl rfl rfl (st1 := .int 6 :: _) rfl ?_
          refine xt_ic rfl rfl (fun hb => ?_) (fun hb => ?_)
          · replace h := zif_t (p := ol2.1 ≠ (6 : Int32)) hb h
            refine xt_pure rfl rfl rfl rfl ?_
            refine xt_pure rfl rfl rfl rfl ?_
            refine xt_getf rfl rfl (zmr q2l2) ?_
            refine xt_pure rfl rfl rfl rfl ?_
            obtain ⟨x17, hx17, h⟩ := zgi h
            refine zr_lld (l := ol2.2.2.1) rfl rfl (zmr q5l2) hx17 ?_
            refine xt_pure rfl rfl rfl rfl ?_
            refine xt_getf rfl rfl (zmr q0l2) ?_
            refine xt_pure rfl rfl rfl (st1 := .int 1 :: _) rfl ?_
            refine xt_ic rfl rfl (fun hb => ?_) (fun hb => ?_)
            · replace h := zif_t (p := ol2.1 ≠ (1 : Int32)) hb h
              refine xt_pure rfl rfl rfl rfl ?_
              refine xt_getf rfl rfl (zmr q0l2) ?_
              refine xt_pure rfl rfl rfl (st1 := .int 2 :: _) rfl ?_
              refine xt_ic rfl rfl (fun hb => ?_) (fun hb => ?_)
              · replace h := zif_t (p := ol2.1 ≠ (2 : Int32)) hb h
                refine xt_pure rfl rfl rfl rfl ?_
                refine xt_getf rfl rfl (zmr q0l2) ?_
                refine xt_pure rfl rfl rfl (st1 := .int 3 :: _) rfl ?_
                refine xt_ic rfl rfl (fun hb => ?_) (fun hb => ?_)
                · replace h := zif_t (p := ol2.1 ≠ (3 : Int32)) hb h
                  refine xt_pure rfl rfl rfl (st1 := .int 1 :: _) rfl ?_
                  obtain ⟨_, S19, hc20, h⟩ := zbi h
                  refine zt_Vv rfl rfl rfl rfl (xmC 176 rfl) ⟨rfl, rfl, yle rfl, yle rfl⟩ (m := 5) rfl ⟨by omega, by omega⟩ (trK_tellL (by omega) (by omega) hc20) (fr1 := fr - 1) (lo1 := lo - 24) ?_
                  refine xt_pure rfl rfl rfl (L1 := [_, _, _, some (.int (_ + 1)), _]) rfl ?_
                  refine xt_pure rfl rfl rfl rfl ?_
                  exact ih hol2 h
                · replace h := zif_f (p := ol2.1 ≠ (3 : Int32)) hb h
                  refine xt_pure rfl rfl rfl (st1 := .int 2 :: _) rfl ?_
                  refine xt_pure rfl rfl rfl rfl ?_
                  obtain ⟨_, S22, hc23, h⟩ := zbi h
                  refine zt_Vv rfl rfl rfl rfl (xmC 176 rfl) ⟨rfl, rfl, yle rfl, yle rfl⟩ (m := 5) rfl ⟨by omega, by omega⟩ (trK_tellL (by omega) (by omega) hc23) (fr1 := fr - 1) (lo1 := lo - 24) ?_
                  refine xt_pure rfl rfl rfl (L1 := [_, _, _, some (.int (_ + 1)), _]) rfl ?_
                  refine xt_pure rfl rfl rfl rfl ?_
                  exact ih hol2 h
              · replace h := zif_f (p := ol2.1 ≠ (2 : Int32)) hb h
                refine xt_pure rfl rfl rfl (st1 := .int 8 :: _) rfl ?_
                refine xt_pure rfl rfl rfl rfl ?_
                obtain ⟨_, S25, hc26, h⟩ := zbi h
                refine zt_Vv rfl rfl rfl rfl (xmC 176 rfl) ⟨rfl, rfl, yle rfl, yle rfl⟩ (m := 5) rfl ⟨by omega, by omega⟩ (trK_tellL (by omega) (by omega) hc26) (fr1 := fr - 1) (lo1 := lo - 24) ?_
                refine xt_pure rfl rfl rfl (L1 := [_, _, _, some (.int (_ + 1)), _]) rfl ?_
                refine xt_pure rfl rfl rfl rfl ?_
                exact ih hol2 h
            · replace h := zif_f (p := ol2.1 ≠ (1 : Int32)) hb h
              refine xt_pure rfl rfl rfl (st1 := .int 4 :: _) rfl ?_
              refine xt_pure rfl rfl rfl rfl ?_
              obtain ⟨_, S28, hc29, h⟩ := zbi h
              refine zt_Vv rfl rfl rfl rfl (xmC 176 rfl) ⟨rfl, rfl, yle rfl, yle rfl⟩ (m := 5) rfl ⟨by omega, by omega⟩ (trK_tellL (by omega) (by omega) hc29) (fr1 := fr - 1) (lo1 := lo - 24) ?_
              refine xt_pure rfl rfl rfl (L1 := [_, _, _, some (.int (_ + 1)), _]) rfl ?_
              refine xt_pure rfl rfl rfl rfl ?_
              exact ih hol2 h
          · replace h := zif_f (p := ol2.1 ≠ (6 : Int32)) hb h
            refine xt_pure rfl rfl rfl rfl ?_
            refine xt_pure rfl rfl rfl rfl ?_
            refine xt_getf rfl rfl (zmr q2l2) ?_
            refine xt_pure rfl rfl rfl rfl ?_
            obtain ⟨x30, hx30, h⟩ := zgi h
            refine zr_lld (l := ol2.2.2.1) rfl rfl (zmr q5l2) hx30 ?_
            refine xt_pure rfl rfl rfl rfl ?_
            refine xt_pure rfl rfl rfl (st1 := .int 1 :: _) rfl ?_
            refine xt_pure rfl rfl rfl rfl ?_
            obtain ⟨_, S32, hc33, h⟩ := zbi h
            refine zt_Vv rfl rfl rfl rfl (xmC 176 rfl) ⟨rfl, rfl, yle rfl, yle rfl⟩ (m := 2) rfl ⟨by omega, by omega⟩ (trK_tell (by omega) (by omega) hc33) (fr1 := fr - 1) (lo1 := lo - 21) ?_
            refine xt_pure rfl rfl rfl rfl ?_
            refine xt_pure rfl rfl rfl (L1 := [_, _, _, some (.int (_ + 1)), _]) rfl ?_
            refine xt_pure rfl rfl rfl rfl ?_
            exact ih hol2 h
      · replace h := zif_f (p := ol2.1 ≠ (4 : Int32)) hb h
        refine xt_pure rfl rfl rfl rfl ?_
        refine xt_pure rfl rfl rfl rfl ?_
        refine xt_getf rfl rfl (zmr q3l2) ?_
        refine xt_pure rfl rfl rfl rfl ?_
        obtain ⟨x34, hx34, h⟩ := zgi h
        refine zr_ild (l := ol2.2.2.2.1) rfl rfl (zmr q6l2) hx34 ?_
        refine xt_if rfl rfl (fun hb => ?_) (fun hb => ?_)
        · replace h := zif_t (p := 0 ≤ x34.toInt) hb h
          refine xt_pure rfl rfl rfl rfl ?_
          refine xt_getf rfl rfl (zmr q3l2) ?_
          refine xt_pure rfl rfl rfl rfl ?_
          obtain ⟨x35, hx35, h⟩ := zgi h
          refine zr_ild (l := ol2.2.2.2.1) rfl rfl (zmr q6l2) hx35 ?_
          obtain ⟨_, S37, hc38, h⟩ := zbi h
          refine zt_Vv rfl rfl rfl rfl (xmC 176 rfl) ⟨rfl, rfl, yle rfl, yle rfl⟩ (m := 2) rfl ⟨by omega, by omega⟩ (trK_tell (by omega) (by omega) hc38) (fr1 := fr - 1) (lo1 := lo - 21) ?_
          refine xt_pure rfl rfl rfl (st1 := .int 0 :: _) rfl ?_
          refine xt_pure rfl rfl rfl (L1 := [_, _, _, _, _]) rfl ?_
          exact trK_tellAnswer_39 (fun hol2 h => ih hol2 h) hf hl hol2 h
        · replace h := zif_f (p := 0 ≤ x34.toInt) hb h
          refine xt_pure rfl rfl rfl (st1 := .int 255 :: _) rfl ?_
          refine xt_pure rfl rfl rfl rfl ?_
          obtain ⟨_, S45, hc46, h⟩ := zbi h
          refine zt_Vv rfl rfl rfl rfl (xmC 176 rfl) ⟨rfl, rfl, yle rfl, yle rfl⟩ (m := 2) rfl ⟨by omega, by omega⟩ (trK_tell (by omega) (by omega) hc46) (fr1 := fr - 1) (lo1 := lo - 21) ?_
          refine xt_pure rfl rfl rfl (st1 := .int 0 :: _) rfl ?_
          refine xt_pure rfl rfl rfl (L1 := [_, _, _, _, _]) rfl ?_
          exact trK_tellAnswer_39 (fun hol2 h => ih hol2 h) hf hl hol2 h
def rK_tellAnswer  (N : Nat) (v1 : Int32) (op2 : zH) (S : zS) : Option (Unit × zS) := (zb (rK_tell N v1 (zsI S 2 0)) fun _ S2 => (zb (rK_tell N op2.1 S2) fun _ S5 => (zb (rK_tell N op2.2.1 S5) fun _ S8 => rK_tellAnswer_16 N N op2 0 S8)))
theorem trK_tellAnswer {X : List Int32} {D0 : List xE}   {N fr lo : Nat} (hf : 2 ≤ fr) (hl : 45 ≤ lo) {v1 : Int32} {oap2 : Nat} {op2 : zH}  {S S2 : zS} {r : Unit} (hop2 : zOM D0 oap2 op2) (h : rK_tellAnswer N v1 op2 S = some (r, S2)) : yK X fr lo 280 [.ref 209, .int v1, .ref oap2] (zD zTL zaL S D0) 0 0 (zQv zTL zaL D0 r S2) := by
  unfold rK_tellAnswer at h
  have hkp2 := hop2
  obtain ⟨iap2, rap2, cap2, q0p2, q1p2, q2p2, q3p2, q4p2, q5p2, q6p2, q7p2⟩ := hkp2
  refine yK.of rfl (yle rfl) (L := [_, _, _, _, _]) rfl ?_
  refine xt_pure rfl rfl rfl rfl ?_
  refine xt_pure rfl rfl rfl (st1 := .int 0 :: _) rfl ?_
  refine zt_pI 2 rfl rfl rfl rfl rfl rfl ?_
  refine xt_pure rfl rfl rfl rfl ?_
  refine xt_pure rfl rfl rfl rfl ?_
  obtain ⟨_, S2, hc3, h⟩ := zbi h
  refine zt_Vv rfl rfl rfl rfl (xmC 176 rfl) ⟨rfl, rfl, yle rfl, yle rfl⟩ (m := 2) rfl ⟨by omega, by omega⟩ (trK_tell (by omega) (by omega) hc3) (fr1 := fr - 1) (lo1 := lo - 21) ?_
  refine xt_pure rfl rfl rfl rfl ?_
  refine xt_pure rfl rfl rfl rfl ?_
  refine xt_getf rfl rfl (zmr q0p2) ?_
  obtain ⟨_, S5, hc6, h⟩ := zbi h
  refine zt_Vv rfl rfl rfl rfl (xmC 176 rfl) ⟨rfl, rfl, yle rfl, yle rfl⟩ (m := 2) rfl ⟨by omega, by omega⟩ (trK_tell (by omega) (by omega) hc6) (fr1 := fr - 1) (lo1 := lo - 21) ?_
  refine xt_pure rfl rfl rfl rfl ?_
  refine xt_pure rfl rfl rfl rfl ?_
  refine xt_getf rfl rfl (zmr q1p2) ?_
  obtain ⟨_, S8, hc9, h⟩ := zbi h
  refine zt_Vv rfl rfl rfl rfl (xmC 176 rfl) ⟨rfl, rfl, yle rfl, yle rfl⟩ (m := 2) rfl ⟨by omega, by omega⟩ (trK_tell (by omega) (by omega) hc9) (fr1 := fr - 1) (lo1 := lo - 21) ?_
  refine xt_pure rfl rfl rfl (st1 := .int 0 :: _) rfl ?_
  refine xt_pure rfl rfl rfl (L1 := [_, _, _, _, _]) rfl ?_
  exact trK_tellAnswer_16 hf hl hop2 h
