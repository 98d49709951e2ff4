/-! MIRRORS: an object that is being made, the reference -/
def zQr (k : Nat) (T : List (Nat × Nat × Nat)) (ad : Nat → Nat) (D0 : List xE) (_ : Unit) (S : zS) : Option Value → List xE → Prop := fun w D => w = some (.ref k) ∧ D = zD T ad S D0
def zTG : List (Nat × Nat × Nat) := [(0, 13, 0), (0, 13, 1), (4, 1, 0), (3, 0, 0), (3, 0, 0), (0, 14, 24), (0, 14, 43), (0, 14, 44), (0, 14, 38), (3, 0, 0)]
def zaG (tb ti tr tc : Nat) (i : Nat) : Nat := ([tb, tb, ti, tr, tc, 209, 209, 209, 209, 247] : List Nat).getD i 0
def zTC : List (Nat × Nat × Nat) := [(0, 13, 0), (0, 13, 1), (4, 1, 0), (3, 0, 0), (3, 0, 0), (0, 14, 24)]
def zaC (tb ti tr tc : Nat) (i : Nat) : Nat := ([tb, tb, ti, tr, tc, 209] : List Nat).getD i 0
def rG_got (gi : Nat → Int32) (ga : Nat → List Int32) (ne : Int32) (sn : List Int32)  (N : Nat)  (S : zS) : Option (Int32 × zS) := (if (zI S 6).toInt < (zI S 8).toInt then (zg (gI (zA S 9) (((zI S 6) + 1) - 1)) fun x1 => some (x1, (zsI S 6 ((zI S 6) + 1)))) else some (0, (zsI S 7 0)))
theorem trG_got {X : List Int32} {D0 : List xE} {tb ti tr tc fa : Nat} {p : Nat → Nat} {gi : Nat → Int32} {ga : Nat → List Int32} {vl : List Int64} {ne : Int32} {sn : List Int32} (hT2 : ((tb, .inl (13, 2, .ref ti)) : xE) ∈ D0) (hT3 : ((tb, .inl (13, 3, .ref tr)) : xE) ∈ D0) (hT4 : ((tb, .inl (13, 4, .ref tc)) : xE) ∈ D0) (hNe : ((209, .inl (14, 19, .int ne)) : xE) ∈ D0) (hSn : ((236, .inr (0, sn.map Value.int)) : xE) ∈ D0) (hG : ∀ e ∈ zgF fa p gi ga vl, e ∈ D0)  {N fr lo : Nat} (hf : 0 ≤ fr) (hl : 0 ≤ lo)  {S S2 : zS} {r : Int32}  (h : rG_got gi ga ne sn N  S = some (r, S2)) : yK X fr lo 288 [.ref 209] (zD zTG (zaG tb ti tr tc) S D0) 0 0 (zQi zTG (zaG tb ti tr tc) D0 r S2) := by
  unfold rG_got at h
  refine yK.of rfl (yle rfl) (L := [_]) rfl ?_
  refine xt_pure rfl rfl rfl rfl ?_
  refine zt_gI 6 rfl rfl rfl rfl (x := (zI S 6)) rfl ?_
  refine xt_pure rfl rfl rfl rfl ?_
  refine zt_gI 8 rfl rfl rfl rfl (x := (zI S 8)) rfl ?_
  refine xt_ic rfl rfl (fun hb => ?_) (fun hb => ?_)
  · replace h := zif_t (p := (zI S 6).toInt < (zI S 8).toInt) hb h
    refine xt_pure rfl rfl rfl rfl ?_
    refine xt_pure rfl rfl rfl rfl ?_
    refine zt_gI 6 rfl rfl rfl rfl (x := (zI S 6)) rfl ?_
    refine xt_pure rfl rfl rfl (st1 := .int 1 :: _) rfl ?_
    refine xt_pure rfl rfl rfl rfl ?_
    refine zt_pI 6 rfl rfl rfl rfl rfl rfl ?_
    refine xt_pure rfl rfl rfl rfl ?_
    refine xt_getf rfl rfl (xmC 196 rfl) ?_
    refine xt_pure rfl rfl rfl rfl ?_
    refine zt_gI 6 rfl rfl rfl rfl (x := ((zI S 6) + 1)) rfl ?_
    refine xt_pure rfl rfl rfl (st1 := .int 1 :: _) rfl ?_
    refine xt_pure rfl rfl rfl rfl ?_
    obtain ⟨x1, hx1, h⟩ := zgi h
    refine zr_ild (l := (zA S 9)) rfl rfl (zmA 9 rfl rfl (l := (zA S 9)) rfl) hx1 ?_
    cases h
    exact xt_iret rfl rfl rfl rfl ⟨rfl, rfl⟩
  · replace h := zif_f (p := (zI S 6).toInt < (zI S 8).toInt) hb h
    refine xt_pure rfl rfl rfl rfl ?_
    refine xt_pure rfl rfl rfl (st1 := .int 0 :: _) rfl ?_
    refine zt_pI 7 rfl rfl rfl rfl rfl rfl ?_
    refine xt_pure rfl rfl rfl (st1 := .int 0 :: _) rfl ?_
    cases h
    exact xt_iret rfl rfl rfl rfl ⟨rfl, rfl⟩
def rG_gotL_4 (gi : Nat → Int32) (ga : Nat → List Int32) (ne : Int32) (sn : List Int32)  (N : Nat)  : Nat → Int32 → Int64 → Int32 → zS → Option (Int64 × zS)
  | 0, _, _, _, _ => none
  | n + 1, l1, l2, l4, S => (if l1.toInt ≤ l4.toInt then some (l2, S) else (zb (rG_got gi ga ne sn N  S) fun x1 S2 => (rG_gotL_4 gi ga ne sn N n) l1 ((l2 <<< ((8 : Int32).toInt64 &&& 63)) ||| x1.toInt64) (l4 + 1) S2))
theorem trG_gotL_4 {X : List Int32} {D0 : List xE} {tb ti tr tc fa : Nat} {p : Nat → Nat} {gi : Nat → Int32} {ga : Nat → List Int32} {vl : List Int64} {ne : Int32} {sn : List Int32} (hT2 : ((tb, .inl (13, 2, .ref ti)) : xE) ∈ D0) (hT3 : ((tb, .inl (13, 3, .ref tr)) : xE) ∈ D0) (hT4 : ((tb, .inl (13, 4, .ref tc)) : xE) ∈ D0) (hNe : ((209, .inl (14, 19, .int ne)) : xE) ∈ D0) (hSn : ((236, .inr (0, sn.map Value.int)) : xE) ∈ D0) (hG : ∀ e ∈ zgF fa p gi ga vl, e ∈ D0)  {N fr lo : Nat}   (hf : 1 ≤ fr) (hl : 20 ≤ lo)  : ∀ {n : Nat} {l1 : Int32} {l2 : Int64} {l4 : Int32}  {S S2 : zS} {r : Int64} , rG_gotL_4 gi ga ne sn N n l1 l2 l4 S = some (r, S2) → yT X fr lo 292 4 [some (.ref 209), some (.int l1), some (.long l2), none, some (.int l4)] [] (zD zTG (zaG tb ti tr tc) S D0) 0 0 (zQl zTG (zaG tb ti tr tc) D0 r S2) := by
  intro n
  induction n with
  | zero =>
    intro l1 l2 l4  S S2 r  h
    have h : (none : Option (Int64 × zS)) = some (r, S2) := h
    cases h
  | succ n ih =>
    intro l1 l2 l4  S S2 r  h
    rw [rG_gotL_4] at h
    refine xt_pure rfl rfl rfl rfl ?_
    refine xt_pure rfl rfl rfl rfl ?_
    refine xt_ic rfl rfl (fun hb => ?_) (fun hb => ?_)
    · replace h := zif_t (p := l1.toInt ≤ l4.toInt) hb h
      refine xt_pure rfl rfl rfl rfl ?_
      cases h
      exact xt_lret rfl rfl rfl ⟨rfl, rfl⟩
    · replace h := zif_f (p := l1.toInt ≤ l4.toInt) hb h
      refine xt_pure rfl rfl rfl rfl ?_
      refine xt_pure rfl rfl rfl (st1 := .int 8 :: _) rfl ?_
      refine xt_pure rfl rfl rfl rfl ?_
      refine xt_pure rfl rfl rfl rfl ?_
      obtain ⟨x1, S2, hc3, h⟩ := zbi h
      refine zt_Vi rfl rfl rfl rfl (xmC 176 rfl) ⟨rfl, rfl, yle rfl, yle rfl⟩ (m := 1) rfl ⟨by omega, by omega⟩ (trG_got hT2 hT3 hT4 hNe hSn hG (by omega) (by omega) hc3) (fr1 := fr - 1) (lo1 := lo - 20) ?_
      refine xt_pure rfl rfl rfl rfl ?_
      refine xt_pure rfl rfl rfl rfl ?_
      refine xt_pure rfl rfl rfl (L1 := [_, _, _, _, _]) rfl ?_
      refine xt_pure rfl rfl rfl (L1 := [_, _, _, _, some (.int (_ + 1))]) rfl ?_
      refine xt_pure rfl rfl rfl rfl ?_
      exact ih h
def rG_gotL (gi : Nat → Int32) (ga : Nat → List Int32) (ne : Int32) (sn : List Int32)  (N : Nat) (v1 : Int32) (S : zS) : Option (Int64 × zS) := rG_gotL_4 gi ga ne sn N N v1 0 0 S
theorem trG_gotL {X : List Int32} {D0 : List xE} {tb ti tr tc fa : Nat} {p : Nat → Nat} {gi : Nat → Int32} {ga : Nat → List Int32} {vl : List Int64} {ne : Int32} {sn : List Int32} (hT2 : ((tb, .inl (13, 2, .ref ti)) : xE) ∈ D0) (hT3 : ((tb, .inl (13, 3, .ref tr)) : xE) ∈ D0) (hT4 : ((tb, .inl (13, 4, .ref tc)) : xE) ∈ D0) (hNe : ((209, .inl (14, 19, .int ne)) : xE) ∈ D0) (hSn : ((236, .inr (0, sn.map Value.int)) : xE) ∈ D0) (hG : ∀ e ∈ zgF fa p gi ga vl, e ∈ D0)  {N fr lo : Nat} (hf : 1 ≤ fr) (hl : 20 ≤ lo) {v1 : Int32} {S S2 : zS} {r : Int64}  (h : rG_gotL gi ga ne sn N v1 S = some (r, S2)) : yK X fr lo 292 [.ref 209, .int v1] (zD zTG (zaG tb ti tr tc) S D0) 0 0 (zQl zTG (zaG tb ti tr tc) D0 r S2) := by
  unfold rG_gotL at h
  refine yK.of rfl (yle rfl) (L := [_, _, _, _, _]) rfl ?_
  refine xt_pure rfl rfl rfl (st1 := .long 0 :: _) rfl ?_
  refine xt_pure rfl rfl rfl (L1 := [_, _, _, _, _]) rfl ?_
  refine xt_pure rfl rfl rfl (st1 := .int 0 :: _) rfl ?_
  refine xt_pure rfl rfl rfl (L1 := [_, _, _, _, _]) rfl ?_
  exact trG_gotL_4 hT2 hT3 hT4 hNe hSn hG hf hl h
def rG_must (gi : Nat → Int32) (ga : Nat → List Int32) (ne : Int32) (sn : List Int32)  (N : Nat) (v1 : Int32) (S : zS) : Option (Unit × zS) := (if (zI S 7) = (0 : Int32) then some ((), (zsI S 7 0)) else (if v1 = (0 : Int32) then some ((), (zsI S 7 0)) else some ((), (zsI S 7 1))))
theorem trG_must {X : List Int32} {D0 : List xE} {tb ti tr tc fa : Nat} {p : Nat → Nat} {gi : Nat → Int32} {ga : Nat → List Int32} {vl : List Int64} {ne : Int32} {sn : List Int32} (hT2 : ((tb, .inl (13, 2, .ref ti)) : xE) ∈ D0) (hT3 : ((tb, .inl (13, 3, .ref tr)) : xE) ∈ D0) (hT4 : ((tb, .inl (13, 4, .ref tc)) : xE) ∈ D0) (hNe : ((209, .inl (14, 19, .int ne)) : xE) ∈ D0) (hSn : ((236, .inr (0, sn.map Value.int)) : xE) ∈ D0) (hG : ∀ e ∈ zgF fa p gi ga vl, e ∈ D0)  {N fr lo : Nat} (hf : 0 ≤ fr) (hl : 0 ≤ lo) {v1 : Int32} {S S2 : zS} {r : Unit}  (h : rG_must gi ga ne sn N v1 S = some (r, S2)) : yK X fr lo 289 [.ref 209, .int v1] (zD zTG (zaG tb ti tr tc) S D0) 0 0 (zQv zTG (zaG tb ti tr tc) D0 r S2) := by
  unfold rG_must at h
  refine yK.of rfl (yle rfl) (L := [_, _]) rfl ?_
  refine xt_pure rfl rfl rfl rfl ?_
  refine xt_pure rfl rfl rfl rfl ?_
  refine zt_gI 7 rfl rfl rfl rfl (x := (zI S 7)) rfl ?_
  refine xt_if rfl rfl (fun hb => ?_) (fun hb => ?_)
  · replace h := zif_t (p := (zI S 7) = (0 : Int32)) hb h
    refine xt_pure rfl rfl rfl (st1 := .int 0 :: _) rfl ?_
    refine zt_pI 7 rfl rfl rfl rfl rfl rfl ?_
    cases h
    exact xt_vret rfl rfl rfl ⟨rfl, rfl⟩
  · replace h := zif_f (p := (zI S 7) = (0 : Int32)) hb h
    refine xt_pure rfl rfl rfl rfl ?_
    refine xt_if rfl rfl (fun hb => ?_) (fun hb => ?_)
    · replace h := zif_t (p := v1 = (0 : Int32)) hb h
      refine xt_pure rfl rfl rfl (st1 := .int 0 :: _) rfl ?_
      refine zt_pI 7 rfl rfl rfl rfl rfl rfl ?_
      cases h
      exact xt_vret rfl rfl rfl ⟨rfl, rfl⟩
    · replace h := zif_f (p := v1 = (0 : Int32)) hb h
      refine xt_pure rfl rfl rfl (st1 := .int 1 :: _) rfl ?_
      refine xt_pure rfl rfl rfl rfl ?_
      refine zt_pI 7 rfl rfl rfl rfl rfl rfl ?_
      cases h
      exact xt_vret rfl rfl rfl ⟨rfl, rfl⟩
def rG_gotItem_147 (gi : Nat → Int32) (ga : Nat → List Int32) (ne : Int32) (sn : List Int32)  (N : Nat)  (l2 : Int32) (l3 : Int64) (s1 : Int32) (S : zS) : Option (Unit × zS) := (zb (rG_must gi ga ne sn N s1 S) fun _ S5 => (if (zI S5 0) ≠ (1 : Int32) then (if zok (zB S5 2) l2 then some ((), (zsB S5 2 (zs (zB S5 2) l2 l3))) else none) else (if zok (zB S5 2) l2 then some ((), (zsB S5 2 (zs (zB S5 2) l2 l3.toInt32.toInt64))) else none)))
theorem trG_gotItem_147 {X : List Int32} {D0 : List xE} {tb ti tr tc fa : Nat} {p : Nat → Nat} {gi : Nat → Int32} {ga : Nat → List Int32} {vl : List Int64} {ne : Int32} {sn : List Int32} (hT2 : ((tb, .inl (13, 2, .ref ti)) : xE) ∈ D0) (hT3 : ((tb, .inl (13, 3, .ref tr)) : xE) ∈ D0) (hT4 : ((tb, .inl (13, 4, .ref tc)) : xE) ∈ D0) (hNe : ((209, .inl (14, 19, .int ne)) : xE) ∈ D0) (hSn : ((236, .inr (0, sn.map Value.int)) : xE) ∈ D0) (hG : ∀ e ∈ zgF fa p gi ga vl, e ∈ D0)  {N fr lo : Nat}   (hf : 2 ≤ fr) (hl : 44 ≤ lo) {l2 : Int32} {l3 : Int64} {s1 : Int32}  {S S2 : zS} {r : Unit}  (h : rG_gotItem_147 gi ga ne sn N l2 l3 s1 S = some (r, S2)) : yT X fr lo 291 147 [some (.ref 209), some (.ref tb), some (.int l2), some (.long l3), none] [.int s1, .ref 209] (zD zTG (zaG tb ti tr tc) S D0) 0 0 (zQv zTG (zaG tb ti tr tc) D0 r S2) := by
  unfold rG_gotItem_147 at h
  obtain ⟨_, S5, hc6, h⟩ := zbi h
  refine zt_Vv rfl rfl rfl rfl (xmC 176 rfl) ⟨rfl, rfl, yle rfl, yle rfl⟩ (m := 2) rfl ⟨by omega, by omega⟩ (trG_must hT2 hT3 hT4 hNe hSn hG (by omega) (by omega) hc6) (fr1 := fr - 1) (lo1 := lo - 21) ?_
  refine xt_pure rfl rfl rfl rfl ?_
  refine xt_getf rfl rfl (zmr hT2) ?_
  refine xt_pure rfl rfl rfl rfl ?_
  refine xt_pure rfl rfl rfl rfl ?_
  refine zt_gI 0 rfl rfl rfl rfl (x := (zI S5 0)) rfl ?_
  refine xt_pure rfl rfl rfl (st1 := .int 1 :: _) rfl ?_
  refine xt_ic rfl rfl (fun hb => ?_) (fun hb => ?_)
  · replace h := zif_t (p := (zI S5 0) ≠ (1 : Int32)) hb h
    refine xt_pure rfl rfl rfl rfl ?_
    obtain ⟨hg, h⟩ := zgd h
    refine zt_lst 2 rfl rfl rfl rfl (l := (zB S5 2)) rfl hg ?_
    cases h
    exact xt_vret rfl rfl rfl ⟨rfl, rfl⟩
  · replace h := zif_f (p := (zI S5 0) ≠ (1 : Int32)) hb h
    refine xt_pure rfl rfl rfl rfl ?_
    refine xt_pure rfl rfl rfl rfl ?_
    refine xt_pure rfl rfl rfl rfl ?_
    refine xt_pure rfl rfl rfl rfl ?_
    obtain ⟨hg, h⟩ := zgd h
    refine zt_lst 2 rfl rfl rfl rfl (l := (zB S5 2)) rfl hg ?_
    cases h
    exact xt_vret rfl rfl rfl ⟨rfl, rfl⟩
def rG_gotItem_134 (gi : Nat → Int32) (ga : Nat → List Int32) (ne : Int32) (sn : List Int32)  (N : Nat)  (l2 : Int32) (s1 : Int32) (S : zS) : Option (Unit × zS) := (zb (rG_gotL gi ga ne sn N s1 S) fun x1 S2 => (if 0 < (zI S2 0).toInt then rG_gotItem_147 gi ga ne sn N l2 x1 1 S2 else (if 2 ≤ x1.toInt then rG_gotItem_147 gi ga ne sn N l2 x1 0 S2 else rG_gotItem_147 gi ga ne sn N l2 x1 1 S2)))
theorem trG_gotItem_134 {X : List Int32} {D0 : List xE} {tb ti tr tc fa : Nat} {p : Nat → Nat} {gi : Nat → Int32} {ga : Nat → List Int32} {vl : List Int64} {ne : Int32} {sn : List Int32} (hT2 : ((tb, .inl (13, 2, .ref ti)) : xE) ∈ D0) (hT3 : ((tb, .inl (13, 3, .ref tr)) : xE) ∈ D0) (hT4 : ((tb, .inl (13, 4, .ref tc)) : xE) ∈ D0) (hNe : ((209, .inl (14, 19, .int ne)) : xE) ∈ D0) (hSn : ((236, .inr (0, sn.map Value.int)) : xE) ∈ D0) (hG : ∀ e ∈ zgF fa p gi ga vl, e ∈ D0)  {N fr lo : Nat}   (hf : 2 ≤ fr) (hl : 44 ≤ lo) {l2 : Int32} {s1 : Int32}  {S S2 : zS} {r : Unit}  (h : rG_gotItem_134 gi ga ne sn N l2 s1 S = some (r, S2)) : yT X fr lo 291 134 [some (.ref 209), some (.ref tb), some (.int l2), none, none] [.int s1, .ref 209] (zD zTG (zaG tb ti tr tc) S D0) 0 0 (zQv zTG (zaG tb ti tr tc) D0 r S2) := by
  unfold rG_gotItem_134 at h
  obtain ⟨x1, S2, hc3, h⟩ := zbi h
  refine zt_Vl rfl rfl rfl rfl (xmC 176 rfl) ⟨rfl, rfl, yle rfl, yle rfl⟩ (m := 5) rfl ⟨by omega, by omega⟩ (trG_gotL hT2 hT3 hT4 hNe hSn hG (by omega) (by omega) hc3) (fr1 := fr - 1) (lo1 := lo - 24) ?_
  refine xt_pure rfl rfl rfl (L1 := [_, _, _, _, _]) rfl ?_
  refine xt_pure rfl rfl rfl rfl ?_
  refine xt_pure rfl rfl rfl rfl ?_
  refine zt_gI 0 rfl rfl rfl rfl (x := (zI S2 0)) rfl ?_
  refine xt_if rfl rfl (fun hb => ?_) (fun hb => ?_)
  · replace h := zif_t (p := 0 < (zI S2 0).toInt) hb h
    refine xt_pure rfl rfl rfl (st1 := .int 1 :: _) rfl ?_
    refine xt_pure rfl rfl rfl rfl ?_
    exact trG_gotItem_147 hT2 hT3 hT4 hNe hSn hG hf hl h
  · replace h := zif_f (p := 0 < (zI S2 0).toInt) hb h
    refine xt_pure rfl rfl rfl rfl ?_
    refine xt_pure rfl rfl rfl (st1 := .long 2 :: _) rfl ?_
    refine zt_lc rfl rfl rfl (fun hb => ?_) (fun hb => ?_)
    · replace h := zif_t (p := 2 ≤ x1.toInt) hb h
      refine xt_pure rfl rfl rfl (st1 := .int 0 :: _) rfl ?_
      exact trG_gotItem_147 hT2 hT3 hT4 hNe hSn hG hf hl h
    · replace h := zif_f (p := 2 ≤ x1.toInt) hb h
      refine xt_pure rfl rfl rfl (st1 := .int 1 :: _) rfl ?_
      refine xt_pure rfl rfl rfl rfl ?_
      exact trG_gotItem_147 hT2 hT3 hT4 hNe hSn hG hf hl h
def rG_gotItem_86 (gi : Nat → Int32) (ga : Nat → List Int32) (ne : Int32) (sn : List Int32)  (N : Nat)  (l2 : Int32) (l3 : Int32) (s1 : Int32) (S : zS) : Option (Unit × zS) := (zb (rG_must gi ga ne sn N s1 S) fun _ S11 => (if (zI S11 0) ≠ (6 : Int32) then (zb (rG_must gi ga ne sn N 1 S11) fun _ S14 => (if zok (zB S14 2) l2 then some ((), (zsB S14 2 (zs (zB S14 2) l2 l3.toInt64))) else none)) else (if l3.toInt < 0 then (zb (rG_must gi ga ne sn N 1 S11) fun _ S17 => (if zok (zB S17 2) l2 then some ((), (zsB S17 2 (zs (zB S17 2) l2 l3.toInt64))) else none)) else (if (zI S11 7) = (0 : Int32) then (zb (rG_must gi ga ne sn N 1 S11) fun _ S20 => (if zok (zB S20 2) l2 then some ((), (zsB S20 2 (zs (zB S20 2) l2 l3.toInt64))) else none)) else (zg (gI sn l3) fun x22 => (if x22 = ((-9) : Int32) then (zb (rG_must gi ga ne sn N 0 S11) fun _ S24 => (if zok (zB S24 2) l2 then some ((), (zsB S24 2 (zs (zB S24 2) l2 l3.toInt64))) else none)) else (zb (rG_must gi ga ne sn N 1 S11) fun _ S27 => (if zok (zB S27 2) l2 then some ((), (zsB S27 2 (zs (zB S27 2) l2 l3.toInt64))) else none))))))))
theorem trG_gotItem_86 {X : List Int32} {D0 : List xE} {tb ti tr tc fa : Nat} {p : Nat → Nat} {gi : Nat → Int32} {ga : Nat → List Int32} {vl : List Int64} {ne : Int32} {sn : List Int32} (hT2 : ((tb, .inl (13, 2, .ref ti)) : xE) ∈ D0) (hT3 : ((tb, .inl (13, 3, .ref tr)) : xE) ∈ D0) (hT4 : ((tb, .inl (13, 4, .ref tc)) : xE) ∈ D0) (hNe : ((209, .inl (14, 19, .int ne)) : xE) ∈ D0) (hSn : ((236, .inr (0, sn.map Value.int)) : xE) ∈ D0) (hG : ∀ e ∈ zgF fa p gi ga vl, e ∈ D0)  {N fr lo : Nat}   (hf : 2 ≤ fr) (hl : 44 ≤ lo) {l2 : Int32} {l3 : Int32} {s1 : Int32}  {S S2 : zS} {r : Unit}  (h : rG_gotItem_86 gi ga ne sn N l2 l3 s1 S = some (r, S2)) : yT X fr lo 291 86 [some (.ref 209), some (.ref tb), some (.int l2), some (.int l3), none] [.int s1, .ref 209] (zD zTG (zaG tb ti tr tc) S D0) 0 0 (zQv zTG (zaG tb ti tr tc) D0 r S2) := by
  unfold rG_gotItem_86 at h
  obtain ⟨_, S11, hc12, h⟩ := zbi h
  refine zt_Vv rfl rfl rfl rfl (xmC 176 rfl) ⟨rfl, rfl, yle rfl, yle rfl⟩ (m := 2) rfl ⟨by omega, by omega⟩ (trG_must hT2 hT3 hT4 hNe hSn hG (by omega) (by omega) hc12) (fr1 := fr - 1) (lo1 := lo - 21) ?_
  refine xt_pure rfl rfl rfl rfl ?_
  refine xt_pure rfl rfl rfl rfl ?_
  refine zt_gI 0 rfl rfl rfl rfl (x := (zI S11 0)) rfl ?_
  refine xt_pure rfl rfl rfl (st1 := .int 6 :: _) rfl ?_
  refine xt_ic rfl rfl (fun hb => ?_) (fun hb => ?_)
  · replace h := zif_t (p := (zI S11 0) ≠ (6 : Int32)) hb h
    refine xt_pure rfl rfl rfl (st1 := .int 1 :: _) rfl ?_
    refine xt_pure rfl rfl rfl rfl ?_
    obtain ⟨_, S14, hc15, h⟩ := zbi h
    refine zt_Vv rfl rfl rfl rfl (xmC 176 rfl) ⟨rfl, rfl, yle rfl, yle rfl⟩ (m := 2) rfl ⟨by omega, by omega⟩ (trG_must hT2 hT3 hT4 hNe hSn hG (by omega) (by omega) hc15) (fr1 := fr - 1) (lo1 := lo - 21) ?_
    refine xt_pure rfl rfl rfl rfl ?_
    refine xt_getf rfl rfl (zmr hT2) ?_
    refine xt_pure rfl rfl rfl rfl ?_
    refine xt_pure rfl rfl rfl rfl ?_
    refine xt_pure rfl rfl rfl rfl ?_
    obtain ⟨hg, h⟩ := zgd h
    refine zt_lst 2 rfl rfl rfl rfl (l := (zB S14 2)) rfl hg ?_
    refine xt_pure rfl rfl rfl rfl ?_
    cases h
    exact xt_vret rfl rfl rfl ⟨rfl, rfl⟩
  · replace h := zif_f (p := (zI S11 0) ≠ (6 : Int32)) hb h
    refine xt_pure rfl rfl rfl rfl ?_
    refine xt_if rfl rfl (fun hb => ?_) (fun hb => ?_)
    · replace h := zif_t (p := l3.toInt < 0) hb h
      refine xt_pure rfl rfl rfl (st1 := .int 1 :: _) rfl ?_
      refine xt_pure rfl rfl rfl rfl ?_
      obtain ⟨_, S17, hc18, h⟩ := zbi h
      refine zt_Vv rfl rfl rfl rfl (xmC 176 rfl) ⟨rfl, rfl, yle rfl, yle rfl⟩ (m := 2) rfl ⟨by omega, by omega⟩ (trG_must hT2 hT3 hT4 hNe hSn hG (by omega) (by omega) hc18) (fr1 := fr - 1) (lo1 := lo - 21) ?_
      refine xt_pure rfl rfl rfl rfl ?_
      refine xt_getf rfl rfl (zmr hT2) ?_
      refine xt_pure rfl rfl rfl rfl ?_
      refine xt_pure rfl rfl rfl rfl ?_
      refine xt_pure rfl rfl rfl rfl ?_
      obtain ⟨hg, h⟩ := zgd h
      refine zt_lst 2 rfl rfl rfl rfl (l := (zB S17 2)) rfl hg ?_
      refine xt_pure rfl rfl rfl rfl ?_
      cases h
      exact xt_vret rfl rfl rfl ⟨rfl, rfl⟩
    · replace h := zif_f (p := l3.toInt < 0) hb h
      refine xt_pure rfl rfl rfl rfl ?_
      refine zt_gI 7 rfl rfl rfl rfl (x := (zI S11 7)) rfl ?_
      refine xt_if rfl rfl (fun hb => ?_) (fun hb => ?_)
      · replace h := zif_t (p := (zI S11 7) = (0 : Int32)) hb h
        refine xt_pure rfl rfl rfl (st1 := .int 1 :: _) rfl ?_
        refine xt_pure rfl rfl rfl rfl ?_
        obtain ⟨_, S20, hc21, h⟩ := zbi h
        refine zt_Vv rfl rfl rfl rfl (xmC 176 rfl) ⟨rfl, rfl, yle rfl, yle rfl⟩ (m := 2) rfl ⟨by omega, by omega⟩ (trG_must hT2 hT3 hT4 hNe hSn hG (by omega) (by omega) hc21) (fr1 := fr - 1) (lo1 := lo - 21) ?_
        refine xt_pure rfl rfl rfl rfl ?_
        refine xt_getf rfl rfl (zmr hT2) ?_
        refine xt_pure rfl rfl rfl rfl ?_
        refine xt_pure rfl rfl rfl rfl ?_
        refine xt_pure rfl rfl rfl rfl ?_
        obtain ⟨hg, h⟩ := zgd h
        refine zt_lst 2 rfl rfl rfl rfl (l := (zB S20 2)) rfl hg ?_
        refine xt_pure rfl rfl rfl rfl ?_
        cases h
        exact xt_vret rfl rfl rfl ⟨rfl, rfl⟩
      · replace h := zif_f (p := (zI S11 7) = (0 : Int32)) hb h
        refine xt_pure rfl rfl rfl rfl ?_
        refine xt_getf rfl rfl (xmC 185 rfl) ?_
        refine xt_pure rfl rfl rfl rfl ?_
        obtain ⟨x22, hx22, h⟩ := zgi h
        refine zr_ild (l := sn) rfl rfl (zmr hSn) hx22 ?_
        refine xt_pure rfl rfl rfl (st1 := .int (-9) :: _) rfl ?_
        refine xt_ic rfl rfl (fun hb => ?_) (fun hb => ?_)
        · replace h := zif_t (p := x22 = ((-9) : Int32)) hb h
          refine xt_pure rfl rfl rfl (st1 := .int 0 :: _) rfl ?_
          obtain ⟨_, S24, hc25, h⟩ := zbi h
          refine zt_Vv rfl rfl rfl rfl (xmC 176 rfl) ⟨rfl, rfl, yle rfl, yle rfl⟩ (m := 2) rfl ⟨by omega, by omega⟩ (trG_must hT2 hT3 hT4 hNe hSn hG (by omega) (by omega) hc25) (fr1 := fr - 1) (lo1 := lo - 21) ?_
          refine xt_pure rfl rfl rfl rfl ?_
          refine xt_getf rfl rfl (zmr hT2) ?_
          refine xt_pure rfl rfl rfl rfl ?_
          refine xt_pure rfl rfl rfl rfl ?_
          refine xt_pure rfl rfl rfl rfl ?_
          obtain ⟨hg, h⟩ := zgd h
          refine zt_lst 2 rfl rfl rfl rfl (l := (zB S24 2)) rfl hg ?_
          refine xt_pure rfl rfl rfl rfl ?_
          cases h
          exact xt_vret rfl rfl rfl ⟨rfl, rfl⟩
        · replace h := zif_f (p := x22 = ((-9) : Int32)) hb h
          refine xt_pure rfl rfl rfl (st1 := .int 1 :: _) rfl ?_
          refine xt_pure rfl rfl rfl rfl ?_
          obtain ⟨_, S27, hc28, h⟩ := zbi h
          refine zt_Vv rfl rfl rfl rfl (xmC 176 rfl) ⟨rfl, rfl, yle rfl, yle rfl⟩ (m := 2) rfl ⟨by omega, by omega⟩ (trG_must hT2 hT3 hT4 hNe hSn hG (by omega) (by omega) hc28) (fr1 := fr - 1) (lo1 := lo - 21) ?_
          refine xt_pure rfl rfl rfl rfl ?_
          refine xt_getf rfl rfl (zmr hT2) ?_
          refine xt_pure rfl rfl rfl rfl ?_
          refine xt_pure rfl rfl rfl rfl ?_
          refine xt_pure rfl rfl rfl rfl ?_
          obtain ⟨hg, h⟩ := zgd h
          refine zt_lst 2 rfl rfl rfl rfl (l := (zB S27 2)) rfl hg ?_
          refine xt_pure rfl rfl rfl rfl ?_
          cases h
          exact xt_vret rfl rfl rfl ⟨rfl, rfl⟩
def rG_gotItem_67 (gi : Nat → Int32) (ga : Nat → List Int32) (ne : Int32) (sn : List Int32)  (N : Nat)  (l2 : Int32) (s0 : Int32) (s1 : Int32) (S : zS) : Option (Unit × zS) := (if ne.toInt ≤ (s0 - s1).toInt then rG_gotItem_86 gi ga ne sn N l2 (s0 - s1) 0 S else (if (zI S 0) ≠ (7 : Int32) then (if (s0 - s1).toInt < (-1) then rG_gotItem_86 gi ga ne sn N l2 (s0 - s1) 0 S else rG_gotItem_86 gi ga ne sn N l2 (s0 - s1) 1 S) else (if (s0 - s1).toInt < 0 then rG_gotItem_86 gi ga ne sn N l2 (s0 - s1) 0 S else rG_gotItem_86 gi ga ne sn N l2 (s0 - s1) 1 S)))
theorem trG_gotItem_67 {X : List Int32} {D0 : List xE} {tb ti tr tc fa : Nat} {p : Nat → Nat} {gi : Nat → Int32} {ga : Nat → List Int32} {vl : List Int64} {ne : Int32} {sn : List Int32} (hT2 : ((tb, .inl (13, 2, .ref ti)) : xE) ∈ D0) (hT3 : ((tb, .inl (13, 3, .ref tr)) : xE) ∈ D0) (hT4 : ((tb, .inl (13, 4, .ref tc)) : xE) ∈ D0) (hNe : ((209, .inl (14, 19, .int ne)) : xE) ∈ D0) (hSn : ((236, .inr (0, sn.map Value.int)) : xE) ∈ D0) (hG : ∀ e ∈ zgF fa p gi ga vl, e ∈ D0)  {N fr lo : Nat}   (hf : 2 ≤ fr) (hl : 44 ≤ lo) {l2 : Int32} {s0 : Int32} {s1 : Int32}  {S S2 : zS} {r : Unit}  (h : rG_gotItem_67 gi ga ne sn N l2 s0 s1 S = some (r, S2)) : yT X fr lo 291 67 [some (.ref 209), some (.ref tb), some (.int l2), none, none] [.int s1, .int s0] (zD zTG (zaG tb ti tr tc) S D0) 0 0 (zQv zTG (zaG tb ti tr tc) D0 r S2) := by
  unfold rG_gotItem_67 at h
  refine xt_pure rfl rfl rfl rfl ?_
  refine xt_pure rfl rfl rfl (L1 := [_, _, _, _, _]) rfl ?_
  refine xt_pure rfl rfl rfl rfl ?_
  refine xt_pure rfl rfl rfl rfl ?_
  refine xt_pure rfl rfl rfl rfl ?_
  refine xt_getf rfl rfl (zmr hNe) ?_
  refine xt_ic rfl rfl (fun hb => ?_) (fun hb => ?_)
  · replace h := zif_t (p := ne.toInt ≤ (s0 - s1).toInt) hb h
    refine xt_pure rfl rfl rfl (st1 := .int 0 :: _) rfl ?_
    exact trG_gotItem_86 hT2 hT3 hT4 hNe hSn hG hf hl h
  · replace h := zif_f (p := ne.toInt ≤ (s0 - s1).toInt) hb h
    refine xt_pure rfl rfl rfl rfl ?_
    refine xt_pure rfl rfl rfl rfl ?_
    refine zt_gI 0 rfl rfl rfl rfl (x := (zI S 0)) rfl ?_
    refine xt_pure rfl rfl rfl (st1 := .int 7 :: _) rfl ?_
    refine xt_ic rfl rfl (fun hb => ?_) (fun hb => ?_)
    · replace h := zif_t (p := (zI S 0) ≠ (7 : Int32)) hb h
      refine xt_pure rfl rfl rfl (st1 := .int (-1) :: _) rfl ?_
      refine xt_ic rfl rfl (fun hb => ?_) (fun hb => ?_)
      · replace h := zif_t (p := (s0 - s1).toInt < (-1)) hb h
        refine xt_pure rfl rfl rfl (st1 := .int 0 :: _) rfl ?_
        exact trG_gotItem_86 hT2 hT3 hT4 hNe hSn hG hf hl h
      · replace h := zif_f (p := (s0 - s1).toInt < (-1)) hb h
        refine xt_pure rfl rfl rfl (st1 := .int 1 :: _) rfl ?_
        refine xt_pure rfl rfl rfl rfl ?_
        exact trG_gotItem_86 hT2 hT3 hT4 hNe hSn hG hf hl h
    · replace h := zif_f (p := (zI S 0) ≠ (7 : Int32)) hb h
      refine xt_pure rfl rfl rfl (st1 := .int 0 :: _) rfl ?_
      refine xt_pure rfl rfl rfl rfl ?_
      refine xt_ic rfl rfl (fun hb => ?_) (fun hb => ?_)
      · replace h := zif_t (p := (s0 - s1).toInt < 0) hb h
        refine xt_pure rfl rfl rfl (st1 := .int 0 :: _) rfl ?_
        exact trG_gotItem_86 hT2 hT3 hT4 hNe hSn hG hf hl h
      · replace h := zif_f (p := (s0 - s1).toInt < 0) hb h
        refine xt_pure rfl rfl rfl (st1 := .int 1 :: _) rfl ?_
        refine xt_pure rfl rfl rfl rfl ?_
        exact trG_gotItem_86 hT2 hT3 hT4 hNe hSn hG hf hl h
def rG_gotItem_30 (gi : Nat → Int32) (ga : Nat → List Int32) (ne : Int32) (sn : List Int32)  (N : Nat)  : Nat → Int32 → Int32 → zS → Option (Unit × zS)
  | 0, _, _, _ => none
  | n + 1, l2, l4, S => (zg (gI (zA S 3) l2) fun x35 => (if x35.toInt ≤ l4.toInt then some ((), S) else (if (zI S 7) = (0 : Int32) then some ((), S) else (zb (rG_gotL gi ga ne sn N 4 S) fun x36 S37 => (if zok (zA S37 4) ((6 * l2) + l4) then (rG_gotItem_30 gi ga ne sn N n) l2 (l4 + 1) (zsA S37 4 (zs (zA S37 4) ((6 * l2) + l4) x36.toInt32)) else none)))))
theorem trG_gotItem_30 {X : List Int32} {D0 : List xE} {tb ti tr tc fa : Nat} {p : Nat → Nat} {gi : Nat → Int32} {ga : Nat → List Int32} {vl : List Int64} {ne : Int32} {sn : List Int32} (hT2 : ((tb, .inl (13, 2, .ref ti)) : xE) ∈ D0) (hT3 : ((tb, .inl (13, 3, .ref tr)) : xE) ∈ D0) (hT4 : ((tb, .inl (13, 4, .ref tc)) : xE) ∈ D0) (hNe : ((209, .inl (14, 19, .int ne)) : xE) ∈ D0) (hSn : ((236, .inr (0, sn.map Value.int)) : xE) ∈ D0) (hG : ∀ e ∈ zgF fa p gi ga vl, e ∈ D0)  {N fr lo : Nat}   (hf : 2 ≤ fr) (hl : 44 ≤ lo)  : ∀ {n : Nat} {l2 : Int32} {l4 : Int32} {d3 : Int32} {S S2 : zS} {r : Unit} , rG_gotItem_30 gi ga ne sn N n l2 l4 S = some (r, S2) → yT X fr lo 291 30 [some (.ref 209), some (.ref tb), some (.int l2), some (.int d3), some (.int l4)] [] (zD zTG (zaG tb ti tr tc) S D0) 0 0 (zQv zTG (zaG tb ti tr tc) D0 r S2) := by
  intro n
  induction n with
  | zero =>
    intro l2 l4 d3 S S2 r  h
    have h : (none : Option (Unit × zS)) = some (r, S2) := h
    cases h
  | succ n ih =>
    intro l2 l4 d3 S S2 r  h
    rw [rG_gotItem_30] at h
    refine xt_pure rfl rfl rfl rfl ?_
    refine xt_pure rfl rfl rfl rfl ?_
    refine xt_getf rfl rfl (zmr hT3) ?_
    refine xt_pure rfl rfl rfl rfl ?_
    obtain ⟨x35, hx35, h⟩ := zgi h
    refine zr_ild (l := (zA S 3)) rfl rfl (zmA 3 rfl rfl (l := (zA S 3)) rfl) hx35 ?_
    refine xt_ic rfl rfl (fun hb => ?_) (fun hb => ?_)
    · replace h := zif_t (p := x35.toInt ≤ l4.toInt) hb h
      refine xt_pure rfl rfl rfl rfl ?_
      cases h
      exact xt_vret rfl rfl rfl ⟨rfl, rfl⟩
    · replace h := zif_f (p := x35.toInt ≤ l4.toInt) hb h
      refine xt_pure rfl rfl rfl rfl ?_
      refine zt_gI 7 rfl rfl rfl rfl (x := (zI S 7)) rfl ?_
      refine xt_if rfl rfl (fun hb => ?_) (fun hb => ?_)
      · replace h := zif_t (p := (zI S 7) = (0 : Int32)) hb h
        refine xt_pure rfl rfl rfl rfl ?_
        cases h
        exact xt_vret rfl rfl rfl ⟨rfl, rfl⟩
      · replace h := zif_f (p := (zI S 7) = (0 : Int32)) hb h
        refine xt_pure rfl rfl rfl rfl ?_
        refine xt_getf rfl rfl (zmr hT4) ?_
        refine xt_pure rfl rfl rfl (st1 := .int 6 :: _) rfl ?_
        refine xt_pure rfl rfl rfl rfl ?_
        refine xt_pure rfl rfl rfl rfl ?_
        refine xt_pure rfl rfl rfl rfl ?_
        refine xt_pure rfl rfl rfl rfl ?_
        refine xt_pure rfl rfl rfl rfl ?_
        refine xt_pure rfl rfl rfl (st1 := .int 4 :: _) rfl ?_
        obtain ⟨x36, S37, hc38, h⟩ := zbi h
        refine zt_Vl rfl rfl rfl rfl (xmC 176 rfl) ⟨rfl, rfl, yle rfl, yle rfl⟩ (m := 5) rfl ⟨by omega, by omega⟩ (trG_gotL hT2 hT3 hT4 hNe hSn hG (by omega) (by omega) hc38) (fr1 := fr - 1) (lo1 := lo - 24) ?_
        refine xt_pure rfl rfl rfl rfl ?_
        obtain ⟨hg, h⟩ := zgd h
        refine zt_ist 4 rfl rfl rfl rfl (l := (zA S37 4)) rfl hg ?_
        refine xt_pure rfl rfl rfl (L1 := [_, _, _, _, some (.int (_ + 1))]) rfl ?_
        refine xt_pure rfl rfl rfl rfl ?_
        exact ih h
def rG_gotItem_17 (gi : Nat → Int32) (ga : Nat → List Int32) (ne : Int32) (sn : List Int32)  (N : Nat)  (l2 : Int32) (l3 : Int32) (s1 : Int32) (S : zS) : Option (Unit × zS) := (zb (rG_must gi ga ne sn N s1 S) fun _ S33 => (if l3 ≠ (255 : Int32) then (if zok (zA S33 3) l2 then rG_gotItem_30 gi ga ne sn N N l2 0 (zsA S33 3 (zs (zA S33 3) l2 l3)) else none) else (if zok (zA S33 3) l2 then rG_gotItem_30 gi ga ne sn N N l2 0 (zsA S33 3 (zs (zA S33 3) l2 (-1))) else none)))
theorem trG_gotItem_17 {X : List Int32} {D0 : List xE} {tb ti tr tc fa : Nat} {p : Nat → Nat} {gi : Nat → Int32} {ga : Nat → List Int32} {vl : List Int64} {ne : Int32} {sn : List Int32} (hT2 : ((tb, .inl (13, 2, .ref ti)) : xE) ∈ D0) (hT3 : ((tb, .inl (13, 3, .ref tr)) : xE) ∈ D0) (hT4 : ((tb, .inl (13, 4, .ref tc)) : xE) ∈ D0) (hNe : ((209, .inl (14, 19, .int ne)) : xE) ∈ D0) (hSn : ((236, .inr (0, sn.map Value.int)) : xE) ∈ D0) (hG : ∀ e ∈ zgF fa p gi ga vl, e ∈ D0)  {N fr lo : Nat}   (hf : 2 ≤ fr) (hl : 44 ≤ lo) {l2 : Int32} {l3 : Int32} {s1 : Int32}  {S S2 : zS} {r : Unit}  (h : rG_gotItem_17 gi ga ne sn N l2 l3 s1 S = some (r, S2)) : yT X fr lo 291 17 [some (.ref 209), some (.ref tb), some (.int l2), some (.int l3), none] [.int s1, .ref 209] (zD zTG (zaG tb ti tr tc) S D0) 0 0 (zQv zTG (zaG tb ti tr tc) D0 r S2) := by
  unfold rG_gotItem_17 at h
  obtain ⟨_, S33, hc34, h⟩ := zbi h
  refine zt_Vv rfl rfl rfl rfl (xmC 176 rfl) ⟨rfl, rfl, yle rfl, yle rfl⟩ (m := 2) rfl ⟨by omega, by omega⟩ (trG_must hT2 hT3 hT4 hNe hSn hG (by omega) (by omega) hc34) (fr1 := fr - 1) (lo1 := lo - 21) ?_
  refine xt_pure rfl rfl rfl rfl ?_
  refine xt_getf rfl rfl (zmr hT3) ?_
  refine xt_pure rfl rfl rfl rfl ?_
  refine xt_pure rfl rfl rfl rfl ?_
  refine xt_pure rfl rfl rfl (st1 := .int 255 :: _) rfl ?_
  refine xt_ic rfl rfl (fun hb => ?_) (fun hb => ?_)
  · replace h := zif_t (p := l3 ≠ (255 : Int32)) hb h
    refine xt_pure rfl rfl rfl rfl ?_
    obtain ⟨hg, h⟩ := zgd h
    refine zt_ist 3 rfl rfl rfl rfl (l := (zA S33 3)) rfl hg ?_
    refine xt_pure rfl rfl rfl (st1 := .int 0 :: _) rfl ?_
    refine xt_pure rfl rfl rfl (L1 := [_, _, _, _, _]) rfl ?_
    exact trG_gotItem_30 hT2 hT3 hT4 hNe hSn hG hf hl h
  · replace h := zif_f (p := l3 ≠ (255 : Int32)) hb h
    refine xt_pure rfl rfl rfl (st1 := .int (-1) :: _) rfl ?_
    refine xt_pure rfl rfl rfl rfl ?_
    obtain ⟨hg, h⟩ := zgd h
    refine zt_ist 3 rfl rfl rfl rfl (l := (zA S33 3)) rfl hg ?_
    refine xt_pure rfl rfl rfl (st1 := .int 0 :: _) rfl ?_
    refine xt_pure rfl rfl rfl (L1 := [_, _, _, _, _]) rfl ?_
    exact trG_gotItem_30 hT2 hT3 hT4 hNe hSn hG hf hl h
def rG_gotItem (gi : Nat → Int32) (ga : Nat → List Int32) (ne : Int32) (sn : List Int32)  (N : Nat) (v2 : Int32) (S : zS) : Option (Unit × zS) := (if (zI S 0) ≠ (4 : Int32) then (if (zI S 0).toInt ≤ 4 then (if (zI S 0) ≠ (1 : Int32) then (if (zI S 0) ≠ (2 : Int32) then (if (zI S 0) ≠ (3 : Int32) then rG_gotItem_134 gi ga ne sn N v2 1 S else rG_gotItem_134 gi ga ne sn N v2 2 S) else rG_gotItem_134 gi ga ne sn N v2 8 S) else rG_gotItem_134 gi ga ne sn N v2 4 S) else (zb (rG_got gi ga ne sn N  S) fun x7 S8 => (if (zI S8 0) ≠ (7 : Int32) then rG_gotItem_67 gi ga ne sn N v2 x7 1 S8 else rG_gotItem_67 gi ga ne sn N v2 x7 0 S8))) else (zb (rG_got gi ga ne sn N  S) fun x29 S30 => (if x29 = (255 : Int32) then rG_gotItem_17 gi ga ne sn N v2 x29 1 S30 else (if 6 < x29.toInt then rG_gotItem_17 gi ga ne sn N v2 x29 0 S30 else rG_gotItem_17 gi ga ne sn N v2 x29 1 S30))))
theorem trG_gotItem {X : List Int32} {D0 : List xE} {tb ti tr tc fa : Nat} {p : Nat → Nat} {gi : Nat → Int32} {ga : Nat → List Int32} {vl : List Int64} {ne : Int32} {sn : List Int32} (hT2 : ((tb, .inl (13, 2, .ref ti)) : xE) ∈ D0) (hT3 : ((tb, .inl (13, 3, .ref tr)) : xE) ∈ D0) (hT4 : ((tb, .inl (13, 4, .ref tc)) : xE) ∈ D0) (hNe : ((209, .inl (14, 19, .int ne)) : xE) ∈ D0) (hSn : ((236, .inr (0, sn.map Value.int)) : xE) ∈ D0) (hG : ∀ e ∈ zgF fa p gi ga vl, e ∈ D0)  {N fr lo : Nat} (hf : 2 ≤ fr) (hl : 44 ≤ lo) {v2 : Int32} {S S2 : zS} {r : Unit}  (h : rG_gotItem gi ga ne sn N v2 S = some (r, S2)) : yK X fr lo 291 [.ref 209, .ref tb, .int v2] (zD zTG (zaG tb ti tr tc) S D0) 0 0 (zQv zTG (zaG tb ti tr tc) D0 r S2) := by
  unfold rG_gotItem at h
  refine yK.of rfl (yle rfl) (L := [_, _, _, _, _]) rfl ?_
  refine xt_pure rfl rfl rfl rfl ?_
  refine zt_gI 0 rfl rfl rfl rfl (x := (zI S 0)) rfl ?_
  refine xt_pure rfl rfl rfl (st1 := .int 4 :: _) rfl ?_
  refine xt_ic rfl rfl (fun hb => ?_) (fun hb => ?_)
  · replace h := zif_t (p := (zI S 0) ≠ (4 : Int32)) hb h
    refine xt_pure rfl rfl rfl rfl ?_
    refine zt_gI 0 rfl rfl rfl rfl (x := (zI S 0)) rfl ?_
    refine xt_pure rfl rfl rfl (st1 := .int 4 :: _) rfl ?_
    refine xt_ic rfl rfl (fun hb => ?_) (fun hb => ?_)
    · replace h := zif_t (p := (zI S 0).toInt ≤ 4) hb h
      refine xt_pure rfl rfl rfl rfl ?_
      refine xt_pure rfl rfl rfl rfl ?_
      refine zt_gI 0 rfl rfl rfl rfl (x := (zI S 0)) rfl ?_
      refine xt_pure rfl rfl rfl (st1 := .int 1 :: _) rfl ?_
      refine xt_ic rfl rfl (fun hb => ?_) (fun hb => ?_)
      · replace h := zif_t (p := (zI S 0) ≠ (1 : Int32)) hb h
        refine xt_pure rfl rfl rfl rfl ?_
        refine zt_gI 0 rfl rfl rfl rfl (x := (zI S 0)) rfl ?_
        refine xt_pure rfl rfl rfl (st1 := .int 2 :: _) rfl ?_
        refine xt_ic rfl rfl (fun hb => ?_) (fun hb => ?_)
        · replace h := zif_t (p := (zI S 0) ≠ (2 : Int32)) hb h
          refine xt_pure rfl rfl rfl rfl ?_
          refine zt_gI 0 rfl rfl rfl rfl (x := (zI S 0)) rfl ?_
          refine xt_pure rfl rfl rfl (st1 := .int 3 :: _) rfl ?_
          refine xt_ic rfl rfl (fun hb => ?_) (fun hb => ?_)
          · replace h := zif_t (p := (zI S 0) ≠ (3 : Int32)) hb h
            refine xt_pure rfl rfl rfl (st1 := .int 1 :: _) rfl ?_
            exact trG_gotItem_134 hT2 hT3 hT4 hNe hSn hG hf hl h
          · replace h := zif_f (p := (zI S 0) ≠ (3 : Int32)) hb h
            refine xt_pure rfl rfl rfl (st1 := .int 2 :: _) rfl ?_
            refine xt_pure rfl rfl rfl rfl ?_
            exact trG_gotItem_134 hT2 hT3 hT4 hNe hSn hG hf hl h
        · replace h := zif_f (p := (zI S 0) ≠ (2 : Int32)) hb h
          refine xt_pure rfl rfl rfl (st1 := .int 8 :: _) rfl ?_
          refine xt_pure rfl rfl rfl rfl ?_
          exact trG_gotItem_134 hT2 hT3 hT4 hNe hSn hG hf hl h
      · replace h := zif_f (p := (zI S 0) ≠ (1 : Int32)) hb h
        refine xt_pure rfl rfl rfl (st1 := .int 4 :: _) rfl ?_
        refine xt_pure rfl rfl rfl rfl ?_
        exact trG_gotItem_134 hT2 hT3 hT4 hNe hSn hG hf hl h
    · replace h := zif_f (p := (zI S 0).toInt ≤ 4) hb h
      refine xt_pure rfl rfl rfl rfl ?_
      obtain ⟨x7, S8, hc9, h⟩ := zbi h
      refine zt_Vi rfl rfl rfl rfl (xmC 176 rfl) ⟨rfl, rfl, yle rfl, yle rfl⟩ (m := 1) rfl ⟨by omega, by omega⟩ (trG_got hT2 hT3 hT4 hNe hSn hG (by omega) (by omega) hc9) (fr1 := fr - 1) (lo1 := lo - 20) ?_
      refine xt_pure rfl rfl rfl rfl ?_
      refine zt_gI 0 rfl rfl rfl rfl (x := (zI S8 0)) rfl ?_
      refine xt_pure rfl rfl rfl (st1 := .int 7 :: _) rfl ?_
      refine xt_ic rfl rfl (fun hb => ?_) (fun hb => ?_)
      · replace h := zif_t (p := (zI S8 0) ≠ (7 : Int32)) hb h
        refine xt_pure rfl rfl rfl (st1 := .int 1 :: _) rfl ?_
        exact trG_gotItem_67 hT2 hT3 hT4 hNe hSn hG hf hl h
      · replace h := zif_f (p := (zI S8 0) ≠ (7 : Int32)) hb h
        refine xt_pure rfl rfl rfl (st1 := .int 0 :: _) rfl ?_
        refine xt_pure rfl rfl rfl rfl ?_
        exact trG_gotItem_67 hT2 hT3 hT4 hNe hSn hG hf hl h
  · replace h := zif_f (p := (zI S 0) ≠ (4 : Int32)) hb h
    refine xt_pure rfl rfl rfl rfl ?_
    obtain ⟨x29, S30, hc31, h⟩ := zbi h
    refine zt_Vi rfl rfl rfl rfl (xmC 176 rfl) ⟨rfl, rfl, yle rfl, yle rfl⟩ (m := 1) rfl ⟨by omega, by omega⟩ (trG_got hT2 hT3 hT4 hNe hSn hG (by omega) (by omega) hc31) (fr1 := fr - 1) (lo1 := lo - 20) ?_
    refine xt_pure rfl rfl rfl (L1 := [_, _, _, _, _]) rfl ?_
    refine xt_pure rfl rfl rfl rfl ?_
    refine xt_pure rfl rfl rfl rfl ?_
    refine xt_pure rfl rfl rfl (st1 := .int 255 :: _) rfl ?_
    refine xt_ic rfl rfl (fun hb => ?_) (fun hb => ?_)
    · replace h := zif_t (p := x29 = (255 : Int32)) hb h
      refine xt_pure rfl rfl rfl (st1 := .int 1 :: _) rfl ?_
      refine xt_pure rfl rfl rfl rfl ?_
      exact trG_gotItem_17 hT2 hT3 hT4 hNe hSn hG hf hl h
    · replace h := zif_f (p := x29 = (255 : Int32)) hb h
      refine xt_pure rfl rfl rfl rfl ?_
      refine xt_pure rfl rfl rfl (st1 := .int 6 :: _) rfl ?_
      refine xt_ic rfl rfl (fun hb => ?_) (fun hb => ?_)
      · replace h := zif_t (p := 6 < x29.toInt) hb h
        refine xt_pure rfl rfl rfl (st1 := .int 0 :: _) rfl ?_
        exact trG_gotItem_17 hT2 hT3 hT4 hNe hSn hG hf hl h
      · replace h := zif_f (p := 6 < x29.toInt) hb h
        refine xt_pure rfl rfl rfl (st1 := .int 1 :: _) rfl ?_
        refine xt_pure rfl rfl rfl rfl ?_
        exact trG_gotItem_17 hT2 hT3 hT4 hNe hSn hG hf hl h
def rC_copied_83 (gi : Nat → Int32) (ga : Nat → List Int32) (ne : Int32) (sn : List Int32)  (N : Nat) (k24 : zH → Int32 → zS → Option (Int32 × zS)) : Nat → zH → Int32 → Int32 → zS → Option (Int32 × zS)
  | 0, _, _, _, _ => none
  | n + 1, ol1, l4, l5, S => (zg (gI ol1.2.2.2.1 l4) fun x3 => (if x3.toInt ≤ l5.toInt then k24 ol1 (l4 + 1) S else (zg (gI ol1.2.2.2.2 ((6 * l4) + l5)) fun x4 => (if zok (zA S 4) ((6 * l4) + l5) then (rC_copied_83 gi ga ne sn N k24 n) ol1 l4 (l5 + 1) (zsA S 4 (zs (zA S 4) ((6 * l4) + l5) x4)) else none))))
theorem trC_copied_83 {X : List Int32} {D0 : List xE} {tb ti tr tc fa : Nat} {p : Nat → Nat} {gi : Nat → Int32} {ga : Nat → List Int32} {vl : List Int64} {ne : Int32} {sn : List Int32} (hT2 : ((tb, .inl (13, 2, .ref ti)) : xE) ∈ D0) (hT3 : ((tb, .inl (13, 3, .ref tr)) : xE) ∈ D0) (hT4 : ((tb, .inl (13, 4, .ref tc)) : xE) ∈ D0) (hNe : ((209, .inl (14, 19, .int ne)) : xE) ∈ D0) (hSn : ((236, .inr (0, sn.map Value.int)) : xE) ∈ D0) (hG : ∀ e ∈ zgF fa p gi ga vl, e ∈ D0)  {N fr lo : Nat} {k24 : zH → Int32 → zS → Option (Int32 × zS)} (hk24 : ∀ {oal1 : Nat} {ol1 : zH}  {l4 : Int32} {d3 : Int32} {u5 : Option Value} {S S2 : zS} {r : Int32} (hol1 : zOM D0 oal1 ol1), k24 ol1 l4 S = some (r, S2) → yT X fr lo 333 24 [some (.ref 209), some (.ref oal1), some (.ref tb), some (.int d3), some (.int l4), u5] [] (zD zTC (zaC tb ti tr tc) S D0) 0 0 (zQi zTC (zaC tb ti tr tc) D0 r S2)) (hf : 0 ≤ fr) (hl : 0 ≤ lo)  : ∀ {n : Nat} {oal1 : Nat} {ol1 : zH}  {l4 : Int32} {l5 : Int32} {d3 : Int32} {S S2 : zS} {r : Int32} (hol1 : zOM D0 oal1 ol1), rC_copied_83 gi ga ne sn N k24 n ol1 l4 l5 S = some (r, S2) → yT X fr lo 333 83 [some (.ref 209), some (.ref oal1), some (.ref tb), some (.int d3), some (.int l4), some (.int l5)] [] (zD zTC (zaC tb ti tr tc) S D0) 0 0 (zQi zTC (zaC tb ti tr tc) D0 r S2) := by
  intro n
  induction n with
  | zero =>
    intro oal1 ol1 l4 l5 d3 S S2 r hol1  h
    have h : (none : Option (Int32 × zS)) = some (r, S2) := h
    cases h
  | succ n ih =>
    intro oal1 ol1 l4 l5 d3 S S2 r hol1  h
    rw [rC_copied_83] at h
    have hkl1 := hol1
    obtain ⟨ial1, ral1, cal1, q0l1, q1l1, q2l1, q3l1, q4l1, q5l1, q6l1, q7l1⟩ := hkl1
    refine xt_pure rfl rfl rfl rfl ?_
    refine xt_pure rfl rfl rfl rfl ?_
    refine xt_getf rfl rfl (zmr q3l1) ?_
    refine xt_pure rfl rfl rfl rfl ?_
    obtain ⟨x3, hx3, h⟩ := zgi h
    refine zr_ild (l := ol1.2.2.2.1) rfl rfl (zmr q6l1) hx3 ?_
    refine xt_ic rfl rfl (fun hb => ?_) (fun hb => ?_)
    · replace h := zif_t (p := x3.toInt ≤ l5.toInt) hb h
      refine xt_pure rfl rfl rfl (L1 := [_, _, _, _, some (.int (_ + 1)), _]) rfl ?_
      refine xt_pure rfl rfl rfl rfl ?_
      exact hk24 hol1 h
    · replace h := zif_f (p := x3.toInt ≤ l5.toInt) hb h
      refine xt_pure rfl rfl rfl rfl ?_
      refine xt_getf rfl rfl (zmr hT4) ?_
      refine xt_pure rfl rfl rfl (st1 := .int 6 :: _) rfl ?_
      refine xt_pure rfl rfl rfl rfl ?_
      refine xt_pure rfl rfl rfl rfl ?_
      refine xt_pure rfl rfl rfl rfl ?_
      refine xt_pure rfl rfl rfl rfl ?_
      refine xt_pure rfl rfl rfl rfl ?_
      refine xt_getf rfl rfl (zmr q4l1) ?_
      refine xt_pure rfl rfl rfl (st1 := .int 6 :: _) rfl ?_
      refine xt_pure rfl rfl rfl rfl ?_
      refine xt_pure rfl rfl rfl rfl ?_
      refine xt_pure rfl rfl rfl rfl ?_
      refine xt_pure rfl rfl rfl rfl ?_
      obtain ⟨x4, hx4, h⟩ := zgi h
      refine zr_ild (l := ol1.2.2.2.2) rfl rfl (zmr q7l1) hx4 ?_
      obtain ⟨hg, h⟩ := zgd h
      refine zt_ist 4 rfl rfl rfl rfl (l := (zA S 4)) rfl hg ?_
      refine xt_pure rfl rfl rfl (L1 := [_, _, _, _, _, some (.int (_ + 1))]) rfl ?_
      refine xt_pure rfl rfl rfl rfl ?_
      exact ih hol1 h
def rC_copied_61 (gi : Nat → Int32) (ga : Nat → List Int32) (ne : Int32) (sn : List Int32)  (N : Nat) (k24 : zH → Int32 → zS → Option (Int32 × zS)) (ol1 : zH) (l4 : Int32) (S : zS) : Option (Int32 × zS) := (zg (gI ol1.2.2.1 l4) fun x1 => (if zok (zB S 2) l4 then (if ol1.1 ≠ (4 : Int32) then k24 ol1 (l4 + 1) (zsB S 2 (zs (zB S 2) l4 x1)) else (zg (gI ol1.2.2.2.1 l4) fun x2 => (if zok (zA S 3) l4 then rC_copied_83 gi ga ne sn N k24 N ol1 l4 0 (zsA (zsB S 2 (zs (zB S 2) l4 x1)) 3 (zs (zA S 3) l4 x2)) else none))) else none))
theorem trC_copied_61 {X : List Int32} {D0 : List xE} {tb ti tr tc fa : Nat} {p : Nat → Nat} {gi : Nat → Int32} {ga : Nat → List Int32} {vl : List Int64} {ne : Int32} {sn : List Int32} (hT2 : ((tb, .inl (13, 2, .ref ti)) : xE) ∈ D0) (hT3 : ((tb, .inl (13, 3, .ref tr)) : xE) ∈ D0) (hT4 : ((tb, .inl (13, 4, .ref tc)) : xE) ∈ D0) (hNe : ((209, .inl (14, 19, .int ne)) : xE) ∈ D0) (hSn : ((236, .inr (0, sn.map Value.int)) : xE) ∈ D0) (hG : ∀ e ∈ zgF fa p gi ga vl, e ∈ D0)  {N fr lo : Nat} {k24 : zH → Int32 → zS → Option (Int32 × zS)} (hk24 : ∀ {oal1 : Nat} {ol1 : zH}  {l4 : Int32} {d3 : Int32} {u5 : Option Value} {S S2 : zS} {r : Int32} (hol1 : zOM D0 oal1 ol1), k24 ol1 l4 S = some (r, S2) → yT X fr lo 333 24 [some (.ref 209), some (.ref oal1), some (.ref tb), some (.int d3), some (.int l4), u5] [] (zD zTC (zaC tb ti tr tc) S D0) 0 0 (zQi zTC (zaC tb ti tr tc) D0 r S2)) (hf : 0 ≤ fr) (hl : 0 ≤ lo) {oal1 : Nat} {ol1 : zH}  {l4 : Int32} {d3 : Int32} {u5 : Option Value} {S S2 : zS} {r : Int32} (hol1 : zOM D0 oal1 ol1) (h : rC_copied_61 gi ga ne sn N k24 ol1 l4 S = some (r, S2)) : yT X fr lo 333 61 [some (.ref 209), some (.ref oal1), some (.ref tb), some (.int d3), some (.int l4), u5] [] (zD zTC (zaC tb ti tr tc) S D0) 0 0 (zQi zTC (zaC tb ti tr tc) D0 r S2) := by
  unfold rC_copied_61 at h
  have hkl1 := hol1
  obtain ⟨ial1, ral1, cal1, q0l1, q1l1, q2l1, q3l1, q4l1, q5l1, q6l1, q7l1⟩ := hkl1
  refine xt_pure rfl rfl rfl rfl ?_
  refine xt_getf rfl rfl (zmr hT2) ?_
  refine xt_pure rfl rfl rfl rfl ?_
  refine xt_pure rfl rfl rfl rfl ?_
  refine xt_getf rfl rfl (zmr q2l1) ?_
  refine xt_pure rfl rfl rfl rfl ?_
  obtain ⟨x1, hx1, h⟩ := zgi h
  refine zr_lld (l := ol1.2.2.1) rfl rfl (zmr q5l1) hx1 ?_
  obtain ⟨hg, h⟩ := zgd h
  refine zt_lst 2 rfl rfl rfl rfl (l := (zB S 2)) rfl hg ?_
  refine xt_pure rfl rfl rfl rfl ?_
  refine xt_getf rfl rfl (zmr q0l1) ?_
  refine xt_pure rfl rfl rfl (st1 := .int 4 :: _) rfl ?_
  refine xt_ic rfl rfl (fun hb => ?_) (fun hb => ?_)
  · replace h := zif_t (p := ol1.1 ≠ (4 : Int32)) hb h
    refine xt_pure rfl rfl rfl (L1 := [_, _, _, _, some (.int (_ + 1)), _]) rfl ?_
    refine xt_pure rfl rfl rfl rfl ?_
    exact hk24 hol1 h
  · replace h := zif_f (p := ol1.1 ≠ (4 : Int32)) hb h
    refine xt_pure rfl rfl rfl rfl ?_
    refine xt_getf rfl rfl (zmr hT3) ?_
    refine xt_pure rfl rfl rfl rfl ?_
    refine xt_pure rfl rfl rfl rfl ?_
    refine xt_getf rfl rfl (zmr q3l1) ?_
    refine xt_pure rfl rfl rfl rfl ?_
    obtain ⟨x2, hx2, h⟩ := zgi h
    refine zr_ild (l := ol1.2.2.2.1) rfl rfl (zmr q6l1) hx2 ?_
    obtain ⟨hg, h⟩ := zgd h
    refine zt_ist 3 rfl rfl rfl rfl (l := (zA S 3)) rfl hg ?_
    refine xt_pure rfl rfl rfl (st1 := .int 0 :: _) rfl ?_
    refine xt_pure rfl rfl rfl (L1 := [_, _, _, _, _, _]) rfl ?_
    exact trC_copied_83 hT2 hT3 hT4 hNe hSn hG hk24 hf hl hol1 h
def rC_copied_24 (gi : Nat → Int32) (ga : Nat → List Int32) (ne : Int32) (sn : List Int32)  (N : Nat)  : Nat → zH → Int32 → zS → Option (Int32 × zS)
  | 0, _, _, _ => none
  | n + 1, ol1, l4, S => (if ol1.2.1.toInt ≤ l4.toInt then some (ol1.2.1, S) else (if (zI S 0) ≠ (6 : Int32) then rC_copied_61 gi ga ne sn N (rC_copied_24 gi ga ne sn N n) ol1 l4 S else (if ol1.1 ≠ (5 : Int32) then rC_copied_61 gi ga ne sn N (rC_copied_24 gi ga ne sn N n) ol1 l4 S else (zg (gI ol1.2.2.1 l4) fun x5 => (if x5.toInt < 0 then rC_copied_61 gi ga ne sn N (rC_copied_24 gi ga ne sn N n) ol1 l4 S else (zg (gI ol1.2.2.1 l4) fun x6 => (zg (gI sn x6.toInt32) fun x7 => (if x7 ≠ ((-9) : Int32) then rC_copied_61 gi ga ne sn N (rC_copied_24 gi ga ne sn N n) ol1 l4 S else some (l4, (zsI S 5 ((zI S 5) + 1)))))))))))
theorem trC_copied_24 {X : List Int32} {D0 : List xE} {tb ti tr tc fa : Nat} {p : Nat → Nat} {gi : Nat → Int32} {ga : Nat → List Int32} {vl : List Int64} {ne : Int32} {sn : List Int32} (hT2 : ((tb, .inl (13, 2, .ref ti)) : xE) ∈ D0) (hT3 : ((tb, .inl (13, 3, .ref tr)) : xE) ∈ D0) (hT4 : ((tb, .inl (13, 4, .ref tc)) : xE) ∈ D0) (hNe : ((209, .inl (14, 19, .int ne)) : xE) ∈ D0) (hSn : ((236, .inr (0, sn.map Value.int)) : xE) ∈ D0) (hG : ∀ e ∈ zgF fa p gi ga vl, e ∈ D0)  {N fr lo : Nat}   (hf : 0 ≤ fr) (hl : 0 ≤ lo)  : ∀ {n : Nat} {oal1 : Nat} {ol1 : zH}  {l4 : Int32} {d3 : Int32} {u5 : Option Value} {S S2 : zS} {r : Int32} (hol1 : zOM D0 oal1 ol1), rC_copied_24 gi ga ne sn N n ol1 l4 S = some (r, S2) → yT X fr lo 333 24 [some (.ref 209), some (.ref oal1), some (.ref tb), some (.int d3), some (.int l4), u5] [] (zD zTC (zaC tb ti tr tc) S D0) 0 0 (zQi zTC (zaC tb ti tr tc) D0 r S2) := by
  intro n
  induction n with
  | zero =>
    intro oal1 ol1 l4 d3 u5 S S2 r hol1  h
    have h : (none : Option (Int32 × zS)) = some (r, S2) := h
    cases h
  | succ n ih =>
    intro oal1 ol1 l4 d3 u5 S S2 r hol1  h
    rw [rC_copied_24] at h
    have hkl1 := hol1
    obtain ⟨ial1, ral1, cal1, q0l1, q1l1, q2l1, q3l1, q4l1, q5l1, q6l1, q7l1⟩ := hkl1
    refine xt_pure rfl rfl rfl rfl ?_
    refine xt_pure rfl rfl rfl rfl ?_
    refine xt_getf rfl rfl (zmr q1l1) ?_
    refine xt_ic rfl rfl (fun hb => ?_) (fun hb => ?_)
    · replace h := zif_t (p := ol1.2.1.toInt ≤ l4.toInt) hb h
      refine xt_pure rfl rfl rfl rfl ?_
      refine xt_getf rfl rfl (zmr q1l1) ?_
      cases h
      exact xt_iret rfl rfl rfl rfl ⟨rfl, rfl⟩
    · replace h := zif_f (p := ol1.2.1.toInt ≤ l4.toInt) hb h
      refine xt_pure rfl rfl rfl rfl ?_
      refine zt_gI 0 rfl rfl rfl rfl (x := (zI S 0)) rfl ?_
      refine xt_pure rfl rfl rfl (st1 := .int 6 :: _) rfl ?_
      refine xt_ic rfl rfl (fun hb => ?_) (fun hb => ?_)
      · replace h := zif_t (p := (zI S 0) ≠ (6 : Int32)) hb h
        exact trC_copied_61 hT2 hT3 hT4 hNe hSn hG (fun hol1 h => ih hol1 h) hf hl hol1 h
      · replace h := zif_f (p := (zI S 0) ≠ (6 : Int32)) hb h
        refine xt_pure rfl rfl rfl rfl ?_
        refine xt_getf rfl rfl (zmr q0l1) ?_
        refine xt_pure rfl rfl rfl (st1 := .int 5 :: _) rfl ?_
        refine xt_ic rfl rfl (fun hb => ?_) (fun hb => ?_)
        · replace h := zif_t (p := ol1.1 ≠ (5 : Int32)) hb h
          exact trC_copied_61 hT2 hT3 hT4 hNe hSn hG (fun hol1 h => ih hol1 h) hf hl hol1 h
        · replace h := zif_f (p := ol1.1 ≠ (5 : Int32)) hb h
          refine xt_pure rfl rfl rfl rfl ?_
          refine xt_getf rfl rfl (zmr q2l1) ?_
          refine xt_pure rfl rfl rfl rfl ?_
          obtain ⟨x5, hx5, h⟩ := zgi h
          refine zr_lld (l := ol1.2.2.1) rfl rfl (zmr q5l1) hx5 ?_
          refine xt_pure rfl rfl rfl (st1 := .long 0 :: _) rfl ?_
          refine zt_lc rfl rfl rfl (fun hb => ?_) (fun hb => ?_)
          · replace h := zif_t (p := x5.toInt < 0) hb h
            exact trC_copied_61 hT2 hT3 hT4 hNe hSn hG (fun hol1 h => ih hol1 h) hf hl hol1 h
          · replace h := zif_f (p := x5.toInt < 0) hb h
            refine xt_pure rfl rfl rfl rfl ?_
            refine xt_getf rfl rfl (xmC 185 rfl) ?_
            refine xt_pure rfl rfl rfl rfl ?_
            refine xt_getf rfl rfl (zmr q2l1) ?_
            refine xt_pure rfl rfl rfl rfl ?_
            obtain ⟨x6, hx6, h⟩ := zgi h
            refine zr_lld (l := ol1.2.2.1) rfl rfl (zmr q5l1) hx6 ?_
            refine xt_pure rfl rfl rfl rfl ?_
            obtain ⟨x7, hx7, h⟩ := zgi h
            refine zr_ild (l := sn) rfl rfl (zmr hSn) hx7 ?_
            refine xt_pure rfl rfl rfl (st1 := .int (-9) :: _) rfl ?_
            refine xt_ic rfl rfl (fun hb => ?_) (fun hb => ?_)
            · replace h := zif_t (p := x7 ≠ ((-9) : Int32)) hb h
              exact trC_copied_61 hT2 hT3 hT4 hNe hSn hG (fun hol1 h => ih hol1 h) hf hl hol1 h
            · replace h := zif_f (p := x7 ≠ ((-9) : Int32)) hb h
              refine xt_pure rfl rfl rfl rfl ?_
              refine xt_pure rfl rfl rfl rfl ?_
              refine zt_gI 5 rfl rfl rfl rfl (x := (zI S 5)) rfl ?_
              refine xt_pure rfl rfl rfl (st1 := .int 1 :: _) rfl ?_
              refine xt_pure rfl rfl rfl rfl ?_
              refine zt_pI 5 rfl rfl rfl rfl rfl rfl ?_
              refine xt_pure rfl rfl rfl rfl ?_
              cases h
              exact xt_iret rfl rfl rfl rfl ⟨rfl, rfl⟩
def rC_copied_10 (gi : Nat → Int32) (ga : Nat → List Int32) (ne : Int32) (sn : List Int32)  (N : Nat)  (ol1 : zH) (l3 : Int32) (S : zS) : Option (Int32 × zS) := (if ol1.1 ≠ (6 : Int32) then rC_copied_24 gi ga ne sn N N ol1 0 (zsI S 0 ol1.1) else (if l3 ≠ (8 : Int32) then rC_copied_24 gi ga ne sn N N ol1 0 (zsI S 0 ol1.1) else rC_copied_24 gi ga ne sn N N ol1 0 (zsI S 0 5)))
theorem trC_copied_10 {X : List Int32} {D0 : List xE} {tb ti tr tc fa : Nat} {p : Nat → Nat} {gi : Nat → Int32} {ga : Nat → List Int32} {vl : List Int64} {ne : Int32} {sn : List Int32} (hT2 : ((tb, .inl (13, 2, .ref ti)) : xE) ∈ D0) (hT3 : ((tb, .inl (13, 3, .ref tr)) : xE) ∈ D0) (hT4 : ((tb, .inl (13, 4, .ref tc)) : xE) ∈ D0) (hNe : ((209, .inl (14, 19, .int ne)) : xE) ∈ D0) (hSn : ((236, .inr (0, sn.map Value.int)) : xE) ∈ D0) (hG : ∀ e ∈ zgF fa p gi ga vl, e ∈ D0)  {N fr lo : Nat}   (hf : 0 ≤ fr) (hl : 0 ≤ lo) {oal1 : Nat} {ol1 : zH}  {l3 : Int32}  {S S2 : zS} {r : Int32} (hol1 : zOM D0 oal1 ol1) (h : rC_copied_10 gi ga ne sn N ol1 l3 S = some (r, S2)) : yT X fr lo 333 10 [some (.ref 209), some (.ref oal1), some (.ref tb), some (.int l3), none, none] [.ref tb] (zD zTC (zaC tb ti tr tc) S D0) 0 0 (zQi zTC (zaC tb ti tr tc) D0 r S2) := by
  unfold rC_copied_10 at h
  have hkl1 := hol1
  obtain ⟨ial1, ral1, cal1, q0l1, q1l1, q2l1, q3l1, q4l1, q5l1, q6l1, q7l1⟩ := hkl1
  refine xt_pure rfl rfl rfl rfl ?_
  refine xt_getf rfl rfl (zmr q0l1) ?_
  refine xt_pure rfl rfl rfl (st1 := .int 6 :: _) rfl ?_
  refine xt_ic rfl rfl (fun hb => ?_) (fun hb => ?_)
  · replace h := zif_t (p := ol1.1 ≠ (6 : Int32)) hb h
    refine xt_pure rfl rfl rfl rfl ?_
    refine xt_getf rfl rfl (zmr q0l1) ?_
    refine zt_pI 0 rfl rfl rfl rfl rfl rfl ?_
    refine xt_pure rfl rfl rfl (st1 := .int 0 :: _) rfl ?_
    refine xt_pure rfl rfl rfl (L1 := [_, _, _, _, _, _]) rfl ?_
    exact trC_copied_24 hT2 hT3 hT4 hNe hSn hG hf hl hol1 h
  · replace h := zif_f (p := ol1.1 ≠ (6 : Int32)) hb h
    refine xt_pure rfl rfl rfl rfl ?_
    refine xt_pure rfl rfl rfl (st1 := .int 8 :: _) rfl ?_
    refine xt_ic rfl rfl (fun hb => ?_) (fun hb => ?_)
    · replace h := zif_t (p := l3 ≠ (8 : Int32)) hb h
      refine xt_pure rfl rfl rfl rfl ?_
      refine xt_getf rfl rfl (zmr q0l1) ?_
      refine zt_pI 0 rfl rfl rfl rfl rfl rfl ?_
      refine xt_pure rfl rfl rfl (st1 := .int 0 :: _) rfl ?_
      refine xt_pure rfl rfl rfl (L1 := [_, _, _, _, _, _]) rfl ?_
      exact trC_copied_24 hT2 hT3 hT4 hNe hSn hG hf hl hol1 h
    · replace h := zif_f (p := l3 ≠ (8 : Int32)) hb h
      refine xt_pure rfl rfl rfl (st1 := .int 5 :: _) rfl ?_
      refine xt_pure rfl rfl rfl rfl ?_
      refine zt_pI 0 rfl rfl rfl rfl rfl rfl ?_
      refine xt_pure rfl rfl rfl (st1 := .int 0 :: _) rfl ?_
      refine xt_pure rfl rfl rfl (L1 := [_, _, _, _, _, _]) rfl ?_
      exact trC_copied_24 hT2 hT3 hT4 hNe hSn hG hf hl hol1 h
def rC_copied (gi : Nat → Int32) (ga : Nat → List Int32) (ne : Int32) (sn : List Int32)  (N : Nat) (op1 : zH) (v3 : Int32) (S : zS) : Option (Int32 × zS) := (if op1.1 ≠ (5 : Int32) then rC_copied_10 gi ga ne sn N op1 v3 S else (if v3 ≠ (9 : Int32) then rC_copied_10 gi ga ne sn N op1 v3 S else rC_copied_24 gi ga ne sn N N op1 0 (zsI S 0 6)))
theorem trC_copied {X : List Int32} {D0 : List xE} {tb ti tr tc fa : Nat} {p : Nat → Nat} {gi : Nat → Int32} {ga : Nat → List Int32} {vl : List Int64} {ne : Int32} {sn : List Int32} (hT2 : ((tb, .inl (13, 2, .ref ti)) : xE) ∈ D0) (hT3 : ((tb, .inl (13, 3, .ref tr)) : xE) ∈ D0) (hT4 : ((tb, .inl (13, 4, .ref tc)) : xE) ∈ D0) (hNe : ((209, .inl (14, 19, .int ne)) : xE) ∈ D0) (hSn : ((236, .inr (0, sn.map Value.int)) : xE) ∈ D0) (hG : ∀ e ∈ zgF fa p gi ga vl, e ∈ D0)  {N fr lo : Nat} (hf : 0 ≤ fr) (hl : 0 ≤ lo) {oap1 : Nat} {op1 : zH}  {v3 : Int32} {S S2 : zS} {r : Int32} (hop1 : zOM D0 oap1 op1) (h : rC_copied gi ga ne sn N op1 v3 S = some (r, S2)) : yK X fr lo 333 [.ref 209, .ref oap1, .ref tb, .int v3] (zD zTC (zaC tb ti tr tc) S D0) 0 0 (zQi zTC (zaC tb ti tr tc) D0 r S2) := by
  unfold rC_copied at h
  have hkp1 := hop1
  obtain ⟨iap1, rap1, cap1, q0p1, q1p1, q2p1, q3p1, q4p1, q5p1, q6p1, q7p1⟩ := hkp1
  refine yK.of rfl (yle rfl) (L := [_, _, _, _, _, _]) rfl ?_
  refine xt_pure rfl rfl rfl rfl ?_
  refine xt_pure rfl rfl rfl rfl ?_
  refine xt_getf rfl rfl (zmr q0p1) ?_
  refine xt_pure rfl rfl rfl (st1 := .int 5 :: _) rfl ?_
  refine xt_ic rfl rfl (fun hb => ?_) (fun hb => ?_)
  · replace h := zif_t (p := op1.1 ≠ (5 : Int32)) hb h
    exact trC_copied_10 hT2 hT3 hT4 hNe hSn hG hf hl hop1 h
  · replace h := zif_f (p := op1.1 ≠ (5 : Int32)) hb h
    refine xt_pure rfl rfl rfl rfl ?_
    refine xt_pure rfl rfl rfl (st1 := .int 9 :: _) rfl ?_
    refine xt_ic rfl rfl (fun hb => ?_) (fun hb => ?_)
    · replace h := zif_t (p := v3 ≠ (9 : Int32)) hb h
      exact trC_copied_10 hT2 hT3 hT4 hNe hSn hG hf hl hop1 h
    · replace h := zif_f (p := v3 ≠ (9 : Int32)) hb h
      refine xt_pure rfl rfl rfl (st1 := .int 6 :: _) rfl ?_
      refine xt_pure rfl rfl rfl rfl ?_
      refine zt_pI 0 rfl rfl rfl rfl rfl rfl ?_
      refine xt_pure rfl rfl rfl (st1 := .int 0 :: _) rfl ?_
      refine xt_pure rfl rfl rfl (L1 := [_, _, _, _, _, _]) rfl ?_
      exact trC_copied_24 hT2 hT3 hT4 hNe hSn hG hf hl hop1 h
def rC_sortOf (gi : Nat → Int32) (ga : Nat → List Int32) (ne : Int32) (sn : List Int32)  (N : Nat) (v0 : Int32) (S : zS) : Option (Int32 × zS) := (if v0 = (0 : Int32) then some (0, S) else (if v0 ≠ (5 : Int32) then (if v0 ≠ (2 : Int32) then (if v0 ≠ (6 : Int32) then (if v0 ≠ (7 : Int32) then (if v0 = (8 : Int32) then some (5, S) else (if v0 ≠ (10 : Int32) then (if v0 ≠ (9 : Int32) then some (1, S) else some (6, S)) else some (5, S))) else some (4, S)) else some (3, S)) else some (2, S)) else some (0, S)))
theorem trC_sortOf {X : List Int32} {D0 : List xE} {tb ti tr tc fa : Nat} {p : Nat → Nat} {gi : Nat → Int32} {ga : Nat → List Int32} {vl : List Int64} {ne : Int32} {sn : List Int32} (hT2 : ((tb, .inl (13, 2, .ref ti)) : xE) ∈ D0) (hT3 : ((tb, .inl (13, 3, .ref tr)) : xE) ∈ D0) (hT4 : ((tb, .inl (13, 4, .ref tc)) : xE) ∈ D0) (hNe : ((209, .inl (14, 19, .int ne)) : xE) ∈ D0) (hSn : ((236, .inr (0, sn.map Value.int)) : xE) ∈ D0) (hG : ∀ e ∈ zgF fa p gi ga vl, e ∈ D0)  {N fr lo : Nat} (hf : 0 ≤ fr) (hl : 0 ≤ lo) {v0 : Int32} {S S2 : zS} {r : Int32}  (h : rC_sortOf gi ga ne sn N v0 S = some (r, S2)) : yK X fr lo 302 [.int v0] (zD zTC (zaC tb ti tr tc) S D0) 0 0 (zQi zTC (zaC tb ti tr tc) D0 r S2) := by
  unfold rC_sortOf at h
  refine yK.of rfl (yle rfl) (L := [_]) rfl ?_
  refine xt_pure rfl rfl rfl rfl ?_
  refine xt_if rfl rfl (fun hb => ?_) (fun hb => ?_)
  · replace h := zif_t (p := v0 = (0 : Int32)) hb h
    refine xt_pure rfl rfl rfl (st1 := .int 0 :: _) rfl ?_
    refine xt_pure rfl rfl rfl rfl ?_
    cases h
    exact xt_iret rfl rfl rfl rfl ⟨rfl, rfl⟩
  · replace h := zif_f (p := v0 = (0 : Int32)) hb h
    refine xt_pure rfl rfl rfl rfl ?_
    refine xt_pure rfl rfl rfl (st1 := .int 5 :: _) rfl ?_
    refine xt_ic rfl rfl (fun hb => ?_) (fun hb => ?_)
    · replace h := zif_t (p := v0 ≠ (5 : Int32)) hb h
      refine xt_pure rfl rfl rfl rfl ?_
      refine xt_pure rfl rfl rfl (st1 := .int 2 :: _) rfl ?_
      refine xt_ic rfl rfl (fun hb => ?_) (fun hb => ?_)
      · replace h := zif_t (p := v0 ≠ (2 : Int32)) hb h
        refine xt_pure rfl rfl rfl rfl ?_
        refine xt_pure rfl rfl rfl (st1 := .int 6 :: _) rfl ?_
        refine xt_ic rfl rfl (fun hb => ?_) (fun hb => ?_)
        · replace h := zif_t (p := v0 ≠ (6 : Int32)) hb h
          refine xt_pure rfl rfl rfl rfl ?_
          refine xt_pure rfl rfl rfl (st1 := .int 7 :: _) rfl ?_
          refine xt_ic rfl rfl (fun hb => ?_) (fun hb => ?_)
          · replace h := zif_t (p := v0 ≠ (7 : Int32)) hb h
            refine xt_pure rfl rfl rfl rfl ?_
            refine xt_pure rfl rfl rfl (st1 := .int 8 :: _) rfl ?_
            refine xt_ic rfl rfl (fun hb => ?_) (fun hb => ?_)
            · replace h := zif_t (p := v0 = (8 : Int32)) hb h
              refine xt_pure rfl rfl rfl (st1 := .int 5 :: _) rfl ?_
              refine xt_pure rfl rfl rfl rfl ?_
              cases h
              exact xt_iret rfl rfl rfl rfl ⟨rfl, rfl⟩
            · replace h := zif_f (p := v0 = (8 : Int32)) hb h
              refine xt_pure rfl rfl rfl rfl ?_
              refine xt_pure rfl rfl rfl (st1 := .int 10 :: _) rfl ?_
              refine xt_ic rfl rfl (fun hb => ?_) (fun hb => ?_)
              · replace h := zif_t (p := v0 ≠ (10 : Int32)) hb h
                refine xt_pure rfl rfl rfl rfl ?_
                refine xt_pure rfl rfl rfl (st1 := .int 9 :: _) rfl ?_
                refine xt_ic rfl rfl (fun hb => ?_) (fun hb => ?_)
                · replace h := zif_t (p := v0 ≠ (9 : Int32)) hb h
                  refine xt_pure rfl rfl rfl (st1 := .int 1 :: _) rfl ?_
                  cases h
                  exact xt_iret rfl rfl rfl rfl ⟨rfl, rfl⟩
                · replace h := zif_f (p := v0 ≠ (9 : Int32)) hb h
                  refine xt_pure rfl rfl rfl (st1 := .int 6 :: _) rfl ?_
                  refine xt_pure rfl rfl rfl rfl ?_
                  cases h
                  exact xt_iret rfl rfl rfl rfl ⟨rfl, rfl⟩
              · replace h := zif_f (p := v0 ≠ (10 : Int32)) hb h
                refine xt_pure rfl rfl rfl (st1 := .int 5 :: _) rfl ?_
                refine xt_pure rfl rfl rfl rfl ?_
                cases h
                exact xt_iret rfl rfl rfl rfl ⟨rfl, rfl⟩
          · replace h := zif_f (p := v0 ≠ (7 : Int32)) hb h
            refine xt_pure rfl rfl rfl (st1 := .int 4 :: _) rfl ?_
            refine xt_pure rfl rfl rfl rfl ?_
            cases h
            exact xt_iret rfl rfl rfl rfl ⟨rfl, rfl⟩
        · replace h := zif_f (p := v0 ≠ (6 : Int32)) hb h
          refine xt_pure rfl rfl rfl (st1 := .int 3 :: _) rfl ?_
          refine xt_pure rfl rfl rfl rfl ?_
          cases h
          exact xt_iret rfl rfl rfl rfl ⟨rfl, rfl⟩
      · replace h := zif_f (p := v0 ≠ (2 : Int32)) hb h
        refine xt_pure rfl rfl rfl (st1 := .int 2 :: _) rfl ?_
        refine xt_pure rfl rfl rfl rfl ?_
        cases h
        exact xt_iret rfl rfl rfl rfl ⟨rfl, rfl⟩
    · replace h := zif_f (p := v0 ≠ (5 : Int32)) hb h
      refine xt_pure rfl rfl rfl (st1 := .int 0 :: _) rfl ?_
      refine xt_pure rfl rfl rfl rfl ?_
      cases h
      exact xt_iret rfl rfl rfl rfl ⟨rfl, rfl⟩
def rC_candidate_35 (gi : Nat → Int32) (ga : Nat → List Int32) (ne : Int32) (sn : List Int32)  (N : Nat) (k22 : Int32 → Int32 → Int32 → Int32 → zS → Option (Unit × zS)) (l2 : Int32) (l3 : Int32) (l4 : Int32) (l5 : Int32) (s1 : Int32) (S : zS) : Option (Unit × zS) := (if l3 ≠ (0 : Int32) then (zg (gI (ga 6) l2) fun x5 => (if zok (zB S 2) s1 then k22 l2 l3 l4 (l5 + 1) (zsB S 2 (zs (zB S 2) s1 x5.toInt64)) else none)) else (zg (gI (ga 5) l2) fun x6 => (if zok (zB S 2) s1 then k22 l2 l3 l4 (l5 + 1) (zsB S 2 (zs (zB S 2) s1 x6.toInt64)) else none)))
theorem trC_candidate_35 {X : List Int32} {D0 : List xE} {tb ti tr tc fa : Nat} {p : Nat → Nat} {gi : Nat → Int32} {ga : Nat → List Int32} {vl : List Int64} {ne : Int32} {sn : List Int32} (hT2 : ((tb, .inl (13, 2, .ref ti)) : xE) ∈ D0) (hT3 : ((tb, .inl (13, 3, .ref tr)) : xE) ∈ D0) (hT4 : ((tb, .inl (13, 4, .ref tc)) : xE) ∈ D0) (hNe : ((209, .inl (14, 19, .int ne)) : xE) ∈ D0) (hSn : ((236, .inr (0, sn.map Value.int)) : xE) ∈ D0) (hG : ∀ e ∈ zgF fa p gi ga vl, e ∈ D0)  {N fr lo : Nat} {k22 : Int32 → Int32 → Int32 → Int32 → zS → Option (Unit × zS)} (hk22 : ∀ {l2 : Int32} {l3 : Int32} {l4 : Int32} {l5 : Int32}  {S S2 : zS} {r : Unit} , k22 l2 l3 l4 l5 S = some (r, S2) → yT X fr lo 340 22 [some (.ref tb), some (.ref fa), some (.int l2), some (.int l3), some (.int l4), some (.int l5)] [] (zD zTC (zaC tb ti tr tc) S D0) 0 0 (zQr tb zTC (zaC tb ti tr tc) D0 r S2)) (hf : 1 ≤ fr) (hl : 20 ≤ lo) {l2 : Int32} {l3 : Int32} {l4 : Int32} {l5 : Int32} {s1 : Int32}  {S S2 : zS} {r : Unit}  (h : rC_candidate_35 gi ga ne sn N k22 l2 l3 l4 l5 s1 S = some (r, S2)) : yT X fr lo 340 35 [some (.ref tb), some (.ref fa), some (.int l2), some (.int l3), some (.int l4), some (.int l5)] [.int s1, .ref ti] (zD zTC (zaC tb ti tr tc) S D0) 0 0 (zQr tb zTC (zaC tb ti tr tc) D0 r S2) := by
  unfold rC_candidate_35 at h
  refine xt_pure rfl rfl rfl rfl ?_
  refine xt_if rfl rfl (fun hb => ?_) (fun hb => ?_)
  · replace h := zif_t (p := l3 ≠ (0 : Int32)) hb h
    refine xt_pure rfl rfl rfl rfl ?_
    refine xt_getf rfl rfl (zmr (ymm hG 6 rfl)) ?_
    refine xt_pure rfl rfl rfl rfl ?_
    obtain ⟨x5, hx5, h⟩ := zgi h
    refine zr_ild (l := (ga 6)) rfl rfl (zmr (ymm hG 27 rfl)) hx5 ?_
    refine xt_pure rfl rfl rfl rfl ?_
    refine xt_pure rfl rfl rfl rfl ?_
    obtain ⟨hg, h⟩ := zgd h
    refine zt_lst 2 rfl rfl rfl rfl (l := (zB S 2)) rfl hg ?_
    refine xt_pure rfl rfl rfl (L1 := [_, _, _, _, _, some (.int (_ + 1))]) rfl ?_
    refine xt_pure rfl rfl rfl rfl ?_
    exact hk22 h
  · replace h := zif_f (p := l3 ≠ (0 : Int32)) hb h
    refine xt_pure rfl rfl rfl rfl ?_
    refine xt_getf rfl rfl (zmr (ymm hG 5 rfl)) ?_
    refine xt_pure rfl rfl rfl rfl ?_
    obtain ⟨x6, hx6, h⟩ := zgi h
    refine zr_ild (l := (ga 5)) rfl rfl (zmr (ymm hG 26 rfl)) hx6 ?_
    refine xt_pure rfl rfl rfl rfl ?_
    refine xt_pure rfl rfl rfl rfl ?_
    obtain ⟨hg, h⟩ := zgd h
    refine zt_lst 2 rfl rfl rfl rfl (l := (zB S 2)) rfl hg ?_
    refine xt_pure rfl rfl rfl (L1 := [_, _, _, _, _, some (.int (_ + 1))]) rfl ?_
    refine xt_pure rfl rfl rfl rfl ?_
    exact hk22 h
def rC_candidate_22 (gi : Nat → Int32) (ga : Nat → List Int32) (ne : Int32) (sn : List Int32)  (N : Nat)  : Nat → Int32 → Int32 → Int32 → Int32 → zS → Option (Unit × zS)
  | 0, _, _, _, _, _ => none
  | n + 1, l2, l3, l4, l5, S => (if (zI S 1).toInt ≤ l5.toInt then some ((), S) else (if l4 = (1 : Int32) then rC_candidate_35 gi ga ne sn N (rC_candidate_22 gi ga ne sn N n) l2 l3 l4 l5 l5 S else (if l4 ≠ (3 : Int32) then (if l4 ≠ (2 : Int32) then (if zok (zB S 2) l5 then (rC_candidate_22 gi ga ne sn N n) l2 l3 l4 (l5 + 1) (zsB S 2 (zs (zB S 2) l5 l3.toInt64)) else none) else (if l3 ≠ (0 : Int32) then (zg (gI (ga 6) l2) fun x7 => (if zok (zB S 2) l5 then (rC_candidate_22 gi ga ne sn N n) l2 l3 l4 (l5 + 1) (zsB S 2 (zs (zB S 2) l5 x7.toInt64)) else none)) else (if zok (zB S 2) l5 then (rC_candidate_22 gi ga ne sn N n) l2 l3 l4 (l5 + 1) (zsB S 2 (zs (zB S 2) l5 0)) else none))) else rC_candidate_35 gi ga ne sn N (rC_candidate_22 gi ga ne sn N n) l2 l3 l4 l5 l5 S)))
theorem trC_candidate_22 {X : List Int32} {D0 : List xE} {tb ti tr tc fa : Nat} {p : Nat → Nat} {gi : Nat → Int32} {ga : Nat → List Int32} {vl : List Int64} {ne : Int32} {sn : List Int32} (hT2 : ((tb, .inl (13, 2, .ref ti)) : xE) ∈ D0) (hT3 : ((tb, .inl (13, 3, .ref tr)) : xE) ∈ D0) (hT4 : ((tb, .inl (13, 4, .ref tc)) : xE) ∈ D0) (hNe : ((209, .inl (14, 19, .int ne)) : xE) ∈ D0) (hSn : ((236, .inr (0, sn.map Value.int)) : xE) ∈ D0) (hG : ∀ e ∈ zgF fa p gi ga vl, e ∈ D0)  {N fr lo : Nat}   (hf : 1 ≤ fr) (hl : 20 ≤ lo)  : ∀ {n : Nat} {l2 : Int32} {l3 : Int32} {l4 : Int32} {l5 : Int32}  {S S2 : zS} {r : Unit} , rC_candidate_22 gi ga ne sn N n l2 l3 l4 l5 S = some (r, S2) → yT X fr lo 340 22 [some (.ref tb), some (.ref fa), some (.int l2), some (.int l3), some (.int l4), some (.int l5)] [] (zD zTC (zaC tb ti tr tc) S D0) 0 0 (zQr tb zTC (zaC tb ti tr tc) D0 r S2) := by
  intro n
  induction n with
  | zero =>
    intro l2 l3 l4 l5  S S2 r  h
    have h : (none : Option (Unit × zS)) = some (r, S2) := h
    cases h
  | succ n ih =>
    intro l2 l3 l4 l5  S S2 r  h
    rw [rC_candidate_22] at h
    refine xt_pure rfl rfl rfl rfl ?_
    refine xt_pure rfl rfl rfl rfl ?_
    refine zt_gI 1 rfl rfl rfl rfl (x := (zI S 1)) rfl ?_
    refine xt_ic rfl rfl (fun hb => ?_) (fun hb => ?_)
    · replace h := zif_t (p := (zI S 1).toInt ≤ l5.toInt) hb h
      refine xt_pure rfl rfl rfl rfl ?_
      cases h
      exact xt_aret rfl rfl rfl rfl rfl ⟨rfl, rfl⟩
    · replace h := zif_f (p := (zI S 1).toInt ≤ l5.toInt) hb h
      refine xt_pure rfl rfl rfl rfl ?_
      refine xt_getf rfl rfl (zmr hT2) ?_
      refine xt_pure rfl rfl rfl rfl ?_
      refine xt_pure rfl rfl rfl rfl ?_
      refine xt_pure rfl rfl rfl (st1 := .int 1 :: _) rfl ?_
      refine xt_ic rfl rfl (fun hb => ?_) (fun hb => ?_)
      · replace h := zif_t (p := l4 = (1 : Int32)) hb h
        exact trC_candidate_35 hT2 hT3 hT4 hNe hSn hG (fun h => ih h) hf hl h
      · replace h := zif_f (p := l4 = (1 : Int32)) hb h
        refine xt_pure rfl rfl rfl rfl ?_
        refine xt_pure rfl rfl rfl (st1 := .int 3 :: _) rfl ?_
        refine xt_ic rfl rfl (fun hb => ?_) (fun hb => ?_)
        · replace h := zif_t (p := l4 ≠ (3 : Int32)) hb h
          refine xt_pure rfl rfl rfl rfl ?_
          refine xt_pure rfl rfl rfl (st1 := .int 2 :: _) rfl ?_
          refine xt_ic rfl rfl (fun hb => ?_) (fun hb => ?_)
          · replace h := zif_t (p := l4 ≠ (2 : Int32)) hb h
            refine xt_pure rfl rfl rfl rfl ?_
            refine xt_pure rfl rfl rfl rfl ?_
            obtain ⟨hg, h⟩ := zgd h
            refine zt_lst 2 rfl rfl rfl rfl (l := (zB S 2)) rfl hg ?_
            refine xt_pure rfl rfl rfl (L1 := [_, _, _, _, _, some (.int (_ + 1))]) rfl ?_
            refine xt_pure rfl rfl rfl rfl ?_
            exact ih h
          · replace h := zif_f (p := l4 ≠ (2 : Int32)) hb h
            refine xt_pure rfl rfl rfl rfl ?_
            refine xt_if rfl rfl (fun hb => ?_) (fun hb => ?_)
            · replace h := zif_t (p := l3 ≠ (0 : Int32)) hb h
              refine xt_pure rfl rfl rfl rfl ?_
              refine xt_getf rfl rfl (zmr (ymm hG 6 rfl)) ?_
              refine xt_pure rfl rfl rfl rfl ?_
              obtain ⟨x7, hx7, h⟩ := zgi h
              refine zr_ild (l := (ga 6)) rfl rfl (zmr (ymm hG 27 rfl)) hx7 ?_
              refine xt_pure rfl rfl rfl rfl ?_
              refine xt_pure rfl rfl rfl rfl ?_
              obtain ⟨hg, h⟩ := zgd h
              refine zt_lst 2 rfl rfl rfl rfl (l := (zB S 2)) rfl hg ?_
              refine xt_pure rfl rfl rfl (L1 := [_, _, _, _, _, some (.int (_ + 1))]) rfl ?_
              refine xt_pure rfl rfl rfl rfl ?_
              exact ih h
            · replace h := zif_f (p := l3 ≠ (0 : Int32)) hb h
              refine xt_pure rfl rfl rfl (st1 := .long 0 :: _) rfl ?_
              refine xt_pure rfl rfl rfl rfl ?_
              obtain ⟨hg, h⟩ := zgd h
              refine zt_lst 2 rfl rfl rfl rfl (l := (zB S 2)) rfl hg ?_
              refine xt_pure rfl rfl rfl (L1 := [_, _, _, _, _, some (.int (_ + 1))]) rfl ?_
              refine xt_pure rfl rfl rfl rfl ?_
              exact ih h
        · replace h := zif_f (p := l4 ≠ (3 : Int32)) hb h
          exact trC_candidate_35 hT2 hT3 hT4 hNe hSn hG (fun h => ih h) hf hl h
def rC_candidate (gi : Nat → Int32) (ga : Nat → List Int32) (ne : Int32) (sn : List Int32)  (N : Nat) (v2 : Int32) (v3 : Int32) (S : zS) : Option (Unit × zS) := (zg (gI (ga 2) v2) fun x1 => (zb (rC_sortOf gi ga ne sn N x1 S) fun x2 S3 => (if x1 ≠ (5 : Int32) then rC_candidate_22 gi ga ne sn N N v2 v3 x1 0 (zsI (zsI S3 0 x2) 1 1) else (zg (gI (ga 7) v2) fun x8 => rC_candidate_22 gi ga ne sn N N v2 v3 x1 0 (zsI (zsI S3 0 x2) 1 x8)))))
theorem trC_candidate {X : List Int32} {D0 : List xE} {tb ti tr tc fa : Nat} {p : Nat → Nat} {gi : Nat → Int32} {ga : Nat → List Int32} {vl : List Int64} {ne : Int32} {sn : List Int32} (hT2 : ((tb, .inl (13, 2, .ref ti)) : xE) ∈ D0) (hT3 : ((tb, .inl (13, 3, .ref tr)) : xE) ∈ D0) (hT4 : ((tb, .inl (13, 4, .ref tc)) : xE) ∈ D0) (hNe : ((209, .inl (14, 19, .int ne)) : xE) ∈ D0) (hSn : ((236, .inr (0, sn.map Value.int)) : xE) ∈ D0) (hG : ∀ e ∈ zgF fa p gi ga vl, e ∈ D0)  {N fr lo : Nat} (hf : 1 ≤ fr) (hl : 20 ≤ lo) {v2 : Int32} {v3 : Int32} {S S2 : zS} {r : Unit}  (h : rC_candidate gi ga ne sn N v2 v3 S = some (r, S2)) : yK X fr lo 340 [.ref tb, .ref fa, .int v2, .int v3] (zD zTC (zaC tb ti tr tc) S D0) 0 0 (zQr tb zTC (zaC tb ti tr tc) D0 r S2) := by
  unfold rC_candidate at h
  refine yK.of rfl (yle rfl) (L := [_, _, _, _, _, _]) rfl ?_
  refine xt_pure rfl rfl rfl rfl ?_
  refine xt_getf rfl rfl (zmr (ymm hG 2 rfl)) ?_
  refine xt_pure rfl rfl rfl rfl ?_
  obtain ⟨x1, hx1, h⟩ := zgi h
  refine zr_ild (l := (ga 2)) rfl rfl (zmr (ymm hG 23 rfl)) hx1 ?_
  refine xt_pure rfl rfl rfl (L1 := [_, _, _, _, _, _]) rfl ?_
  refine xt_pure rfl rfl rfl rfl ?_
  refine xt_pure rfl rfl rfl rfl ?_
  obtain ⟨x2, S3, hc4, h⟩ := zbi h
  refine zt_Si rfl rfl (by decide) rfl rfl ⟨rfl, yle rfl, yle rfl⟩ (m := 1) rfl ⟨by omega, by omega⟩ (trC_sortOf hT2 hT3 hT4 hNe hSn hG (by omega) (by omega) hc4) (fr1 := fr - 1) (lo1 := lo - 20) ?_
  refine zt_pI 0 rfl rfl rfl rfl rfl rfl ?_
  refine xt_pure rfl rfl rfl rfl ?_
  refine xt_pure rfl rfl rfl rfl ?_
  refine xt_pure rfl rfl rfl (st1 := .int 5 :: _) rfl ?_
  refine xt_ic rfl rfl (fun hb => ?_) (fun hb => ?_)
  · replace h := zif_t (p := x1 ≠ (5 : Int32)) hb h
    refine xt_pure rfl rfl rfl (st1 := .int 1 :: _) rfl ?_
    refine zt_pI 1 rfl rfl rfl rfl rfl rfl ?_
    refine xt_pure rfl rfl rfl (st1 := .int 0 :: _) rfl ?_
    refine xt_pure rfl rfl rfl (L1 := [_, _, _, _, _, _]) rfl ?_
    exact trC_candidate_22 hT2 hT3 hT4 hNe hSn hG hf hl h
  · replace h := zif_f (p := x1 ≠ (5 : Int32)) hb h
    refine xt_pure rfl rfl rfl rfl ?_
    refine xt_getf rfl rfl (zmr (ymm hG 7 rfl)) ?_
    refine xt_pure rfl rfl rfl rfl ?_
    obtain ⟨x8, hx8, h⟩ := zgi h
    refine zr_ild (l := (ga 7)) rfl rfl (zmr (ymm hG 28 rfl)) hx8 ?_
    refine xt_pure rfl rfl rfl rfl ?_
    refine zt_pI 1 rfl rfl rfl rfl rfl rfl ?_
    refine xt_pure rfl rfl rfl (st1 := .int 0 :: _) rfl ?_
    refine xt_pure rfl rfl rfl (L1 := [_, _, _, _, _, _]) rfl ?_
    exact trC_candidate_22 hT2 hT3 hT4 hNe hSn hG hf hl h
