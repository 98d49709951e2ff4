/-! MIRRORS: form of the reference, from where its form is at hand up to where it is done -/
def yG (X : List Int32) (fr lo mi ip : Nat) (L : List (Option Value)) (st : List Value) (D : List xE) (ip2 : Nat) (L2 : List (Option Value)) (st2 : List Value) (D2 : List xE) : Prop := ∀ c s Q, yT X fr lo mi ip2 L2 st2 D2 c s Q → yT X fr lo mi ip L st D c s Q
def rQ_form_137  (N : Nat)   (S : zS) : Option (Unit × zS) := (zb (rQ_good N  S) fun x25 S26 => (if x25 = (0 : Int32) then some ((), (zsI S26 0 0)) else (zb (rQ_settle N  S26) fun _ S29 => some ((), (zsI (zsI S29 6 (zI S29 8)) 0 0)))))
theorem trQ_form_137 {X : List Int32} {D0 : List xE} {a : Nat} {p : Nat → Nat} (hG0 : ((209, .inl (14, 9, .ref a)) : xE) ∈ D0) (hG : ∀ e ∈ zgQ a p, e ∈ D0)  {N fr lo : Nat}   (hf : 13 + 7 * (N / 16) ≤ fr) (hl : 342 + 158 * (N / 16) ≤ lo)   {S S2 : zS} {r : Unit}  (h : rQ_form_137 N  S = some (r, S2)) : yG X fr lo 210 137 [some (.ref 209)] [] (zD zTQ (zaQ a p) S D0) 149 [some (.ref 209)] [] (zD zTQ (zaQ a p) S2 D0) := by
  unfold rQ_form_137 at h
  intro c s Q hend
  refine xt_pure rfl rfl rfl rfl ?_
  obtain ⟨x25, S26, hc27, h⟩ := zbi h
  refine zt_Vi rfl rfl rfl rfl (xmC 176 rfl) ⟨rfl, rfl, yle rfl, yle rfl⟩ (m := 1) rfl ⟨by omega, by omega⟩ (trQ_good hG0 hG (by omega) (by omega) hc27) (fr1 := fr - 1) (lo1 := lo - 20) ?_
  refine xt_if rfl rfl (fun hb => ?_) (fun hb => ?_)
  · replace h := zif_t (p := x25 = (0 : Int32)) hb h
    refine xt_pure rfl rfl rfl rfl ?_
    refine xt_pure rfl rfl rfl (st1 := .int 0 :: _) rfl ?_
    refine zt_pI 0 rfl rfl rfl rfl rfl rfl ?_
    cases h
    exact hend
  · replace h := zif_f (p := x25 = (0 : Int32)) hb h
    refine xt_pure rfl rfl rfl rfl ?_
    obtain ⟨_, S29, hc30, h⟩ := zbi h
    refine zt_Vv rfl rfl rfl rfl (xmC 176 rfl) ⟨rfl, rfl, yle rfl, yle rfl⟩ (m := 5) rfl ⟨by omega, by omega⟩ (trQ_settle hG0 hG (by omega) (by omega) hc30) (fr1 := fr - 1) (lo1 := lo - 24) ?_
    refine xt_pure rfl rfl rfl rfl ?_
    refine xt_pure rfl rfl rfl rfl ?_
    refine zt_gI 8 rfl rfl rfl rfl (x := (zI S29 8)) rfl ?_
    refine zt_pI 6 rfl rfl rfl rfl rfl rfl ?_
    refine xt_pure rfl rfl rfl rfl ?_
    refine xt_pure rfl rfl rfl (st1 := .int 0 :: _) rfl ?_
    refine zt_pI 0 rfl rfl rfl rfl rfl rfl ?_
    cases h
    exact hend
def rQ_form_115  (N : Nat)  : Nat → zS → Option (Unit × zS)
  | 0, _ => none
  | n + 1, S => (zb (rQ_good N  S) fun x19 S20 => (if x19 = (0 : Int32) then (zb (rQ_good N  S20) fun x22 S23 => (if x22 = (0 : Int32) then rQ_form_137 N  S23 else (if (zI S23 2) = (0 : Int32) then rQ_form_137 N  S23 else (zb (rQ_wrong N  S23) fun _ S32 => rQ_form_137 N  S32)))) else (zb (rS_isWord zs_40 N S20) fun x34 S35 => (if x34 ≠ (0 : Int32) then (zb (rQ_rule N  S35) fun _ S38 => (rQ_form_115 N n)  S38) else (zb (rS_isWord zs_42 N S35) fun x40 S41 => (if x40 = (0 : Int32) then (zb (rQ_good N  S41) fun x43 S44 => (if x43 = (0 : Int32) then rQ_form_137 N  S44 else (if (zI S44 2) = (0 : Int32) then rQ_form_137 N  S44 else (zb (rQ_wrong N  S44) fun _ S47 => rQ_form_137 N  S47)))) else (zb (rQ_rule N  S41) fun _ S50 => (rQ_form_115 N n)  S50)))))))
theorem trQ_form_115 {X : List Int32} {D0 : List xE} {a : Nat} {p : Nat → Nat} (hG0 : ((209, .inl (14, 9, .ref a)) : xE) ∈ D0) (hG : ∀ e ∈ zgQ a p, e ∈ D0)  {N fr lo : Nat}   (hf : 13 + 7 * (N / 16) ≤ fr) (hl : 342 + 158 * (N / 16) ≤ lo)  : ∀ {n : Nat}   {S S2 : zS} {r : Unit} , rQ_form_115 N n  S = some (r, S2) → yG X fr lo 210 115 [some (.ref 209)] [] (zD zTQ (zaQ a p) S D0) 149 [some (.ref 209)] [] (zD zTQ (zaQ a p) S2 D0) := by
  intro n
  induction n with
  | zero =>
    intro   S S2 r  h
    have h : (none : Option (Unit × zS)) = some (r, S2) := h
    cases h
  | succ n ih =>
    intro   S S2 r  h
    rw [rQ_form_115] at h
    intro c s Q hend
    refine xt_pure rfl rfl rfl rfl ?_
    obtain ⟨x19, S20, hc21, h⟩ := zbi h
    refine zt_Vi rfl rfl rfl rfl (xmC 176 rfl) ⟨rfl, rfl, yle rfl, yle rfl⟩ (m := 1) rfl ⟨by omega, by omega⟩ (trQ_good hG0 hG (by omega) (by omega) hc21) (fr1 := fr - 1) (lo1 := lo - 20) ?_
    refine xt_if rfl rfl (fun hb => ?_) (fun hb => ?_)
    · replace h := zif_t (p := x19 = (0 : Int32)) hb h
      refine xt_pure rfl rfl rfl rfl ?_
      obtain ⟨x22, S23, hc24, h⟩ := zbi h
      refine zt_Vi rfl rfl rfl rfl (xmC 176 rfl) ⟨rfl, rfl, yle rfl, yle rfl⟩ (m := 1) rfl ⟨by omega, by omega⟩ (trQ_good hG0 hG (by omega) (by omega) hc24) (fr1 := fr - 1) (lo1 := lo - 20) ?_
      refine xt_if rfl rfl (fun hb => ?_) (fun hb => ?_)
      · replace h := zif_t (p := x22 = (0 : Int32)) hb h
        exact trQ_form_137 hG0 hG hf hl h _ _ _ hend
      · replace h := zif_f (p := x22 = (0 : Int32)) hb h
        refine xt_pure rfl rfl rfl rfl ?_
        refine zt_gI 2 rfl rfl rfl rfl (x := (zI S23 2)) rfl ?_
        refine xt_if rfl rfl (fun hb => ?_) (fun hb => ?_)
        · replace h := zif_t (p := (zI S23 2) = (0 : Int32)) hb h
          exact trQ_form_137 hG0 hG hf hl h _ _ _ hend
        · replace h := zif_f (p := (zI S23 2) = (0 : Int32)) hb h
          refine xt_pure rfl rfl rfl rfl ?_
          obtain ⟨_, S32, hc33, h⟩ := zbi h
          refine zt_Vv rfl rfl rfl rfl (xmC 176 rfl) ⟨rfl, rfl, yle rfl, yle rfl⟩ (m := 1) rfl ⟨by omega, by omega⟩ (trQ_wrong hG0 hG (by omega) (by omega) hc33) (fr1 := fr - 1) (lo1 := lo - 20) ?_
          exact trQ_form_137 hG0 hG hf hl h _ _ _ hend
    · replace h := zif_f (p := x19 = (0 : Int32)) hb h
      refine xt_pure rfl rfl rfl rfl ?_
      refine xt_pure rfl rfl rfl rfl ?_
      obtain ⟨x34, S35, hc36, h⟩ := zbi h
      refine zt_Vi rfl rfl rfl rfl (xmC 176 rfl) ⟨rfl, rfl, yle rfl, yle rfl⟩ (m := 3) rfl ⟨by omega, by omega⟩ (trS_isWord hG0 hG (List.mem_cons_of_mem _ (List.mem_of_getElem? (i := 58) rfl)) (List.mem_cons_of_mem _ (List.mem_of_getElem? (i := 59) rfl)) (List.mem_cons_of_mem _ (List.mem_of_getElem? (i := 60) rfl)) (by omega) (by omega) hc36) (fr1 := fr - 1) (lo1 := lo - 22) ?_
      refine xt_if rfl rfl (fun hb => ?_) (fun hb => ?_)
      · replace h := zif_t (p := x34 ≠ (0 : Int32)) hb h
        refine xt_pure rfl rfl rfl rfl ?_
        obtain ⟨_, S38, hc39, h⟩ := zbi h
        refine zt_Vv rfl rfl rfl rfl (xmC 176 rfl) ⟨rfl, rfl, yle rfl, yle rfl⟩ (m := 4) rfl ⟨by omega, by omega⟩ (trQ_rule hG0 hG (by omega) (by omega) hc39) (fr1 := fr - 1) (lo1 := lo - 23) ?_
        refine xt_pure rfl rfl rfl rfl ?_
        exact ih h _ _ _ hend
      · replace h := zif_f (p := x34 ≠ (0 : Int32)) hb h
        refine xt_pure rfl rfl rfl rfl ?_
        refine xt_pure rfl rfl rfl rfl ?_
        obtain ⟨x40, S41, hc42, h⟩ := zbi h
        refine zt_Vi rfl rfl rfl rfl (xmC 176 rfl) ⟨rfl, rfl, yle rfl, yle rfl⟩ (m := 3) rfl ⟨by omega, by omega⟩ (trS_isWord hG0 hG (List.mem_cons_of_mem _ (List.mem_of_getElem? (i := 61) rfl)) (List.mem_cons_of_mem _ (List.mem_of_getElem? (i := 62) rfl)) (List.mem_cons_of_mem _ (List.mem_of_getElem? (i := 63) rfl)) (by omega) (by omega) hc42) (fr1 := fr - 1) (lo1 := lo - 22) ?_
        refine xt_if rfl rfl (fun hb => ?_) (fun hb => ?_)
        · replace h := zif_t (p := x40 = (0 : Int32)) hb h
          refine xt_pure rfl rfl rfl rfl ?_
          obtain ⟨x43, S44, hc45, h⟩ := zbi h
          refine zt_Vi rfl rfl rfl rfl (xmC 176 rfl) ⟨rfl, rfl, yle rfl, yle rfl⟩ (m := 1) rfl ⟨by omega, by omega⟩ (trQ_good hG0 hG (by omega) (by omega) hc45) (fr1 := fr - 1) (lo1 := lo - 20) ?_
          refine xt_if rfl rfl (fun hb => ?_) (fun hb => ?_)
          · replace h := zif_t (p := x43 = (0 : Int32)) hb h
            exact trQ_form_137 hG0 hG hf hl h _ _ _ hend
          · replace h := zif_f (p := x43 = (0 : Int32)) hb h
            refine xt_pure rfl rfl rfl rfl ?_
            refine zt_gI 2 rfl rfl rfl rfl (x := (zI S44 2)) rfl ?_
            refine xt_if rfl rfl (fun hb => ?_) (fun hb => ?_)
            · replace h := zif_t (p := (zI S44 2) = (0 : Int32)) hb h
              exact trQ_form_137 hG0 hG hf hl h _ _ _ hend
            · replace h := zif_f (p := (zI S44 2) = (0 : Int32)) hb h
              refine xt_pure rfl rfl rfl rfl ?_
              obtain ⟨_, S47, hc48, h⟩ := zbi h
              refine zt_Vv rfl rfl rfl rfl (xmC 176 rfl) ⟨rfl, rfl, yle rfl, yle rfl⟩ (m := 1) rfl ⟨by omega, by omega⟩ (trQ_wrong hG0 hG (by omega) (by omega) hc48) (fr1 := fr - 1) (lo1 := lo - 20) ?_
              exact trQ_form_137 hG0 hG hf hl h _ _ _ hend
        · replace h := zif_f (p := x40 = (0 : Int32)) hb h
          refine xt_pure rfl rfl rfl rfl ?_
          obtain ⟨_, S50, hc51, h⟩ := zbi h
          refine zt_Vv rfl rfl rfl rfl (xmC 176 rfl) ⟨rfl, rfl, yle rfl, yle rfl⟩ (m := 4) rfl ⟨by omega, by omega⟩ (trQ_rule hG0 hG (by omega) (by omega) hc51) (fr1 := fr - 1) (lo1 := lo - 23) ?_
          refine xt_pure rfl rfl rfl rfl ?_
          exact ih h _ _ _ hend
def rQ_form_93  (N : Nat)   (S : zS) : Option (Unit × zS) := (zb (rQ_good N  S) fun x13 S14 => (if x13 = (0 : Int32) then (zb (rQ_pfix N (N / 16) (-9) S14) fun _ S17 => rQ_form_115 N N  S17) else (zb (rS_isWord zs_10 N S14) fun x52 S53 => (if x52 = (0 : Int32) then (zb (rQ_pfix N (N / 16) (-9) S53) fun _ S56 => rQ_form_115 N N  S56) else (zb (rQ_next N  S53) fun _ S59 => (zb (rQ_number N 0 5 S59) fun x61 S62 => (zb (rQ_sign N 59 (zsI S62 30 x61)) fun _ S65 => (zb (rQ_pfix N (N / 16) (-9) S65) fun _ S68 => rQ_form_115 N N  S68))))))))
theorem trQ_form_93 {X : List Int32} {D0 : List xE} {a : Nat} {p : Nat → Nat} (hG0 : ((209, .inl (14, 9, .ref a)) : xE) ∈ D0) (hG : ∀ e ∈ zgQ a p, e ∈ D0)  {N fr lo : Nat}   (hf : 13 + 7 * (N / 16) ≤ fr) (hl : 342 + 158 * (N / 16) ≤ lo)   {S S2 : zS} {r : Unit}  (h : rQ_form_93 N  S = some (r, S2)) : yG X fr lo 210 93 [some (.ref 209)] [] (zD zTQ (zaQ a p) S D0) 149 [some (.ref 209)] [] (zD zTQ (zaQ a p) S2 D0) := by
  unfold rQ_form_93 at h
  intro c s Q hend
  refine xt_pure rfl rfl rfl rfl ?_
  obtain ⟨x13, S14, hc15, h⟩ := zbi h
  refine zt_Vi rfl rfl rfl rfl (xmC 176 rfl) ⟨rfl, rfl, yle rfl, yle rfl⟩ (m := 1) rfl ⟨by omega, by omega⟩ (trQ_good hG0 hG (by omega) (by omega) hc15) (fr1 := fr - 1) (lo1 := lo - 20) ?_
  refine xt_if rfl rfl (fun hb => ?_) (fun hb => ?_)
  · replace h := zif_t (p := x13 = (0 : Int32)) hb h
    refine xt_pure rfl rfl rfl rfl ?_
    refine xt_pure rfl rfl rfl (st1 := .int (-9) :: _) rfl ?_
    obtain ⟨_, S17, hc18, h⟩ := zbi h
    refine zt_Vv rfl rfl rfl rfl (xmC 176 rfl) ⟨rfl, rfl, yle rfl, yle rfl⟩ (m := 2) rfl ⟨by omega, by omega⟩ ((trQ_pfix hG0 hG (by omega) (by omega)) hc18) (fr1 := fr - 1) (lo1 := lo - 21) ?_
    exact trQ_form_115 hG0 hG hf hl h _ _ _ hend
  · replace h := zif_f (p := x13 = (0 : Int32)) hb h
    refine xt_pure rfl rfl rfl rfl ?_
    refine xt_pure rfl rfl rfl rfl ?_
    obtain ⟨x52, S53, hc54, h⟩ := zbi h
    refine zt_Vi rfl rfl rfl rfl (xmC 176 rfl) ⟨rfl, rfl, yle rfl, yle rfl⟩ (m := 3) rfl ⟨by omega, by omega⟩ (trS_isWord hG0 hG (List.mem_cons_of_mem _ (List.mem_of_getElem? (i := 13) rfl)) (List.mem_cons_of_mem _ (List.mem_of_getElem? (i := 14) rfl)) (List.mem_cons_of_mem _ (List.mem_of_getElem? (i := 15) rfl)) (by omega) (by omega) hc54) (fr1 := fr - 1) (lo1 := lo - 22) ?_
    refine xt_if rfl rfl (fun hb => ?_) (fun hb => ?_)
    · replace h := zif_t (p := x52 = (0 : Int32)) hb h
      refine xt_pure rfl rfl rfl rfl ?_
      refine xt_pure rfl rfl rfl (st1 := .int (-9) :: _) rfl ?_
      obtain ⟨_, S56, hc57, h⟩ := zbi h
      refine zt_Vv rfl rfl rfl rfl (xmC 176 rfl) ⟨rfl, rfl, yle rfl, yle rfl⟩ (m := 2) rfl ⟨by omega, by omega⟩ ((trQ_pfix hG0 hG (by omega) (by omega)) hc57) (fr1 := fr - 1) (lo1 := lo - 21) ?_
      exact trQ_form_115 hG0 hG hf hl h _ _ _ hend
    · replace h := zif_f (p := x52 = (0 : Int32)) hb h
      refine xt_pure rfl rfl rfl rfl ?_
      obtain ⟨_, S59, hc60, h⟩ := zbi h
      refine zt_Vv rfl rfl rfl rfl (xmC 176 rfl) ⟨rfl, rfl, yle rfl, yle rfl⟩ (m := 4) rfl ⟨by omega, by omega⟩ (trQ_next hG0 hG (by omega) (by omega) hc60) (fr1 := fr - 1) (lo1 := lo - 23) ?_
      refine xt_pure rfl rfl rfl rfl ?_
      refine xt_getf rfl rfl (zmr hG0) ?_
      refine xt_pure rfl rfl rfl rfl ?_
      refine xt_pure rfl rfl rfl (st1 := .int 0 :: _) rfl ?_
      refine xt_pure rfl rfl rfl (st1 := .int 5 :: _) rfl ?_
      obtain ⟨x61, S62, hc63, h⟩ := zbi h
      refine zt_Vi rfl rfl rfl rfl (xmC 176 rfl) ⟨rfl, rfl, yle rfl, yle rfl⟩ (m := 4) rfl ⟨by omega, by omega⟩ (trQ_number hG0 hG (by omega) (by omega) hc63) (fr1 := fr - 1) (lo1 := lo - 23) ?_
      refine zt_pI 30 rfl rfl rfl rfl rfl rfl ?_
      refine xt_pure rfl rfl rfl rfl ?_
      refine xt_pure rfl rfl rfl (st1 := .int 59 :: _) rfl ?_
      obtain ⟨_, S65, hc66, h⟩ := zbi h
      refine zt_Vv rfl rfl rfl rfl (xmC 176 rfl) ⟨rfl, rfl, yle rfl, yle rfl⟩ (m := 2) rfl ⟨by omega, by omega⟩ (trQ_sign hG0 hG (by omega) (by omega) hc66) (fr1 := fr - 1) (lo1 := lo - 21) ?_
      refine xt_pure rfl rfl rfl rfl ?_
      refine xt_pure rfl rfl rfl (st1 := .int (-9) :: _) rfl ?_
      obtain ⟨_, S68, hc69, h⟩ := zbi h
      refine zt_Vv rfl rfl rfl rfl (xmC 176 rfl) ⟨rfl, rfl, yle rfl, yle rfl⟩ (m := 2) rfl ⟨by omega, by omega⟩ ((trQ_pfix hG0 hG (by omega) (by omega)) hc69) (fr1 := fr - 1) (lo1 := lo - 21) ?_
      exact trQ_form_115 hG0 hG hf hl h _ _ _ hend
def rQ_form  (N : Nat) (S : zS) : Option (Unit × zS) := (zb (rQ_next N  (zsI (zsI (zsI (zsI (zsI (zsI (zsI (zsI (zsI (zsI (zsI (zsI S 14 0) 23 0) 26 0) 29 (-9)) 30 0) 31 0) 32 0) 6 (-9)) 8 (-9)) 7 0) 9 0) 4 0)) fun _ S2 => (zb (rQ_word_215_209_6 N  S2) fun _ S5 => (zb (rQ_sign N 59 S5) fun _ S8 => (zb (rQ_good N  S8) fun x10 S11 => (if x10 = (0 : Int32) then rQ_form_93 N  S11 else (zb (rS_isWord zs_8 N S11) fun x70 S71 => (if x70 = (0 : Int32) then rQ_form_93 N  S71 else (zb (rQ_next N  S71) fun _ S74 => (zb (rQ_number N 0 9999 S74) fun x76 S77 => (zb (rQ_sign N 59 (zsI S77 29 x76)) fun _ S80 => rQ_form_93 N  S80))))))))))
theorem trQ_form {X : List Int32} {D0 : List xE} {a : Nat} {p : Nat → Nat} (hG0 : ((209, .inl (14, 9, .ref a)) : xE) ∈ D0) (hG : ∀ e ∈ zgQ a p, e ∈ D0)  {N fr lo : Nat} (hf : 13 + 7 * (N / 16) ≤ fr) (hl : 342 + 158 * (N / 16) ≤ lo) {S S2 : zS} {r : Unit} (h : rQ_form N S = some (r, S2)) : yG X fr lo 210 23 [some (.ref 209)] [] (zD zTQ (zaQ a p) S D0) 149 [some (.ref 209)] [] (zD zTQ (zaQ a p) S2 D0) := by
  unfold rQ_form at h
  intro c s Q hend
  refine xt_pure rfl rfl rfl rfl ?_
  refine xt_getf rfl rfl (zmr hG0) ?_
  refine xt_pure rfl rfl rfl (st1 := .int 0 :: _) rfl ?_
  refine zt_pI 14 rfl rfl rfl rfl rfl rfl ?_
  refine xt_pure rfl rfl rfl rfl ?_
  refine xt_getf rfl rfl (zmr hG0) ?_
  refine xt_pure rfl rfl rfl (st1 := .int 0 :: _) rfl ?_
  refine zt_pI 23 rfl rfl rfl rfl rfl rfl ?_
  refine xt_pure rfl rfl rfl rfl ?_
  refine xt_getf rfl rfl (zmr hG0) ?_
  refine xt_pure rfl rfl rfl (st1 := .int 0 :: _) rfl ?_
  refine zt_pI 26 rfl rfl rfl rfl rfl rfl ?_
  refine xt_pure rfl rfl rfl rfl ?_
  refine xt_getf rfl rfl (zmr hG0) ?_
  refine xt_pure rfl rfl rfl (st1 := .int (-9) :: _) rfl ?_
  refine zt_pI 29 rfl rfl rfl rfl rfl rfl ?_
  refine xt_pure rfl rfl rfl rfl ?_
  refine xt_getf rfl rfl (zmr hG0) ?_
  refine xt_pure rfl rfl rfl (st1 := .int 0 :: _) rfl ?_
  refine zt_pI 30 rfl rfl rfl rfl rfl rfl ?_
  refine xt_pure rfl rfl rfl rfl ?_
  refine xt_getf rfl rfl (zmr hG0) ?_
  refine xt_pure rfl rfl rfl (st1 := .int 0 :: _) rfl ?_
  refine zt_pI 31 rfl rfl rfl rfl rfl rfl ?_
  refine xt_pure rfl rfl rfl rfl ?_
  refine xt_getf rfl rfl (zmr hG0) ?_
  refine xt_pure rfl rfl rfl (st1 := .int 0 :: _) rfl ?_
  refine zt_pI 32 rfl rfl rfl rfl rfl rfl ?_
  refine xt_pure rfl rfl rfl rfl ?_
  refine xt_pure rfl rfl rfl (st1 := .int (-9) :: _) rfl ?_
  refine zt_pI 6 rfl rfl rfl rfl rfl rfl ?_
  refine xt_pure rfl rfl rfl rfl ?_
  refine xt_pure rfl rfl rfl (st1 := .int (-9) :: _) rfl ?_
  refine zt_pI 8 rfl rfl rfl rfl rfl rfl ?_
  refine xt_pure rfl rfl rfl rfl ?_
  refine xt_pure rfl rfl rfl (st1 := .int 0 :: _) rfl ?_
  refine zt_pI 7 rfl rfl rfl rfl rfl rfl ?_
  refine xt_pure rfl rfl rfl rfl ?_
  refine xt_pure rfl rfl rfl (st1 := .int 0 :: _) rfl ?_
  refine zt_pI 9 rfl rfl rfl rfl rfl rfl ?_
  refine xt_pure rfl rfl rfl rfl ?_
  refine xt_pure rfl rfl rfl (st1 := .int 0 :: _) rfl ?_
  refine zt_pI 4 rfl rfl rfl rfl rfl rfl ?_
  refine xt_pure rfl rfl rfl rfl ?_
  obtain ⟨_, S2, hc3, h⟩ := zbi h
  refine zt_Vv rfl rfl rfl rfl (xmC 176 rfl) ⟨rfl, rfl, yle rfl, yle rfl⟩ (m := 4) rfl ⟨by omega, by omega⟩ (trQ_next hG0 hG (by omega) (by omega) hc3) (fr1 := fr - 1) (lo1 := lo - 23) ?_
  refine xt_pure rfl rfl rfl rfl ?_
  refine xt_pure rfl rfl rfl rfl ?_
  obtain ⟨_, S5, hc6, h⟩ := zbi h
  refine zt_Vv rfl rfl rfl rfl (xmC 176 rfl) ⟨rfl, rfl, yle rfl, yle rfl⟩ (m := 2) rfl ⟨by omega, by omega⟩ (trQ_word_215_209_6 hG0 hG (by omega) (by omega) hc6) (fr1 := fr - 1) (lo1 := lo - 21) ?_
  refine xt_pure rfl rfl rfl rfl ?_
  refine xt_pure rfl rfl rfl (st1 := .int 59 :: _) rfl ?_
  obtain ⟨_, S8, hc9, h⟩ := zbi h
  refine zt_Vv rfl rfl rfl rfl (xmC 176 rfl) ⟨rfl, rfl, yle rfl, yle rfl⟩ (m := 2) rfl ⟨by omega, by omega⟩ (trQ_sign hG0 hG (by omega) (by omega) hc9) (fr1 := fr - 1) (lo1 := lo - 21) ?_
  refine xt_pure rfl rfl rfl rfl ?_
  obtain ⟨x10, S11, hc12, h⟩ := zbi h
  refine zt_Vi rfl rfl rfl rfl (xmC 176 rfl) ⟨rfl, rfl, yle rfl, yle rfl⟩ (m := 1) rfl ⟨by omega, by omega⟩ (trQ_good hG0 hG (by omega) (by omega) hc12) (fr1 := fr - 1) (lo1 := lo - 20) ?_
  refine xt_if rfl rfl (fun hb => ?_) (fun hb => ?_)
  · replace h := zif_t (p := x10 = (0 : Int32)) hb h
    exact trQ_form_93 hG0 hG hf hl h _ _ _ hend
  · replace h := zif_f (p := x10 = (0 : Int32)) hb h
    refine xt_pure rfl rfl rfl rfl ?_
    refine xt_pure rfl rfl rfl rfl ?_
    obtain ⟨x70, S71, hc72, h⟩ := zbi h
    refine zt_Vi rfl rfl rfl rfl (xmC 176 rfl) ⟨rfl, rfl, yle rfl, yle rfl⟩ (m := 3) rfl ⟨by omega, by omega⟩ (trS_isWord hG0 hG (List.mem_cons_of_mem _ (List.mem_of_getElem? (i := 10) rfl)) (List.mem_cons_of_mem _ (List.mem_of_getElem? (i := 11) rfl)) (List.mem_cons_of_mem _ (List.mem_of_getElem? (i := 12) rfl)) (by omega) (by omega) hc72) (fr1 := fr - 1) (lo1 := lo - 22) ?_
    refine xt_if rfl rfl (fun hb => ?_) (fun hb => ?_)
    · replace h := zif_t (p := x70 = (0 : Int32)) hb h
      exact trQ_form_93 hG0 hG hf hl h _ _ _ hend
    · replace h := zif_f (p := x70 = (0 : Int32)) hb h
      refine xt_pure rfl rfl rfl rfl ?_
      obtain ⟨_, S74, hc75, h⟩ := zbi h
      refine zt_Vv rfl rfl rfl rfl (xmC 176 rfl) ⟨rfl, rfl, yle rfl, yle rfl⟩ (m := 4) rfl ⟨by omega, by omega⟩ (trQ_next hG0 hG (by omega) (by omega) hc75) (fr1 := fr - 1) (lo1 := lo - 23) ?_
      refine xt_pure rfl rfl rfl rfl ?_
      refine xt_getf rfl rfl (zmr hG0) ?_
      refine xt_pure rfl rfl rfl rfl ?_
      refine xt_pure rfl rfl rfl (st1 := .int 0 :: _) rfl ?_
      refine xt_pure rfl rfl rfl (st1 := .int 9999 :: _) rfl ?_
      obtain ⟨x76, S77, hc78, h⟩ := zbi h
      refine zt_Vi rfl rfl rfl rfl (xmC 176 rfl) ⟨rfl, rfl, yle rfl, yle rfl⟩ (m := 4) rfl ⟨by omega, by omega⟩ (trQ_number hG0 hG (by omega) (by omega) hc78) (fr1 := fr - 1) (lo1 := lo - 23) ?_
      refine zt_pI 29 rfl rfl rfl rfl rfl rfl ?_
      refine xt_pure rfl rfl rfl rfl ?_
      refine xt_pure rfl rfl rfl (st1 := .int 59 :: _) rfl ?_
      obtain ⟨_, S80, hc81, h⟩ := zbi h
      refine zt_Vv rfl rfl rfl rfl (xmC 176 rfl) ⟨rfl, rfl, yle rfl, yle rfl⟩ (m := 2) rfl ⟨by omega, by omega⟩ (trQ_sign hG0 hG (by omega) (by omega) hc81) (fr1 := fr - 1) (lo1 := lo - 21) ?_
      exact trQ_form_93 hG0 hG hf hl h _ _ _ hend
