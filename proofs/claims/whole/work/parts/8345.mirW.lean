/-! MIRRORS: how many parts have candidates, the class -/
def cW_candidateParts_4 (gi : Nat → Int32) (ga : Nat → List Int32)  (N : Nat)  : Nat → Int32 → Int32 → zS → Option (Int32 × zS)
  | 0, _, _, _ => none
  | n + 1, l2, l3, S => (if (gi 0).toInt ≤ l3.toInt then some (l2, S) else (zg (gI (ga 1) l3) fun x1 => (if 5 < x1.toInt then (cW_candidateParts_4 gi ga N n) (l2 + 0) (l3 + 1) S else (cW_candidateParts_4 gi ga N n) (l2 + 1) (l3 + 1) S)))
theorem tcW_candidateParts_4 {X : List Int32} {D0 : List xE} {fa : Nat} {p : Nat → Nat} {gi : Nat → Int32} {ga : Nat → List Int32} (hG : ∀ e ∈ zgE fa p gi ga, e ∈ D0)  {N fr lo : Nat}   (hf : 0 ≤ fr) (hl : 0 ≤ lo)  : ∀ {n : Nat} {l2 : Int32} {l3 : Int32}  {S S2 : zS} {r : Int32} , cW_candidateParts_4 gi ga N n l2 l3 S = some (r, S2) → yT X fr lo 181 4 [some (.ref 168), some (.ref fa), some (.int l2), some (.int l3)] [] (zD zTS zaS S D0) 0 0 (zQi zTS zaS D0 r S2) := by
  intro n
  induction n with
  | zero =>
    intro l2 l3  S S2 r  h
    have h : (none : Option (Int32 × zS)) = some (r, S2) := h
    cases h
  | succ n ih =>
    intro l2 l3  S S2 r  h
    rw [cW_candidateParts_4] at h
    refine xt_pure rfl rfl rfl rfl ?_
    refine xt_pure rfl rfl rfl rfl ?_
    refine xt_getf rfl rfl (zmr (ymm hG 0 rfl)) ?_
    refine xt_ic rfl rfl (fun hb => ?_) (fun hb => ?_)
    · replace h := zif_t (p := (gi 0).toInt ≤ l3.toInt) hb h
      refine xt_pure rfl rfl rfl rfl ?_
      cases h
      exact xt_iret rfl rfl rfl rfl ⟨rfl, rfl⟩
    · replace h := zif_f (p := (gi 0).toInt ≤ l3.toInt) hb h
      refine xt_pure rfl rfl rfl rfl ?_
      refine xt_pure rfl rfl rfl rfl ?_
      refine xt_getf rfl rfl (zmr (ymm hG 1 rfl)) ?_
      refine xt_pure rfl rfl rfl rfl ?_
      obtain ⟨x1, hx1, h⟩ := zgi h
      refine zr_ild (l := (ga 1)) rfl rfl (zmr (ymm hG 19 rfl)) hx1 ?_
      refine xt_pure rfl rfl rfl (st1 := .int 5 :: _) rfl ?_
      refine xt_ic rfl rfl (fun hb => ?_) (fun hb => ?_)
      · replace h := zif_t (p := 5 < x1.toInt) hb h
        refine xt_pure rfl rfl rfl (st1 := .int 0 :: _) rfl ?_
        refine xt_pure rfl rfl rfl rfl ?_
        refine xt_pure rfl rfl rfl (L1 := [_, _, _, _]) rfl ?_
        refine xt_pure rfl rfl rfl (L1 := [_, _, _, some (.int (_ + 1))]) rfl ?_
        refine xt_pure rfl rfl rfl rfl ?_
        exact ih h
      · replace h := zif_f (p := 5 < x1.toInt) hb h
        refine xt_pure rfl rfl rfl (st1 := .int 1 :: _) rfl ?_
        refine xt_pure rfl rfl rfl rfl ?_
        refine xt_pure rfl rfl rfl rfl ?_
        refine xt_pure rfl rfl rfl (L1 := [_, _, _, _]) rfl ?_
        refine xt_pure rfl rfl rfl (L1 := [_, _, _, some (.int (_ + 1))]) rfl ?_
        refine xt_pure rfl rfl rfl rfl ?_
        exact ih h
def cW_candidateParts (gi : Nat → Int32) (ga : Nat → List Int32)  (N : Nat)  (S : zS) : Option (Int32 × zS) := cW_candidateParts_4 gi ga N N 0 0 S
theorem tcW_candidateParts {X : List Int32} {D0 : List xE} {fa : Nat} {p : Nat → Nat} {gi : Nat → Int32} {ga : Nat → List Int32} (hG : ∀ e ∈ zgE fa p gi ga, e ∈ D0)  {N fr lo : Nat} (hf : 0 ≤ fr) (hl : 0 ≤ lo)  {S S2 : zS} {r : Int32}  (h : cW_candidateParts gi ga N  S = some (r, S2)) : yK X fr lo 181 [.ref 168, .ref fa] (zD zTS zaS S D0) 0 0 (zQi zTS zaS D0 r S2) := by
  unfold cW_candidateParts at h
  refine yK.of rfl (yle rfl) (L := [_, _, _, _]) rfl ?_
  refine xt_pure rfl rfl rfl (st1 := .int 0 :: _) rfl ?_
  refine xt_pure rfl rfl rfl (L1 := [_, _, _, _]) rfl ?_
  refine xt_pure rfl rfl rfl (st1 := .int 0 :: _) rfl ?_
  refine xt_pure rfl rfl rfl (L1 := [_, _, _, _]) rfl ?_
  exact tcW_candidateParts_4 hG hf hl h
section CANDW
variable {gi : Nat → Int32} {ga : Nat → List Int32} {N : Nat} {F : yF}
theorem w_cands (hF : fC2 F gi ga) (hl20 : F.1.length ≤ 20) : ∀ (k p n acc : Nat) (S : zS), p + k = F.1.length → k < n → cW_candidateParts_4 gi ga N n (Int32.ofNat acc) (Int32.ofNat p) S = some (Int32.ofNat (acc + (plF F k p).length), S)
  | _, _, 0, _, _, _, hn => by omega
  | 0, p, n + 1, acc, S, hp, _ => by
    rw [cW_candidateParts_4, if_pos (by rw [hF.2.1.1, yi_nat (by omega), yi_nat (by omega)]; omega)]
    rfl
  | k + 1, p, n + 1, acc, S, hp, hn => by
    obtain ⟨P, hP⟩ : ∃ P, F.1[p]? = some P := ⟨_, List.getElem?_eq_getElem (by omega)⟩
    have e1 : gI (ga 1) (Int32.ofNat p) = some P.1 := by rw [gI_nat (by omega)]; exact hF.1.2.2.1 p P hP
    rw [cW_candidateParts_4, if_neg (by rw [hF.2.1.1, yi_nat (by omega), yi_nat (by omega)]; omega), e1, zg_s, yi_add1, yi_add1, show Int32.ofNat acc + 0 = Int32.ofNat acc from Int32.add_zero _, plF_s hP]
    by_cases h5 : P.1.toInt ≤ 5
    · rw [if_neg (by omega), if_pos h5, w_cands hF hl20 k (p + 1) n (acc + 1) S (by omega) (by omega), List.length_append, List.length_singleton, Nat.add_assoc]
    · rw [if_pos (by omega), if_neg h5, w_cands hF hl20 k (p + 1) n acc S (by omega) (by omega), List.nil_append]
end CANDW
