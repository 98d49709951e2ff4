/-! TAKE: the spare things; the reference -/
def oE (o : Option yTg) : List xE := match o with
  | none => []
  | some x => tgE x
def ovl (o : Option yTg) : Value := match o with
  | none => .null
  | some x => .ref x.1
/-- the spare things' entries -/
def sD : List (Option yTg) → List xE
  | [] => []
  | o :: r => oE o ++ sD r
/-- the row of spare things -/
def svl (sp : List (Option yTg)) : List Value := sp.map ovl
theorem s_out : ∀ {sp : List (Option yTg)} {r : Nat} {o : Option yTg}, sp[r]? = some o → (sD sp).Perm (oE o ++ sD (sp.set r none))
  | [], _, _, h => by cases h
  | a :: sp, 0, o, h => by
    injection h with h
    subst h
    exact List.Perm.refl _
  | a :: sp, r + 1, o, h => by
    have ih := s_out (sp := sp) (r := r) (o := o) h
    exact (List.Perm.append_left (oE a) ih).trans pq2
theorem s_in {sp : List (Option yTg)} {r : Nat} {x : yTg} (h : r < sp.length) : (sD (sp.set r (some x))).Perm (tgE x ++ sD (sp.set r none)) := by
  have := s_out (sp := sp.set r (some x)) (r := r) (o := some x) (List.getElem?_set_self h)
  rw [List.set_set] at this
  exact this
theorem svl_at {sp : List (Option yTg)} {r : Nat} {o : Option yTg} (h : sp[r]? = some o) : (svl sp)[r]? = some (ovl o) := by
  unfold svl
  rw [List.getElem?_map, h]
  rfl
theorem svl_set {sp : List (Option yTg)} {r : Nat} {o : Option yTg} : (svl sp).set r (ovl o) = svl (sp.set r o) := by
  unfold svl
  rw [List.map_set]
/-- a cleared thing -/
abbrev ntg (b ia ra ca : Nat) (sv n : Int32) : yTg := (b, ia, ra, ca, sv, n, List.replicate 12 (newv sv), List.replicate 6 (-1), List.replicate 36 0)
section SPARE
variable {X : List Int32} {D0 : List xE}
theorem mk_spare {sp : List (Option yTg)} {r : Nat} {sv n : Int32} (hr : r < 20) (hl : sp.length = 20) (hL : ∀ x, some x ∈ sp → tgL x) : yK X 3 150 290 [.ref 209, .int (Int32.ofNat r), .int sv, .int n] ((237, .inr (10, svl sp)) :: (sD sp ++ D0)) 4 59 (fun a D => ∃ b ia ra ca, a = some (.ref b) ∧ D = (237, .inr (10, svl (sp.set r (some (ntg b ia ra ca sv n))))) :: (tgE (ntg b ia ra ca sv n) ++ (sD (sp.set r none) ++ D0))) := by
  have tk := yi_nat (i := r) (by omega)
  have tk3 : (Int32.ofNat r).toInt.toNat = r := yi_toNat (by omega)
  have tk4 := yjn (j := Int32.ofNat r) (by rw [tk]; omega)
  have sl : (svl sp).length = 20 := by unfold svl; rw [List.length_map]; exact hl
  obtain ⟨o, ho⟩ : ∃ o, sp[r]? = some o := ⟨_, List.getElem?_eq_getElem (by omega)⟩
  have pm : ((237, .inr (10, svl sp)) :: (sD sp ++ D0)).Perm ((237, .inr (10, svl sp)) :: (oE o ++ (sD (sp.set r none) ++ D0))) := by
    refine List.Perm.cons _ ?_
    rw [← List.append_assoc]
    exact List.Perm.append_right _ (s_out ho)
  have hv := svl_at ho
  refine yK.perm pm ?_
  refine yK.of rfl (yle rfl) (L := [_, _, _, _]) rfl ?_
  refine xt_pure rfl rfl rfl rfl ?_
  refine xt_getf rfl rfl (xmC 186 rfl) ?_
  refine xt_pure rfl rfl rfl rfl ?_
  refine xt_pure rfl rfl rfl rfl ?_
  refine xt_getf rfl rfl (xmC 186 rfl) ?_
  refine xt_pure rfl rfl rfl rfl ?_
  cases o with
  | none =>
    refine xt_aald rfl rfl ⟨by decide, rfl⟩ (xmD 0 rfl) tk4.1 (v := .null) (by rw [tk4.2, tk3]; exact hv) ?_
    refine xt_pure rfl rfl rfl rfl ?_
    refine xt_pure rfl rfl rfl rfl ?_
    refine xt_pure rfl rfl rfl rfl ?_
    refine xt_callS rfl rfl (by decide) rfl ⟨rfl, yle rfl, yle rfl, yle rfl, yle rfl⟩ mk_thing (c2 := 0) (s2 := 0) ⟨yle rfl, yle rfl⟩ ?_
    rintro _ _ ⟨b, ia, ra, ca, rfl, rfl⟩
    refine xt_pure rfl rfl rfl rfl ?_
    refine yt_ast rfl rfl 8 rfl rfl (by decide) (Or.inl ⟨_, 13, 0, _, rfl, rfl, List.mem_append_left _ (List.mem_of_getElem? (i := 0) rfl)⟩) ⟨by rw [tk]; omega, by rw [tk, sl]; omega⟩ (D1 := tgE (ntg b ia ra ca sv n) ++ ((237, .inr (10, svl (sp.set r (some (ntg b ia ra ca sv n))))) :: (sD (sp.set r none) ++ D0))) (by rw [tk3, ← svl_set]; rfl) ?_
    refine xt_pure rfl rfl rfl rfl ?_
    refine xt_getf rfl rfl (xmC 186 rfl) ?_
    refine xt_pure rfl rfl rfl rfl ?_
    refine xt_aald rfl rfl ⟨by decide, rfl⟩ (xmD 8 rfl) tk4.1 (v := .ref b) (by rw [tk4.2, tk3]; exact svl_at (o := some (ntg b ia ra ca sv n)) (List.getElem?_set_self (by omega))) ?_
    refine yT.perm List.perm_middle ?_
    exact xt_aret rfl rfl rfl rfl rfl ⟨b, ia, ra, ca, rfl, rfl⟩
  | some x =>
    obtain ⟨b, ia, ra, ca, u0, u1, its, rs, cs⟩ := x
    obtain ⟨l1, l2, l3⟩ := hL _ (List.mem_of_getElem? ho)
    refine xt_aald rfl rfl ⟨by decide, rfl⟩ (xmD 0 rfl) tk4.1 (v := .ref b) (by rw [tk4.2, tk3]; exact hv) ?_
    refine xt_pure rfl rfl rfl rfl ?_
    refine xt_pure rfl rfl rfl rfl ?_
    refine xt_getf rfl rfl (xmC 186 rfl) ?_
    refine xt_pure rfl rfl rfl rfl ?_
    refine xt_aald rfl rfl ⟨by decide, rfl⟩ (xmD 0 rfl) tk4.1 (v := .ref b) (by rw [tk4.2, tk3]; exact hv) ?_
    refine xt_pure rfl rfl rfl rfl ?_
    refine xt_pure rfl rfl rfl rfl ?_
    have pm5 : ∀ (a e1 e2 e3 e4 e5 : xE) (L : List xE), (a :: e1 :: e2 :: e3 :: e4 :: e5 :: L).Perm (e1 :: e2 :: e3 :: e4 :: e5 :: a :: L) := fun a e1 e2 e3 e4 e5 L => (List.perm_middle (a := a) (l₁ := [e1, e2, e3, e4, e5]) (l₂ := L)).symm
    refine yT.perm (pm5 _ _ _ _ _ _ _) ?_
    refine xt_callS rfl rfl (by decide) rfl ⟨rfl, yle rfl, yle rfl, yle rfl, yle rfl⟩ (mk_cleared (its := its) (rs := rs) (cs := cs) (List.mem_of_getElem? (i := 1) rfl) (List.mem_of_getElem? (i := 2) rfl) (List.mem_of_getElem? (i := 3) rfl) l1 l2 l3) (c2 := 0) (s2 := 0) ⟨yle rfl, yle rfl⟩ ?_
    rintro _ _ ⟨rfl, rfl⟩
    refine yt_ast rfl rfl 5 rfl rfl (by decide) (Or.inl ⟨_, 13, 0, _, rfl, rfl, List.mem_append_left _ (List.mem_of_getElem? (i := 0) rfl)⟩) ⟨by rw [tk]; omega, by rw [tk, sl]; omega⟩ rfl ?_
    rw [tk3, show (svl sp).set r (.ref b) = svl (sp.set r (some (ntg b ia ra ca sv n))) from svl_set (o := some (ntg b ia ra ca sv n))]
    refine xt_pure rfl rfl rfl rfl ?_
    refine xt_getf rfl rfl (xmC 186 rfl) ?_
    refine xt_pure rfl rfl rfl rfl ?_
    refine xt_aald rfl rfl ⟨by decide, rfl⟩ (xmD 5 rfl) tk4.1 (v := .ref b) (by rw [tk4.2, tk3]; exact svl_at (o := some (ntg b ia ra ca sv n)) (List.getElem?_set_self (by omega))) ?_
    refine yT.perm (pm5 _ _ _ _ _ _ _).symm ?_
    exact xt_aret rfl rfl rfl rfl rfl ⟨b, ia, ra, ca, rfl, rfl⟩
end SPARE
section READN
variable {X : List Int32} {D0 : List xE} {N : Nat}
def frN (S S' : zS) : Prop := zI S' 2 = zI S 2 ∧ zA S' 3 = zA S 3
theorem n_got {S : zS} {l : List Int32} (hR : RD 2 0 3 S l) : ∃ w S', rN_got N S = some (w, S') ∧ frN S S' ∧ (match l with
    | b :: l' => w = b ∧ RD 2 0 3 S' l' ∧ zI S' 1 = zI S 1
    | [] => w = 0 ∧ RD 2 0 3 S' [] ∧ zI S' 1 = 0) := by
  cases l with
  | nil =>
    refine ⟨0, zsI S 1 0, ?_, ⟨rfl, rfl⟩, rfl, hR.same rfl rfl rfl, rfl⟩
    rw [rN_got, if_neg hR.nil]
  | cons b l' =>
    obtain ⟨r1, r2, r3⟩ := hR.cons
    refine ⟨b, zsI S 0 (zI S 0 + 1), ?_, ⟨rfl, rfl⟩, rfl, r3 _ rfl rfl rfl, rfl⟩
    rw [rN_got, if_pos r1, show zI S 0 + 1 - 1 = zI S 0 from Int32.add_sub_cancel _ _, r2, zg_s]
theorem frN.trans {S S1 S2 : zS} (h1 : frN S S1) (h2 : frN S1 S2) : frN S S2 := ⟨h2.1.trans h1.1, h2.2.trans h1.2⟩
theorem n_num : ∀ (m k i n : Nat) (v : Int64) (S : zS) (l : List Int32), i + m = k → k < 100 → m < n → RD 2 0 3 S l → ∃ w S', rN_gotL_4 N n (Int32.ofNat k) v (Int32.ofNat i) S = some (w, S') ∧ frN S S' ∧ (match rdL m v l with
    | some q => w = q.1 ∧ RD 2 0 3 S' q.2 ∧ zI S' 1 = zI S 1
    | none => RD 2 0 3 S' [] ∧ zI S' 1 = 0)
  | _, _, _, 0, _, _, _, _, _, hn, _ => by omega
  | 0, k, i, n + 1, v, S, l, hi, hk, _, hR => by
    refine ⟨v, S, ?_, ⟨rfl, rfl⟩, rfl, hR, rfl⟩
    rw [rN_gotL_4, if_pos (by rw [yi_nat (by omega), yi_nat (by omega)]; omega)]
  | m + 1, k, i, n + 1, v, S, [], hi, hk, hn, hR => by
    obtain ⟨w, S1, g1, g2, g3, g4, g5⟩ := n_got (N := N) hR
    obtain ⟨w2, S2, e1, e2, e3⟩ := n_num m k (i + 1) n ((v <<< ((8 : Int32).toInt64 &&& 63)) ||| w.toInt64) S1 [] (by omega) hk (by omega) g4
    refine ⟨w2, S2, ?_, g2.trans e2, ?_⟩
    · rw [rN_gotL_4, if_neg (by rw [yi_nat (by omega), yi_nat (by omega)]; omega), g1, zb_s, yi_add1]
      exact e1
    · show RD 2 0 3 S2 [] ∧ zI S2 1 = 0
      cases m with
      | zero => exact ⟨e3.2.1, e3.2.2.trans g5⟩
      | succ m => exact e3
  | m + 1, k, i, n + 1, v, S, b :: l, hi, hk, hn, hR => by
    obtain ⟨w, S1, g1, g2, rfl, g4, g5⟩ := n_got (N := N) hR
    obtain ⟨w2, S2, e1, e2, e3⟩ := n_num m k (i + 1) n ((v <<< ((8 : Int32).toInt64 &&& 63)) ||| w.toInt64) S1 l (by omega) hk (by omega) g4
    refine ⟨w2, S2, ?_, g2.trans e2, ?_⟩
    · rw [rN_gotL_4, if_neg (by rw [yi_nat (by omega), yi_nat (by omega)]; omega), g1, zb_s, yi_add1]
      exact e1
    · rw [rdL]
      rcases hq : rdL m ((v <<< ((8 : Int32).toInt64 &&& 63)) ||| w.toInt64) l with _ | q
      · rw [hq] at e3
        exact e3
      · rw [hq] at e3
        exact ⟨e3.1, e3.2.1, e3.2.2.trans g5⟩
theorem mk_got {S : zS} {l : List Int32} (hR : RD 2 0 3 S l) : ∃ w S', yK X 0 0 288 [.ref 209] (zD zTN zaN S D0) 0 0 (zQi zTN zaN D0 w S') ∧ frN S S' ∧ (match l with
    | b :: l' => w = b ∧ RD 2 0 3 S' l' ∧ zI S' 1 = zI S 1
    | [] => w = 0 ∧ RD 2 0 3 S' [] ∧ zI S' 1 = 0) := by
  obtain ⟨w, S', h1, h2, h3⟩ := n_got (N := 0) hR
  exact ⟨w, S', trN_got (by omega) (by omega) h1, h2, h3⟩
theorem mk_got2 {S : zS} {l : List Int32} (hR : RD 2 0 3 S l) : ∃ w S', yK X 1 20 292 [.ref 209, .int 2] (zD zTN zaN S D0) 0 0 (zQl zTN zaN D0 w S') ∧ frN S S' ∧ (match rdL 2 0 l with
    | some q => w = q.1 ∧ RD 2 0 3 S' q.2 ∧ zI S' 1 = zI S 1
    | none => RD 2 0 3 S' [] ∧ zI S' 1 = 0) := by
  obtain ⟨w, S', h1, h2, h3⟩ := n_num (N := 5) 2 2 0 5 0 S l rfl (by omega) (by omega) hR
  exact ⟨w, S', trN_gotL (N := 5) (by omega) (by omega) h1, h2, h3⟩
theorem mk_must {S : zS} {v : Int32} : yK X 0 0 289 [.ref 209, .int v] (zD zTN zaN S D0) 0 0 (zQv zTN zaN D0 () (zsI S 1 (muR (zI S 1) v))) := by
  refine trN_must (N := 0) (by omega) (by omega) ?_
  rw [rN_must, muR]
  by_cases e : zI S 1 = 0
  · rw [if_pos e, if_pos e]
  · rw [if_neg e, if_neg e]
    by_cases e2 : v = 0
    · rw [if_pos e2, if_pos e2]
    · rw [if_neg e2, if_neg e2]
end READN
