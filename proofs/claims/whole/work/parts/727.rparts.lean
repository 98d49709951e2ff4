/-! THE REFERENCE READS FORMS: a part -/
section RPARTS
variable {N : Nat} {t : List Int32} {tk : List zK} {i : Nat} {s : zP} {S : zS} {G : zG} {nm : Int64} {k g m v19 v20 v21 : Int32}
theorem Q_fresh (hN : 1400 < N) (hT : tkT t tk) (hg : GM G S) (hW : WH S) (h : RQ t tk i s S) : match fNew tk G (G.1.length < 20) s with
    | .inl (s1, nm) => ∃ S1, rQ_freshPart N S = some (Int32.ofNat G.1.length, S1) ∧ RQ t tk i s1 S1 ∧ WH S1 ∧ GMn G (G.1.length + 1) S1 ∧ G.1.length < 20 ∧ ∃ a b c, AT nm a b c 0 0 0 (-9) G.1.length S1
    | .inr (some q) => ∃ S1, rQ_freshPart N S = some (0, S1) ∧ QF (pl tk q) S1 ∧ WH S1
    | .inr none => True := by
  obtain ⟨S', n1, n2, n3⟩ := wrong_Q (N := N) hT h
  have wF := WH.eqY n3 hW
  have e14 := hg.1.1
  have p20 := hg.1.2.1
  have i8 := nIx_none (x := va tk s.1) (G.1.map Prod.fst) 0 (by simp; omega)
  have i9 := nIx_none (x := va tk s.1) (G.2.1.map Prod.fst) 0 (by have := hg.2.1.2.1; simp; omega)
  rw [rQ_freshPart, good_G h, zbs, if_neg i10, isName_G hN hT h, zbs, fNew]
  by_cases hk : kd tk s.1 = 3
  · rw [if_pos hk, if_neg i10, e14]
    by_cases h20 : G.1.length < 20
    · rw [if_neg (show ¬ Int32.ofNat G.1.length = 20 by rw [xi32_eq, yi_nat (by omega), show (20 : Int32).toInt = 20 by decide]; omega), name_G hN hT hk h, zbs, partOf_G hN hg rfl hW, zbs]
      by_cases h8 : va tk s.1 ∈ G.1.map Prod.fst
      · rw [if_pos (fun hh => (i8.mp hh) h8), if_neg (fun hh => hh.2.2.1 h8), n1, zbs]
        exact ⟨S', rfl, n2, wF⟩
      · rw [if_neg (nn (i8.mpr h8)), name_G hN hT hk h, zbs, figureOf_G hN hg hW, zbs]
        by_cases h9 : va tk s.1 ∈ G.2.1.map Prod.fst
        · rw [if_neg (fun hh => (i9.mp hh) h9), if_neg (fun hh => hh.2.2.2 h9), n1, zbs]
          exact ⟨S', rfl, n2, wF⟩
        · have hr : RQ t tk i s (zsI S 14 (Int32.ofNat (G.1.length + 1))) := h
          obtain ⟨⟨l15, l16, l17, l18, l19, l20, l21, l22⟩, wr, w8, wr3⟩ := hW
          rw [if_pos (i9.mpr h9), if_pos ⟨hk, h20, h8, h9⟩, e14, yi_add1, name_G hN hT hk hr, zbs]
          have z15 : zok (zB (zsI S 14 (Int32.ofNat (G.1.length + 1))) 15) (Int32.ofNat G.1.length) := zok_nat (by omega) (by show _ < (zB S 15).length; omega)
          have z22 : zok (zA (zsI S 14 (Int32.ofNat (G.1.length + 1))) 22) (Int32.ofNat G.1.length) := zok_nat (by omega) (by show _ < (zA S 22).length; omega)
          have z19 : zok (zA (zsI S 14 (Int32.ofNat (G.1.length + 1))) 19) (Int32.ofNat G.1.length) := zok_nat (by omega) (by show _ < (zA S 19).length; omega)
          have z20 : zok (zA (zsI S 14 (Int32.ofNat (G.1.length + 1))) 20) (Int32.ofNat G.1.length) := zok_nat (by omega) (by show _ < (zA S 20).length; omega)
          have z21 : zok (zA (zsI S 14 (Int32.ofNat (G.1.length + 1))) 21) (Int32.ofNat G.1.length) := zok_nat (by omega) (by show _ < (zA S 21).length; omega)
          rw [if_pos z15, if_pos z22, if_pos z19, if_pos z20, if_pos z21, zs_nat (by omega), zs_nat (by omega), zs_nat (by omega), zs_nat (by omega), zs_nat (by omega)]
          generalize hS3 : (zsA (zsA (zsA (zsA (zsB (zsI S 14 (Int32.ofNat (G.1.length + 1))) 15 ((zB (zsI S 14 (Int32.ofNat (G.1.length + 1))) 15).set G.1.length (va tk s.1))) 22 ((zA (zsI S 14 (Int32.ofNat (G.1.length + 1))) 22).set G.1.length (-9))) 19 ((zA (zsI S 14 (Int32.ofNat (G.1.length + 1))) 19).set G.1.length 0)) 20 ((zA (zsI S 14 (Int32.ofNat (G.1.length + 1))) 20).set G.1.length 0)) 21 ((zA (zsI S 14 (Int32.ofNat (G.1.length + 1))) 21).set G.1.length 0)) = S3
          have hr3 : RQ t tk i s S3 := by rw [← hS3]; exact h
          have hw3 : WH S3 := by
            rw [← hS3]
            refine ⟨⟨?_, l16, l17, l18, ?_, ?_, ?_, ?_⟩, wr, ⟨⟨G.1.length + 1, by omega, rfl⟩, w8.2⟩, wr3⟩
            · show ((zB S 15).set _ _).length = 20; rw [List.length_set, l15]
            · show ((zA S 19).set _ _).length = 20; rw [List.length_set, l19]
            · show ((zA S 20).set _ _).length = 20; rw [List.length_set, l20]
            · show ((zA S 21).set _ _).length = 20; rw [List.length_set, l21]
            · show ((zA S 22).set _ _).length = 20; rw [List.length_set, l22]
          have hg3 : GMn G (G.1.length + 1) S3 := by
            rw [← hS3]
            refine GMn.upd hg (by omega) rfl ?_ ?_ ?_ rfl rfl rfl rfl
            · intro j hj; show zI (zsI S 14 _) j = _; rw [zi_I, if_neg hj]
            · intro i hi; show ((zB S 15).set _ _)[i]? = _; rw [List.getElem?_set_ne (by omega)]
            · intro j i hi
              rw [za_A]
              split
              · rename_i hj; rw [List.getElem?_set_ne (by omega), hj]; rfl
              rw [za_A]
              split
              · rename_i hj; rw [List.getElem?_set_ne (by omega), hj]; rfl
              rw [za_A]
              split
              · rename_i hj; rw [List.getElem?_set_ne (by omega), hj]; rfl
              rw [za_A]
              split
              · rename_i hj; rw [List.getElem?_set_ne (by omega), hj]; rfl
              rw [za_B, za_I]
          have ha3 : ∃ a b c, AT (va tk s.1) a b c 0 0 0 (-9) G.1.length S3 := by
            rw [← hS3]
            refine ⟨_, _, _, ?_, List.getElem?_eq_getElem (by show _ < (zA S 16).length; omega), List.getElem?_eq_getElem (by show _ < (zA S 17).length; omega), List.getElem?_eq_getElem (by show _ < (zA S 18).length; omega), ?_, ?_, ?_, ?_⟩
            · show ((zB S 15).set _ _)[_]? = _; rw [List.getElem?_set_self (by omega)]
            · show ((zA S 19).set _ _)[_]? = _; rw [List.getElem?_set_self (by omega)]
            · show ((zA S 20).set _ _)[_]? = _; rw [List.getElem?_set_self (by omega)]
            · show ((zA S 21).set _ _)[_]? = _; rw [List.getElem?_set_self (by omega)]
            · show ((zA S 22).set _ _)[_]? = _; rw [List.getElem?_set_self (by omega)]
          obtain ⟨S4, m1, m2, m3⟩ := next_Q hN hT hr3 (by rw [hk]; decide) (by rw [hk]; decide)
          obtain ⟨a, b, c, ha⟩ := ha3
          rw [m1, zbs]
          exact ⟨S4, rfl, m2, WH.eqY m3 hw3, GMn.eqY m3 hg3, h20, a, b, c, AT.eqY m3 ha⟩
    · rw [if_pos (show Int32.ofNat G.1.length = 20 by rw [xi32_eq, yi_nat (by omega), show (20 : Int32).toInt = 20 by decide]; omega), if_neg (fun hh => h20 hh.2.1), n1, zbs]
      exact ⟨S', rfl, n2, wF⟩
  · rw [if_neg hk, if_pos rfl, if_neg (fun hh => hk hh.1), n1, zbs]
    exact ⟨S', rfl, n2, wF⟩
theorem kind_2 (hN : 1400 < N) (hT : tkT t tk) (h : RQ t tk i s S) : ∀ (m f k : Nat), k + m = 11 → m < f → (∀ j, j < k → kd tk s.1 ≠ Int32.ofNat (206 + j)) → rQ_kindAtHand_2 N f (Int32.ofNat k) S = some (if isKd (kd tk s.1) then kd tk s.1 - 206 else -9, S)
  | m, 0, _, _, h, _ => by omega
  | 0, f + 1, k, hk, _, hj => by
    obtain rfl : k = 11 := by omega
    rw [rQ_kindAtHand_2, if_pos (by decide), if_neg ?_]
    rintro ⟨h1, h2⟩
    refine hj ((kd tk s.1).toInt - 206).toNat (by omega) ?_
    rw [xi32_eq, yi_nat (by omega)]; omega
  | m + 1, f + 1, k, hk, hf, hj => by
    have hb : ∃ bs, zwords[6 + k]? = some bs := ⟨_, List.getElem?_eq_getElem (show 6 + k < 36 by omega)⟩
    obtain ⟨bs, hbs⟩ := hb
    have hlt := (kd tk s.1).toInt_lt
    rw [rQ_kindAtHand_2, if_neg (by rw [yi_nat (by omega)]; omega), show (6 : Int32) = Int32.ofNat 6 from rfl, yi_add, gI_nat (by omega), hbs, zgs, isWord_G hN hT hbs h, zbs, show 200 + (6 + k) = 206 + k by omega]
    by_cases hkd : kd tk s.1 = Int32.ofNat (206 + k)
    · have hki : (kd tk s.1).toInt = 206 + k := by rw [hkd, yi_nat (by omega)]; omega
      rw [if_pos hkd, if_neg i10, if_pos (by constructor <;> omega)]
      congr 2
      rw [xi32_eq, yi_sub (by rw [show (206 : Int32).toInt = 206 by decide]; omega) (by rw [show (206 : Int32).toInt = 206 by decide]; omega), yi_nat (by omega), show (206 : Int32).toInt = 206 by decide]
      omega
    · rw [if_neg hkd, if_pos rfl, yi_add1]
      refine kind_2 hN hT h m f (k + 1) (by omega) (by omega) ?_
      intro j hjk
      by_cases hjk2 : j = k
      · rw [hjk2]; exact hkd
      · exact hj j (by omega)
theorem kind_G (hN : 1400 < N) (hT : tkT t tk) (h : RQ t tk i s S) : rQ_kindAtHand N S = some (if isKd (kd tk s.1) then kd tk s.1 - 206 else -9, S) :=
  kind_2 hN hT h 11 N 0 (by omega) (by omega) (fun j hj => by omega)
def ST (t : List Int32) (tk : List zK) (G : zG) (nm : Int64) (k g m : Int32) (i : Nat) (s : zP) (S : zS) (v19 v20 v21 : Int32) : Prop := RQ t tk i s S ∧ WH S ∧ GMn G (G.1.length + 1) S ∧ AT nm k g m v19 v20 v21 (-9) G.1.length S
def RB (t : List Int32) (tk : List zK) (G : zG) (nm : Int64) (k g m : Int32) (i : Nat) (p : zF (Int32 × Int32 × Int32)) (o : Option (Unit × zS)) : Prop := match p with
  | .inl (s1, b) => ∃ S1 v19 v20 v21, o = some ((), S1) ∧ ST t tk G nm k g m i s1 S1 v19 v20 v21 ∧ (k ≠ 0 → k ≠ 10 → v19 = b.1 ∧ v20 = b.2.1 ∧ (k ≠ 4 → v21 = b.2.2))
  | .inr (some q) => ∃ S1, o = some ((), S1) ∧ QF (pl tk q) S1 ∧ WH S1
  | .inr none => True
theorem RB.num (hN : 1400 < N) (hT : tkT t tk) {lo hi : Int32} {f : zP → Int32 → zF (Int32 × Int32 × Int32)} {gg : Int32 → zS → Option (Unit × zS)} (h : ST t tk G nm k g m i s S v19 v20 v21) (hg : ∀ s1 a S1, ST t tk G nm k g m i s1 S1 v19 v20 v21 → RB t tk G nm k g m i (f s1 a) (gg a S1)) (hf : ∀ a q S1, QF q S1 → WH S1 → ∃ S2, gg a S1 = some ((), S2) ∧ QF q S2 ∧ WH S2) : RB t tk G nm k g m i (pb (fNum tk lo hi s) f) (zb (rQ_number N lo hi S) gg) := by
  have hR := Q_number (N := N) (lo := lo) (hi := hi) hN hT h.1
  rcases hp : fNum tk lo hi s with ⟨s1, b⟩ | _ | q
  · rw [hp] at hR
    obtain ⟨a, S1, q1, q2, q3, rfl⟩ := hR
    rw [q1, zbs]
    exact hg s1 a S1 ⟨q2, WH.eqY q3 h.2.1, GMn.eqY q3 h.2.2.1, AT.eqY q3 h.2.2.2⟩
  · trivial
  · rw [hp] at hR
    obtain ⟨a, S1, q1, q2, q3, _⟩ := hR
    obtain ⟨S2, w1, w2, w3⟩ := hf a _ _ q2 (WH.eqY q3 h.2.1)
    rw [q1, zbs, w1]
    exact ⟨S2, rfl, w2, w3⟩
theorem ST.s19 {x : Int32} (hn : G.1.length < 20) (h : ST t tk G nm k g m i s S v19 v20 v21) : zok (zA S 19) (Int32.ofNat G.1.length) ∧ ST t tk G nm k g m i s (zsA S 19 (zs (zA S 19) (Int32.ofNat G.1.length) x)) x v20 v21 ∧ gI (zs (zA S 19) (Int32.ofNat G.1.length) x) (Int32.ofNat G.1.length) = some x := by
  obtain ⟨z1, z2, z3, z4, z5, z6, z7⟩ := setH19 (t := t) (tk := tk) (G := G) (x := x) hn h.2.1
  exact ⟨z1, ⟨z4 _ _ h.1, z2, z5 _ rfl h.2.2.1, z6 _ _ _ _ _ _ _ _ h.2.2.2⟩, z7⟩
theorem ST.s20 {x : Int32} (hn : G.1.length < 20) (h : ST t tk G nm k g m i s S v19 v20 v21) : zok (zA S 20) (Int32.ofNat G.1.length) ∧ ST t tk G nm k g m i s (zsA S 20 (zs (zA S 20) (Int32.ofNat G.1.length) x)) v19 x v21 ∧ gI (zs (zA S 20) (Int32.ofNat G.1.length) x) (Int32.ofNat G.1.length) = some x := by
  obtain ⟨z1, z2, z3, z4, z5, z6, z7⟩ := setH20 (t := t) (tk := tk) (G := G) (x := x) hn h.2.1
  exact ⟨z1, ⟨z4 _ _ h.1, z2, z5 _ rfl h.2.2.1, z6 _ _ _ _ _ _ _ _ h.2.2.2⟩, z7⟩
theorem ST.s21 {x : Int32} (hn : G.1.length < 20) (h : ST t tk G nm k g m i s S v19 v20 v21) : zok (zA S 21) (Int32.ofNat G.1.length) ∧ ST t tk G nm k g m i s (zsA S 21 (zs (zA S 21) (Int32.ofNat G.1.length) x)) v19 v20 x ∧ gI (zs (zA S 21) (Int32.ofNat G.1.length) x) (Int32.ofNat G.1.length) = some x := by
  obtain ⟨z1, z2, z3, z4, z5, z6, z7⟩ := setH21 (t := t) (tk := tk) (G := G) (x := x) hn h.2.1
  exact ⟨z1, ⟨z4 _ _ h.1, z2, z5 _ rfl h.2.2.1, z6 _ _ _ _ _ _ _ _ h.2.2.2⟩, z7⟩
theorem w20_F {n q : Nat} {x : Int32} (hn : n < 20) (h : QF q S) (hW : WH S) : ∃ S2, (if zok (zA S 20) (Int32.ofNat n) then some ((), (zsA S 20 (zs (zA S 20) (Int32.ofNat n) x))) else none) = some ((), S2) ∧ QF q S2 ∧ WH S2 := by
  obtain ⟨z1, z2, z3, z4, z5, z6, z7⟩ := setH20 (t := []) (tk := []) (G := ([], [], [], 0, 0)) (x := x) hn hW
  rw [if_pos z1]
  exact ⟨_, rfl, z3 _ h, z2⟩
theorem b14_F {n q : Nat} {x s0 : Int32} (hn : n < 20) (h : QF q S) (hW : WH S) : ∃ S2, (if zok (zA S 19) (Int32.ofNat n) then (zg (gI (zs (zA S 19) (Int32.ofNat n) x) (Int32.ofNat n)) fun x4 => (zb (rQ_number N x4 s0 (zsA S 19 (zs (zA S 19) (Int32.ofNat n) x))) fun x5 S6 => (if zok (zA S6 20) (Int32.ofNat n) then some ((), (zsA S6 20 (zs (zA S6 20) (Int32.ofNat n) x5))) else none))) else none) = some ((), S2) ∧ QF q S2 ∧ WH S2 := by
  obtain ⟨z1, z2, z3, z4, z5, z6, z7⟩ := setH19 (t := []) (tk := []) (G := ([], [], [], 0, 0)) (x := x) hn hW
  rw [if_pos z1, z7, zgs, number_F (z3 _ h), zbs]
  exact w20_F hn (z3 _ h) z2
theorem Q_b14 (hN : 1400 < N) (hT : tkT t tk) {s0 : Int32} (hn : G.1.length < 20) (h : ST t tk G nm k g m i s S 0 0 0) : RB t tk G nm k g m i (pb (fNum tk 0 s0 s) fun s a => pb (fNum tk a s0 s) fun s b => .inl (s, a, b, 0)) (rQ_bounds_14 N (Int32.ofNat G.1.length) s0 S) := by
  unfold rQ_bounds_14
  refine RB.num hN hT h ?_ ?_
  · intro s1 a S1 h1
    obtain ⟨z1, z2, z3⟩ := ST.s19 (x := a) hn h1
    rw [if_pos z1, z3, zgs]
    refine RB.num hN hT z2 ?_ ?_
    · intro s2 b S2 h2
      obtain ⟨y1, y2, y3⟩ := ST.s20 (x := b) hn h2
      rw [if_pos y1]
      exact ⟨_, _, _, _, rfl, y2, fun _ _ => ⟨rfl, rfl, fun _ => rfl⟩⟩
    · intro b q S2 hq hw
      exact w20_F hn hq hw
  · intro a q S1 hq hw
    exact b14_F hn hq hw
theorem Q_b20 (hN : 1400 < N) (hT : tkT t tk) {lo hi : Int32} (hn : G.1.length < 20) (h : ST t tk G nm k g m i s S 0 0 0) : RB t tk G nm k g m i (pb (fNum tk lo hi s) fun s b => .inl (s, 0, b, 0)) (zb (rQ_number N lo hi S) fun x8 S9 => (if zok (zA S9 20) (Int32.ofNat G.1.length) then some ((), (zsA S9 20 (zs (zA S9 20) (Int32.ofNat G.1.length) x8))) else none)) := by
  refine RB.num hN hT h ?_ ?_
  · intro s2 b S2 h2
    obtain ⟨y1, y2, y3⟩ := ST.s20 (x := b) hn h2
    rw [if_pos y1]
    exact ⟨_, _, _, _, rfl, y2, fun _ _ => ⟨rfl, rfl, fun _ => rfl⟩⟩
  · intro b q S2 hq hw
    exact w20_F hn hq hw
theorem Q_bounds (hN : 1400 < N) (hT : tkT t tk) (hn : G.1.length < 20) (h : ST t tk G nm k g m i s S 0 0 0) (hkk : k = 0 ∨ k = 1 ∨ k = 2 ∨ k = 3 ∨ k = 4 ∨ k = 5 ∨ k = 6 ∨ k = 7 ∨ k = 8 ∨ k = 9 ∨ k = 10) : RB t tk G nm k g m i (fBounds tk k s) (rQ_bounds N (Int32.ofNat G.1.length) k S) := by
  have none9 : ∀ k : Int32, k = 0 ∨ k = 10 → RB t tk G nm k g m i (.inl (s, 0, 1, 0)) (some ((), S)) ∨ ¬ ST t tk G nm k g m i s S 0 0 0 := by
    intro k hk
    by_cases hh : ST t tk G nm k g m i s S 0 0 0
    · left
      refine ⟨S, 0, 0, 0, rfl, hh, fun h0 h10 => ?_⟩
      rcases hk with hk | hk
      · exact absurd hk h0
      · exact absurd hk h10
    · right; exact hh
  rcases hkk with rfl | rfl | rfl | rfl | rfl | rfl | rfl | rfl | rfl | rfl | rfl
  · rcases none9 0 (Or.inl rfl) with hh | hh
    · exact hh
    · exact absurd h hh
  · exact Q_b14 hN hT hn h
  · exact Q_b20 hN hT hn h
  · exact Q_b14 hN hT hn h
  · show RB t tk G nm 4 g m i (pb (fNum tk 2 8 s) fun s c => .inl (s, 0, c - 1, c)) (zb (rQ_number N 2 8 S) fun x35 S36 => (if zok (zA S36 20) (Int32.ofNat G.1.length) then some ((), (zsA S36 20 (zs (zA S36 20) (Int32.ofNat G.1.length) (x35 - 1)))) else none))
    refine RB.num hN hT h ?_ ?_
    · intro s2 b S2 h2
      obtain ⟨y1, y2, y3⟩ := ST.s20 (x := b - 1) hn h2
      rw [if_pos y1]
      exact ⟨_, _, _, _, rfl, y2, fun _ _ => ⟨rfl, rfl, fun hh => absurd rfl hh⟩⟩
    · intro b q S2 hq hw
      exact w20_F hn hq hw
  · show RB t tk G nm 5 g m i (pb (fNum tk 1 8 s) fun s c => pb (fNum tk 0 c s) fun s a => pb (fNum tk a c s) fun s b => .inl (s, a, b, c)) (zb (rQ_number N 1 8 S) fun x23 S24 => (if zok (zA S24 21) (Int32.ofNat G.1.length) then (zg (gI (zs (zA S24 21) (Int32.ofNat G.1.length) x23) (Int32.ofNat G.1.length)) fun x26 => (zb (rQ_number N 0 x26 (zsA S24 21 (zs (zA S24 21) (Int32.ofNat G.1.length) x23))) fun x27 S28 => (if zok (zA S28 19) (Int32.ofNat G.1.length) then (zg (gI (zs (zA S28 19) (Int32.ofNat G.1.length) x27) (Int32.ofNat G.1.length)) fun x30 => (zg (gI (zA S28 21) (Int32.ofNat G.1.length)) fun x31 => (zb (rQ_number N x30 x31 (zsA S28 19 (zs (zA S28 19) (Int32.ofNat G.1.length) x27))) fun x32 S33 => (if zok (zA S33 20) (Int32.ofNat G.1.length) then some ((), (zsA S33 20 (zs (zA S33 20) (Int32.ofNat G.1.length) x32))) else none)))) else none))) else none))
    have t2 : ∀ (a : Int32) (q : Nat) (S1 : zS), QF q S1 → WH S1 → ∃ S2, (if zok (zA S1 19) (Int32.ofNat G.1.length) then (zg (gI (zs (zA S1 19) (Int32.ofNat G.1.length) a) (Int32.ofNat G.1.length)) fun x30 => (zg (gI (zA S1 21) (Int32.ofNat G.1.length)) fun x31 => (zb (rQ_number N x30 x31 (zsA S1 19 (zs (zA S1 19) (Int32.ofNat G.1.length) a))) fun x32 S33 => (if zok (zA S33 20) (Int32.ofNat G.1.length) then some ((), (zsA S33 20 (zs (zA S33 20) (Int32.ofNat G.1.length) x32))) else none)))) else none) = some ((), S2) ∧ QF q S2 ∧ WH S2 := by
      intro a q S1 hq hw
      obtain ⟨z1, z2, z3, z4, z5, z6, z7⟩ := setH19 (t := []) (tk := []) (G := ([], [], [], 0, 0)) (x := a) hn hw
      have l21 := hw.1.2.2.2.2.2.2.1
      rw [if_pos z1, z7, zgs, gI_nat (by omega), List.getElem?_eq_getElem (by omega), zgs, number_F (z3 _ hq), zbs]
      exact w20_F hn (z3 _ hq) z2
    refine RB.num hN hT h ?_ ?_
    · intro s0 c S0 h0
      obtain ⟨z1, z2, z3⟩ := ST.s21 (x := c) hn h0
      rw [if_pos z1, z3, zgs]
      refine RB.num hN hT z2 ?_ ?_
      · intro s1 a S1 h1
        obtain ⟨y1, y2, y3⟩ := ST.s19 (x := a) hn h1
        rw [if_pos y1, y3, zgs, gI_nat (by omega), h1.2.2.2.2.2.2.2.2.2.1, zgs]
        refine RB.num hN hT y2 ?_ ?_
        · intro s2 b S2 h2
          obtain ⟨x1, x2, x3⟩ := ST.s20 (x := b) hn h2
          rw [if_pos x1]
          exact ⟨_, _, _, _, rfl, x2, fun _ _ => ⟨rfl, rfl, fun _ => rfl⟩⟩
        · intro b q S2 hq hw
          exact w20_F hn hq hw
      · intro a q S1 hq hw
        exact t2 a q S1 hq hw
    · intro c q S1 hq hw
      obtain ⟨z1, z2, z3, z4, z5, z6, z7⟩ := setH21 (t := []) (tk := []) (G := ([], [], [], 0, 0)) (x := c) hn hw
      rw [if_pos z1, z7, zgs, number_F (z3 _ hq), zbs]
      exact t2 0 q _ (z3 _ hq) z2
  · exact Q_b20 hN hT hn h
  · show RB t tk G nm 7 g m i (pb (fNum tk 1 4 s) fun s c => pb (fNum tk 1 6 s) fun s b => .inl (s, 0, b, c)) (zb (rQ_number N 1 4 S) fun x14 S15 => (if zok (zA S15 21) (Int32.ofNat G.1.length) then (zb (rQ_number N 1 6 (zsA S15 21 (zs (zA S15 21) (Int32.ofNat G.1.length) x14))) fun x17 S18 => (if zok (zA S18 20) (Int32.ofNat G.1.length) then some ((), (zsA S18 20 (zs (zA S18 20) (Int32.ofNat G.1.length) x17))) else none)) else none))
    refine RB.num hN hT h ?_ ?_
    · intro s0 c S0 h0
      obtain ⟨z1, z2, z3⟩ := ST.s21 (x := c) hn h0
      rw [if_pos z1]
      refine RB.num hN hT z2 ?_ ?_
      · intro s2 b S2 h2
        obtain ⟨x1, x2, x3⟩ := ST.s20 (x := b) hn h2
        rw [if_pos x1]
        exact ⟨_, _, _, _, rfl, x2, fun _ _ => ⟨rfl, rfl, fun _ => rfl⟩⟩
      · intro b q S2 hq hw
        exact w20_F hn hq hw
    · intro c q S1 hq hw
      obtain ⟨z1, z2, z3, z4, z5, z6, z7⟩ := setH21 (t := []) (tk := []) (G := ([], [], [], 0, 0)) (x := c) hn hw
      rw [if_pos z1, number_F (z3 _ hq), zbs]
      exact w20_F hn (z3 _ hq) z2
  · exact Q_b20 hN hT hn h
  · exact Q_b20 hN hT hn h
  · rcases none9 10 (Or.inr rfl) with hh | hh
    · exact hh
    · exact absurd h hh
end RPARTS
