/-! TAKE: the loop over rows; the reference -/
section TAKEM
variable {X : List Int32} {D2 : List xE} {En : List (Int64 × Int32)} {js : List Int32} {F : yF} {fa : Nat} {ev : Int32}
theorem w29 {S : zS} {sp : List (Option yTg)} {mr : List Value} {dn : Int32} {l1 l2 l3 l4 l5 l6 l7 l8 l9 l10 l11 : Option Value} {c sl : Nat} {Q : Option Value → List xE → Prop} (h : zI S 1 = 0) (k : yT X 20 500 287 181 [some (.ref 209), l1, l2, l3, l4, l5, l6, l7, l8, l9, l10, l11] [] (TK ev S sp mr dn D2) 0 0 Q) : yT X 20 500 287 29 [some (.ref 209), l1, l2, l3, l4, l5, l6, l7, l8, l9, l10, l11] [] (TK ev S sp mr dn D2) c sl Q := by
  refine xt_pure rfl rfl rfl rfl ?_
  refine xt_getf rfl rfl (xmD 2 rfl) ?_
  rw [show zI S 1 = 0 from h]
  refine xt_pure rfl rfl rfl rfl ?_
  exact k.mono (Nat.zero_le _) (Nat.zero_le _) (fun _ _ h => h)
/-- the loop's rows, with so many left at most -/
def TKst (X : List Int32) (D2 : List xE) (En : List (Int64 × Int32)) (F : yF) (ev : Int32) (n : Nat) (x : Int32) (mr0 : List Value) (Q : Option Value → List xE → Prop) (k : Nat) : Prop := ∀ (row lst : Nat) (S : zS) (l : List Int32) (sp : List (Option yTg)) (mr : List Value) (A : List (Option yO)) (l5 l6 l7 l8 l9 l10 l11 : Option Value), row + k = 1200 → row ≤ lst → lst ≤ 20 → RD 2 0 3 S l → byR (zA S 3) → zI S 1 = 1 → tkG n mr0 sp mr → tkA n sp mr A row → (∀ (S' : zS) (sp' : List (Option yTg)) (mr' : List Value) (A' : List (Option yO)) (j : Nat) (v4 : Int32) (l5 l6 l7 l8 l9 l10 l11 : Option Value), rdAll En F k lst l A row = (some A', j) → j ≤ 20 → tkG n mr0 sp' mr' → tkA n sp' mr' A' j → frN S S' → zI S' 1 = 1 → yT X 20 500 287 181 [some (.ref 209), some (.int x), some (.int (Int32.ofNat n)), some (.int (Int32.ofNat j)), some (.int v4), l5, l6, l7, l8, l9, l10, l11] [] (TK ev S' sp' mr' (Int32.ofNat n) D2) 0 0 Q) → (∀ (S' : zS) (sp' : List (Option yTg)) (mr' : List Value) (j : Nat) (v4 : Int32) (l5 l6 l7 l8 l9 l10 l11 : Option Value), rdAll En F k lst l A row = (none, j) → j ≤ 20 → tkG n mr0 sp' mr' → frN S S' → zI S' 1 = 0 → yT X 20 500 287 181 [some (.ref 209), some (.int x), some (.int (Int32.ofNat n)), some (.int (Int32.ofNat j)), some (.int v4), l5, l6, l7, l8, l9, l10, l11] [] (TK ev S' sp' mr' (Int32.ofNat n) D2) 0 0 Q) → yT X 20 500 287 29 [some (.ref 209), some (.int x), some (.int (Int32.ofNat n)), some (.int (Int32.ofNat row)), some (.int (Int32.ofNat lst - 1)), l5, l6, l7, l8, l9, l10, l11] [] (TK ev S sp mr (Int32.ofNat n) D2) (4 * (20 - lst)) (59 * (20 - lst)) Q
theorem tk_step {n : Nat} {x : Int32} {al mr0 : List Value} {Q : Option Value → List xE → Prop} (hn : n < 30) (hE : En.length ≤ 100) (hNe : ((209, .inl (14, 19, .int (Int32.ofNat En.length))) : xE) ∈ D2) (hSn : ((236, .inr (0, (En.map Prod.snd ++ js).map Value.int)) : xE) ∈ D2) (hal : ((211, .inr (8, al)) : xE) ∈ D2) (haf : gI al x = some (.ref fa)) (hF : yFM D2 fa F) (h20 : F.1.length ≤ 20) {k : Nat} (rec : TKst X D2 En F ev n x mr0 Q k) : TKst X D2 En F ev n x mr0 Q (k + 1) := by
    intro row lst S l sp mr A l5 l6 l7 l8 l9 l10 l11 hk hrl hls hR hbz h1 hG hA kd kw
    obtain ⟨nd, a, r1, r2, r3, r4, r5, r6⟩ := id hR
    have hb : byR l := by
      intro b h
      rw [r6] at h
      exact hbz b (List.mem_of_mem_take (List.mem_of_mem_drop h))
    have inD : ∀ (Sx : zS) (spx : List (Option yTg)) (mrx : List Value), D2 ⊆ TK ev Sx spx mrx (Int32.ofNat n) D2 := fun _ _ _ _ he => List.mem_cons_of_mem _ (List.mem_append_right _ (List.mem_cons_of_mem _ (List.mem_cons_of_mem _ (List.mem_cons_of_mem _ (List.mem_append_right _ he)))))
    refine xt_pure rfl rfl rfl rfl ?_
    refine xt_getf rfl rfl (xmD 2 rfl) ?_
    rw [show zI S 1 = 1 from h1]
    refine xt_pure rfl rfl rfl rfl ?_
    refine xt_pure rfl rfl rfl rfl ?_
    refine xt_getf rfl rfl (xmD 1 rfl) ?_
    refine xt_pure rfl rfl rfl rfl ?_
    refine xt_getf rfl rfl (xmD 3 rfl) ?_
    rw [show zI S 0 = _ from r2, show zI S 2 = _ from r1]
    refine yt_ic rfl rfl (fun (h : Int32.toInt _ ≤ Int32.toInt _) => ?_) (fun (h : Int32.toInt _ < Int32.toInt _) => ?_)
    · rw [yi_nat (by omega), yi_nat (by omega)] at h
      have hnil : l = [] := by rw [r6]; exact List.drop_eq_nil_iff.mpr (by rw [List.length_take]; omega)
      exact (kd S sp mr A row _ l5 l6 l7 l8 l9 l10 l11 (by rw [rdAll, if_pos hnil]) (by omega) hG hA ⟨rfl, rfl⟩ h1).mono (Nat.zero_le _) (Nat.zero_le _) (fun _ _ h => h)
    · rw [yi_nat (by omega), yi_nat (by omega)] at h
      have hnn : l ≠ [] := by
        intro e
        rw [e] at r6
        have := List.drop_eq_nil_iff.mp r6.symm
        rw [List.length_take] at this
        omega
      have hst0 : rdAll En F (k + 1) lst l A row = match rdRow En F lst l with
          | none => (none, row)
          | some q => rdAll En F k (q.1 + 1) q.2.2 (A.set q.1 (some q.2.1)) (row + 1) := by
        rw [rdAll, if_neg hnn]
        rfl
      obtain ⟨w1, S1, l1, c1, f1, R1, b1, y1, m1o⟩ := mk_gotB (X := X) (D0 := (209, .inl (14, 24, .int ev)) :: ((237, .inr (10, svl sp)) :: (239, .inr (10, mr)) :: (209, .inl (14, 26, .int (Int32.ofNat n))) :: (sD sp ++ D2))) hR hb
      obtain ⟨rfl, m1⟩ := m1o.resolve_left (fun g => hnn g.1)
      refine xt_pure rfl rfl rfl rfl ?_
      refine xt_getf rfl rfl (xmD 1 rfl) ?_
      rw [show zI S 0 = _ from r2]
      refine xt_pure rfl rfl rfl (L1 := [_, _, _, _, _, _, _, _, _, _, _, _]) rfl ?_
      refine xt_pure rfl rfl rfl rfl ?_
      refine yT.perm tk_perm1 ?_
      refine xt_callV rfl rfl rfl rfl (xmC 176 rfl) ⟨rfl, rfl, yle rfl, yle rfl, yle rfl, yle rfl⟩ c1 (c2 := 4 * (20 - lst)) (s2 := 59 * (20 - lst)) ⟨yle2, yle2⟩ ?_
      rintro _ _ ⟨rfl, rfl⟩
      refine yT.perm tk_perm1.symm ?_
      refine xt_pure rfl rfl rfl (L1 := [_, _, _, _, _, _, _, _, _, _, _, _]) rfl ?_
      refine tk_f1 (inD _ _ _ hal) haf (hF.mono (inD _ _ _)) h20 y1 hls ?_
      generalize hf1 : (if (lst : Int) ≤ w1.toInt ∧ (askP F w1).isSome then (1 : Int32) else 0) = g1
      refine yT.perm tk_perm1 ?_
      refine xt_callV rfl rfl rfl rfl (xmC 176 rfl) ⟨rfl, rfl, yle rfl, yle rfl, yle rfl, yle rfl⟩ mk_must (c2 := 4 * (20 - lst)) (s2 := 59 * (20 - lst)) ⟨yle2, yle2⟩ ?_
      rintro _ _ ⟨rfl, rfl⟩
      refine yT.perm tk_perm1.symm ?_
      have R1m : RD 2 0 3 (zsI S1 1 (muR (zI S1 1) g1)) l1 := R1.same rfl rfl rfl
      obtain ⟨w2, S2, l2, c2, f2, R2, b2, y2, m2⟩ := mk_gotB (X := X) (D0 := (209, .inl (14, 24, .int ev)) :: ((237, .inr (10, svl sp)) :: (239, .inr (10, mr)) :: (209, .inl (14, 26, .int (Int32.ofNat n))) :: (sD sp ++ D2))) R1m b1
      refine xt_pure rfl rfl rfl rfl ?_
      refine yT.perm tk_perm1 ?_
      refine xt_callV rfl rfl rfl rfl (xmC 176 rfl) ⟨rfl, rfl, yle rfl, yle rfl, yle rfl, yle rfl⟩ c2 (c2 := 4 * (20 - lst)) (s2 := 59 * (20 - lst)) ⟨yle2, yle2⟩ ?_
      rintro _ _ ⟨rfl, rfl⟩
      refine yT.perm tk_perm1.symm ?_
      refine xt_pure rfl rfl rfl (L1 := [_, _, _, _, _, _, _, _, _, _, _, _]) rfl ?_
      refine tk_f2 ?_
      generalize hf2 : (if w2.toInt < 8 then (1 : Int32) else 0) = g2
      refine yT.perm tk_perm1 ?_
      refine xt_callV rfl rfl rfl rfl (xmC 176 rfl) ⟨rfl, rfl, yle rfl, yle rfl, yle rfl, yle rfl⟩ mk_must (c2 := 4 * (20 - lst)) (s2 := 59 * (20 - lst)) ⟨yle2, yle2⟩ ?_
      rintro _ _ ⟨rfl, rfl⟩
      refine yT.perm tk_perm1.symm ?_
      have R2m : RD 2 0 3 (zsI S2 1 (muR (zI S2 1) g2)) l2 := R2.same rfl rfl rfl
      obtain ⟨w3, S3, l3, c3, f3, R3, b3, y3, m3⟩ := mk_gotB (X := X) (D0 := (209, .inl (14, 24, .int ev)) :: ((237, .inr (10, svl sp)) :: (239, .inr (10, mr)) :: (209, .inl (14, 26, .int (Int32.ofNat n))) :: (sD sp ++ D2))) R2m b2
      refine xt_pure rfl rfl rfl rfl ?_
      refine yT.perm tk_perm1 ?_
      refine xt_callV rfl rfl rfl rfl (xmC 176 rfl) ⟨rfl, rfl, yle rfl, yle rfl, yle rfl, yle rfl⟩ c3 (c2 := 4 * (20 - lst)) (s2 := 59 * (20 - lst)) ⟨yle2, yle2⟩ ?_
      rintro _ _ ⟨rfl, rfl⟩
      refine yT.perm tk_perm1.symm ?_
      refine xt_pure rfl rfl rfl (L1 := [_, _, _, _, _, _, _, _, _, _, _, _]) rfl ?_
      refine tk_f3 ?_
      generalize hf3 : (if w3.toInt ≤ (if w2 = 4 then 6 else 12) ∧ (w2 = 7 → w3 = 1) then (1 : Int32) else 0) = g3
      refine yT.perm tk_perm1 ?_
      refine xt_callV rfl rfl rfl rfl (xmC 176 rfl) ⟨rfl, rfl, yle rfl, yle rfl, yle rfl, yle rfl⟩ mk_must (c2 := 4 * (20 - lst)) (s2 := 59 * (20 - lst)) ⟨yle2, yle2⟩ ?_
      rintro _ _ ⟨rfl, rfl⟩
      refine yT.perm tk_perm1.symm ?_
      have R3m : RD 2 0 3 (zsI S3 1 (muR (zI S3 1) g3)) l3 := R3.same rfl rfl rfl
      have m2 : (l1 = [] ∧ zI S2 1 = 0) ∨ (l1 = w2 :: l2 ∧ zI S2 1 = muR (zI S1 1) g1) := m2
      have m3 : (l2 = [] ∧ zI S3 1 = 0) ∨ (l2 = w3 :: l3 ∧ zI S3 1 = muR (zI S2 1) g2) := m3
      have fr1 : frN S S1 := f1
      have fr3 : frN S (zsI S3 1 (muR (zI S3 1) g3)) := ⟨f3.1.trans (f2.1.trans f1.1), f3.2.trans (f2.2.trans f1.2)⟩
      have hq1 : rdN 1 0 (w1 :: l1) = some (w1, l1) := by rw [rdN, rdN, sh0]
      refine xt_pure rfl rfl rfl rfl ?_
      refine xt_getf rfl rfl (xmD 2 rfl) ?_
      rw [show zI (zsI S3 1 (muR (zI S3 1) g3)) 1 = muR (zI S3 1) g3 from rfl]
      by_cases good : ((lst : Int) ≤ w1.toInt ∧ (askP F w1).isSome) ∧ l1 = w2 :: l2 ∧ w2.toInt < 8 ∧ l2 = w3 :: l3 ∧ (w3.toInt ≤ (if w2 = 4 then 6 else 12) ∧ (w2 = 7 → w3 = 1))
      rotate_left
      · -- a wrong head
        have hno : rdRow En F lst (w1 :: l1) = none := by
          rw [rdRow, hq1, Option.bind_some]
          by_cases e1 : (lst : Int) ≤ w1.toInt ∧ (askP F w1).isSome
          · rw [if_pos e1, rdOb]
            rcases m2 with ⟨e, _⟩ | ⟨e, _⟩
            · rw [e]; rfl
            · rw [e, show rdN 1 0 (w2 :: l2) = some (w2, l2) by rw [rdN, rdN, sh0], Option.bind_some]
              rcases m3 with ⟨e', _⟩ | ⟨e', _⟩
              · rw [e']; rfl
              · rw [e', show rdN 1 0 (w3 :: l3) = some (w3, l3) by rw [rdN, rdN, sh0], Option.bind_some, if_neg]
                · rfl
                · intro g
                  have g1 : w2.toInt ≤ 7 := g.1
                  exact good ⟨e1, e, by omega, e', g.2⟩
          · rw [if_neg e1]
        have hz : muR (zI S3 1) g3 = 0 := by
          by_cases e3 : w3.toInt ≤ (if w2 = 4 then 6 else 12) ∧ (w2 = 7 → w3 = 1)
          · rcases m3 with ⟨_, e⟩ | ⟨e', e⟩
            · exact mu0 (Or.inl e)
            · refine mu0 (Or.inl (e.trans ?_))
              by_cases e2 : w2.toInt < 8
              · rcases m2 with ⟨_, e⟩ | ⟨e'', e⟩
                · exact mu0 (Or.inl e)
                · refine mu0 (Or.inl (e.trans ?_))
                  refine mu0 (Or.inr ?_)
                  rw [← hf1, if_neg (fun g => good ⟨g, e'', e2, e', e3⟩)]
              · exact mu0 (Or.inr (by rw [← hf2, if_neg e2]))
          · exact mu0 (Or.inr (by rw [← hf3, if_neg e3]))
        rw [hz]
        refine xt_pure rfl rfl rfl rfl ?_
        refine xt_pure rfl rfl rfl rfl ?_
        exact w29 (by exact rfl) (kw (zsI S3 1 0) sp mr row _ _ _ _ _ _ _ _ (by rw [hst0, hno]) (by omega) hG ⟨fr3.1, fr3.2⟩ rfl)
      · obtain ⟨e1, rfl, e2, rfl, e3⟩ := good
        obtain ⟨P, hP⟩ := Option.isSome_iff_exists.mp e1.2
        obtain ⟨p1, p2, p3, p4⟩ := askP_some hP
        have hz1 : zI S2 1 = 1 := by
          rcases m2 with ⟨e, _⟩ | ⟨_, e⟩
          · cases e
          · rw [e, ← hf1, if_pos e1]; exact mu1 (m1.trans h1)
        have hz2 : zI S3 1 = 1 := by
          rcases m3 with ⟨e, _⟩ | ⟨_, e⟩
          · cases e
          · rw [e, ← hf2, if_pos e2]; exact mu1 hz1
        have hz : muR (zI S3 1) g3 = 1 := by rw [← hf3, if_pos e3]; exact mu1 hz2
        rw [hz] at R3m fr3 ⊢
        obtain ⟨sN, rfl, hsN⟩ : ∃ s : Nat, w2 = Int32.ofNat s ∧ s ≤ 255 := ⟨w2.toInt.toNat, (yi_id y2.1).symm, by omega⟩
        obtain ⟨nN, rfl, hnN⟩ : ∃ s : Nat, w3 = Int32.ofNat s ∧ s ≤ 255 := ⟨w3.toInt.toNat, (yi_id y3.1).symm, by omega⟩
        have ts := yi_nat (i := sN) (by omega)
        have tn3 := yi_nat (i := nN) (by omega)
        rw [ts] at e2
        have k4 : Int32.ofNat sN = 4 ↔ sN = 4 := ⟨fun h => yi_inj (b := 4) (by omega) (by omega) h, fun h => by rw [h]; rfl⟩
        have hnn4 : nN ≤ if sN = 4 then 6 else 12 := by
          have := e3.1
          rw [tn3] at this
          by_cases e : sN = 4
          · rw [if_pos (k4.mpr e)] at this; rw [if_pos e]; omega
          · rw [if_neg (fun h => e (k4.mp h))] at this; rw [if_neg e]; omega
        have hob : rdRow En F lst (w1 :: Int32.ofNat sN :: Int32.ofNat nN :: l3) = (rdO En sN nN l3).bind fun o => (rdN 2 0 o.2).bind fun c => if c.1 = smB 0 ((w1 :: Int32.ofNat sN :: Int32.ofNat nN :: l3).take ((w1 :: Int32.ofNat sN :: Int32.ofNat nN :: l3).length - o.2.length)) then some (w1.toInt.toNat, o.1, c.2) else none := by
          rw [rdRow, hq1, Option.bind_some, if_pos e1]
          show (rdOb En (Int32.ofNat sN :: Int32.ofNat nN :: l3)).bind _ = _
          rw [rdOb, show rdN 1 0 (Int32.ofNat sN :: Int32.ofNat nN :: l3) = some (Int32.ofNat sN, Int32.ofNat nN :: l3) by rw [rdN, rdN, sh0], Option.bind_some, show rdN 1 0 (Int32.ofNat nN :: l3) = some (Int32.ofNat nN, l3) by rw [rdN, rdN, sh0], Option.bind_some, if_pos ⟨by show (Int32.ofNat sN).toInt ≤ 7; omega, e3⟩]
          show (rdO En (Int32.ofNat sN).toInt.toNat (Int32.ofNat nN).toInt.toNat l3).bind _ = _
          rw [yi_toNat (by omega), yi_toNat (by omega)]
        refine xt_pure rfl rfl rfl rfl ?_
        refine xt_pure rfl rfl rfl rfl ?_
        refine xt_pure rfl rfl rfl rfl ?_
        refine xt_pure rfl rfl rfl rfl ?_
        refine xt_pure rfl rfl rfl rfl ?_
        refine yT.perm tk_perm2 ?_
        refine xt_callV rfl rfl rfl rfl (xmC 176 rfl) ⟨rfl, rfl, yle rfl, yle rfl, yle rfl, yle rfl⟩ (mk_spare (r := row) (by omega) hG.1 hG.2.1) (c2 := 4 * (20 - (w1.toInt.toNat + 1))) (s2 := 59 * (20 - (w1.toInt.toNat + 1))) ⟨by omega, by omega⟩ ?_
        rintro _ _ ⟨b, ia, ra, ca, rfl, rfl⟩
        refine yT.perm tk_perm3 ?_
        refine xt_pure rfl rfl rfl (L1 := [_, _, _, _, _, _, _, _, _, _, _, _]) rfl ?_
        refine xt_pure rfl rfl rfl (st1 := .int 0 :: _) rfl ?_
        refine xt_pure rfl rfl rfl (L1 := [_, _, _, _, _, _, _, _, _, _, _, _]) rfl ?_
        have inX : D2 ⊆ ((237, .inr (10, svl (sp.set row (some (ntg b ia ra ca (Int32.ofNat sN) (Int32.ofNat nN)))))) :: (239, .inr (10, mr)) :: (209, .inl (14, 26, .int (Int32.ofNat n))) :: (sD (sp.set row none) ++ D2)) := fun _ he => List.mem_cons_of_mem _ (List.mem_cons_of_mem _ (List.mem_cons_of_mem _ (List.mem_append_right _ he)))
        refine fill_thing (En := En) (js := js) (F := F) (fa := fa) (x := ntg b ia ra ca (Int32.ofNat sN) (Int32.ofNat nN)) (s := sN) (by omega) hnn4 hE (inX hNe) (inX hSn) (hF.mono inX) rfl rfl ⟨rfl, rfl, rfl⟩ R3m b3 rfl ?_
        intro S4 x' i' x1 tl fr4 m4
        have x1 : x'.1 = b := x1
        refine xt_pure rfl rfl rfl rfl ?_
        refine xt_getf rfl rfl (xmC 188 rfl) ?_
        refine xt_pure rfl rfl rfl (st1 := .int 20 :: _) rfl ?_
        refine xt_pure rfl rfl rfl rfl ?_
        refine xt_pure rfl rfl rfl rfl ?_
        refine xt_pure rfl rfl rfl rfl ?_
        refine xt_pure rfl rfl rfl rfl ?_
        refine xt_pure rfl rfl rfl rfl ?_
        have tix : 20 * Int32.ofNat n + w1 = Int32.ofNat (20 * n + w1.toInt.toNat) := by
          rw [show (20 : Int32) = Int32.ofNat 20 from rfl, ← Int32.ofNat_mul, Int32.ofNat_add, yi_id p1]
        rw [tix]
        have ti := yi_nat (i := 20 * n + w1.toInt.toNat) (by omega)
        refine yt_ast rfl rfl 14 rfl rfl (by decide) (Or.inl ⟨_, 13, 0, _, rfl, rfl, List.mem_append_left _ (by rw [← x1]; exact List.mem_of_getElem? (i := 1) rfl)⟩) ⟨by rw [ti]; omega, by rw [ti, hG.2.2.1]; omega⟩ rfl ?_
        rw [yi_toNat (by omega)]
        show yT _ _ _ _ _ _ _ ((209, .inl (14, 24, .int ev)) :: (tgE x' ++ zD zTN zaN S4 ((237, .inr (10, svl (sp.set row (some (ntg b ia ra ca (Int32.ofNat sN) (Int32.ofNat nN)))))) :: (239, .inr (10, mr.set (20 * n + w1.toInt.toNat) (.ref b))) :: (209, .inl (14, 26, .int (Int32.ofNat n))) :: (sD (sp.set row none) ++ D2)))) _ _ _
        rw [svl_same (sp := sp) (r := row) (x := ntg b ia ra ca (Int32.ofNat sN) (Int32.ofNat nN)) (y := x') x1.symm, ← x1]
        refine yT.perm (tk_perm4 (s_in (by rw [hG.1]; omega))) ?_
        have hG2 : tkG n mr0 (sp.set row (some x')) (mr.set (20 * n + w1.toInt.toNat) (.ref x'.1)) := hG.put hA hn (by omega) (by omega) tl
        obtain ⟨l4, R4⟩ : ∃ l4, RD 2 0 3 S4 l4 := by
          rcases hq : rdO En sN nN l3 with _ | q
          · rw [hq] at m4; exact m4.1
          · rw [hq] at m4; exact ⟨_, m4.2.1⟩
        obtain ⟨n4, a4, u1, u2, u3, u4, u5, u6⟩ := id R4
        have frS4 : frN S S4 := fr3.trans fr4
        have hn4 : n4 = nd := by
          have := frS4.1
          rw [u1, r1] at this
          exact yi_inj (by omega) (by omega) this
        subst hn4
        refine xt_pure rfl rfl rfl rfl ?_
        refine xt_pure rfl rfl rfl (L1 := [_, _, _, _, _, _, _, _, _, _, _, _]) rfl ?_
        refine xt_pure rfl rfl rfl (st1 := .int 0 :: _) rfl ?_
        refine xt_pure rfl rfl rfl (L1 := [_, _, _, _, _, _, _, _, _, _, _, _]) rfl ?_
        refine xt_pure rfl rfl rfl rfl ?_
        refine xt_pure rfl rfl rfl (L1 := [_, _, _, _, _, _, _, _, _, _, _, _]) rfl ?_
        refine tk_sum (e := a4) (dk := zA S4 3) (by omega) u5 (by rw [← u2]; exact List.mem_of_getElem? (i := 1) rfl) (List.mem_of_getElem? (i := 4) rfl) (a4 - a) a 0 rfl (by omega) ?_
        intro j'
        generalize hsm : smB 0 (((zA S4 3).drop a).take (a4 - a)) = sm
        obtain ⟨w5, S5, c5, f5, m5⟩ := mk_got2 (X := X) (D0 := (209, .inl (14, 24, .int ev)) :: (237, .inr (10, svl (sp.set row (some x')))) :: (239, .inr (10, mr.set (20 * n + w1.toInt.toNat) (.ref x'.1))) :: (209, .inl (14, 26, .int (Int32.ofNat n))) :: (sD (sp.set row (some x')) ++ D2)) R4
        refine xt_pure rfl rfl rfl rfl ?_
        refine xt_pure rfl rfl rfl rfl ?_
        refine xt_pure rfl rfl rfl rfl ?_
        refine xt_pure rfl rfl rfl (st1 := .int 2 :: _) rfl ?_
        refine yT.perm tk_perm1 ?_
        refine xt_callV rfl rfl rfl rfl (xmC 176 rfl) ⟨rfl, rfl, yle rfl, yle rfl, yle rfl, yle rfl⟩ c5 (c2 := 4 * (20 - (w1.toInt.toNat + 1))) (s2 := 59 * (20 - (w1.toInt.toNat + 1))) ⟨yle2, yle2⟩ ?_
        rintro _ _ ⟨rfl, rfl⟩
        refine yT.perm tk_perm1.symm ?_
        refine xt_pure rfl rfl rfl rfl ?_
        have jn : ∀ {D : List xE} {L : List (Option Value)} {cc ss : Nat}, yT X 20 500 287 170 L [.int (if w5.toInt32 = sm then 1 else 0), .ref 209] D cc ss Q → yT X 20 500 287 166 L [.int w5.toInt32, .int sm, .ref 209] D cc ss Q := by
          intro D L cc ss w
          refine yt_ic rfl rfl (fun (h : sm ≠ w5.toInt32) => ?_) (fun (h : sm = w5.toInt32) => ?_)
          · rw [if_neg (fun g => h g.symm)] at w
            refine xt_pure rfl rfl rfl (st1 := .int 0 :: _) rfl ?_
            exact w
          · rw [if_pos h.symm] at w
            refine xt_pure rfl rfl rfl (st1 := .int 1 :: _) rfl ?_
            refine xt_pure rfl rfl rfl rfl ?_
            exact w
        refine jn ?_
        generalize hf5 : (if w5.toInt32 = sm then (1 : Int32) else 0) = g5
        refine yT.perm tk_perm1 ?_
        refine xt_callV rfl rfl rfl rfl (xmC 176 rfl) ⟨rfl, rfl, yle rfl, yle rfl, yle rfl, yle rfl⟩ mk_must (c2 := 4 * (20 - (w1.toInt.toNat + 1))) (s2 := 59 * (20 - (w1.toInt.toNat + 1))) ⟨yle2, yle2⟩ ?_
        rintro _ _ ⟨rfl, rfl⟩
        refine yT.perm tk_perm1.symm ?_
        have frS5 : frN S (zsI S5 1 (muR (zI S5 1) g5)) := ⟨f5.1.trans frS4.1, f5.2.trans frS4.2⟩
        refine xt_pure rfl rfl rfl rfl ?_
        refine xt_pure rfl rfl rfl rfl ?_
        refine xt_getf rfl rfl (xmD 2 rfl) ?_
        rw [show zI (zsI S5 1 (muR (zI S5 1) g5)) 1 = muR (zI S5 1) g5 from rfl]
        have wrong : rdRow En F lst (w1 :: Int32.ofNat sN :: Int32.ofNat nN :: l3) = none → muR (zI S5 1) g5 = 0 → yT X 20 500 287 174 [some (.ref 209), some (.int x), some (.int (Int32.ofNat n)), some (.int (Int32.ofNat row)), some (.int w1), some (.int (Int32.ofNat a)), some (.int w1), some (.int (Int32.ofNat sN)), some (.int (Int32.ofNat nN)), some (.ref x'.1), some (.int sm), some (.int j')] [.int (muR (zI S5 1) g5), .int (Int32.ofNat row)] (TK ev (zsI S5 1 (muR (zI S5 1) g5)) (sp.set row (some x')) (mr.set (20 * n + w1.toInt.toNat) (.ref x'.1)) (Int32.ofNat n) D2) (4 * (20 - (w1.toInt.toNat + 1))) (59 * (20 - (w1.toInt.toNat + 1))) Q := by
          intro hno hz
          rw [hz] at frS5 ⊢
          refine xt_pure rfl rfl rfl rfl ?_
          refine xt_pure rfl rfl rfl (st1 := .int 0 :: _) rfl ?_
          refine xt_pure rfl rfl rfl rfl ?_
          rw [Int32.add_zero]
          refine xt_pure rfl rfl rfl (L1 := [_, _, _, _, _, _, _, _, _, _, _, _]) rfl ?_
          refine xt_pure rfl rfl rfl rfl ?_
          exact w29 (by exact rfl) (kw (zsI S5 1 0) _ _ row _ _ _ _ _ _ _ _ (by rw [hst0, hno]) (by omega) hG2 frS5 rfl)
        rcases hq : rdO En sN nN l3 with _ | q
        · rw [hq] at m4
          refine wrong (by rw [hob, hq]; rfl) (mu0 (Or.inl ?_))
          rcases hr : rdL 2 0 l4 with _ | r
          · rw [hr] at m5; exact m5.2
          · rw [hr] at m5; exact m5.2.2.trans m4.2
        · rw [hq] at m4
          obtain ⟨hOM, R4q, h41⟩ := m4
          have hl4 : l4 = q.2 := by
            obtain ⟨n5, a5, v1, v2, v3, v4, v5, v6⟩ := R4q
            rw [u1] at v1
            rw [u2] at v2
            have e1 := yi_inj (by omega) (by omega) v1
            have e2 := yi_inj (by omega) (by omega) v2
            rw [u6, v6, e1, e2]
          subst hl4
          rcases Nat.lt_or_ge q.2.length 2 with hlen | hlen
          · rw [(rdL_some _ _ _).2 hlen] at m5
            exact wrong (by rw [hob, hq, Option.bind_some, rdN_none hlen]; rfl) (mu0 (Or.inl m5.2))
          · have hbq : byR q.2 := by
              intro b h
              rw [u6, frS4.2] at h
              exact hbz b (List.mem_of_mem_take (List.mem_of_mem_drop h))
            obtain ⟨r, hr⟩ := (rdL_some 2 0 q.2).1 hlen
            obtain ⟨cq, hcq⟩ := rdN_some 2 0 q.2 hlen
            have ec := rdL_cut hbq hr hcq
            rw [hr] at m5
            obtain ⟨rfl, R5, h51⟩ := m5
            have hll : (w1 :: Int32.ofNat sN :: Int32.ofNat nN :: l3).length = n4 - a := by rw [r6, List.length_drop, List.length_take, r5]; omega
            have hl2l : q.2.length = n4 - a4 := by rw [u6, List.length_drop, List.length_take, u5]; omega
            have hle : q.2.length ≤ l3.length := by
              have hq2 := hq
              rw [rdO] at hq2
              by_cases e4 : sN = 4
              · rw [if_pos e4] at hq2
                rcases h3 : rdRs nN l3 with _ | d
                · rw [h3] at hq2; cases hq2
                · rw [h3] at hq2
                  injection hq2 with hq2
                  rw [← hq2]
                  exact rdRs_le _ _ _ h3
              · rw [if_neg e4] at hq2
                rcases h3 : rdIs En sN nN l3 with _ | d
                · rw [h3] at hq2; cases hq2
                · rw [h3] at hq2
                  injection hq2 with hq2
                  rw [← hq2]
                  exact rdIs_le _ _ _ h3
            have hsm2 : sm = smB 0 ((w1 :: Int32.ofNat sN :: Int32.ofNat nN :: l3).take ((w1 :: Int32.ofNat sN :: Int32.ofNat nN :: l3).length - q.2.length)) := by
              have hal : a ≤ a4 := by
                simp only [List.length_cons] at hll
                omega
              rw [← hsm, frS4.2]
              congr 1
              rw [show (w1 :: Int32.ofNat sN :: Int32.ofNat nN :: l3).length - q.2.length = a4 - a by omega, r6, List.drop_take, List.take_take, show min (a4 - a) (n4 - a) = a4 - a by omega]
            by_cases heq : cq.1 = sm
            · have hyes : rdRow En F lst (w1 :: Int32.ofNat sN :: Int32.ofNat nN :: l3) = some (w1.toInt.toNat, q.1, cq.2) := by rw [hob, hq, Option.bind_some, hcq, Option.bind_some, if_pos (by rw [← hsm2]; exact heq)]
              have hz5 : muR (zI S5 1) g5 = 1 := by
                rw [← hf5, if_pos (ec.1.trans heq)]
                exact mu1 (h51.trans h41)
              rw [hz5] at frS5 ⊢
              refine xt_pure rfl rfl rfl rfl ?_
              refine xt_pure rfl rfl rfl (st1 := .int 1 :: _) rfl ?_
              refine xt_pure rfl rfl rfl rfl ?_
              refine xt_pure rfl rfl rfl rfl ?_
              rw [yi_add1]
              refine xt_pure rfl rfl rfl (L1 := [_, _, _, _, _, _, _, _, _, _, _, _]) rfl ?_
              refine xt_pure rfl rfl rfl rfl ?_
              have hvp : w1 = Int32.ofNat (w1.toInt.toNat + 1) - 1 := by rw [yi_s1, yi_id p1]
              have hA2 : tkA n (sp.set row (some x')) (mr.set (20 * n + w1.toInt.toNat) (.ref x'.1)) (A.set w1.toInt.toNat (some q.1)) (row + 1) := hA.put hG.1 hG.2.2.1 hn (by omega) (by omega) (by rw [x1]; exact hOM)
              have hst1 : rdAll En F (k + 1) lst (w1 :: Int32.ofNat sN :: Int32.ofNat nN :: l3) A row = rdAll En F k (w1.toInt.toNat + 1) cq.2 (A.set w1.toInt.toNat (some q.1)) (row + 1) := by rw [hst0, hyes]
              have REC := rec (row + 1) (w1.toInt.toNat + 1) (zsI S5 1 1) cq.2 (sp.set row (some x')) (mr.set (20 * n + w1.toInt.toNat) (.ref x'.1)) (A.set w1.toInt.toNat (some q.1)) (some (.int (Int32.ofNat a))) (some (.int w1)) (some (.int (Int32.ofNat sN))) (some (.int (Int32.ofNat nN))) (some (.ref x'.1)) (some (.int sm)) (some (.int j')) (by omega) (by omega) (by omega) (by rw [← ec.2]; exact R5.same rfl rfl rfl) (by rw [frS5.2]; exact hbz) rfl hG2 hA2 (fun S' sp' mr' A' j v4 z5 z6 z7 z8 z9 z10 z11 g1 g2 g3 g4 g5 g6 => kd S' sp' mr' A' j v4 z5 z6 z7 z8 z9 z10 z11 (hst1.trans g1) g2 g3 g4 (frS5.trans g5) g6) (fun S' sp' mr' j v4 z5 z6 z7 z8 z9 z10 z11 g1 g2 g3 g4 g5 => kw S' sp' mr' j v4 z5 z6 z7 z8 z9 z10 z11 (hst1.trans g1) g2 g3 (frS5.trans g4) g5)
              rw [← hvp] at REC
              exact REC
            · refine wrong (by rw [hob, hq, Option.bind_some, hcq, Option.bind_some, if_neg (by rw [← hsm2]; exact heq)]) (mu0 (Or.inr ?_))
              rw [← hf5, if_neg (by rw [ec.1]; exact heq)]
theorem tk_loop {n : Nat} {x : Int32} {al mr0 : List Value} {Q : Option Value → List xE → Prop} (hn : n < 30) (hE : En.length ≤ 100) (hNe : ((209, .inl (14, 19, .int (Int32.ofNat En.length))) : xE) ∈ D2) (hSn : ((236, .inr (0, (En.map Prod.snd ++ js).map Value.int)) : xE) ∈ D2) (hal : ((211, .inr (8, al)) : xE) ∈ D2) (haf : gI al x = some (.ref fa)) (hF : yFM D2 fa F) (h20 : F.1.length ≤ 20) : ∀ k : Nat, TKst X D2 En F ev n x mr0 Q k
  | 0 => by
    intro row lst S l sp mr A l5 l6 l7 l8 l9 l10 l11 hk hrl hls
    omega
  | k + 1 => tk_step hn hE hNe hSn hal haf hF h20 (tk_loop hn hE hNe hSn hal haf hF h20 k)
end TAKEM
