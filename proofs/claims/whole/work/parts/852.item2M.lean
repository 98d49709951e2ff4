/-! TAKE: an item read, all sorts but rows; the reference -/
section READM2
variable {gi : Nat → Int32} {ga : Nat → List Int32} {ne : Int32} {sn js : List Int32} {N : Nat} {En : List (Int64 × Int32)}
theorem mu1 {r : Int32} (h : r = 1) : muR r 1 = 1 := by rw [h]; rfl
theorem mu0 {r v : Int32} (h : r = 0 ∨ v = 0) : muR r v = 0 := by
  unfold muR
  rcases h with h | h
  · rw [if_pos h]
  · by_cases e : r = 0
    · rw [if_pos e]
    · rw [if_neg e, if_pos h]
/-- a number of one or more bytes -/
theorem r_134 (hN : 9 < N) {s i : Nat} {S : zS} {l : List Int32} (hs : s ≤ 3) (h0 : zI S 0 = Int32.ofNat s) (hR : RD 8 6 9 S l) (hb : byR l) (h7 : zI S 7 = 1) (hi : i < (zB S 2).length) (hi2 : (zB S 2).length ≤ 100) : match rdI En s l with
    | some q => ∃ S', rG_gotItem_134 gi ga ne sn N (Int32.ofNat i) (Int32.ofNat (bOf s)) S = some ((), S') ∧ zB S' 2 = (zB S 2).set i q.1 ∧ frI S S' ∧ RD 8 6 9 S' q.2 ∧ zI S' 7 = 1
    | none => ∃ S' l', rG_gotItem_134 gi ga ne sn N (Int32.ofNat i) (Int32.ofNat (bOf s)) S = some ((), S') ∧ (zB S' 2).length = (zB S 2).length ∧ frI S S' ∧ RD 8 6 9 S' l' ∧ zI S' 7 = 0 := by
  have hb8 : bOf s ≤ 8 := by
    rcases (show s = 0 ∨ s = 1 ∨ s = 2 ∨ s = 3 by omega) with rfl | rfl | rfl | rfl <;> decide
  obtain ⟨w, S1, g1, g2, g3⟩ := r_gotL (gi := gi) (ga := ga) (ne := ne) (sn := sn) hN hb8 hR
  have hB : zB S1 2 = zB S 2 := by
    show S1.2.2.2.2.1 2 = _
    rw [g2.2]; rfl
  have hA : ∀ j, zA S1 j = zA S j := by
    intro j
    show S1.2.2.2.1 j = _
    rw [g2.2]; rfl
  have h01 : zI S1 0 = Int32.ofNat s := (g2.1 0 (by omega) (by omega)).trans h0
  have hz : zok (zB S1 2) (Int32.ofNat i) := by
    rw [hB]
    exact ⟨by rw [yi_nat (by omega)]; omega, by rw [yi_nat (by omega)]; omega⟩
  have fr : ∀ (r : Int32) (v : List Int64), frI S (zsB (zsI S1 7 r) 2 v) := fun r v => ⟨fun j h6 h7 => (zup_ne h7).trans (g2.1 j h6 h7), hA⟩
  have hRz : ∀ (r : Int32) (v : List Int64) (l1 : List Int32), RD 8 6 9 S1 l1 → RD 8 6 9 (zsB (zsI S1 7 r) 2 v) l1 := fun r v l1 h => h.same rfl rfl rfl
  have run : ∃ f : Int32, rG_gotItem_134 gi ga ne sn N (Int32.ofNat i) (Int32.ofNat (bOf s)) S = some ((), zsB (zsI S1 7 (muR (zI S1 7) f)) 2 ((zB S 2).set i (if s = 1 then w.toInt32.toInt64 else w))) ∧ f = if s = 0 ∧ 2 ≤ w.toInt then 0 else 1 := by
    by_cases e0 : s = 0
    · by_cases hw : 2 ≤ w.toInt
      · refine ⟨0, ?_, by rw [if_pos ⟨e0, hw⟩]⟩
        rw [rG_gotItem_134, g1, zb_s, if_neg (by rw [h01, yi_nat (by omega)]; omega), if_pos hw, r_147 h01 (by omega) hz (by omega), hB]
      · refine ⟨1, ?_, by rw [if_neg (fun g => hw g.2)]⟩
        rw [rG_gotItem_134, g1, zb_s, if_neg (by rw [h01, yi_nat (by omega)]; omega), if_neg hw, r_147 h01 (by omega) hz (by omega), hB]
    · refine ⟨1, ?_, by rw [if_neg (fun g => e0 g.1)]⟩
      rw [rG_gotItem_134, g1, zb_s, if_pos (by rw [h01, yi_nat (by omega)]; omega), r_147 h01 (by omega) hz (by omega), hB]
  obtain ⟨f, run, hf⟩ := run
  rcases Nat.lt_or_ge l.length (bOf s) with hlen | hlen
  · -- too few bytes
    rw [(rdL_some _ _ _).2 hlen] at g3
    have hno : rdI En s l = none := by
      rw [rdI]
      by_cases e2 : s = 2
      · rw [if_pos e2]
        have hlen : l.length < 8 := by rw [e2] at hlen; exact hlen
        rcases h4 : rdN 4 0 l with _ | q
        · rfl
        · rw [Option.bind_some, rdN_none (by rw [(rdN_drop _ _ _ _ h4).1, List.length_drop]; omega)]
          rfl
      · rw [if_neg e2, rdN_none hlen]
        rfl
    rw [hno]
    exact ⟨_, [], run, by show ((zB S 2).set i _).length = _; rw [List.length_set], fr _ _, hRz _ _ _ g3.1, mu0 (Or.inl g3.2)⟩
  · obtain ⟨a, ha⟩ := (rdL_some (bOf s) 0 l).1 hlen
    rw [ha] at g3
    obtain ⟨rfl, g4, g5⟩ := g3
    have r7 : zI S1 7 = 1 := g5.trans h7
    by_cases e2 : s = 2
    · have hlen : 8 ≤ l.length := by rw [e2] at hlen; exact hlen
      have ha : rdL 8 0 l = some a := by rw [e2] at ha; exact ha
      obtain ⟨h, hh⟩ := rdN_some 4 0 l (by omega)
      obtain ⟨q, hq⟩ := rdN_some 4 0 h.2 (by rw [(rdN_drop _ _ _ _ hh).1, List.length_drop]; omega)
      have e8 := rdL_8 hb ha hh hq
      rw [rdI, if_pos e2, hh, Option.bind_some, hq]
      refine ⟨_, run, ?_, fr _ _, hRz _ _ _ (by rw [← e8.2]; exact g4), ?_⟩
      · show (zB S 2).set i (if s = 1 then _ else a.1) = _
        rw [if_neg (by omega), e8.1]
      · show muR (zI S1 7) f = 1
        rw [hf, if_neg (fun g => by omega)]
        exact mu1 r7
    · obtain ⟨q, hq⟩ := rdN_some (bOf s) 0 l hlen
      have hbase : rdI En s l = (itmK En s q.1).map fun v => (v, q.2) := by
        rw [rdI, if_neg e2, hq]
        rfl
      rw [hbase]
      by_cases e1 : s = 1
      · have ec := rdL_cut hb ha hq
        rw [itmK, if_neg (by omega), if_neg (by omega), if_neg (by omega), if_neg (by omega)]
        refine ⟨_, run, ?_, fr _ _, hRz _ _ _ (by rw [← ec.2]; exact g4), ?_⟩
        · show (zB S 2).set i (if s = 1 then _ else a.1) = _
          rw [if_pos e1, ec.1]
        · show muR (zI S1 7) f = 1
          rw [hf, if_neg (fun g => by omega)]
          exact mu1 r7
      · have ec := rdL_few (by rcases (show s = 0 ∨ s = 3 by omega) with rfl | rfl <;> decide) hb ha hq
        rcases (show s = 0 ∨ s = 3 by omega) with e0 | e3
        · rw [itmK, if_pos e0]
          by_cases hv : 1 < q.1.toInt
          · rw [if_pos hv]
            refine ⟨_, a.2, run, by show ((zB S 2).set i _).length = _; rw [List.length_set], fr _ _, hRz _ _ _ g4, ?_⟩
            show muR (zI S1 7) f = 0
            rw [hf, if_pos ⟨e0, by rw [ec.1, y6432]; omega⟩]
            exact mu0 (Or.inr rfl)
          · rw [if_neg hv]
            refine ⟨_, run, ?_, fr _ _, hRz _ _ _ (by rw [← ec.2]; exact g4), ?_⟩
            · show (zB S 2).set i (if s = 1 then _ else a.1) = _
              rw [if_neg e1, ec.1]
            · show muR (zI S1 7) f = 1
              rw [hf, if_neg (fun g => by rw [ec.1, y6432] at g; omega)]
              exact mu1 r7
        · rw [itmK, if_neg (by omega), if_neg (by omega), if_neg (by omega), if_neg (by omega)]
          refine ⟨_, run, ?_, fr _ _, hRz _ _ _ (by rw [← ec.2]; exact g4), ?_⟩
          · show (zB S 2).set i (if s = 1 then _ else a.1) = _
            rw [if_neg e1, ec.1]
          · show muR (zI S1 7) f = 1
            rw [hf, if_neg (fun g => by omega)]
            exact mu1 r7
/-- an entry -/
theorem r_67 {s i : Nat} {S : zS} {b : Int32} (hs : s = 5 ∨ s = 6 ∨ s = 7) (hne : ne = Int32.ofNat En.length) (hE : En.length ≤ 100) (hsn : sn = En.map Prod.snd ++ js) (h0 : zI S 0 = Int32.ofNat s) (hb : 0 ≤ b.toInt ∧ b.toInt ≤ 255) (hi : i < (zB S 2).length) (hi2 : (zB S 2).length ≤ 100) (h01 : zI S 7 = 0 ∨ zI S 7 = 1) : ∃ S', rG_gotItem_67 gi ga ne sn N (Int32.ofNat i) b (if s = 7 then 0 else 1) S = some ((), S') ∧ (zB S' 2).length = (zB S 2).length ∧ (∀ j, j ≠ 7 → zI S' j = zI S j) ∧ (∀ j, zA S' j = zA S j) ∧ (zI S 7 = 0 → zI S' 7 = 0) ∧ (zI S 7 = 1 → match itmK En s b with
    | some v => zI S' 7 = 1 ∧ zB S' 2 = (zB S 2).set i v
    | none => zI S' 7 = 0) := by
  have hz : zok (zB S 2) (Int32.ofNat i) := ⟨by rw [yi_nat (by omega)]; omega, by rw [yi_nat (by omega)]; omega⟩
  have k7 : zI S 0 = 7 ↔ s = 7 := by
    rw [h0]
    exact ⟨fun h => yi_inj (by omega) (by omega) h, fun h => by rw [h]; rfl⟩
  obtain ⟨k, rfl, hk⟩ : ∃ k : Nat, b = Int32.ofNat k ∧ k ≤ 255 := ⟨b.toInt.toNat, (yi_id hb.1).symm, by omega⟩
  have tk := yi_nat (i := k) (by omega)
  have x64 : (Int32.ofNat k).toInt64 = Int64.ofNat k := y3264 (by omega)
  -- x: the number less what is taken off
  have tx : (Int32.ofNat k - (if s = 7 then 0 else 1)).toInt = (k : Int) - (if s = 7 then 0 else 1) := by
    by_cases e : s = 7
    · rw [if_pos e, if_pos e, Int32.sub_zero, tk]; omega
    · rw [if_neg e, if_neg e]
      cases k with
      | zero => decide
      | succ q => rw [yi_s1, yi_nat (by omega)]; omega
  generalize hxd : Int32.ofNat k - (if s = 7 then 0 else 1) = x at tx
  have t64 : x.toInt64.toInt = x.toInt := y6432 x
  -- the flag
  have hfl : ∃ f : Int32, rG_gotItem_67 gi ga ne sn N (Int32.ofNat i) (Int32.ofNat k) (if s = 7 then 0 else 1) S = rG_gotItem_86 gi ga ne sn N (Int32.ofNat i) x f S ∧ f = if x.toInt < En.length then 1 else 0 := by
    rw [rG_gotItem_67, hxd, hne, yi_nat (by omega)]
    by_cases h1 : (En.length : Int) ≤ x.toInt
    · exact ⟨0, by rw [if_pos h1], by rw [if_neg (by omega)]⟩
    · refine ⟨1, ?_, by rw [if_pos (by omega)]⟩
      rw [if_neg h1]
      by_cases e : s = 7
      · rw [if_neg (fun h => h (k7.mpr e)), if_neg (by rw [tx, if_pos e]; omega)]
      · rw [if_pos (fun h => e (k7.mp h)), if_neg (by rw [tx, if_neg e]; omega)]
  obtain ⟨f, hrun, hf⟩ := hfl
  obtain ⟨S', a1, a2, a3, a4, a5⟩ := r_86 (gi := gi) (ga := ga) (ne := ne) (N := N) (f := f) h0 (by omega) hz (by omega) hE hsn (x := x) (by
    intro _ _ hm
    by_cases h1 : x.toInt < En.length
    · exact h1
    · rw [if_neg h1] at hf
      exact absurd (mu0 (Or.inr hf)) hm)
  refine ⟨S', hrun.trans a1, by rw [a2, List.length_set], a3, a4, fun h => by rw [a5, if_pos (mu0 (Or.inl h))], fun h => ?_⟩
  have e0 : s ≠ 0 := by omega
  by_cases hlt : x.toInt < En.length
  · rw [if_pos hlt] at hf
    rw [hf, mu1 h, if_neg (by decide)] at a5
    rcases hs with e | e | e
    · -- whole entries
      rw [itmK, if_neg e0, if_pos e]
      rw [if_neg (by omega)] at tx
      rw [if_neg (fun g => by omega)] at a5
      by_cases hk0 : k = 0
      · subst hk0
        rw [if_pos (show Int32.ofNat 0 = 0 from rfl)]
        refine ⟨a5, by rw [a2]; congr 1; apply Int64.toInt_inj.mp; rw [t64, tx]; rfl⟩
      · rw [if_neg (fun (g : Int32.ofNat k = 0) => hk0 (yi_inj (b := 0) (by omega) (by omega) g)), tk, if_pos (by omega)]
        refine ⟨a5, ?_⟩
        rw [a2]
        congr 1
        have hsub : Int64.ofNat k - 1 = Int64.ofNat (k - 1) := by
          have : Int64.ofNat k = Int64.ofNat (k - 1) + 1 := by rw [i64_add1]; congr 1; omega
          rw [this, Int64.add_sub_cancel]
        apply Int64.toInt_inj.mp
        rw [t64, tx, x64, hsub, Int64.toInt_ofNat_of_lt (by omega)]
        omega
    · rw [itmK, if_neg e0, if_neg (by omega), if_pos e]
      rw [if_neg (by omega)] at tx
      by_cases hk0 : k = 0
      · subst hk0
        rw [if_pos (show Int32.ofNat 0 = 0 from rfl)]
        rw [if_neg (fun g => by omega)] at a5
        refine ⟨a5, by rw [a2]; congr 1; apply Int64.toInt_inj.mp; rw [t64, tx]; rfl⟩
      · rw [if_neg (fun (g : Int32.ofNat k = 0) => hk0 (yi_inj (b := 0) (by omega) (by omega) g)), tk]
        have hxe : x = Int32.ofNat k - 1 := by rw [← hxd, if_neg (by omega)]
        have hsub : Int64.ofNat k - 1 = Int64.ofNat (k - 1) := by
          have : Int64.ofNat k = Int64.ofNat (k - 1) + 1 := by rw [i64_add1]; congr 1; omega
          rw [this, Int64.add_sub_cancel]
        by_cases hg : sgE En (Int32.ofNat k - 1) = -9
        · rw [if_pos ⟨e, by omega, by rw [hxe]; exact hg⟩] at a5
          rw [if_neg (fun g => g.2 hg)]
          exact a5
        · rw [if_neg (fun g => hg (by rw [← hxe]; exact g.2.2))] at a5
          rw [if_pos ⟨by omega, hg⟩]
          refine ⟨a5, ?_⟩
          rw [a2]
          congr 1
          apply Int64.toInt_inj.mp
          rw [t64, tx, x64, hsub, Int64.toInt_ofNat_of_lt (by omega)]
          omega
    · rw [itmK, if_neg e0, if_neg (by omega), if_neg (by omega), if_pos e, tk]
      rw [if_pos e] at tx
      rw [if_neg (fun g => by omega)] at a5
      rw [if_pos (by omega)]
      refine ⟨a5, by rw [a2]; congr 1; apply Int64.toInt_inj.mp; rw [t64, tx, x64, Int64.toInt_ofNat_of_lt (by omega)]; omega⟩
  · rw [if_neg hlt] at hf
    rw [if_pos (mu0 (Or.inr hf))] at a5
    rcases hs with e | e | e
    · rw [itmK, if_neg e0, if_pos e]
      rw [if_neg (by omega)] at tx
      rw [if_neg (fun (g : Int32.ofNat k = 0) => by have := yi_inj (b := 0) (by omega) (by omega) g; omega), tk, if_neg (by omega)]
      exact a5
    · rw [itmK, if_neg e0, if_neg (by omega), if_pos e]
      rw [if_neg (by omega)] at tx
      rw [if_neg (fun (g : Int32.ofNat k = 0) => by have := yi_inj (b := 0) (by omega) (by omega) g; omega), tk, if_neg (by omega)]
      exact a5
    · rw [itmK, if_neg e0, if_neg (by omega), if_neg (by omega), if_pos e, tk]
      rw [if_pos e] at tx
      rw [if_neg (by omega)]
      exact a5
/-- an item is read, or it is wrong -/
theorem r_itemT (hN : 9 < N) {s i : Nat} {S : zS} {l : List Int32} (hs : s ≤ 7) (hs4 : s ≠ 4) (hne : ne = Int32.ofNat En.length) (hE : En.length ≤ 100) (hsn : sn = En.map Prod.snd ++ js) (h0 : zI S 0 = Int32.ofNat s) (hR : RD 8 6 9 S l) (hb : byR l) (h7 : zI S 7 = 1) (hi : i < (zB S 2).length) (hi2 : (zB S 2).length ≤ 100) : match rdI En s l with
    | some q => ∃ S', rG_gotItem gi ga ne sn N (Int32.ofNat i) S = some ((), S') ∧ zB S' 2 = (zB S 2).set i q.1 ∧ frI S S' ∧ RD 8 6 9 S' q.2 ∧ zI S' 7 = 1
    | none => ∃ S' l', rG_gotItem gi ga ne sn N (Int32.ofNat i) S = some ((), S') ∧ (zB S' 2).length = (zB S 2).length ∧ frI S S' ∧ RD 8 6 9 S' l' ∧ zI S' 7 = 0 := by
  have key : ∀ c : Nat, c ≤ 7 → (zI S 0 = Int32.ofNat c ↔ s = c) := by
    intro c hc
    rw [h0]
    exact ⟨fun h => yi_inj (by omega) (by omega) h, fun h => by rw [h]⟩
  have k4 : zI S 0 = 4 ↔ s = 4 := key 4 (by omega)
  have k1 : zI S 0 = 1 ↔ s = 1 := key 1 (by omega)
  have k2 : zI S 0 = 2 ↔ s = 2 := key 2 (by omega)
  have k3 : zI S 0 = 3 ↔ s = 3 := key 3 (by omega)
  by_cases hs3 : s ≤ 3
  · have run : rG_gotItem gi ga ne sn N (Int32.ofNat i) S = rG_gotItem_134 gi ga ne sn N (Int32.ofNat i) (Int32.ofNat (bOf s)) S := by
      rw [rG_gotItem, if_pos (fun h => hs4 (k4.mp h)), if_pos (by rw [h0, yi_nat (by omega)]; omega)]
      by_cases e1 : s = 1
      · rw [if_neg (fun h => h (k1.mpr e1)), e1]; rfl
      · rw [if_pos (fun h => e1 (k1.mp h))]
        by_cases e2 : s = 2
        · rw [if_neg (fun h => h (k2.mpr e2)), e2]; rfl
        · rw [if_pos (fun h => e2 (k2.mp h))]
          by_cases e3 : s = 3
          · rw [if_neg (fun h => h (k3.mpr e3)), e3]; rfl
          · rw [if_pos (fun h => e3 (k3.mp h)), show s = 0 by omega]; rfl
    rw [run]
    exact r_134 hN hs3 h0 hR hb h7 hi hi2
  · have hs57 : s = 5 ∨ s = 6 ∨ s = 7 := by omega
    obtain ⟨w, S1, g1, g2, g3⟩ := r_got (gi := gi) (ga := ga) (ne := ne) (sn := sn) (N := N) hR
    have hB : zB S1 2 = zB S 2 := by
      show S1.2.2.2.2.1 2 = _
      rw [g2.2]; rfl
    have hA : ∀ j, zA S1 j = zA S j := by
      intro j
      show S1.2.2.2.1 j = _
      rw [g2.2]; rfl
    have h01 : zI S1 0 = Int32.ofNat s := (g2.1 0 (by omega) (by omega)).trans h0
    have k7 : zI S1 0 = 7 ↔ s = 7 := by
      rw [h01]
      exact ⟨fun h => yi_inj (by omega) (by omega) h, fun h => by rw [h]; rfl⟩
    have run : rG_gotItem gi ga ne sn N (Int32.ofNat i) S = rG_gotItem_67 gi ga ne sn N (Int32.ofNat i) w (if s = 7 then 0 else 1) S1 := by
      rw [rG_gotItem, if_pos (fun h => hs4 (k4.mp h)), if_neg (by rw [h0, yi_nat (by omega)]; omega), g1, zb_s]
      by_cases e : s = 7
      · rw [if_neg (fun h => h (k7.mpr e)), if_pos e]
      · rw [if_pos (fun h => e (k7.mp h)), if_neg e]
    have hbo : bOf s = 1 := by rcases hs57 with rfl | rfl | rfl <;> rfl
    rw [run, rdI, if_neg (by omega), hbo]
    cases l with
    | nil =>
      obtain ⟨rfl, g4, g5⟩ := g3
      obtain ⟨S', a1, a2, a3, a4, a5, a6⟩ := r_67 (gi := gi) (ga := ga) (N := N) (i := i) hs57 hne hE hsn h01 (b := 0) (by decide) (by rw [hB]; exact hi) (by rw [hB]; exact hi2) (Or.inl g5)
      show ∃ S' l', _
      exact ⟨S', [], a1, by rw [a2, hB], ⟨fun j h6 h7 => (a3 j h7).trans (g2.1 j h6 h7), fun j => (a4 j).trans (hA j)⟩, g4.same (a3 8 (by omega)) (a3 6 (by omega)) (a4 9), a5 g5⟩
    | cons b l' =>
      obtain ⟨rfl, g4, g5⟩ := g3
      obtain ⟨S', a1, a2, a3, a4, a5, a6⟩ := r_67 (gi := gi) (ga := ga) (N := N) (i := i) hs57 hne hE hsn h01 (b := w) (hb w List.mem_cons_self) (by rw [hB]; exact hi) (by rw [hB]; exact hi2) (Or.inr (g5.trans h7))
      have a6 := a6 (g5.trans h7)
      have hq : rdN 1 0 (w :: l') = some (w, l') := by rw [rdN, rdN, sh0]
      rw [hq, Option.bind_some]
      show match (itmK En s w).map fun v => (v, l') with
        | some q => _
        | none => _
      have fr : frI S S' := ⟨fun j h6 h7 => (a3 j h7).trans (g2.1 j h6 h7), fun j => (a4 j).trans (hA j)⟩
      have hR' : RD 8 6 9 S' l' := g4.same (a3 8 (by omega)) (a3 6 (by omega)) (a4 9)
      rcases hv : itmK En s w with _ | v
      · rw [hv] at a6
        exact ⟨S', l', a1, by rw [a2, hB], fr, hR', a6⟩
      · rw [hv] at a6
        exact ⟨S', a1, by rw [a6.2, hB], fr, hR', a6.1⟩
end READM2
