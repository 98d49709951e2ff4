/-! TAKE: a row read; the reference -/
section READM3
variable {gi : Nat → Int32} {ga : Nat → List Int32} {ne : Int32} {sn js : List Int32} {N : Nat} {En : List (Int64 × Int32)}
/-- what a row's reading leaves -/
def frR (S S' : zS) : Prop := (∀ j, j ≠ 6 → j ≠ 7 → zI S' j = zI S j) ∧ zB S' 2 = zB S 2 ∧ zA S' 9 = zA S 9
theorem frR.trans {S S1 S2 : zS} (h1 : frR S S1) (h2 : frR S1 S2) : frR S S2 := ⟨fun j a b => (h2.1 j a b).trans (h1.1 j a b), h2.2.1.trans h1.2.1, h2.2.2.trans h1.2.2⟩
theorem r_stop {i j n : Nat} {S : zS} {c : Int32} (hi : i < 6) (hc : (zA S 3)[i]? = some c) (h : zI S 7 = 0) : rG_gotItem_30 gi ga ne sn N (n + 1) (Int32.ofNat i) (Int32.ofNat j) S = some ((), S) := by
  rw [rG_gotItem_30, gI_nat (by omega), hc, zg_s]
  by_cases e : c.toInt ≤ (Int32.ofNat j).toInt
  · rw [if_pos e]
  · rw [if_neg e, if_pos h]
theorem r_cells (hN : 9 < N) {i c : Nat} (hi : i < 6) (hc : c ≤ 6) : ∀ (m j n : Nat) (S : zS) (l : List Int32), j + m = c → m < n → (zA S 3)[i]? = some (Int32.ofNat c) → (zA S 4).length = 36 → RD 8 6 9 S l → byR l → zI S 7 = 1 → ∃ S', rG_gotItem_30 gi ga ne sn N n (Int32.ofNat i) (Int32.ofNat j) S = some ((), S') ∧ frR S S' ∧ zA S' 3 = zA S 3 ∧ (zA S' 4).length = 36 ∧ (∀ k, k < 6 * i + j ∨ 6 * i + c ≤ k → (zA S' 4)[k]? = (zA S 4)[k]?) ∧ (match rdC m l with
    | some q => RD 8 6 9 S' q.2 ∧ zI S' 7 = 1 ∧ ∀ (t : Nat) x, q.1[t]? = some x → (zA S' 4)[6 * i + j + t]? = some x
    | none => (∃ l', RD 8 6 9 S' l') ∧ zI S' 7 = 0)
  | _, _, 0, _, _, _, hn, _, _, _, _, _ => by omega
  | 0, j, n + 1, S, l, hj, _, h3, h4, hR, hb, h7 => by
    refine ⟨S, ?_, ⟨fun _ _ _ => rfl, rfl, rfl⟩, rfl, h4, fun _ _ => rfl, hR, h7, fun t x h => by cases h⟩
    rw [rG_gotItem_30, gI_nat (by omega), h3, zg_s, if_pos (by rw [yi_nat (by omega), yi_nat (by omega)]; omega)]
  | m + 1, j, n + 1, S, l, hj, hn, h3, h4, hR, hb, h7 => by
    obtain ⟨w, S1, g1, g2, g3⟩ := r_gotL (gi := gi) (ga := ga) (ne := ne) (sn := sn) hN (k := 4) (by omega) hR
    have hB : zB S1 2 = zB S 2 := by
      show S1.2.2.2.2.1 2 = _
      rw [g2.2]; rfl
    have hA : ∀ j, zA S1 j = zA S j := by
      intro j
      show S1.2.2.2.1 j = _
      rw [g2.2]; rfl
    have t6 : (6 * Int32.ofNat i) + Int32.ofNat j = Int32.ofNat (6 * i + j) := by
      rw [show (6 : Int32) = Int32.ofNat 6 from rfl, ← Int32.ofNat_mul, ← Int32.ofNat_add]
    have run : rG_gotItem_30 gi ga ne sn N (n + 1) (Int32.ofNat i) (Int32.ofNat j) S = rG_gotItem_30 gi ga ne sn N n (Int32.ofNat i) (Int32.ofNat (j + 1)) (zsA S1 4 ((zA S 4).set (6 * i + j) w.toInt32)) := by
      rw [rG_gotItem_30, gI_nat (by omega), h3, zg_s, if_neg (by rw [yi_nat (by omega), yi_nat (by omega)]; omega), if_neg (by rw [h7]; decide), show (4 : Int32) = Int32.ofNat 4 from rfl, g1, zb_s, t6, hA, if_pos ⟨by rw [yi_nat (by omega)]; omega, by rw [yi_nat (by omega), h4]; omega⟩, zs, yi_toNat (by omega), yi_add1]
    have fr1 : frR S (zsA S1 4 ((zA S 4).set (6 * i + j) w.toInt32)) := ⟨g2.1, hB, hA 9⟩
    have l4 : ((zA S 4).set (6 * i + j) w.toInt32).length = 36 := by rw [List.length_set]; exact h4
    have h31 : (zA (zsA S1 4 ((zA S 4).set (6 * i + j) w.toInt32)) 3)[i]? = some (Int32.ofNat c) := by
      show (zA S1 3)[i]? = _
      rw [hA]; exact h3
    rw [run]
    rcases Nat.lt_or_ge l.length 4 with hl | hl
    · rw [(rdL_some _ _ _).2 hl] at g3
      obtain ⟨n', rfl⟩ : ∃ n', n = n' + 1 := ⟨n - 1, by omega⟩
      refine ⟨_, r_stop hi h31 g3.2, fr1, hA 3, l4, fun k hk => List.getElem?_set_ne (by omega), ?_⟩
      rw [rdC, rdN_none hl]
      exact ⟨⟨[], g3.1.same rfl rfl rfl⟩, g3.2⟩
    · obtain ⟨a, ha⟩ := (rdL_some 4 0 l).1 hl
      obtain ⟨q, hq⟩ := rdN_some 4 0 l hl
      have ec := rdL_cut hb ha hq
      rw [ha] at g3
      obtain ⟨rfl, g4, g5⟩ := g3
      rw [ec.1] at *
      have hbq : byR q.2 := by rw [(rdN_drop _ _ _ _ hq).1]; exact hb.drop 4
      have hR2 : RD 8 6 9 (zsA S1 4 ((zA S 4).set (6 * i + j) q.1)) q.2 := by
        rw [← ec.2]
        exact g4.same rfl rfl rfl
      obtain ⟨S', e1, e2, e3, e4, e5, e6⟩ := r_cells hN hi hc m (j + 1) n (zsA S1 4 ((zA S 4).set (6 * i + j) q.1)) q.2 (by omega) (by omega) h31 l4 hR2 hbq (g5.trans h7)
      refine ⟨S', e1, fr1.trans e2, e3.trans (hA 3), e4, fun k hk => (e5 k (by omega)).trans (List.getElem?_set_ne (by omega)), ?_⟩
      rw [rdC, hq, Option.bind_some]
      rcases hr : rdC m q.2 with _ | r
      · rw [hr] at e6
        exact e6
      · rw [hr] at e6
        obtain ⟨f1, f2, f3⟩ := e6
        refine ⟨f1, f2, fun t x hx => ?_⟩
        cases t with
        | zero =>
          have hx : some q.1 = some x := hx
          rw [e5 (6 * i + j + 0) (by omega), ← hx]
          exact List.getElem?_set_self (by omega)
        | succ t =>
          have := f3 t x hx
          rw [show 6 * i + (j + 1) + t = 6 * i + j + (t + 1) by omega] at this
          exact this
/-- a row is read, or it is wrong -/
theorem r_rowT (hN : 9 < N) {i : Nat} {S : zS} {l : List Int32} (hi : i < 6) (h0 : zI S 0 = 4) (hR : RD 8 6 9 S l) (hb : byR l) (h7 : zI S 7 = 1) (l3 : (zA S 3).length = 6) (l4 : (zA S 4).length = 36) : ∃ S', rG_gotItem gi ga ne sn N (Int32.ofNat i) S = some ((), S') ∧ frR S S' ∧ (zA S' 3).length = 6 ∧ (zA S' 4).length = 36 ∧ (∀ k, k < 6 * i → (zA S' 4)[k]? = (zA S 4)[k]?) ∧ (match rdR l with
    | some q => zA S' 3 = (zA S 3).set i (rsz q.1) ∧ (∀ cs, q.1 = some cs → ∀ (j : Nat) x, cs[j]? = some x → (zA S' 4)[6 * i + j]? = some x) ∧ RD 8 6 9 S' q.2 ∧ zI S' 7 = 1
    | none => (∃ l', RD 8 6 9 S' l') ∧ zI S' 7 = 0) := by
  obtain ⟨w, S1, g1, g2, g3⟩ := r_got (gi := gi) (ga := ga) (ne := ne) (sn := sn) (N := N) hR
  have hB : zB S1 2 = zB S 2 := by
    show S1.2.2.2.2.1 2 = _
    rw [g2.2]; rfl
  have hA : ∀ j, zA S1 j = zA S j := by
    intro j
    show S1.2.2.2.1 j = _
    rw [g2.2]; rfl
  have t17 : ∀ (f : Int32), rG_gotItem_17 gi ga ne sn N (Int32.ofNat i) w f S1 = rG_gotItem_30 gi ga ne sn N N (Int32.ofNat i) 0 (zsA (zsI S1 7 (muR (zI S1 7) f)) 3 ((zA S 3).set i (if w = 255 then -1 else w))) := by
    intro f
    have hz : zok (zA (zsI S1 7 (muR (zI S1 7) f)) 3) (Int32.ofNat i) := by
      show zok (zA S1 3) _
      rw [hA]
      exact ⟨by rw [yi_nat (by omega)]; omega, by rw [yi_nat (by omega)]; omega⟩
    have ez : ∀ v, zs (zA (zsI S1 7 (muR (zI S1 7) f)) 3) (Int32.ofNat i) v = (zA S 3).set i v := by
      intro v
      show zs (zA S1 3) _ _ = _
      rw [hA, zs, yi_toNat (by omega)]
    rw [rG_gotItem_17, r_must, zb_s]
    by_cases e : w = 255
    · rw [if_neg (fun h => h e), if_pos hz, ez, if_pos e]
    · rw [if_pos e, if_pos hz, ez, if_neg e]
  have run : ∃ f : Int32, rG_gotItem gi ga ne sn N (Int32.ofNat i) S = rG_gotItem_30 gi ga ne sn N N (Int32.ofNat i) 0 (zsA (zsI S1 7 (muR (zI S1 7) f)) 3 ((zA S 3).set i (if w = 255 then -1 else w))) ∧ f = if w = 255 ∨ w.toInt ≤ 6 then 1 else 0 := by
    have st : rG_gotItem gi ga ne sn N (Int32.ofNat i) S = (if w = (255 : Int32) then rG_gotItem_17 gi ga ne sn N (Int32.ofNat i) w 1 S1 else (if 6 < w.toInt then rG_gotItem_17 gi ga ne sn N (Int32.ofNat i) w 0 S1 else rG_gotItem_17 gi ga ne sn N (Int32.ofNat i) w 1 S1)) := by
      rw [rG_gotItem, if_neg (fun h => h h0), g1, zb_s]
    rw [st]
    by_cases e : w = 255
    · exact ⟨1, by rw [if_pos e, t17], by rw [if_pos (Or.inl e)]⟩
    · rw [if_neg e]
      by_cases e6 : 6 < w.toInt
      · exact ⟨0, by rw [if_pos e6, t17], by rw [if_neg (fun h => by rcases h with h | h; exact e h; omega)]⟩
      · exact ⟨1, by rw [if_neg e6, t17], by rw [if_pos (Or.inr (by omega))]⟩
  obtain ⟨f, run, hf⟩ := run
  rw [run]
  have lS : ∀ v : Int32, ((zA S 3).set i v).length = 6 := fun v => by rw [List.length_set]; exact l3
  have at3 : ∀ v : Int32, ((zA S 3).set i v)[i]? = some v := fun v => List.getElem?_set_self (by omega)
  obtain ⟨n', hn'⟩ : ∃ n', N = n' + 1 := ⟨N - 1, by omega⟩
  have stop : muR (zI S1 7) f = 0 → rG_gotItem_30 gi ga ne sn N N (Int32.ofNat i) 0 (zsA (zsI S1 7 (muR (zI S1 7) f)) 3 ((zA S 3).set i (if w = 255 then -1 else w))) = some ((), zsA (zsI S1 7 (muR (zI S1 7) f)) 3 ((zA S 3).set i (if w = 255 then -1 else w))) := by
    intro h
    have := r_stop (gi := gi) (ga := ga) (ne := ne) (sn := sn) (N := N) (j := 0) (n := n') (S := zsA (zsI S1 7 (muR (zI S1 7) f)) 3 ((zA S 3).set i (if w = 255 then -1 else w))) hi (at3 _) h
    rw [← hn'] at this
    exact this
  have fr1 : frR S (zsA (zsI S1 7 (muR (zI S1 7) f)) 3 ((zA S 3).set i (if w = 255 then -1 else w))) := ⟨fun j h6 h7 => (zup_ne h7).trans (g2.1 j h6 h7), hB, hA 9⟩
  have l4' : (zA (zsA (zsI S1 7 (muR (zI S1 7) f)) 3 ((zA S 3).set i (if w = 255 then -1 else w))) 4).length = 36 := by
    show (zA S1 4).length = 36
    rw [hA]; exact l4
  have k4' : ∀ k : Nat, (zA (zsA (zsI S1 7 (muR (zI S1 7) f)) 3 ((zA S 3).set i (if w = 255 then -1 else w))) 4)[k]? = (zA S 4)[k]? := by
    intro k
    show (zA S1 4)[k]? = _
    rw [hA]
  have hRz : ∀ {l1 : List Int32}, RD 8 6 9 S1 l1 → RD 8 6 9 (zsA (zsI S1 7 (muR (zI S1 7) f)) 3 ((zA S 3).set i (if w = 255 then -1 else w))) l1 := fun h => h.same rfl rfl rfl
  cases l with
  | nil =>
    obtain ⟨_, g4, g5⟩ := g3
    have hm : muR (zI S1 7) f = 0 := mu0 (Or.inl g5)
    exact ⟨_, stop hm, fr1, lS _, l4', fun k _ => k4' k, ⟨[], hRz g4⟩, hm⟩
  | cons b l' =>
    obtain ⟨rfl, g4, g5⟩ := g3
    have r7 : zI S1 7 = 1 := g5.trans h7
    have hq : rdN 1 0 (w :: l') = some (w, l') := by rw [rdN, rdN, sh0]
    have hw := hb w List.mem_cons_self
    have hb' : byR l' := fun b h => hb b (List.mem_cons_of_mem _ h)
    by_cases e : w = 255
    · -- no row
      have hrd : rdR (w :: l') = some (none, l') := by rw [rdR, hq, Option.bind_some, if_pos e]
      rw [hrd]
      have hm : muR (zI S1 7) f = 1 := by rw [hf, if_pos (Or.inl e)]; exact mu1 r7
      refine ⟨zsA (zsI S1 7 (muR (zI S1 7) f)) 3 ((zA S 3).set i (if w = 255 then -1 else w)), ?_, fr1, lS _, l4', fun k _ => k4' k, ?_, (fun cs h => by cases h), hRz g4, hm⟩
      · rw [hn', rG_gotItem_30, gI_nat (by omega)]
        rw [show (zA (zsA (zsI S1 7 (muR (zI S1 7) f)) 3 ((zA S 3).set i (if w = 255 then -1 else w))) 3)[i]? = some (if w = 255 then -1 else w) from at3 _, zg_s, if_pos e, if_pos (by decide)]
      · show (zA S 3).set i (if w = 255 then -1 else w) = (zA S 3).set i (rsz none)
        rw [if_pos e]
        rfl
    · by_cases e6 : 6 < w.toInt
      · have hrd : rdR (w :: l') = none := by rw [rdR, hq, Option.bind_some, if_neg e, if_pos e6]
        rw [hrd]
        have hm : muR (zI S1 7) f = 0 := mu0 (Or.inr (by rw [hf, if_neg (fun h => by rcases h with h | h; exact e h; omega)]))
        exact ⟨_, stop hm, fr1, lS _, l4', fun k _ => k4' k, ⟨l', hRz g4⟩, hm⟩
      · have hm : muR (zI S1 7) f = 1 := by rw [hf, if_pos (Or.inr (by omega))]; exact mu1 r7
        have ew : (if w = 255 then (-1 : Int32) else w) = Int32.ofNat w.toInt.toNat := by rw [if_neg e, yi_id hw.1]
        obtain ⟨S', e1, e2, e3, e4, e5, e6'⟩ := r_cells (gi := gi) (ga := ga) (ne := ne) (sn := sn) hN hi (c := w.toInt.toNat) (by omega) w.toInt.toNat 0 N (zsA (zsI S1 7 (muR (zI S1 7) f)) 3 ((zA S 3).set i (if w = 255 then -1 else w))) l' (by omega) (by omega) (by rw [← ew]; exact at3 _) l4' (hRz g4) hb' hm
        have e3' : zA S' 3 = (zA S 3).set i (if w = 255 then -1 else w) := e3
        refine ⟨S', e1, fr1.trans e2, by rw [e3']; exact lS _, e4, fun k hk => (e5 k (by omega)).trans (k4' k), ?_⟩
        rw [rdR, hq, Option.bind_some, if_neg e, if_neg e6]
        rcases hr : rdC w.toInt.toNat l' with _ | q
        · rw [hr] at e6'
          exact e6'
        · rw [hr] at e6'
          obtain ⟨f1, f2, f3⟩ := e6'
          have hlen := rdC_len _ _ _ hr
          refine ⟨?_, ?_, f1, f2⟩
          · rw [e3', ew]
            show _ = (zA S 3).set i (rsz (some q.1))
            rw [← hlen]
            rfl
          · intro cs hcs j x hx
            injection hcs with hcs
            subst hcs
            exact f3 j x hx
end READM3
