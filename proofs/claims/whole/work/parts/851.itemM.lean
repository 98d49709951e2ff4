/-! TAKE: an item read; the reference -/
theorem RD.same {il ia ib : Nat} {S S' : zS} {l : List Int32} (h : RD il ia ib S l) (h1 : zI S' il = zI S il) (h2 : zI S' ia = zI S ia) (h3 : zA S' ib = zA S ib) : RD il ia ib S' l := by
  obtain ⟨n, a, q1, q2, q3, q4, q5, q6⟩ := h
  exact ⟨n, a, h1.trans q1, h2.trans q2, q3, q4, by rw [h3]; exact q5, by rw [h3]; exact q6⟩
section READM
variable {gi : Nat → Int32} {ga : Nat → List Int32} {ne : Int32} {sn js : List Int32} {N : Nat} {En : List (Int64 × Int32)}
/-- what reading leaves -/
def frG (S S' : zS) : Prop := (∀ j, j ≠ 6 → j ≠ 7 → zI S' j = zI S j) ∧ S'.2 = S.2
theorem r_got {S : zS} {l : List Int32} (hR : RD 8 6 9 S l) : ∃ w S', rG_got gi ga ne sn N S = some (w, S') ∧ frG S S' ∧ (match l with
    | b :: l' => w = b ∧ RD 8 6 9 S' l' ∧ zI S' 7 = zI S 7
    | [] => w = 0 ∧ RD 8 6 9 S' [] ∧ zI S' 7 = 0) := by
  cases l with
  | nil =>
    refine ⟨0, zsI S 7 0, ?_, ⟨fun j _ h7 => zup_ne h7, rfl⟩, rfl, hR.same rfl rfl rfl, rfl⟩
    rw [rG_got, if_neg hR.nil]
  | cons b l' =>
    obtain ⟨r1, r2, r3⟩ := hR.cons
    refine ⟨b, zsI S 6 (zI S 6 + 1), ?_, ⟨fun j h6 _ => zup_ne h6, rfl⟩, rfl, r3 _ rfl rfl rfl, rfl⟩
    rw [rG_got, if_pos r1, show zI S 6 + 1 - 1 = zI S 6 from Int32.add_sub_cancel _ _, r2, zg_s]
theorem frG.trans {S S1 S2 : zS} (h1 : frG S S1) (h2 : frG S1 S2) : frG S S2 := ⟨fun j a b => (h2.1 j a b).trans (h1.1 j a b), h2.2.trans h1.2⟩
theorem r_num : ∀ (m k i n : Nat) (v : Int64) (S : zS) (l : List Int32), i + m = k → k < 100 → m < n → RD 8 6 9 S l → ∃ w S', rG_gotL_4 gi ga ne sn N n (Int32.ofNat k) v (Int32.ofNat i) S = some (w, S') ∧ frG S S' ∧ (match rdL m v l with
    | some q => w = q.1 ∧ RD 8 6 9 S' q.2 ∧ zI S' 7 = zI S 7
    | none => RD 8 6 9 S' [] ∧ zI S' 7 = 0)
  | _, _, _, 0, _, _, _, _, _, hn, _ => by omega
  | 0, k, i, n + 1, v, S, l, hi, hk, _, hR => by
    refine ⟨v, S, ?_, ⟨fun _ _ _ => rfl, rfl⟩, rfl, hR, rfl⟩
    rw [rG_gotL_4, if_pos (by rw [yi_nat (by omega), yi_nat (by omega)]; omega)]
  | m + 1, k, i, n + 1, v, S, [], hi, hk, hn, hR => by
    obtain ⟨w, S1, g1, g2, g3, g4, g5⟩ := r_got (gi := gi) (ga := ga) (ne := ne) (sn := sn) (N := N) hR
    obtain ⟨w2, S2, e1, e2, e3⟩ := r_num m k (i + 1) n ((v <<< ((8 : Int32).toInt64 &&& 63)) ||| w.toInt64) S1 [] (by omega) hk (by omega) g4
    refine ⟨w2, S2, ?_, g2.trans e2, ?_⟩
    · rw [rG_gotL_4, if_neg (by rw [yi_nat (by omega), yi_nat (by omega)]; omega), g1, zb_s, yi_add1]
      exact e1
    · show RD 8 6 9 S2 [] ∧ zI S2 7 = 0
      cases m with
      | zero => exact ⟨e3.2.1, e3.2.2.trans g5⟩
      | succ m => exact e3
  | m + 1, k, i, n + 1, v, S, b :: l, hi, hk, hn, hR => by
    obtain ⟨w, S1, g1, g2, rfl, g4, g5⟩ := r_got (gi := gi) (ga := ga) (ne := ne) (sn := sn) (N := N) hR
    obtain ⟨w2, S2, e1, e2, e3⟩ := r_num m k (i + 1) n ((v <<< ((8 : Int32).toInt64 &&& 63)) ||| w.toInt64) S1 l (by omega) hk (by omega) g4
    refine ⟨w2, S2, ?_, g2.trans e2, ?_⟩
    · rw [rG_gotL_4, if_neg (by rw [yi_nat (by omega), yi_nat (by omega)]; omega), g1, zb_s, yi_add1]
      exact e1
    · rw [rdL]
      rcases hq : rdL m ((v <<< ((8 : Int32).toInt64 &&& 63)) ||| w.toInt64) l with _ | q
      · rw [hq] at e3
        exact e3
      · rw [hq] at e3
        exact ⟨e3.1, e3.2.1, e3.2.2.trans g5⟩
theorem r_gotL (hN : 9 < N) {k : Nat} {S : zS} {l : List Int32} (hk : k ≤ 8) (hR : RD 8 6 9 S l) : ∃ w S', rG_gotL gi ga ne sn N (Int32.ofNat k) S = some (w, S') ∧ frG S S' ∧ (match rdL k 0 l with
    | some q => w = q.1 ∧ RD 8 6 9 S' q.2 ∧ zI S' 7 = zI S 7
    | none => RD 8 6 9 S' [] ∧ zI S' 7 = 0) := r_num k k 0 N 0 S l (by omega) (by omega) (by omega) hR
/-- right, and this too -/
def muR (r v : Int32) : Int32 := if r = 0 then 0 else if v = 0 then 0 else 1
theorem r_must {v : Int32} {S : zS} : rG_must gi ga ne sn N v S = some ((), zsI S 7 (muR (zI S 7) v)) := by
  rw [rG_must, muR]
  split
  · rfl
  · split <;> rfl
/-- what an item's reading leaves -/
def frI (S S' : zS) : Prop := (∀ j, j ≠ 6 → j ≠ 7 → zI S' j = zI S j) ∧ ∀ j, zA S' j = zA S j
theorem r_147 {s i : Nat} {S : zS} {w : Int64} {f : Int32} (h0 : zI S 0 = Int32.ofNat s) (hs : s ≤ 7) (hi : zok (zB S 2) (Int32.ofNat i)) (hi2 : i < 100) : rG_gotItem_147 gi ga ne sn N (Int32.ofNat i) w f S = some ((), zsB (zsI S 7 (muR (zI S 7) f)) 2 ((zB S 2).set i (if s = 1 then w.toInt32.toInt64 else w))) := by
  have tset : ∀ v : Int64, zs (zB S 2) (Int32.ofNat i) v = (zB S 2).set i v := by
    intro v
    rw [zs, yi_toNat (by omega)]
  have hi3 : zok (zB (zsI S 7 (muR (zI S 7) f)) 2) (Int32.ofNat i) := hi
  have k1 : zI (zsI S 7 (muR (zI S 7) f)) 0 = 1 ↔ s = 1 := by
    rw [show zI (zsI S 7 (muR (zI S 7) f)) 0 = _ from h0]
    exact ⟨fun h => yi_inj (by omega) (by omega) h, fun h => by rw [h]; rfl⟩
  rw [rG_gotItem_147, r_must, zb_s]
  by_cases e : s = 1
  · rw [if_neg (fun h => h (k1.mpr e)), if_pos hi3, if_pos e]
    show some ((), zsB _ 2 (zs (zB S 2) (Int32.ofNat i) _)) = _
    rw [tset]
  · rw [if_pos (fun h => e (k1.mp h)), if_pos hi3, if_neg e]
    show some ((), zsB _ 2 (zs (zB S 2) (Int32.ofNat i) _)) = _
    rw [tset]
theorem r_86 {s i : Nat} {S : zS} {x f : Int32} (h0 : zI S 0 = Int32.ofNat s) (hs : s ≤ 7) (hi : zok (zB S 2) (Int32.ofNat i)) (hi2 : i < 100) (hE : En.length ≤ 100) (hsn : sn = En.map Prod.snd ++ js) (hx : s = 6 → 0 ≤ x.toInt → muR (zI S 7) f ≠ 0 → x.toInt < En.length) : ∃ S', rG_gotItem_86 gi ga ne sn N (Int32.ofNat i) x f S = some ((), S') ∧ zB S' 2 = (zB S 2).set i x.toInt64 ∧ (∀ j, j ≠ 7 → zI S' j = zI S j) ∧ (∀ j, zA S' j = zA S j) ∧ zI S' 7 = (if muR (zI S 7) f = 0 then 0 else if s = 6 ∧ 0 ≤ x.toInt ∧ sgE En x = -9 then 0 else 1) := by
  have mu01 : ∀ r v : Int32, muR r v = 0 ∨ muR r v = 1 := by
    intro r v
    unfold muR
    split
    · exact Or.inl rfl
    · split
      · exact Or.inl rfl
      · exact Or.inr rfl
  have fin : ∀ (r : Int32), (if zok (zB (zsI (zsI S 7 (muR (zI S 7) f)) 7 r) 2) (Int32.ofNat i) then some ((), zsB (zsI (zsI S 7 (muR (zI S 7) f)) 7 r) 2 (zs (zB (zsI (zsI S 7 (muR (zI S 7) f)) 7 r) 2) (Int32.ofNat i) x.toInt64)) else none) = some ((), zsB (zsI (zsI S 7 (muR (zI S 7) f)) 7 r) 2 ((zB S 2).set i x.toInt64)) := by
    intro r
    rw [if_pos (show zok (zB (zsI (zsI S 7 (muR (zI S 7) f)) 7 r) 2) (Int32.ofNat i) from hi), zs, yi_toNat (by omega)]
    rfl
  have out : ∀ (r c : Int32), rG_gotItem_86 gi ga ne sn N (Int32.ofNat i) x f S = some ((), zsB (zsI (zsI S 7 (muR (zI S 7) f)) 7 r) 2 ((zB S 2).set i x.toInt64)) → r = c → ∃ S', rG_gotItem_86 gi ga ne sn N (Int32.ofNat i) x f S = some ((), S') ∧ zB S' 2 = (zB S 2).set i x.toInt64 ∧ (∀ j, j ≠ 7 → zI S' j = zI S j) ∧ (∀ j, zA S' j = zA S j) ∧ zI S' 7 = c := by
    intro r c h e
    exact ⟨_, h, rfl, fun j h7 => (zup_ne h7).trans (zup_ne h7), fun _ => rfl, e⟩
  have m1 : muR (muR (zI S 7) f) 1 = muR (zI S 7) f := by
    rcases mu01 (zI S 7) f with h | h <;> rw [h] <;> rfl
  have z7 : zI (zsI S 7 (muR (zI S 7) f)) 7 = muR (zI S 7) f := rfl
  have k6 : zI (zsI S 7 (muR (zI S 7) f)) 0 = 6 ↔ s = 6 := by
    rw [show zI (zsI S 7 (muR (zI S 7) f)) 0 = _ from h0]
    exact ⟨fun h => yi_inj (by omega) (by omega) h, fun h => by rw [h]; rfl⟩
  by_cases e6 : s = 6
  · by_cases hx0 : x.toInt < 0
    · refine out (muR (muR (zI S 7) f) 1) _ ?_ ?_
      · rw [rG_gotItem_86, r_must, zb_s, if_neg (fun h => h (k6.mpr e6)), if_pos hx0, r_must, zb_s, z7]
        exact fin _
      · rw [m1]
        rcases mu01 (zI S 7) f with h | h
        · rw [h]; rfl
        · rw [h, if_neg (by decide), if_neg (fun g => by omega)]
    · by_cases hr : muR (zI S 7) f = 0
      · refine out (muR (muR (zI S 7) f) 1) _ ?_ ?_
        · rw [rG_gotItem_86, r_must, zb_s, if_neg (fun h => h (k6.mpr e6)), if_neg hx0, if_pos (z7.trans hr), r_must, zb_s, z7]
          exact fin _
        · rw [m1, if_pos hr]
          exact hr
      · have hlt := hx e6 (by omega) hr
        obtain ⟨sv, hsv⟩ := gI_iff.mpr (show 0 ≤ x.toInt ∧ x.toInt < (En.map Prod.snd).length by rw [List.length_map]; omega)
        have hsn2 : gI sn x = some sv := by
          obtain ⟨g1, g2, g3, _, _⟩ := gI_some hsv
          rw [← yi_id g1, gI_nat (by omega), hsn, List.getElem?_append_left (by omega)]
          exact g3
        have hsg : sgE En x = sv := by rw [sgE, hsv]; rfl
        have hr1 : muR (zI S 7) f = 1 := (mu01 _ _).resolve_left hr
        by_cases h9 : sv = -9
        · refine out (muR (muR (zI S 7) f) 0) _ ?_ ?_
          · rw [rG_gotItem_86, r_must, zb_s, if_neg (fun h => h (k6.mpr e6)), if_neg hx0, if_neg (fun h => hr (z7.symm.trans h)), hsn2, zg_s, if_pos h9, r_must, zb_s, z7]
            exact fin _
          · rw [hr1, if_neg (by decide), if_pos ⟨e6, by omega, by rw [hsg]; exact h9⟩]
            rfl
        · refine out (muR (muR (zI S 7) f) 1) _ ?_ ?_
          · rw [rG_gotItem_86, r_must, zb_s, if_neg (fun h => h (k6.mpr e6)), if_neg hx0, if_neg (fun h => hr (z7.symm.trans h)), hsn2, zg_s, if_neg h9, r_must, zb_s, z7]
            exact fin _
          · rw [hr1, if_neg (by decide), if_neg (fun g => h9 (by rw [← hsg]; exact g.2.2))]
            rfl
  · refine out (muR (muR (zI S 7) f) 1) _ ?_ ?_
    · rw [rG_gotItem_86, r_must, zb_s, if_pos (fun h => e6 (k6.mp h)), r_must, zb_s, z7]
      exact fin _
    · rw [m1]
      rcases mu01 (zI S 7) f with h | h
      · rw [h]; rfl
      · rw [h, if_neg (by decide), if_neg (fun g => e6 g.1)]
end READM
