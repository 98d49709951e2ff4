/-! WORKING, THE REFERENCE: an exp is worth what evx says -/
def mOnM (S : zS) (i : Nat) : Option yR → Prop
  | none => (zA S 13)[i]? = some 0
  | some (.inl v) => (zA S 13)[i]? = some 1 ∧ (zB S 14)[i]? = some v ∧ (zA S 15)[i]? = some 0
  | some (.inr e) => (zA S 13)[i]? = some 1 ∧ (zA S 15)[i]? = some e.1 ∧ (zA S 16)[i]? = some e.2 ∧ e.1 ≠ 0
/-- what working leaves as it was -/
def frM (R S : zS) : Prop := (zI S 7 = zI R 7 ∧ zI S 8 = zI R 8 ∧ zI S 9 = zI R 9 ∧ zJ S 10 = zJ R 10 ∧ zI S 11 = zI R 11 ∧ zI S 12 = zI R 12) ∧ zA S 17 = zA R 17 ∧ zA S 18 = zA R 18 ∧ zA S 19 = zA R 19
def lnM (S : zS) : Prop := (zA S 13).length = 12 ∧ (zB S 14).length = 12 ∧ (zA S 15).length = 12 ∧ (zA S 16).length = 12
/-- so far as figures below j go -/
def Rk (R S : zS) (w : yW) (cur dr : Int32) (j : Nat) : Prop := (zI S 0 = w.1 ∧ zI S 5 = w.2.1 ∧ zI S 6 = w.2.2.1 ∧ zI S 4 = cur ∧ zI S 1 = dr ∧ frM R S) ∧ lnM S ∧ w.2.2.2.length = 12 ∧ ∀ (i : Nat) x, i < j → w.2.2.2[i]? = some x → mOnM S i x
/-- figures from j on are as they were -/
def kpM (j : Nat) (S S' : zS) (w w' : yW) : Prop := ∀ i, j ≤ i → w'.2.2.2[i]? = w.2.2.2[i]? ∧ (zA S' 13)[i]? = (zA S 13)[i]? ∧ (zB S' 14)[i]? = (zB S 14)[i]? ∧ (zA S' 15)[i]? = (zA S 15)[i]? ∧ (zA S' 16)[i]? = (zA S 16)[i]?
theorem kpM.rf {j : Nat} {S : zS} {w : yW} : kpM j S S w w := fun _ _ => ⟨rfl, rfl, rfl, rfl, rfl⟩
theorem kpM.tr {j : Nat} {S S1 S2 : zS} {w w1 w2 : yW} (h : kpM j S S1 w w1) (g : kpM j S1 S2 w1 w2) : kpM j S S2 w w2 := by
  intro i hi
  obtain ⟨a1, a2, a3, a4, a5⟩ := h i hi
  obtain ⟨b1, b2, b3, b4, b5⟩ := g i hi
  exact ⟨b1.trans a1, b2.trans a2, b3.trans a3, b4.trans a4, b5.trans a5⟩
def RvM (R : zS) (r : yR × yW) (S : zS) (w : yW) (cur dr : Int32) (j : Nat) (o : Option (Int64 × zS)) : Prop := match r with
  | (.inl v, w') => ∃ S', o = some (v, S') ∧ Rk R S' w' cur dr j ∧ zI S' 2 = 0 ∧ kpM j S S' w w'
  | (.inr x, w') => ∃ v S', o = some (v, S') ∧ Rk R S' w' cur dr j ∧ (zI S' 2 = x.1 ∧ x.1 ≠ 0 ∧ zI S' 3 = x.2) ∧ kpM j S S' w w'
section REXP
variable {R S : zS} {w : yW} {cur dr : Int32} {j : Nat}
theorem leaf_M {r : Int64 ⊕ Int32} {o : Option (Int64 × zS)} (hq : Km r S o) (h : Rk R S w cur dr j) (h2 : zI S 2 = 0) : RvM R (okR r cur w) S w cur dr j o := by
  rcases r with v | k
  · exact ⟨S, hq, h, h2, kpM.rf⟩
  · obtain ⟨hk, v, hq⟩ := hq
    obtain ⟨⟨a1, a2, a3, a4, a5, a6⟩, b, c, d⟩ := h
    refine ⟨v, flM S k, hq, ⟨⟨?_, a2, a3, a4, a5, a6⟩, b, c, d⟩, ⟨rfl, hk, a4⟩, kpM.rf⟩
    show zI S 0 + 1 = w.1 + 1
    rw [a1]
theorem RvM.seq {r1 r2 : yR × yW} {o : Option (Int64 × zS)} {g : Int64 → zS → Option (Int64 × zS)} (h : RvM R r1 S w cur dr j o) (hv : ∀ v w' S1, r1 = (.inl v, w') → Rk R S1 w' cur dr j → zI S1 2 = 0 → RvM R r2 S1 w' cur dr j (g v S1)) (hf : ∀ x w', r1 = (.inr x, w') → r2 = (.inr x, w')) (hg : ∀ v S1, zI S1 2 ≠ 0 → ∃ v', g v S1 = some (v', S1)) : RvM R r2 S w cur dr j (zb o g) := by
  obtain ⟨r, w'⟩ := r1
  rcases r with v | x
  · obtain ⟨S1, q1, q2, q3, q4⟩ := h
    rw [q1, zbs]
    have H := hv v w' S1 rfl q2 q3
    obtain ⟨r, w2⟩ := r2
    rcases r with u | x
    · obtain ⟨S2, p1, p2, p3, p4⟩ := H
      exact ⟨S2, p1, p2, p3, q4.tr p4⟩
    · obtain ⟨u, S2, p1, p2, p3, p4⟩ := H
      exact ⟨u, S2, p1, p2, p3, q4.tr p4⟩
  · obtain ⟨v, S1, q1, q2, q3, q4⟩ := h
    rw [q1, zbs, hf x w' rfl]
    obtain ⟨v', hg⟩ := hg v S1 (by rw [q3.1]; exact q3.2.1)
    exact ⟨v', S1, hg, q2, q3, q4⟩
end REXP
theorem r_pair {gi : Nat → Int32} {ga : Nat → List Int32} {vl : List Int64} {Bs : List (Option zH)} {am : List Int64} {N : Nat} {S : zS} {op : Int32} {v u : Int64} (h1 : 15 ≤ op.toInt) (h2 : op.toInt ≤ 22) : Km (prR op v u) S (if op = 11 then (if u = (0 : Int64) then some (0, S) else some (1, S)) else if op = 12 then (if u = (0 : Int64) then some (0, S) else some (1, S)) else if op = 15 then some ((v + u), S) else if op = 16 then some ((v - u), S) else if op = 17 then some ((v * u), S) else if op = 18 then (if u ≠ (0 : Int64) then if ¬ u = 0 then some ((v / u), S) else none else (zb (rF_fails gi ga vl Bs am N 4 S) fun x12 S13 => some (x12, S13))) else if op = 19 then (if u ≠ (0 : Int64) then if ¬ u = 0 then some ((v - v / u * u), S) else none else (zb (rF_fails gi ga vl Bs am N 4 S) fun x16 S17 => some (x16, S17))) else if op = 20 then (if v ≠ u then some (0, S) else some (1, S)) else if op = 21 then (if u.toInt ≤ v.toInt then some (0, S) else some (1, S)) else (if v.toInt ≤ u.toInt then some (0, S) else some (1, S))) := by
  obtain ⟨m, hm, rfl, hm2⟩ := yi_of (x := op) (by omega)
  have : m = 15 ∨ m = 16 ∨ m = 17 ∨ m = 18 ∨ m = 19 ∨ m = 20 ∨ m = 21 ∨ m = 22 := by omega
  rcases this with rfl | rfl | rfl | rfl | rfl | rfl | rfl | rfl
  · rw [if_neg (show ¬ Int32.ofNat 15 = 11 by decide), if_neg (show ¬ Int32.ofNat 15 = 12 by decide), if_pos (show Int32.ofNat 15 = 15 from rfl)]
    rfl
  · rw [if_neg (show ¬ Int32.ofNat 16 = 11 by decide), if_neg (show ¬ Int32.ofNat 16 = 12 by decide), if_neg (show ¬ Int32.ofNat 16 = 15 by decide), if_pos (show Int32.ofNat 16 = 16 from rfl)]
    rfl
  · rw [if_neg (show ¬ Int32.ofNat 17 = 11 by decide), if_neg (show ¬ Int32.ofNat 17 = 12 by decide), if_neg (show ¬ Int32.ofNat 17 = 15 by decide), if_neg (show ¬ Int32.ofNat 17 = 16 by decide), if_pos (show Int32.ofNat 17 = 17 from rfl)]
    rfl
  · rw [if_neg (show ¬ Int32.ofNat 18 = 11 by decide), if_neg (show ¬ Int32.ofNat 18 = 12 by decide), if_neg (show ¬ Int32.ofNat 18 = 15 by decide), if_neg (show ¬ Int32.ofNat 18 = 16 by decide), if_neg (show ¬ Int32.ofNat 18 = 17 by decide), if_pos (show Int32.ofNat 18 = 18 from rfl)]
    show Km (if u = 0 then .inr 4 else .inl (v / u)) S _
    by_cases h0 : u = 0
    · rw [if_pos h0, if_neg (nn h0), fails_M, zbs]
      exact ⟨by decide, 0, rfl⟩
    · rw [if_neg h0, if_pos h0, if_pos h0]
      rfl
  · rw [if_neg (show ¬ Int32.ofNat 19 = 11 by decide), if_neg (show ¬ Int32.ofNat 19 = 12 by decide), if_neg (show ¬ Int32.ofNat 19 = 15 by decide), if_neg (show ¬ Int32.ofNat 19 = 16 by decide), if_neg (show ¬ Int32.ofNat 19 = 17 by decide), if_neg (show ¬ Int32.ofNat 19 = 18 by decide), if_pos (show Int32.ofNat 19 = 19 from rfl)]
    show Km (if u = 0 then .inr 4 else .inl (v - v / u * u)) S _
    by_cases h0 : u = 0
    · rw [if_pos h0, if_neg (nn h0), fails_M, zbs]
      exact ⟨by decide, 0, rfl⟩
    · rw [if_neg h0, if_pos h0, if_pos h0]
      rfl
  · rw [if_neg (show ¬ Int32.ofNat 20 = 11 by decide), if_neg (show ¬ Int32.ofNat 20 = 12 by decide), if_neg (show ¬ Int32.ofNat 20 = 15 by decide), if_neg (show ¬ Int32.ofNat 20 = 16 by decide), if_neg (show ¬ Int32.ofNat 20 = 17 by decide), if_neg (show ¬ Int32.ofNat 20 = 18 by decide), if_neg (show ¬ Int32.ofNat 20 = 19 by decide), if_pos (show Int32.ofNat 20 = 20 from rfl)]
    show Km (.inl (if v = u then 1 else 0)) S _
    by_cases h0 : v = u
    · rw [if_pos h0, if_neg (nn h0)]
      rfl
    · rw [if_neg h0, if_pos h0]
      rfl
  · rw [if_neg (show ¬ Int32.ofNat 21 = 11 by decide), if_neg (show ¬ Int32.ofNat 21 = 12 by decide), if_neg (show ¬ Int32.ofNat 21 = 15 by decide), if_neg (show ¬ Int32.ofNat 21 = 16 by decide), if_neg (show ¬ Int32.ofNat 21 = 17 by decide), if_neg (show ¬ Int32.ofNat 21 = 18 by decide), if_neg (show ¬ Int32.ofNat 21 = 19 by decide), if_neg (show ¬ Int32.ofNat 21 = 20 by decide), if_pos (show Int32.ofNat 21 = 21 from rfl)]
    show Km (.inl (if v < u then 1 else 0)) S _
    by_cases h0 : v < u
    · have := Int64.lt_iff_toInt_lt.mp h0
      rw [if_pos h0, if_neg (show ¬ u.toInt ≤ v.toInt by omega)]
      rfl
    · have : ¬ v.toInt < u.toInt := fun hh => h0 (Int64.lt_iff_toInt_lt.mpr hh)
      rw [if_neg h0, if_pos (show u.toInt ≤ v.toInt by omega)]
      rfl
  · rw [if_neg (show ¬ Int32.ofNat 22 = 11 by decide), if_neg (show ¬ Int32.ofNat 22 = 12 by decide), if_neg (show ¬ Int32.ofNat 22 = 15 by decide), if_neg (show ¬ Int32.ofNat 22 = 16 by decide), if_neg (show ¬ Int32.ofNat 22 = 17 by decide), if_neg (show ¬ Int32.ofNat 22 = 18 by decide), if_neg (show ¬ Int32.ofNat 22 = 19 by decide), if_neg (show ¬ Int32.ofNat 22 = 20 by decide), if_neg (show ¬ Int32.ofNat 22 = 21 by decide)]
    show Km (.inl (if u < v then 1 else 0)) S _
    by_cases h0 : u < v
    · have := Int64.lt_iff_toInt_lt.mp h0
      rw [if_pos h0, if_neg (show ¬ v.toInt ≤ u.toInt by omega)]
      rfl
    · have : ¬ u.toInt < v.toInt := fun hh => h0 (Int64.lt_iff_toInt_lt.mpr hh)
      rw [if_neg h0, if_pos (show v.toInt ≤ u.toInt by omega)]
      rfl
/-- what a figure is worth, as the reference has it -/
def FgM (R : zS) (gi : Nat → Int32) (ga : Nat → List Int32) (vl : List Int64) (Bs : List (Option zH)) (am : List Int64) (N : Nat) (dr : Int32) (s0 j : Nat) (fg : Int32 → yW → yR × yW) : Prop := ∀ f, f < j → ∀ S w cur m, s0 ≤ m → Rk R S w cur dr j → zI S 2 = 0 → RvM R (fg (Int32.ofNat f) w) S w cur dr j (rF_figureValue gi ga vl Bs am (rF_fix gi ga vl Bs am N m) N (Int32.ofNat f) S)
section EVX2
variable {F : yF} {A : List (Option yO)} {En : List (Int64 × Int32)} {fg : Int32 → yW → yR × yW} {k : Nat} {cur n one two : Int32} {val : Int64} {w : yW}
theorem evx_3 (h : F.2.2.2.2.1[n.toInt.toNat]? = some (3, one, two, val)) : evx F A En fg (k + 1) cur n w = (match evx F A En fg k cur two w with
      | (.inr e, w1) => (.inr e, w1)
      | (.inl i, w1) => okR (itemR En (knd F one) (anR A one) i.toInt32) cur w1) := by
  rw [evx_s h, if_neg (show ¬ (3 : Int32) = 0 by decide), if_neg (show ¬ (3 : Int32) = 1 by decide), if_neg (show ¬ (3 : Int32) = 2 by decide), if_pos rfl]
  rfl
theorem evx_4 (h : F.2.2.2.2.1[n.toInt.toNat]? = some (4, one, two, val)) : evx F A En fg (k + 1) cur n w = (match evx F A En fg k cur two w with
      | (.inr e, w1) => (.inr e, w1)
      | (.inl i, w1) => match evx F A En fg k cur val.toInt32 w1 with
        | (.inr e, w2) => (.inr e, w2)
        | (.inl j, w2) => okR (cellR (anR A one) i.toInt32 j.toInt32) cur w2) := by
  rw [evx_s h, if_neg (show ¬ (4 : Int32) = 0 by decide), if_neg (show ¬ (4 : Int32) = 1 by decide), if_neg (show ¬ (4 : Int32) = 2 by decide), if_neg (show ¬ (4 : Int32) = 3 by decide), if_pos rfl]
  rfl
theorem evx_7 (h : F.2.2.2.2.1[n.toInt.toNat]? = some (7, one, two, val)) : evx F A En fg (k + 1) cur n w = (.inl (isR (anR A one) two.toInt.toNat), w) := by
  rw [evx_s h, if_neg (show ¬ (7 : Int32) = 0 by decide), if_neg (show ¬ (7 : Int32) = 1 by decide), if_neg (show ¬ (7 : Int32) = 2 by decide), if_neg (show ¬ (7 : Int32) = 3 by decide), if_neg (show ¬ (7 : Int32) = 4 by decide), if_neg (show ¬ (7 : Int32) = 5 by decide), if_neg (show ¬ (7 : Int32) = 6 by decide), if_pos rfl]
  rfl
theorem evx_9 (h : F.2.2.2.2.1[n.toInt.toNat]? = some (9, one, two, val)) : evx F A En fg (k + 1) cur n w = (match evx F A En fg k cur two w with
      | (.inr e, w1) => (.inr e, w1)
      | (.inl j, w1) => okR (colR (anR A one) j.toInt32) cur w1) := by
  rw [evx_s h, if_neg (show ¬ (9 : Int32) = 0 by decide), if_neg (show ¬ (9 : Int32) = 1 by decide), if_neg (show ¬ (9 : Int32) = 2 by decide), if_neg (show ¬ (9 : Int32) = 3 by decide), if_neg (show ¬ (9 : Int32) = 4 by decide), if_neg (show ¬ (9 : Int32) = 5 by decide), if_neg (show ¬ (9 : Int32) = 6 by decide), if_neg (show ¬ (9 : Int32) = 7 by decide), if_neg (show ¬ (9 : Int32) = 8 by decide), if_pos rfl]
  rfl
theorem evx_10 (h : F.2.2.2.2.1[n.toInt.toNat]? = some (10, one, two, val)) : evx F A En fg (k + 1) cur n w = (match evx F A En fg k cur one w with
      | (.inl v, w1) => (.inl v, w1)
      | (.inr _, w1) => evx F A En fg k cur two (w1.1, w1.2.1, w1.2.2.1 + 1, w1.2.2.2)) := by
  rw [evx_s h, if_neg (show ¬ (10 : Int32) = 0 by decide), if_neg (show ¬ (10 : Int32) = 1 by decide), if_neg (show ¬ (10 : Int32) = 2 by decide), if_neg (show ¬ (10 : Int32) = 3 by decide), if_neg (show ¬ (10 : Int32) = 4 by decide), if_neg (show ¬ (10 : Int32) = 5 by decide), if_neg (show ¬ (10 : Int32) = 6 by decide), if_neg (show ¬ (10 : Int32) = 7 by decide), if_neg (show ¬ (10 : Int32) = 8 by decide), if_neg (show ¬ (10 : Int32) = 9 by decide), if_pos rfl]
  rfl
theorem evx_13 (h : F.2.2.2.2.1[n.toInt.toNat]? = some (13, one, two, val)) : evx F A En fg (k + 1) cur n w = (match evx F A En fg k cur one w with
      | (.inr e, w1) => (.inr e, w1)
      | (.inl v, w1) => (.inl (if v = 0 then 1 else 0), w1)) := by
  rw [evx_s h, if_neg (show ¬ (13 : Int32) = 0 by decide), if_neg (show ¬ (13 : Int32) = 1 by decide), if_neg (show ¬ (13 : Int32) = 2 by decide), if_neg (show ¬ (13 : Int32) = 3 by decide), if_neg (show ¬ (13 : Int32) = 4 by decide), if_neg (show ¬ (13 : Int32) = 5 by decide), if_neg (show ¬ (13 : Int32) = 6 by decide), if_neg (show ¬ (13 : Int32) = 7 by decide), if_neg (show ¬ (13 : Int32) = 8 by decide), if_neg (show ¬ (13 : Int32) = 9 by decide), if_neg (show ¬ (13 : Int32) = 10 by decide), if_pos rfl]
  rfl
theorem evx_14 (h : F.2.2.2.2.1[n.toInt.toNat]? = some (14, one, two, val)) : evx F A En fg (k + 1) cur n w = (match evx F A En fg k cur one w with
      | (.inr e, w1) => (.inr e, w1)
      | (.inl v, w1) => (.inl (-v), w1)) := by
  rw [evx_s h, if_neg (show ¬ (14 : Int32) = 0 by decide), if_neg (show ¬ (14 : Int32) = 1 by decide), if_neg (show ¬ (14 : Int32) = 2 by decide), if_neg (show ¬ (14 : Int32) = 3 by decide), if_neg (show ¬ (14 : Int32) = 4 by decide), if_neg (show ¬ (14 : Int32) = 5 by decide), if_neg (show ¬ (14 : Int32) = 6 by decide), if_neg (show ¬ (14 : Int32) = 7 by decide), if_neg (show ¬ (14 : Int32) = 8 by decide), if_neg (show ¬ (14 : Int32) = 9 by decide), if_neg (show ¬ (14 : Int32) = 10 by decide), if_neg (show ¬ (14 : Int32) = 13 by decide), if_pos rfl]
  rfl
end EVX2
section REXP2
variable {R : zS} {F : yF} {A : List (Option yO)} {En : List (Int64 × Int32)} {fg : Int32 → yW → yR × yW} {gi : Nat → Int32} {ga : Nat → List Int32} {vl : List Int64} {Bs : List (Option zH)} {am : List Int64} {N : Nat} {cur dr : Int32} {s0 j : Nat}
theorem R_ev (hF : fMr F ga vl) (hK : F.1.length ≤ 20 ∧ ∀ (i : Nat) P, F.1[i]? = some P → 0 ≤ P.1.toInt ∧ P.1.toInt ≤ 11) (hA : aB En F A Bs dr) (hE : eM En am) (hN : 1000 < N) (hfg : FgM R gi ga vl Bs am N dr s0 j fg) (hj : j ≤ 12) : ∀ (k s e : Nat) (n : Int32) (m : Nat) (S : zS) (w : yW), yRep F j k s e n → Rk R S w cur dr j → zI S 2 = 0 → (e - s) + s0 ≤ m → RvM R (evx F A En fg k cur n w) S w cur dr j (rF_fix gi ga vl Bs am N m n S)
  | 0, _, _, _, _, _, _, h, _, _, _ => absurd h id
  | k + 1, s, e, n, m, S, w, h, hW, h2, hm => by
    have hlt := h.lt
    obtain ⟨m, rfl⟩ : ∃ q, m = q + 1 := ⟨m - 1, by omega⟩
    obtain ⟨hn0, op, one, two, val, h3, h⟩ := h
    obtain ⟨g19, g21, g22, gvl⟩ := hF.2.2 n.toInt.toNat op one two val h3
    have ih := R_ev hF hK hA hE hN hfg hj k
    have hd : ∀ S' w', Rk R S' w' cur dr j → zI S' 1 = dr := fun S' w' h => h.1.2.2.2.2.1
    have x19 : gI (ga 19) n = some op := gI_in hn0 g19
    have x21 : gI (ga 21) n = some one := gI_in hn0 g21
    have x22 : gI (ga 22) n = some two := gI_in hn0 g22
    have xvl : gI vl n = some val := gI_in hn0 gvl
    show RvM R _ S w cur dr j (rF_work gi ga vl Bs am (rF_fix gi ga vl Bs am N m) N n S)
    unfold rF_work
    rw [x19, zgs, x21, zgs, x22, zgs]
    rcases h with ⟨rfl, q1, v, q2, q3⟩ | ⟨rfl, q1, q2, q3⟩ | ⟨rfl, q1, q2, q3, q4⟩ | ⟨rfl, q1, q2, q3, q4⟩ | ⟨rfl, q1, t, q2, q3, q4, q5⟩ | ⟨rfl, q1, q2, q3⟩ | ⟨rfl, q1, q2, q3⟩ | ⟨rfl, q1, q2, q3, q4, q5⟩ | ⟨rfl, q1, q2, q3⟩ | ⟨rfl, q1, q2, q3, q4⟩ | ⟨rfl, t, q1, q2, q3, q4⟩ | ⟨q0, q1, t, q2, q3, q4, q5⟩ | ⟨q0, q1, q2, q3⟩ | ⟨q0, q0', q1, t, q2, q3, q4⟩
    · -- a number
      have E : evx F A En fg (k + 1) cur n w = (.inl val, w) := by rw [evx_s h3, if_pos rfl]
      rw [E, if_pos rfl, xvl, zgs]
      exact ⟨S, rfl, hW, h2, kpM.rf⟩
    · -- a name
      have E : evx F A En fg (k + 1) cur n w = okR (nameR En (knd F one) (anR A one)) cur w := by rw [evx_s h3, if_neg (by decide), if_pos rfl]
      obtain ⟨a1, a2, z, a3, a4⟩ := ask_M hF hK hA q3
      rw [E, if_neg (by decide), if_pos rfl, zb_id]
      exact leaf_M (r_named hE hN (hd S w hW) h2 a1 a2 a3 a4) hW h2
    · -- a figure
      have E : evx F A En fg (k + 1) cur n w = fg one w := by rw [evx_s h3, if_neg (by decide), if_neg (by decide), if_pos rfl]
      obtain ⟨f, hf, rfl, hf2⟩ := yi_of q3
      rw [E, if_neg (by decide), if_neg (by decide), if_pos rfl, zb_id]
      exact hfg f (by omega) S w cur m (by omega) hW h2
    · -- an item
      have E := evx_3 (F := F) (A := A) (En := En) (fg := fg) (k := k) (cur := cur) (w := w) h3
      obtain ⟨a1, a2, z, a3, a4⟩ := ask_M hF hK hA q4
      rw [E, if_neg (by decide), if_neg (by decide), if_neg (by decide), if_pos rfl, zb_id, rF_workItem]
      refine RvM.seq (ih s (e - 1) two m S w q2 hW h2 (by omega)) ?_ ?_ ?_
      · intro v w' S1 hr b1 b2
        rw [hr, if_pos b2]
        exact leaf_M (r_item hE (hd S1 w' b1) b2 a1 a2 a3 a4) b1 b2
      · intro x w' hr
        rw [hr]
      · intro v S1 hne
        exact ⟨0, if_neg hne⟩
    · -- a cell
      have E := evx_4 (F := F) (A := A) (En := En) (fg := fg) (k := k) (cur := cur) (w := w) h3
      obtain ⟨a1, a2, z, a3, a4⟩ := ask_M hF hK hA q5
      have l2 := q2.lt
      have l3 := q3.lt
      have fl : ∀ (a b : Int64) (S1 : zS), zI S1 2 ≠ 0 → rF_workCell_12 gi ga vl Bs am (rF_fix gi ga vl Bs am N m) N one a b S1 = some (0, S1) := fun a b S1 hne => by rw [rF_workCell_12, if_neg hne]
      rw [E, if_neg (by decide), if_neg (by decide), if_neg (by decide), if_neg (by decide), if_pos rfl, xvl, zgs, zb_id, rF_workCell]
      refine RvM.seq (ih s t two m S w q2 hW h2 (by omega)) ?_ ?_ ?_
      · intro v w' S1 hr b1 b2
        rw [hr, if_pos b2]
        show RvM R (match evx F A En fg k cur val.toInt32 w' with
            | (.inr e, w2) => (.inr e, w2)
            | (.inl j, w2) => okR (cellR (anR A one) v.toInt32 j.toInt32) cur w2) S1 w' cur dr j _
        refine RvM.seq (ih t (e - 1) val.toInt32 m S1 w' q3 b1 b2 (by omega)) ?_ ?_ ?_
        · intro u w2 S2 hr2 c1 c2
          rw [hr2]
          exact leaf_M (r_cell (hd S2 w2 c1) c2 a3 a4) c1 c2
        · intro x w2 hr2
          rw [hr2]
        · intro u S2 hne
          exact ⟨0, fl _ _ _ hne⟩
      · intro x w' hr
        rw [hr]
      · intro v S1 hne
        exact ⟨0, by rw [if_neg hne]; exact fl _ _ _ hne⟩
    · -- len
      have E : evx F A En fg (k + 1) cur n w = okR (lenR (knd F one) (anR A one)) cur w := by rw [evx_s h3, if_neg (by decide), if_neg (by decide), if_neg (by decide), if_neg (by decide), if_neg (by decide), if_pos rfl]
      obtain ⟨a1, a2, z, a3, a4⟩ := ask_M hF hK hA q3
      rw [E, if_neg (by decide), if_neg (by decide), if_neg (by decide), if_neg (by decide), if_neg (by decide), if_pos rfl]
      exact leaf_M (r_len (hd S w hW) h2 a1 a2 a3 a4) hW h2
    · -- has
      have E : evx F A En fg (k + 1) cur n w = (.inl (if (anR A one).isSome then 1 else 0), w) := by rw [evx_s h3, if_neg (by decide), if_neg (by decide), if_neg (by decide), if_neg (by decide), if_neg (by decide), if_neg (by decide), if_pos rfl]
      obtain ⟨a1, a2, z, a3, a4⟩ := ask_M hF hK hA q3
      rw [E, if_neg (show ¬ (6 : Int32) = 0 by decide), if_neg (show ¬ (6 : Int32) = 1 by decide), if_neg (show ¬ (6 : Int32) = 2 by decide), if_neg (show ¬ (6 : Int32) = 3 by decide), if_neg (show ¬ (6 : Int32) = 4 by decide), if_neg (show ¬ (6 : Int32) = 5 by decide), if_pos (show (6 : Int32) = 6 from rfl), r_answer (hd S w hW) a3, zbs]
      rcases z with _ | o
      · rcases hy : anR A one with _ | y
        · exact ⟨S, rfl, hW, h2, kpM.rf⟩
        · rw [hy] at a4; exact absurd a4 id
      · rcases hy : anR A one with _ | y
        · rw [hy] at a4; exact absurd a4 id
        · exact ⟨S, rfl, hW, h2, kpM.rf⟩
    · -- is
      have E := evx_7 (F := F) (A := A) (En := En) (fg := fg) (k := k) (cur := cur) (w := w) h3
      obtain ⟨a1, a2, z, a3, a4⟩ := ask_M hF hK hA q3
      obtain ⟨t, ht', rfl, ht2⟩ := yi_of q4
      rw [E, if_neg (show ¬ (7 : Int32) = 0 by decide), if_neg (show ¬ (7 : Int32) = 1 by decide), if_neg (show ¬ (7 : Int32) = 2 by decide), if_neg (show ¬ (7 : Int32) = 3 by decide), if_neg (show ¬ (7 : Int32) = 4 by decide), if_neg (show ¬ (7 : Int32) = 5 by decide), if_neg (show ¬ (7 : Int32) = 6 by decide), if_pos (show (7 : Int32) = 7 from rfl), rF_isSort, r_answer (hd S w hW) a3, zbs, ht2, Int.toNat_natCast]
      rcases z with _ | o
      · rcases hy : anR A one with _ | y
        · exact ⟨S, rfl, hW, h2, kpM.rf⟩
        · rw [hy] at a4; exact absurd a4 id
      · rcases hy : anR A one with _ | y
        · rw [hy] at a4; exact absurd a4 id
        · rw [hy] at a4
          obtain ⟨hm1, hk⟩ := a4
          have e := hm1.s hk
          have e1 : (o.1 = Int32.ofNat t) ↔ y.1 = t := by rw [xi32_eq, e, ht2]; omega
          have e2 : (o.1 = 6) ↔ y.1 = 6 := by rw [xi32_eq, e, show (6 : Int32).toInt = 6 from rfl]; omega
          have e3 : (Int32.ofNat t = 5) ↔ t = 5 := by rw [xi32_eq, ht2, show (5 : Int32).toInt = 5 from rfl]; omega
          show RvM R (.inl (if y.1 = t ∨ (y.1 = 6 ∧ t = 5) then 1 else 0), w) S w cur dr j (zb (if o.1 = Int32.ofNat t then some (1, S) else (if Int32.ofNat t ≠ (5 : Int32) then some (0, S) else (if o.1 ≠ (6 : Int32) then some (0, S) else some (1, S)))) fun x37 S38 => (if x37 = (0 : Int32) then some (0, S38) else some (1, S38)))
          by_cases b1 : y.1 = t
          · rw [if_pos (Or.inl b1), if_pos (e1.mpr b1), zbs, if_neg (by decide)]
            exact ⟨S, rfl, hW, h2, kpM.rf⟩
          · rw [if_neg (show ¬ o.1 = Int32.ofNat t from fun hh => b1 (e1.mp hh))]
            by_cases b5 : t = 5
            · rw [if_neg (nn (e3.mpr b5))]
              by_cases b6 : y.1 = 6
              · rw [if_pos (Or.inr ⟨b6, b5⟩), if_neg (nn (e2.mpr b6)), zbs, if_neg (by decide)]
                exact ⟨S, rfl, hW, h2, kpM.rf⟩
              · rw [if_neg (show ¬ (y.1 = t ∨ (y.1 = 6 ∧ t = 5)) from fun hh => hh.elim b1 fun q => b6 q.1), if_pos (fun hh => b6 (e2.mp hh)), zbs, if_pos rfl]
                exact ⟨S, rfl, hW, h2, kpM.rf⟩
            · rw [if_neg (show ¬ (y.1 = t ∨ (y.1 = 6 ∧ t = 5)) from fun hh => hh.elim b1 fun q => b5 q.2), if_pos (fun hh => b5 (e3.mp hh)), zbs, if_pos rfl]
              exact ⟨S, rfl, hW, h2, kpM.rf⟩
    · -- total
      have E : evx F A En fg (k + 1) cur n w = okR (totR En (knd F one) (anR A one)) cur w := by rw [evx_s h3, if_neg (by decide), if_neg (by decide), if_neg (by decide), if_neg (by decide), if_neg (by decide), if_neg (by decide), if_neg (by decide), if_neg (by decide), if_pos rfl]
      obtain ⟨a1, a2, z, a3, a4⟩ := ask_M hF hK hA q3
      rw [E, if_neg (by decide), if_neg (by decide), if_neg (by decide), if_neg (by decide), if_neg (by decide), if_neg (by decide), if_neg (by decide), if_neg (by decide), if_pos rfl, zb_id]
      exact leaf_M (r_tot hE hN (hd S w hW) h2 a1 a2 a3 a4) hW h2
    · -- a column
      have E := evx_9 (F := F) (A := A) (En := En) (fg := fg) (k := k) (cur := cur) (w := w) h3
      obtain ⟨a1, a2, z, a3, a4⟩ := ask_M hF hK hA q4
      rw [E, if_neg (by decide), if_neg (by decide), if_neg (by decide), if_neg (by decide), if_neg (by decide), if_neg (by decide), if_neg (by decide), if_neg (by decide), if_neg (by decide), if_pos rfl]
      refine RvM.seq (ih s (e - 1) two m S w q2 hW h2 (by omega)) ?_ ?_ ?_
      · intro v w' S1 hr b1 b2
        rw [hr, if_pos b2, zb_id]
        exact leaf_M (r_col hN (hd S1 w' b1) b2 a3 a4) b1 b2
      · intro x w' hr
        rw [hr]
      · intro v S1 hne
        exact ⟨0, if_neg hne⟩
    · -- try
      have E := evx_10 (F := F) (A := A) (En := En) (fg := fg) (k := k) (cur := cur) (w := w) h3
      have l2 := q2.lt
      have l4 := q4.lt
      rw [E, if_neg (by decide), if_neg (by decide), if_neg (by decide), if_neg (by decide), if_neg (by decide), if_neg (by decide), if_neg (by decide), if_neg (by decide), if_neg (by decide), if_neg (by decide), if_pos rfl]
      have I := ih (s + 1) t one m S w q2 hW h2 (by omega)
      rcases hr : evx F A En fg k cur one w with ⟨v | x, w'⟩
      · rw [hr] at I
        obtain ⟨S1, i1, i2, i3, i4⟩ := I
        rw [i1, zbs, if_neg (nn i3)]
        exact ⟨S1, rfl, i2, i3, i4⟩
      · rw [hr] at I
        obtain ⟨v, S1, i1, i2, i3, i4⟩ := I
        rw [i1, zbs, if_pos (by rw [i3.1]; exact i3.2.1), zb_id]
        have hW2 : Rk R (zsI (zsI S1 6 (zI S1 6 + 1)) 2 0) (w'.1, w'.2.1, w'.2.2.1 + 1, w'.2.2.2) cur dr j := by
          obtain ⟨⟨a1, a2, a3, a4, a5, a6⟩, b, c, d⟩ := i2
          refine ⟨⟨a1, a2, ?_, a4, a5, a6⟩, b, c, d⟩
          show zI S1 6 + 1 = _
          rw [a3]
        have J := ih (t + 1) e two m _ _ q4 hW2 rfl (by omega)
        show RvM R (evx F A En fg k cur two (w'.1, w'.2.1, w'.2.2.1 + 1, w'.2.2.2)) S w cur dr j _
        rcases hr2 : evx F A En fg k cur two (w'.1, w'.2.1, w'.2.2.1 + 1, w'.2.2.2) with ⟨u | x2, w2⟩
        · rw [hr2] at J
          obtain ⟨S2, j1, j2, j3, j4⟩ := J
          exact ⟨S2, j1, j2, j3, i4.tr j4⟩
        · rw [hr2] at J
          obtain ⟨u, S2, j1, j2, j3, j4⟩ := J
          exact ⟨u, S2, j1, j2, j3, i4.tr j4⟩
    · -- or, and
      have l2 := q2.lt
      have l4 := q4.lt
      have hop : op = 11 ∨ op = 12 ∨ (15 ≤ op.toInt ∧ op.toInt ≤ 22) := by rcases q0 with h | h; exact Or.inl h; exact Or.inr (Or.inl h)
      have E := evx_pair (F := F) (A := A) (En := En) (fg := fg) (k := k) (cur := cur) (w := w) hop h3
      rw [E, if_neg (by rcases q0 with rfl | rfl <;> decide), if_neg (by rcases q0 with rfl | rfl <;> decide), if_neg (by rcases q0 with rfl | rfl <;> decide), if_neg (by rcases q0 with rfl | rfl <;> decide), if_neg (by rcases q0 with rfl | rfl <;> decide), if_neg (by rcases q0 with rfl | rfl <;> decide), if_neg (by rcases q0 with rfl | rfl <;> decide), if_neg (by rcases q0 with rfl | rfl <;> decide), if_neg (by rcases q0 with rfl | rfl <;> decide), if_neg (by rcases q0 with rfl | rfl <;> decide), if_neg (by rcases q0 with rfl | rfl <;> decide), if_neg (by rcases q0 with rfl | rfl <;> decide), if_neg (by rcases q0 with rfl | rfl <;> decide), zb_id, rF_paired]
      refine RvM.seq (ih s t one m S w q2 hW h2 (by omega)) ?_ ?_ ?_
      · intro v w' S1 hr b1 b2
        rw [hr, if_pos b2]
        have right : RvM R (match evx F A En fg k cur two w' with
            | (.inr e, w2) => (.inr e, w2)
            | (.inl y, w2) => (.inl (if y = 0 then 0 else 1), w2)) S1 w' cur dr j (rF_paired_30 gi ga vl Bs am (rF_fix gi ga vl Bs am N m) N op two v S1) := by
          rw [rF_paired_30]
          refine RvM.seq (ih (t + 1) (e - 1) two m S1 w' q4 b1 b2 (by omega)) ?_ ?_ ?_
          · intro u w2 S2 hr2 c1 c2
            rw [hr2, if_pos c2]
            refine ⟨S2, ?_, c1, c2, kpM.rf⟩
            rcases q0 with rfl | rfl
            · rw [if_pos rfl]
              split <;> rfl
            · rw [if_neg (by decide), if_pos rfl]
              split <;> rfl
          · intro x w2 hr2
            rw [hr2]
          · intro u S2 hne
            exact ⟨0, if_neg hne⟩
        rcases q0 with rfl | rfl
        · show RvM R (if (11 : Int32) = 11 ∧ v ≠ 0 then (.inl 1, w') else if (11 : Int32) = 12 ∧ v = 0 then (.inl 0, w') else match evx F A En fg k cur two w' with
            | (.inr e, w2) => (.inr e, w2)
            | (.inl y, w2) => (.inl (if y = 0 then 0 else 1), w2)) S1 w' cur dr j _
          by_cases h0 : v = 0
          · rw [if_neg (show ¬ ((11 : Int32) = 11 ∧ v ≠ 0) from fun hh => hh.2 h0), if_neg (show ¬ ((11 : Int32) = 12 ∧ v = 0) from fun hh => absurd hh.1 (by decide)), if_neg (nn rfl), if_neg (nn h0), rF_paired_16, if_pos (show (11 : Int32) ≠ 12 by decide)]
            exact right
          · rw [if_pos (show (11 : Int32) = 11 ∧ v ≠ 0 from ⟨rfl, h0⟩), if_neg (nn rfl), if_pos h0]
            exact ⟨S1, rfl, b1, b2, kpM.rf⟩
        · show RvM R (if (12 : Int32) = 11 ∧ v ≠ 0 then (.inl 1, w') else if (12 : Int32) = 12 ∧ v = 0 then (.inl 0, w') else match evx F A En fg k cur two w' with
            | (.inr e, w2) => (.inr e, w2)
            | (.inl y, w2) => (.inl (if y = 0 then 0 else 1), w2)) S1 w' cur dr j _
          rw [if_neg (show ¬ ((12 : Int32) = 11 ∧ v ≠ 0) from fun hh => absurd hh.1 (by decide)), if_pos (show (12 : Int32) ≠ 11 by decide), rF_paired_16, if_neg (nn rfl)]
          by_cases h0 : v = 0
          · rw [if_pos (show (12 : Int32) = 12 ∧ v = 0 from ⟨rfl, h0⟩), if_neg (nn h0), if_pos (show (12 : Int32) ≠ 11 by decide)]
            exact ⟨S1, rfl, b1, b2, kpM.rf⟩
          · rw [if_neg (show ¬ ((12 : Int32) = 12 ∧ v = 0) from fun hh => h0 hh.2), if_pos h0]
            exact right
      · intro x w' hr
        rw [hr]
      · intro v S1 hne
        exact ⟨0, if_neg hne⟩
    · -- not, minus
      rcases q0 with rfl | rfl
      · have E := evx_13 (F := F) (A := A) (En := En) (fg := fg) (k := k) (cur := cur) (w := w) h3
        rw [E, if_neg (by decide), if_neg (by decide), if_neg (by decide), if_neg (by decide), if_neg (by decide), if_neg (by decide), if_neg (by decide), if_neg (by decide), if_neg (by decide), if_neg (by decide), if_neg (by decide), if_pos rfl]
        refine RvM.seq (ih s (e - 1) one m S w q2 hW h2 (by omega)) ?_ ?_ ?_
        · intro v w' S1 hr b1 b2
          rw [hr]
          refine ⟨S1, ?_, b1, b2, kpM.rf⟩
          by_cases h0 : v = 0
          · rw [if_neg (nn h0), if_pos h0]
          · rw [if_pos h0, if_neg h0]
        · intro x w' hr
          rw [hr]
        · intro v S1 hne
          by_cases h0 : v = 0
          · exact ⟨1, if_neg (nn h0)⟩
          · exact ⟨0, if_pos h0⟩
      · have E := evx_14 (F := F) (A := A) (En := En) (fg := fg) (k := k) (cur := cur) (w := w) h3
        rw [E, if_neg (by decide), if_neg (by decide), if_neg (by decide), if_neg (by decide), if_neg (by decide), if_neg (by decide), if_neg (by decide), if_neg (by decide), if_neg (by decide), if_neg (by decide), if_neg (by decide), if_neg (by decide), if_pos rfl]
        refine RvM.seq (ih s (e - 1) one m S w q2 hW h2 (by omega)) ?_ ?_ ?_
        · intro v w' S1 hr b1 b2
          rw [hr]
          exact ⟨S1, rfl, b1, b2, kpM.rf⟩
        · intro x w' hr
          rw [hr]
        · intro v S1 hne
          exact ⟨-v, rfl⟩
    · -- a pair
      have l2 := q2.lt
      have l3 := q3.lt
      have hne : ∀ q : Int32, q.toInt < 15 → ¬ op = q := by
        rintro q hq rfl
        omega
      have E := evx_pair (F := F) (A := A) (En := En) (fg := fg) (k := k) (cur := cur) (w := w) (Or.inr (Or.inr ⟨q0, q0'⟩)) h3
      rw [E, if_neg (hne 0 (by decide)), if_neg (hne 1 (by decide)), if_neg (hne 2 (by decide)), if_neg (hne 3 (by decide)), if_neg (hne 4 (by decide)), if_neg (hne 5 (by decide)), if_neg (hne 6 (by decide)), if_neg (hne 7 (by decide)), if_neg (hne 8 (by decide)), if_neg (hne 9 (by decide)), if_neg (hne 10 (by decide)), if_neg (hne 13 (by decide)), if_neg (hne 14 (by decide)), zb_id, rF_paired]
      refine RvM.seq (ih s t one m S w q2 hW h2 (by omega)) ?_ ?_ ?_
      · intro v w' S1 hr b1 b2
        rw [hr, if_pos b2, if_pos (hne 11 (by decide)), rF_paired_16, if_pos (hne 12 (by decide)), rF_paired_30]
        show RvM R (if op = 11 ∧ v ≠ 0 then (.inl 1, w') else if op = 12 ∧ v = 0 then (.inl 0, w') else match evx F A En fg k cur two w' with
          | (.inr e, w2) => (.inr e, w2)
          | (.inl y, w2) => if op = 11 ∨ op = 12 then (.inl (if y = 0 then 0 else 1), w2) else okR (prR op v y) cur w2) S1 w' cur dr j _
        rw [if_neg (fun hh => hne 11 (by decide) hh.1), if_neg (fun hh => hne 12 (by decide) hh.1)]
        refine RvM.seq (ih t (e - 1) two m S1 w' q3 b1 b2 (by omega)) ?_ ?_ ?_
        · intro u w2 S2 hr2 c1 c2
          rw [hr2, if_pos c2]
          show RvM R (if op = 11 ∨ op = 12 then _ else okR (prR op v u) cur w2) S2 w2 cur dr j _
          rw [if_neg (fun hh => hh.elim (hne 11 (by decide)) (hne 12 (by decide)))]
          refine leaf_M ?_ c1 c2
          exact r_pair q0 q0'
        · intro x w2 hr2
          rw [hr2]
        · intro u S2 hx
          exact ⟨0, if_neg hx⟩
      · intro x w' hr
        rw [hr]
      · intro v S1 hx
        exact ⟨0, if_neg hx⟩
end REXP2
