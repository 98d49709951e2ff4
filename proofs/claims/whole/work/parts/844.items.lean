/-! TAKE: an item read; the class -/
section ITEMC
variable {N : Nat} {ne : Int32} {sn js : List Int32} {En : List (Int64 × Int32)} {S : zS}
/-- what a read item leaves: all but the flag, the place and the items stay -/
def frO (S S' : zS) : Prop := (∀ j, j ≠ 4 → j ≠ 5 → zI S' j = zI S j) ∧ zA S' 6 = zA S 6
theorem c_putO {s : Nat} (hs : s ≤ 7) (h0 : zI S 0 = Int32.ofNat s) {i : Int32} {v : Int64} (hi : zok (zB S 2) i) : cO_put ne sn N i v S = some ((), zsB S 2 (zs (zB S 2) i (putv s v))) := by
  have t0 := yi_nat (i := s) (by omega)
  have key : ∀ (c : Nat), c ≤ 7 → (zI S 0 = Int32.ofNat c ↔ s = c) := by
    intro c hc
    rw [h0]
    exact ⟨fun h => yi_inj (by omega) (by omega) h, fun h => by rw [h]⟩
  have k0 : zI S 0 = 0 ↔ s = 0 := key 0 (by omega)
  have k1 : zI S 0 = 1 ↔ s = 1 := key 1 (by omega)
  have k3 : zI S 0 = 3 ↔ s = 3 := key 3 (by omega)
  rw [cO_put]
  unfold putv
  by_cases e0 : s = 0
  · rw [if_pos (k0.mpr e0), if_pos e0]
    by_cases hv : v = 0
    · rw [if_pos hv, if_pos hi, if_pos hv]
    · rw [if_neg hv, if_pos hi, if_neg hv]
  · rw [if_neg (fun h => e0 (k0.mp h)), if_neg e0]
    by_cases e1 : s = 1
    · rw [if_pos (k1.mpr e1), if_pos e1, if_pos hi]
    · rw [if_neg (fun h => e1 (k1.mp h)), if_neg e1]
      by_cases e3 : s = 3
      · rw [if_pos (k3.mpr e3), if_pos e3, if_pos hi]
      · rw [if_neg (fun h => e3 (k3.mp h)), if_neg e3, if_pos hi]
theorem c_holdsO (hne : ne = Int32.ofNat En.length) (hE : En.length ≤ 100) {v : Int64} : cO_holds ne sn N v S = some (if 0 ≤ v.toInt ∧ v.toInt < En.length then 1 else 0, S) := by
  rw [cO_holds, hne, y6432, yi_nat (by omega)]
  by_cases h1 : v.toInt < 0
  · rw [if_pos h1, if_neg (by omega)]
  · rw [if_neg h1]
    by_cases h2 : (En.length : Int) ≤ v.toInt
    · rw [if_pos h2, if_neg (by omega)]
    · rw [if_neg h2, if_pos (by omega)]
theorem c_signO (hne : ne = Int32.ofNat En.length) (hE : En.length ≤ 100) (hsn : sn = En.map Prod.snd ++ js) {v : Int64} : cO_isSigned ne sn N v S = some (if (0 ≤ v.toInt ∧ v.toInt < En.length) ∧ sgE En v.toInt32 ≠ -9 then 1 else 0, S) := by
  rw [cO_isSigned, c_holdsO hne hE, zb_s]
  by_cases h : 0 ≤ v.toInt ∧ v.toInt < En.length
  · rw [if_pos h, if_neg (by decide)]
    obtain ⟨_, sv, g1, g2⟩ := sg_at (sn := sn) (v := v) (n := v.toInt.toNat) hsn hE (by omega) (by
      apply Int64.toInt_inj.mp
      rw [Int64.toInt_ofNat_of_lt (by omega)]
      omega)
    rw [g1, zg_s, g2]
    by_cases e : sv = -9
    · rw [if_pos e, if_neg (fun h => h.2 e)]
    · rw [if_neg e, if_pos ⟨h, e⟩]
  · rw [if_neg h, if_pos rfl, if_neg (fun hh => h hh.1)]
/-- an entry's place, or NOTHING -/
theorem c_61 {s : Nat} (hs : s = 5 ∨ s = 6) (hne : ne = Int32.ofNat En.length) (hE : En.length ≤ 100) (hsn : sn = En.map Prod.snd ++ js) (h0 : zI S 0 = Int32.ofNat s) {i : Int32} {v : Int64} (hi : zok (zB S 2) i) : ∃ S', cO_loadItem_61 ne sn N i v S = some ((), S') ∧ zB S' 2 = zs (zB S 2) i v ∧ frO S S' ∧ (∀ l, RD 3 4 6 S l → RD 3 4 6 S' l) ∧ (zI S 5 ≠ 0 → zI S' 5 = 1) ∧ (zI S 5 = 0 → v = -9 → zI S' 5 = 0) ∧ (zI S 5 = 0 → v ≠ -9 → zI S' 5 = if (0 ≤ v.toInt ∧ v.toInt < En.length) ∧ (s = 6 → sgE En v.toInt32 ≠ -9) then 0 else 1) := by
  have hput : ∀ f : Int32, cO_put ne sn N i v (zsI S 5 f) = some ((), zsB (zsI S 5 f) 2 (zs (zB S 2) i v)) := by
    intro f
    have := c_putO (S := zsI S 5 f) (ne := ne) (sn := sn) (N := N) (s := s) (v := v) (by omega) h0 hi
    rw [this]
    have e : putv s v = v := by
      unfold putv
      rw [if_neg (by omega), if_neg (by omega), if_neg (by omega)]
    rw [e]
    rfl
  have fin : ∀ f : Int32, zB (zsB (zsI S 5 f) 2 (zs (zB S 2) i v)) 2 = zs (zB S 2) i v ∧ frO S (zsB (zsI S 5 f) 2 (zs (zB S 2) i v)) ∧ (∀ l, RD 3 4 6 S l → RD 3 4 6 (zsB (zsI S 5 f) 2 (zs (zB S 2) i v)) l) := by
    intro f
    refine ⟨rfl, ⟨fun j _ h5 => zup_ne h5, rfl⟩, ?_⟩
    rintro l ⟨n, a, q1, q2, q3⟩
    exact ⟨n, a, q1, q2, q3⟩
  rw [cO_loadItem_61]
  by_cases h5 : zI S 5 = 0
  · rw [if_neg (fun h => h h5)]
    by_cases hv : v = -9
    · rw [if_pos hv, hput, zb_s]
      exact ⟨_, rfl, (fin 0).1, (fin 0).2.1, (fin 0).2.2, fun h => absurd h5 h, fun _ _ => rfl, fun _ h => absurd hv h⟩
    · rw [if_neg hv]
      rcases hs with rfl | rfl
      · rw [if_neg (by rw [h0]; decide), c_holdsO hne hE, zb_s]
        by_cases hh : 0 ≤ v.toInt ∧ v.toInt < En.length
        · rw [if_pos hh, if_neg (by decide), hput, zb_s]
          exact ⟨_, rfl, (fin 0).1, (fin 0).2.1, (fin 0).2.2, fun h => absurd h5 h, fun _ h => absurd h hv, fun _ _ => by rw [if_pos ⟨hh, fun h => by omega⟩]; rfl⟩
        · rw [if_neg hh, if_pos rfl, hput, zb_s]
          exact ⟨_, rfl, (fin 1).1, (fin 1).2.1, (fin 1).2.2, fun h => absurd h5 h, fun _ h => absurd h hv, fun _ _ => by rw [if_neg (fun h => hh h.1)]; rfl⟩
      · rw [if_pos (by rw [h0]; decide), c_signO hne hE hsn, zb_s]
        by_cases hh : (0 ≤ v.toInt ∧ v.toInt < En.length) ∧ sgE En v.toInt32 ≠ -9
        · rw [if_pos hh, if_pos (by decide), hput, zb_s]
          exact ⟨_, rfl, (fin 0).1, (fin 0).2.1, (fin 0).2.2, fun h => absurd h5 h, fun _ h => absurd h hv, fun _ _ => by rw [if_pos ⟨hh.1, fun _ => hh.2⟩]; rfl⟩
        · rw [if_neg hh, if_neg (by decide), hput, zb_s]
          exact ⟨_, rfl, (fin 1).1, (fin 1).2.1, (fin 1).2.2, fun h => absurd h5 h, fun _ h => absurd h hv, fun _ _ => by rw [if_neg (fun h => hh ⟨h.1, h.2 rfl⟩)]; rfl⟩
  · rw [if_pos h5, hput, zb_s]
    exact ⟨_, rfl, (fin 1).1, (fin 1).2.1, (fin 1).2.2, fun _ => rfl, fun h => absurd h h5, fun h => absurd h h5⟩
theorem and65535 {v : Int64} (h : 0 ≤ v.toInt ∧ v.toInt ≤ 65535) : v &&& 65535 = v := by
  apply Int64.toBitVec_inj.mp
  rw [Int64.toBitVec_and]
  apply BitVec.eq_of_toNat_eq
  rw [BitVec.toNat_and]
  have e : v.toBitVec.toNat ≤ 65535 := by
    have h1 : v.toInt = v.toBitVec.toInt := rfl
    have h2 := BitVec.toInt_eq_toNat_cond v.toBitVec
    have h3 := v.toBitVec.isLt
    rw [h1] at h
    split at h2 <;> omega
  show v.toBitVec.toNat &&& 65535 = _
  rw [show (65535 : Nat) = 2 ^ 16 - 1 from rfl, Nat.and_two_pow_sub_one_eq_mod, Nat.mod_eq_of_lt (by omega)]
theorem rd2 {l : List Int32} {q : Int32 × List Int32} (hb : byR l) (h : rdN 2 0 l = some q) : 0 ≤ q.1.toInt ∧ q.1.toInt ≤ 65535 := by
  match l, h with
  | b :: c :: l, h =>
    rw [rdN, rdN, rdN, sh0] at h
    injection h with h
    rw [← h]
    have h1 := hb b List.mem_cons_self
    have h2 := hb c (List.mem_cons_of_mem _ List.mem_cons_self)
    show 0 ≤ ((b <<< ((8 : Int32) &&& 31)) ||| c).toInt ∧ ((b <<< ((8 : Int32) &&& 31)) ||| c).toInt ≤ 65535
    have n1 : b.toBitVec.toNat ≤ 255 := by
      have e1 : b.toInt = b.toBitVec.toInt := rfl
      have e2 := BitVec.toInt_eq_toNat_cond b.toBitVec
      have e3 := b.toBitVec.isLt
      rw [e1] at h1
      split at e2 <;> omega
    have n2 : c.toBitVec.toNat ≤ 255 := by
      have e1 : c.toInt = c.toBitVec.toInt := rfl
      have e2 := BitVec.toInt_eq_toNat_cond c.toBitVec
      have e3 := c.toBitVec.isLt
      rw [e1] at h2
      split at e2 <;> omega
    have e0 : ((b <<< ((8 : Int32) &&& 31)) ||| c).toBitVec = (b.toBitVec <<< 8) ||| c.toBitVec := rfl
    have e4 : ((b <<< ((8 : Int32) &&& 31)) ||| c).toBitVec.toNat < 2 ^ 16 := by
      rw [e0, BitVec.toNat_or, BitVec.toNat_shiftLeft]
      apply Nat.or_lt_two_pow
      · rw [Nat.shiftLeft_eq]
        have : b.toBitVec.toNat * 2 ^ 8 < 2 ^ 16 := by omega
        exact Nat.lt_of_le_of_lt (Nat.mod_le _ _) this
      · omega
    have e5 : ((b <<< ((8 : Int32) &&& 31)) ||| c).toInt = ((b <<< ((8 : Int32) &&& 31)) ||| c).toBitVec.toInt := rfl
    rw [e5, BitVec.toInt_eq_toNat_cond]
    split <;> omega
theorem byR.drop {l : List Int32} (h : byR l) (k : Nat) : byR (l.drop k) := fun b hb => h b (List.mem_of_mem_drop hb)
/-- an item read: what the class keeps of it -/
def cvI (s : Nat) (v : Int64) : Int64 := if s = 5 ∨ s = 6 then cnv v else v
/-- an item is read, or it is wrong -/
theorem c_itemL (hN : 9 < N) {s : Nat} {i : Nat} {l : List Int32} (hs : s ≤ 7) (hs4 : s ≠ 4) (hne : ne = Int32.ofNat En.length) (hE : En.length ≤ 100) (hsn : sn = En.map Prod.snd ++ js) (h0 : zI S 0 = Int32.ofNat s) (hR : RD 3 4 6 S l) (hb : byR l) (h5 : zI S 5 = 0) (hi : i < (zB S 2).length) (hi2 : (zB S 2).length ≤ 100) : match rdI En s l with
    | some q => ∃ S', cO_loadItem ne sn N (Int32.ofNat i) S = some ((), S') ∧ zB S' 2 = (zB S 2).set i (cvI s q.1) ∧ frO S S' ∧ RD 3 4 6 S' q.2 ∧ zI S' 5 = 0
    | none => ∃ S' l', cO_loadItem ne sn N (Int32.ofNat i) S = some ((), S') ∧ (zB S' 2).length = (zB S 2).length ∧ frO S S' ∧ RD 3 4 6 S' l' ∧ zI S' 5 = 1 := by
  have key : ∀ (S1 : zS), (∀ j, j ≠ 4 → j ≠ 5 → zI S1 j = zI S j) → ∀ (c : Nat), c ≤ 7 → (zI S1 0 = Int32.ofNat c ↔ s = c) := by
    intro S1 h c hc
    rw [h 0 (by omega) (by omega), h0]
    exact ⟨fun h => yi_inj (by omega) (by omega) h, fun h => by rw [h]⟩
  have tz : ∀ (S1 : zS), zB S1 2 = zB S 2 → zok (zB S1 2) (Int32.ofNat i) := by
    intro S1 h
    rw [h]
    exact ⟨by rw [yi_nat (by omega)]; omega, by rw [yi_nat (by omega)]; omega⟩
  have tset : ∀ v : Int64, zs (zB S 2) (Int32.ofNat i) v = (zB S 2).set i v := by
    intro v
    rw [zs, yi_toNat (by omega)]
  -- behind the number: what is put
  have plain : ∀ (S1 : zS) (v : Int64), s ≠ 5 → s ≠ 6 → (∀ j, j ≠ 4 → j ≠ 5 → zI S1 j = zI S j) → zB S1 2 = zB S 2 → zA S1 6 = zA S 6 → cO_loadItem_44 ne sn N (Int32.ofNat i) v S1 = some ((), zsB S1 2 ((zB S 2).set i (putv s v))) := by
    intro S1 v e5 e6 hI hB hA
    have k5 : zI S1 0 = 5 ↔ s = 5 := key S1 hI 5 (by omega)
    have k6 : zI S1 0 = 6 ↔ s = 6 := key S1 hI 6 (by omega)
    rw [cO_loadItem_44, if_neg (fun h => e5 (k5.mp h)), if_pos (fun h => e6 (k6.mp h)), c_putO (s := s) hs ((hI 0 (by omega) (by omega)).trans h0) (tz S1 hB), zb_s, hB, tset]
  have RDp : ∀ {S1 : zS} {v : List Int64} {l1 : List Int32}, RD 3 4 6 S1 l1 → RD 3 4 6 (zsB S1 2 v) l1 := by
    rintro S1 v l1 ⟨n, a, q1, q2, q3⟩
    exact ⟨n, a, q1, q2, q3⟩
  have RDf : ∀ {S1 : zS} {v : Int32} {l1 : List Int32}, RD 3 4 6 S1 l1 → RD 3 4 6 (zsI S1 5 v) l1 := by
    rintro S1 v l1 ⟨n, a, q1, q2, q3⟩
    exact ⟨n, a, q1, q2, q3⟩
  have num : ∀ (k : Nat) (S1 : zS) (l1 : List Int32), k ≤ 8 → RD 3 4 6 S1 l1 → match rdN k 0 l1 with
      | some q => ∃ S', cO_loadNumber ne sn N (Int32.ofNat k) S1 = some (q.1, S') ∧ RD 3 4 6 S' q.2 ∧ zI S' 5 = zI S1 5 ∧ (∀ j, j ≠ 4 → j ≠ 5 → zI S' j = zI S1 j) ∧ zA S' 6 = zA S1 6 ∧ zB S' 2 = zB S1 2
      | none => ∃ S', cO_loadNumber ne sn N (Int32.ofNat k) S1 = some (0, S') ∧ RD 3 4 6 S' [] ∧ zI S' 5 = 1 ∧ (∀ j, j ≠ 4 → j ≠ 5 → zI S' j = zI S1 j) ∧ zA S' 6 = zA S1 6 ∧ zB S' 2 = zB S1 2 := fun k S1 l1 hk h => c_numO k k 0 N 0 S1 l1 (by omega) (by omega) (by omega) h
  by_cases e2 : s = 2
  · have k2 : zI S 0 = 2 ↔ s = 2 := key S (fun _ _ _ => rfl) 2 (by omega)
    have fin : ∀ (S1 S2 : zS) (x y : Int32), cO_loadNumber ne sn N 4 S = some (x, S1) → cO_loadNumber ne sn N 4 S1 = some (y, S2) → (∀ j, j ≠ 4 → j ≠ 5 → zI S2 j = zI S j) → zA S2 6 = zA S 6 → zB S2 2 = zB S 2 → cO_loadItem ne sn N (Int32.ofNat i) S = some ((), zsB S2 2 ((zB S 2).set i ((x.toInt64 <<< ((32 : Int32).toInt64 &&& 63)) ||| (y.toInt64 &&& 4294967295)))) := by
      intro S1 S2 x y h1 h2 h3 h4 h6
      have k0 : zI S2 0 = 0 ↔ s = 0 := key S2 h3 0 (by omega)
      have k7 : zI S2 0 = 7 ↔ s = 7 := key S2 h3 7 (by omega)
      rw [cO_loadItem, if_neg (fun h => h (k2.mpr e2)), h1, zb_s, h2, zb_s, if_pos (fun h => by have := k0.mp h; omega), cO_loadItem_32, if_pos (fun h => by have := k7.mp h; omega), plain S2 _ (by omega) (by omega) h3 h6 h4]
      rw [show putv s ((x.toInt64 <<< ((32 : Int32).toInt64 &&& 63)) ||| (y.toInt64 &&& 4294967295)) = (x.toInt64 <<< ((32 : Int32).toInt64 &&& 63)) ||| (y.toInt64 &&& 4294967295) by unfold putv; rw [if_neg (by omega), if_neg (by omega), if_neg (by omega)]]
    rw [rdI, if_pos e2]
    have n1 := num 4 S l (by omega) hR
    rcases hq : rdN 4 0 l with _ | q
    · rw [hq] at n1
      obtain ⟨S1, a1, a2, a3, a4, a5, a6⟩ := n1
      have n2 := num 4 S1 [] (by omega) a2
      obtain ⟨S2, b1, b2, b3, b4, b5, b6⟩ := n2
      exact ⟨_, [], fin S1 S2 _ _ a1 b1 (fun j h4 h5 => (b4 j h4 h5).trans (a4 j h4 h5)) (b5.trans a5) (b6.trans a6), by show ((zB S 2).set i _).length = _; rw [List.length_set], ⟨fun j h4 h5 => (b4 j h4 h5).trans (a4 j h4 h5), b5.trans a5⟩, RDp b2, b3⟩
    · rw [hq] at n1
      obtain ⟨S1, a1, a2, a3, a4, a5, a6⟩ := n1
      have n2 := num 4 S1 q.2 (by omega) a2
      rw [Option.bind_some]
      rcases hq2 : rdN 4 0 q.2 with _ | q2
      · rw [hq2] at n2
        obtain ⟨S2, b1, b2, b3, b4, b5, b6⟩ := n2
        exact ⟨_, [], fin S1 S2 _ _ a1 b1 (fun j h4 h5 => (b4 j h4 h5).trans (a4 j h4 h5)) (b5.trans a5) (b6.trans a6), by show ((zB S 2).set i _).length = _; rw [List.length_set], ⟨fun j h4 h5 => (b4 j h4 h5).trans (a4 j h4 h5), b5.trans a5⟩, RDp b2, b3⟩
      · rw [hq2] at n2
        obtain ⟨S2, b1, b2, b3, b4, b5, b6⟩ := n2
        refine ⟨_, fin S1 S2 _ _ a1 b1 (fun j h4 h5 => (b4 j h4 h5).trans (a4 j h4 h5)) (b5.trans a5) (b6.trans a6), ?_, ⟨fun j h4 h5 => (b4 j h4 h5).trans (a4 j h4 h5), b5.trans a5⟩, RDp b2, b3.trans (a3.trans h5)⟩
        show (zB S 2).set i _ = (zB S 2).set i (cvI s _)
        unfold cvI
        rw [if_neg (by omega)]
  · have k2 : zI S 0 = 2 ↔ s = 2 := key S (fun _ _ _ => rfl) 2 (by omega)
    have hby : cO_bytesOf ne sn N (zI S 0) S = some (Int32.ofNat (bOf s), S) := by
      rw [h0]
      rcases (show s = 0 ∨ s = 1 ∨ s = 3 ∨ s = 5 ∨ s = 6 ∨ s = 7 by omega) with rfl | rfl | rfl | rfl | rfl | rfl <;> rfl
    have hb8 : bOf s ≤ 8 := by
      rcases (show s = 0 ∨ s = 1 ∨ s = 3 ∨ s = 5 ∨ s = 6 ∨ s = 7 by omega) with rfl | rfl | rfl | rfl | rfl | rfl <;> decide
    have n1 := num (bOf s) S l hb8 hR
    rw [rdI, if_neg e2]
    -- the rest, behind the number
    have rest : ∀ (S1 : zS) (x : Int32), cO_loadNumber ne sn N (Int32.ofNat (bOf s)) S = some (x, S1) → (∀ j, j ≠ 4 → j ≠ 5 → zI S1 j = zI S j) → zA S1 6 = zA S 6 → zB S1 2 = zB S 2 → (zI S1 5 = 0 ∨ zI S1 5 = 1) → (s ≠ 1 → 0 ≤ x.toInt) → (s = 3 → x.toInt ≤ 65535) → (s = 0 ∨ 5 ≤ s → x.toInt ≤ 255) → ∃ S' : zS, cO_loadItem ne sn N (Int32.ofNat i) S = some ((), S') ∧ (zB S' 2).length = (zB S 2).length ∧ frO S S' ∧ (∀ l1, RD 3 4 6 S1 l1 → RD 3 4 6 S' l1) ∧ (zI S1 5 = 1 → zI S' 5 = 1) ∧ (zI S1 5 = 0 → match itmK En s x with
        | some v => zI S' 5 = 0 ∧ zB S' 2 = (zB S 2).set i (cvI s v)
        | none => zI S' 5 = 1) := by
      intro S1 x h1 hI hA hB hfl hx0 hx3 hx1
      have k0 : zI S1 0 = 0 ↔ s = 0 := key S1 hI 0 (by omega)
      have k7 : zI S1 0 = 7 ↔ s = 7 := key S1 hI 7 (by omega)
      have k5 : zI S1 0 = 5 ↔ s = 5 := key S1 hI 5 (by omega)
      have k6 : zI S1 0 = 6 ↔ s = 6 := key S1 hI 6 (by omega)
      have st : cO_loadItem ne sn N (Int32.ofNat i) S = (if (zI S1 0) ≠ (0 : Int32) then cO_loadItem_32 ne sn N (Int32.ofNat i) x.toInt64 S1 else (if 1 < x.toInt64.toInt then cO_loadItem_44 ne sn N (Int32.ofNat i) x.toInt64 (zsI S1 5 1) else cO_loadItem_32 ne sn N (Int32.ofNat i) x.toInt64 S1)) := by
        rw [cO_loadItem, if_pos (fun h => e2 (k2.mp h)), hby, zb_s, h1, zb_s]
      rw [st]
      by_cases e0 : s = 0
      · rw [if_neg (fun h => h (k0.mpr e0)), y6432]
        by_cases hx : 1 < x.toInt
        · rw [if_pos hx, plain (zsI S1 5 1) _ (by omega) (by omega) (fun j h4 h5 => (zup_ne h5).trans (hI j h4 h5)) hB hA]
          refine ⟨_, rfl, by show ((zB S 2).set i _).length = _; rw [List.length_set], ⟨fun j h4 h5 => (zup_ne h5).trans (hI j h4 h5), hA⟩, fun l1 h => RDp (RDf h), fun _ => rfl, fun _ => ?_⟩
          rw [itmK, if_pos e0, if_pos hx]
          rfl
        · rw [if_neg hx, cO_loadItem_32, if_pos (fun h => by have := k7.mp h; omega), plain S1 _ (by omega) (by omega) hI hB hA]
          refine ⟨_, rfl, by show ((zB S 2).set i _).length = _; rw [List.length_set], ⟨hI, hA⟩, fun l1 h => RDp h, fun h => h, fun h => ?_⟩
          rw [itmK, if_pos e0, if_neg hx]
          refine ⟨h, ?_⟩
          show (zB S 2).set i _ = _
          have hx0 := hx0 (by omega)
          have hcv : cvI s x.toInt64 = x.toInt64 := by unfold cvI; rw [if_neg (by omega)]
          have hpv : putv s x.toInt64 = x.toInt64 := by
            rw [e0]
            rcases (show x.toInt = 0 ∨ x.toInt = 1 by omega) with hx' | hx'
            · have : x = 0 := xi32_eq.mpr hx'
              subst this
              rfl
            · have : x = 1 := xi32_eq.mpr hx'
              subst this
              rfl
          rw [hcv, hpv]
      · rw [if_pos (fun h => e0 (k0.mp h))]
        by_cases e7 : s = 7
        · rw [cO_loadItem_32, if_neg (fun h => h (k7.mpr e7)), c_holdsO hne hE, zb_s, y6432]
          have hx0 := hx0 (by omega)
          by_cases hx : 0 ≤ x.toInt ∧ x.toInt < En.length
          · rw [if_pos hx, if_pos (by decide), plain S1 _ (by omega) (by omega) hI hB hA]
            refine ⟨_, rfl, by show ((zB S 2).set i _).length = _; rw [List.length_set], ⟨hI, hA⟩, fun l1 h => RDp h, fun h => h, fun h => ?_⟩
            rw [itmK, if_neg e0, if_neg (by omega), if_neg (by omega), if_pos e7, if_pos hx.2]
            refine ⟨h, ?_⟩
            show (zB S 2).set i _ = _
            have hcv : cvI s x.toInt64 = x.toInt64 := by unfold cvI; rw [if_neg (by omega)]
            have hpv : putv s x.toInt64 = x.toInt64 := by unfold putv; rw [if_neg e0, if_neg (by omega), if_neg (by omega)]
            rw [hcv, hpv]
          · rw [if_neg hx, if_neg (by decide), plain (zsI S1 5 1) _ (by omega) (by omega) (fun j h4 h5 => (zup_ne h5).trans (hI j h4 h5)) hB hA]
            refine ⟨_, rfl, by show ((zB S 2).set i _).length = _; rw [List.length_set], ⟨fun j h4 h5 => (zup_ne h5).trans (hI j h4 h5), hA⟩, fun l1 h => RDp (RDf h), fun _ => rfl, fun _ => ?_⟩
            rw [itmK, if_neg e0, if_neg (by omega), if_neg (by omega), if_pos e7, if_neg (by omega)]
            rfl
        · rw [cO_loadItem_32, if_pos (fun h => e7 (k7.mp h))]
          by_cases e56 : s = 5 ∨ s = 6
          · have hx255 := hx1 (by omega)
            have hx0 := hx0 (by omega)
            obtain ⟨k, hk⟩ : ∃ k : Nat, x = Int32.ofNat k ∧ k ≤ 255 := ⟨x.toInt.toNat, (yi_id hx0).symm, by omega⟩
            obtain ⟨rfl, hk⟩ := hk
            have tk := yi_nat (i := k) (by omega)
            have x64 : (Int32.ofNat k).toInt64 = Int64.ofNat k := y3264 (by omega)
            have h44 : cO_loadItem_44 ne sn N (Int32.ofNat i) (Int32.ofNat k).toInt64 S1 = (if (Int32.ofNat k).toInt64 ≠ (0 : Int64) then cO_loadItem_61 ne sn N (Int32.ofNat i) ((Int32.ofNat k).toInt64 - 1) S1 else cO_loadItem_61 ne sn N (Int32.ofNat i) (-9) S1) := by
              rw [cO_loadItem_44]
              rcases e56 with e | e
              · rw [if_pos (k5.mpr e)]
              · rw [if_neg (fun h => by have := k5.mp h; omega), if_neg (fun h => h (k6.mpr e))]
            rw [h44, x64]
            by_cases hk0 : k = 0
            · subst hk0
              rw [if_neg (fun h => h rfl)]
              obtain ⟨S', b1, b2, b3, b4, b5, b6, b7⟩ := c_61 (N := N) (v := -9) e56 hne hE hsn ((hI 0 (by omega) (by omega)).trans h0) (tz S1 hB)
              refine ⟨S', b1, by rw [b2, zs, List.length_set, hB], ⟨fun j h4 h5 => (b3.1 j h4 h5).trans (hI j h4 h5), b3.2.trans hA⟩, b4, fun h => b5 (by rw [h]; decide), fun h => ?_⟩
              have hit : itmK En s (Int32.ofNat 0) = some (-1) := by
                rw [itmK, if_neg e0]
                rcases e56 with e | e
                · rw [if_pos e, if_pos (show Int32.ofNat 0 = 0 from rfl)]
                · rw [if_neg (by omega), if_pos e, if_pos (show Int32.ofNat 0 = 0 from rfl)]
              rw [hit]
              refine ⟨b6 h rfl, ?_⟩
              rw [b2, hB, tset]
              unfold cvI
              rw [if_pos e56]
              rfl
            · have hsub : Int64.ofNat k - 1 = Int64.ofNat (k - 1) := by
                have : Int64.ofNat k = Int64.ofNat (k - 1) + 1 := by rw [i64_add1]; congr 1; omega
                rw [this, Int64.add_sub_cancel]
              have ti64 : (Int64.ofNat (k - 1)).toInt = (k - 1 : Nat) := Int64.toInt_ofNat_of_lt (by omega)
              have hne9 : Int64.ofNat (k - 1) ≠ -9 := by
                intro h
                have := congrArg Int64.toInt h
                rw [ti64, l_m9] at this
                omega
              have hnm1 : Int64.ofNat (k - 1) ≠ -1 := by
                intro h
                have := congrArg Int64.toInt h
                rw [ti64, l_m1] at this
                omega
              have hk64 : Int64.ofNat k ≠ 0 := by
                intro h
                have := congrArg Int64.toInt h
                rw [Int64.toInt_ofNat_of_lt (by omega), show (0 : Int64).toInt = 0 from rfl] at this
                omega
              have hk32 : Int32.ofNat k ≠ 0 := fun h => hk0 (yi_inj (by omega) (by omega) h)
              rw [if_pos hk64, hsub]
              obtain ⟨S', b1, b2, b3, b4, b5, b6, b7⟩ := c_61 (N := N) (v := Int64.ofNat (k - 1)) e56 hne hE hsn ((hI 0 (by omega) (by omega)).trans h0) (tz S1 hB)
              refine ⟨S', b1, by rw [b2, zs, List.length_set, hB], ⟨fun j h4 h5 => (b3.1 j h4 h5).trans (hI j h4 h5), b3.2.trans hA⟩, b4, fun h => b5 (by rw [h]; decide), fun h => ?_⟩
              have b7 := b7 h hne9
              rw [ti64, i64_32, ← yi_subn (a := k) (b := 1) (by omega)] at b7
              have b7 : zI S' 5 = if (0 ≤ ((k - 1 : Nat) : Int) ∧ ((k - 1 : Nat) : Int) < En.length) ∧ (s = 6 → sgE En (Int32.ofNat k - 1) ≠ -9) then 0 else 1 := b7
              have hval : zB S' 2 = (zB S 2).set i (cvI s (Int64.ofNat (k - 1))) := by
                rw [b2, hB, tset]
                unfold cvI
                rw [if_pos e56, cnv, if_neg hnm1]
              rcases e56 with e | e
              · rw [itmK, if_neg e0, if_pos e, if_neg hk32, tk]
                by_cases hle : (k : Int) ≤ En.length
                · rw [if_pos hle, x64, hsub]
                  exact ⟨by rw [b7, if_pos ⟨by omega, fun h => by omega⟩], hval⟩
                · rw [if_neg hle]
                  show zI S' 5 = 1
                  rw [b7, if_neg (fun h => by omega)]
              · rw [itmK, if_neg e0, if_neg (by omega), if_pos e, if_neg hk32, tk]
                by_cases hle : (k : Int) ≤ En.length ∧ sgE En (Int32.ofNat k - 1) ≠ -9
                · rw [if_pos hle, x64, hsub]
                  exact ⟨by rw [b7, if_pos ⟨by omega, fun _ => hle.2⟩], hval⟩
                · rw [if_neg hle]
                  show zI S' 5 = 1
                  rw [b7, if_neg (fun h => hle ⟨by omega, h.2 e⟩)]
          · rw [plain S1 _ (by omega) (by omega) hI hB hA]
            refine ⟨_, rfl, by show ((zB S 2).set i _).length = _; rw [List.length_set], ⟨hI, hA⟩, fun l1 h => RDp h, fun h => h, fun h => ?_⟩
            rw [itmK, if_neg e0, if_neg (by omega), if_neg (by omega), if_neg e7]
            refine ⟨h, ?_⟩
            show (zB S 2).set i _ = _
            have hcv : cvI s x.toInt64 = x.toInt64 := by unfold cvI; rw [if_neg (by omega)]
            have hpv : putv s x.toInt64 = x.toInt64 := by
              unfold putv
              rcases (show s = 1 ∨ s = 3 by omega) with e | e
              · rw [if_neg e0, if_pos e, i64_r32]
              · rw [if_neg e0, if_neg (by omega), if_pos e, and65535 (by rw [y6432]; exact ⟨hx0 (by omega), hx3 e⟩)]
            rw [hcv, hpv]
    rcases hq : rdN (bOf s) 0 l with _ | q
    · rw [hq] at n1
      obtain ⟨S1, a1, a2, a3, a4, a5, a6⟩ := n1
      obtain ⟨S', b1, b2, b3, b4, b5, _⟩ := rest S1 0 a1 a4 a5 a6 (Or.inr a3) (fun _ => by decide) (fun _ => by decide) (fun _ => by decide)
      exact ⟨S', [], b1, b2, b3, b4 [] a2, b5 a3⟩
    · rw [hq] at n1
      obtain ⟨S1, a1, a2, a3, a4, a5, a6⟩ := n1
      rw [Option.bind_some]
      have hone : s = 0 ∨ 5 ≤ s → 0 ≤ q.1.toInt ∧ q.1.toInt ≤ 255 := by
        intro h
        have hb1 : bOf s = 1 := by
          unfold bOf
          rw [if_neg (by omega), if_neg (by omega), if_neg (by omega)]
        rw [hb1] at hq
        have := rd1 hq
        exact hb q.1 (by rw [this]; exact List.mem_cons_self)
      have htwo : s = 3 → 0 ≤ q.1.toInt ∧ q.1.toInt ≤ 65535 := by
        intro h
        subst h
        exact rd2 hb hq
      obtain ⟨S', b1, b2, b3, b4, b5, b6⟩ := rest S1 q.1 a1 a4 a5 a6 (Or.inl (a3.trans h5)) (fun h1 => by
        by_cases e3 : s = 3
        · exact (htwo e3).1
        · exact (hone (by omega)).1) (fun h => (htwo h).2) (fun h => (hone h).2)
      have b6 := b6 (a3.trans h5)
      rcases hk : itmK En s q.1 with _ | v
      · rw [hk] at b6
        exact ⟨S', q.2, b1, b2, b3, b4 q.2 a2, b6⟩
      · rw [hk] at b6
        exact ⟨S', b1, b6.2, b3, b4 q.2 a2, b6.1⟩
end ITEMC
