/-! MIGRATE: one answer copied, the reference -/
theorem tk_setG {α : Type} {bs dk : List α} {i : Nat} {b : α} (hi : i < bs.length) (hd : i < dk.length) (hb : bs[i]? = some b) : (bs.take i ++ dk.drop i).set i b = bs.take (i + 1) ++ dk.drop (i + 1) := by
  have e1 : (bs.take i).length = i := by rw [List.length_take]; omega
  rw [List.set_append_right _ _ (by omega), e1, Nat.sub_self, List.take_succ, hb, List.append_assoc]
  congr 1
  rw [List.drop_eq_getElem_cons hd]
  rfl
theorem tk_len {α : Type} {bs dk : List α} {i : Nat} (h : bs.length = dk.length) : (bs.take i ++ dk.drop i).length = dk.length := by
  rw [List.length_append, List.length_take, List.length_drop]; omega
/-- a handle of full lengths -/
def hM6 (o : zH) (y : yO) : Prop := hM o y ∧ o.2.2.1.length = 12 ∧ o.2.2.2.1.length = 6 ∧ o.2.2.2.2.length = 36
theorem yOM.han6 {D : List xE} {a : Nat} {o : yO} (q : yOM D a o) : ∃ z, zOM D a z ∧ hM6 z o := by
  obtain ⟨ia, ra, ca, jk, rs, cs, h1, h2, h3, h4, h5, h6, h7, h8, h9, h10, h11, h12, h13⟩ := q
  exact ⟨(Int32.ofNat o.1, Int32.ofNat (osz o), o.2.1 ++ jk, rs, cs), ⟨ia, ra, ca, h1, h2, h3, h4, h5, h6, h8, h10⟩, ⟨rfl, rfl, ⟨jk, rfl⟩, h12, h13⟩, by rw [List.length_append]; exact h7, h9, h11⟩
/-- an object that is being made, as a view -/
def thV (S : zS) (y : yO) : Prop := zI S 0 = Int32.ofNat y.1 ∧ zI S 1 = Int32.ofNat (osz y) ∧ (∃ jk, zB S 2 = y.2.1 ++ jk ∧ y.2.1.length + jk.length = 12) ∧ (zA S 3).length = 6 ∧ (zA S 4).length = 36 ∧ (∀ (i : Nat) r, y.2.2[i]? = some r → (zA S 3)[i]? = some (rsz r)) ∧ ∀ (i : Nat) l (j : Nat) x, y.2.2[i]? = some (some l) → l[j]? = some x → (zA S 4)[6 * i + j]? = some x
section COPIED
variable {gi : Nat → Int32} {ga : Nat → List Int32} {ne : Int32} {sn : List Int32} {N : Nat} {En : List (Int64 × Int32)} {o : zH} {y : yO} {Q S : zS} {kd : Int32}
/-- one item over -/
theorem cp_61 {k24 : zH → Int32 → zS → Option (Int32 × zS)} {k : Nat} {base : List Int64} (h : hM6 o y) (hk : yOk En y) (h4 : y.1 ≠ 4) (hk12 : k < 12) (hb : base.length = 12) (hB : zB S 2 = o.2.2.1.take k ++ base.drop k) : ∃ x, o.2.2.1[k]? = some x ∧ rC_copied_61 gi ga ne sn N k24 o (Int32.ofNat k) S = k24 o (Int32.ofNat (k + 1)) (zsB S 2 (o.2.2.1.take (k + 1) ++ base.drop (k + 1))) := by
  obtain ⟨h, l1, l2, l3⟩ := h
  obtain ⟨x, hx⟩ : ∃ x, o.2.2.1[k]? = some x := ⟨_, List.getElem?_eq_getElem (by omega)⟩
  have tk := yi_nat (i := k) (by omega)
  have tk3 : (Int32.ofNat k).toInt.toNat = k := yi_toNat (by omega)
  refine ⟨x, hx, ?_⟩
  have e1 : gI o.2.2.1 (Int32.ofNat k) = some x := by rw [gI_nat (by omega)]; exact hx
  have hs := h.s hk
  rw [rC_copied_61, e1]
  show (if zok (zB S 2) (Int32.ofNat k) then _ else none) = _
  rw [if_pos ⟨by rw [tk]; omega, by rw [tk, hB, tk_len (by omega), hb]; omega⟩, if_pos, yi_add1]
  · rw [zs, tk3, hB, tk_setG (by omega) (by omega) hx]
  · intro h5
    rw [h5] at hs
    have : (4 : Int32).toInt = 4 := rfl
    omega
theorem o1_ne (h : hM o y) (hk : yOk En y) {c : Nat} (hc : c < 100) (hn : y.1 ≠ c) : o.1 ≠ Int32.ofNat c := by
  intro h5
  have hs := h.s hk
  rw [h5, yi_nat (by omega)] at hs
  omega
theorem o1_eq (h : hM o y) {c : Nat} (hn : y.1 = c) : o.1 = Int32.ofNat c := by rw [h.1, hn]
/-- all items over, as they are -/
theorem cp_24a {base : List Int64} (h : hM6 o y) (hk : yOk En y) (h4 : y.1 ≠ 4) (hb : base.length = 12) : ∀ (m k n : Nat) (S : zS), (zI S 0 ≠ 6 ∨ y.1 ≠ 5) → k + m = osz y → m < n → zB S 2 = o.2.2.1.take k ++ base.drop k → ∃ S', rC_copied_24 gi ga ne sn N n o (Int32.ofNat k) S = some (Int32.ofNat (osz y), S') ∧ zB S' 2 = o.2.2.1.take (osz y) ++ base.drop (osz y) ∧ (∀ i, zI S' i = zI S i) ∧ ∀ i, zA S' i = zA S i
  | _, _, 0, _, _, _, hn, _ => by omega
  | 0, k, n + 1, S, hno, hm, _, hB => by
    have h12 := osz_12 hk
    have hk2 : k = osz y := by omega
    subst hk2
    refine ⟨S, ?_, hB, fun _ => rfl, fun _ => rfl⟩
    rw [rC_copied_24, if_pos (by rw [h.1.n hk, yi_nat (by omega)]; omega), h.1.2.1]
  | m + 1, k, n + 1, S, hno, hm, hn, hB => by
    have h12 := osz_12 hk
    obtain ⟨x, hx, e⟩ := cp_61 (gi := gi) (ga := ga) (ne := ne) (sn := sn) (N := N) (k24 := rC_copied_24 gi ga ne sn N n) h hk h4 (by omega) hb hB
    obtain ⟨S', a1, a2, a3, a4⟩ := cp_24a h hk h4 hb m (k + 1) n (zsB S 2 (o.2.2.1.take (k + 1) ++ base.drop (k + 1))) hno (by omega) (by omega) rfl
    refine ⟨S', ?_, a2, a3, a4⟩
    rw [rC_copied_24, if_neg (by rw [h.1.n hk, yi_nat (by omega)]; omega)]
    rcases hno with hno | hno
    · rw [if_pos hno, e, a1]
    · have : o.1 ≠ 5 := o1_ne h.1 hk (c := 5) (by omega) hno
      split
      · rw [e, a1]
      · first
        | rw [e, a1]
        | rw [if_pos this, e, a1]
theorem sg_at {js : List Int32} {v : Int64} {n : Nat} (hsn : sn = En.map Prod.snd ++ js) (hE : En.length ≤ 100) (hn : n < En.length) (hv : v = Int64.ofNat n) : v.toInt = n ∧ ∃ s, gI sn v.toInt32 = some s ∧ sgE En v.toInt32 = s := by
  have e0 : v.toInt = n := by rw [hv, Int64.toInt_ofNat_of_lt (by omega)]
  have e1 : v.toInt32 = Int32.ofNat n := by
    apply Int32.toInt_inj.mp
    rw [yi_nat (by omega), Int64.toInt_toInt32, e0]
    exact Int.bmod_eq_of_le (by omega) (by omega)
  refine ⟨e0, (En.map Prod.snd)[n]'(by rw [List.length_map]; exact hn), ?_, ?_⟩
  · rw [e1, gI_nat (by omega), hsn, List.getElem?_append_left (by rw [List.length_map]; exact hn), List.getElem?_eq_getElem]
  · rw [sgE, e1, gI_nat (by omega), List.getElem?_eq_getElem (by rw [List.length_map]; exact hn)]
    rfl
/-- entries over to signeds, up to one that isn't signed -/
theorem cp_24b {base : List Int64} {js : List Int32} (hsn : sn = En.map Prod.snd ++ js) (hE : En.length ≤ 100) (h : hM6 o y) (hk : yOk En y) (h5 : y.1 = 5) (hb : base.length = 12) : ∀ (r pre : List Int64) (n : Nat) (S : zS), zI S 0 = 6 → y.2.1 = pre ++ r → r.length < n → zB S 2 = o.2.2.1.take pre.length ++ base.drop pre.length → ∃ S', rC_copied_24 gi ga ne sn N n o (Int32.ofNat pre.length) S = some (Int32.ofNat (pre.length + sgK En r), S') ∧ zB S' 2 = o.2.2.1.take (pre.length + sgK En r) ++ base.drop (pre.length + sgK En r) ∧ (∀ i, i ≠ 5 → zI S' i = zI S i) ∧ zI S' 5 = zI S 5 + (if sgK En r < r.length then 1 else 0) ∧ ∀ i, zA S' i = zA S i
  | _, _, 0, _, _, _, hn, _ => by omega
  | [], pre, n + 1, S, h6, hp, _, hB => by
    have h12 := osz_12 hk
    have hz : osz y = y.2.1.length := osz_n4 (by omega)
    rw [List.append_nil] at hp
    refine ⟨S, ?_, hB, fun _ _ => rfl, ?_, fun _ => rfl⟩
    · rw [rC_copied_24, if_pos (by rw [h.1.n hk, yi_nat (by rw [← hp]; omega), hz, hp]; omega), h.1.2.1, hz, hp]
      rfl
    · exact (Int32.add_zero _).symm
  | v :: r, pre, n + 1, S, h6, hp, hn, hB => by
    have h12 := osz_12 hk
    have hz : osz y = y.2.1.length := osz_n4 (by omega)
    have hpl : pre.length < y.2.1.length := by rw [hp, List.length_append, List.length_cons]; omega
    have hv0 : y.2.1[pre.length]? = some v := by rw [hp, List.getElem?_append_right (Nat.le_refl _), Nat.sub_self]; rfl
    have hv : gI o.2.2.1 (Int32.ofNat pre.length) = some v := by
      obtain ⟨jk, hjk⟩ := h.1.2.2.1
      rw [gI_nat (by omega), hjk, List.getElem?_append_left hpl, hv0]
    obtain ⟨x, hx, e⟩ := cp_61 (gi := gi) (ga := ga) (ne := ne) (sn := sn) (N := N) (k24 := rC_copied_24 gi ga ne sn N n) h hk (by omega) (by omega) hb hB
    have hmv := hk.2.2.2.2.1 h5 v (List.mem_of_getElem? hv0)
    have go : (v = -1 ∨ (0 ≤ v.toInt ∧ v.toInt < En.length ∧ ¬ (sgE En v.toInt32).toInt = -9)) → ∃ S', rC_copied_61 gi ga ne sn N (rC_copied_24 gi ga ne sn N n) o (Int32.ofNat pre.length) S = some (Int32.ofNat (pre.length + sgK En (v :: r)), S') ∧ zB S' 2 = o.2.2.1.take (pre.length + sgK En (v :: r)) ++ base.drop (pre.length + sgK En (v :: r)) ∧ (∀ i, i ≠ 5 → zI S' i = zI S i) ∧ zI S' 5 = zI S 5 + (if sgK En (v :: r) < (v :: r).length then 1 else 0) ∧ ∀ i, zA S' i = zA S i := by
      intro hg
      obtain ⟨S', a1, a2, a3, a4, a5⟩ := cp_24b hsn hE h hk h5 hb r (pre ++ [v]) n (zsB S 2 (o.2.2.1.take (pre.length + 1) ++ base.drop (pre.length + 1))) h6 (by rw [hp, List.append_assoc]; rfl) (by rw [List.length_cons] at hn; omega) (by rw [List.length_append]; rfl)
      rw [List.length_append, List.length_singleton] at a1 a2
      have es : sgK En (v :: r) = sgK En r + 1 := by rw [sgK, if_pos hg]
      rw [es, show pre.length + (sgK En r + 1) = pre.length + 1 + sgK En r by omega]
      refine ⟨S', by rw [e, a1], a2, a3, ?_, a5⟩
      rw [a4, List.length_cons]
      show zI S 5 + _ = zI S 5 + _
      by_cases hlt : sgK En r < r.length
      · rw [if_pos hlt, if_pos (by omega)]
      · rw [if_neg hlt, if_neg (by omega)]
    have ho5 : ¬ o.1 ≠ 5 := fun hh => hh (o1_eq h.1 h5)
    have hst : rC_copied_24 gi ga ne sn N (n + 1) o (Int32.ofNat pre.length) S = (if v.toInt < 0 then rC_copied_61 gi ga ne sn N (rC_copied_24 gi ga ne sn N n) o (Int32.ofNat pre.length) S else (zg (gI sn v.toInt32) fun x7 => (if x7 ≠ ((-9) : Int32) then rC_copied_61 gi ga ne sn N (rC_copied_24 gi ga ne sn N n) o (Int32.ofNat pre.length) S else some (Int32.ofNat pre.length, (zsI S 5 ((zI S 5) + 1)))))) := by
      rw [rC_copied_24, if_neg (by rw [h.1.n hk, yi_nat (by omega)]; omega), if_neg (fun hh => hh h6), if_neg ho5, hv]
      rfl
    rw [hst]
    rcases hmv with hm1 | ⟨q, q1, q2⟩
    · rw [if_pos (by rw [hm1, l_m1]; omega)]
      exact go (Or.inl hm1)
    · obtain ⟨e0, sv, e1, e2⟩ := sg_at hsn hE q1 q2
      rw [if_neg (by omega), e1]
      show ∃ S', (if sv ≠ -9 then _ else _) = _ ∧ _
      by_cases hs9 : sv = -9
      · rw [if_neg (fun hh => hh hs9)]
        have es : sgK En (v :: r) = 0 := by
          rw [sgK, if_neg]
          rintro (hh | ⟨_, _, hh⟩)
          · rw [hh, l_m1] at e0
            omega
          · rw [e2, hs9] at hh
            exact hh rfl
        rw [es, Nat.add_zero, if_pos (by rw [List.length_cons]; omega)]
        refine ⟨_, rfl, hB, fun i hi => ?_, rfl, fun _ => rfl⟩
        show zup S.1 5 _ i = S.1 i
        exact zup_ne hi
      · rw [if_pos hs9]
        refine go (Or.inr ⟨by omega, by omega, ?_⟩)
        rw [e2]
        intro hh
        exact hs9 (xi32_eq.mpr hh)
/-- cells of one row over -/
def cpP (y : yO) (k j : Nat) (cs : List Int32) : Prop := cs.length = 36 ∧ ∀ (i : Nat) l (q : Nat) x, (i < k ∨ (i = k ∧ q < j)) → y.2.2[i]? = some (some l) → l[q]? = some x → cs[6 * i + q]? = some x
theorem cp_83 {k24 : zH → Int32 → zS → Option (Int32 × zS)} {k : Nat} {l : List Int32} (h : hM6 o y) (hk : yOk En y) (h4 : y.1 = 4) (hl : y.2.2[k]? = some (some l)) : ∀ (m j n : Nat) (S : zS), j + m = l.length → m < n → cpP y k j (zA S 4) → ∃ S', rC_copied_83 gi ga ne sn N k24 n o (Int32.ofNat k) (Int32.ofNat j) S = k24 o (Int32.ofNat (k + 1)) S' ∧ cpP y (k + 1) 0 (zA S' 4) ∧ (∀ i, zI S' i = zI S i) ∧ (∀ i, i ≠ 4 → zA S' i = zA S i) ∧ ∀ i, zB S' i = zB S i
  | _, _, 0, _, _, hn, _ => by omega
  | m, j, n + 1, S, hm, hn, hP => by
    obtain ⟨_, g6, gl⟩ := hk.2.1 h4
    have hk6 : k < 6 := by have := (List.getElem?_eq_some_iff.mp hl).1; omega
    have l6 := gl l (List.mem_of_getElem? hl)
    have hrs : gI o.2.2.2.1 (Int32.ofNat k) = some (Int32.ofNat l.length) := by
      rw [gI_nat (by omega), h.1.2.2.2.1 k _ hl]
      rfl
    rw [rC_copied_83, hrs]
    show ∃ S', (if (Int32.ofNat l.length).toInt ≤ (Int32.ofNat j).toInt then _ else _) = _ ∧ _
    rw [yi_nat (by omega), yi_nat (by omega), yi_add1]
    by_cases hjl : l.length ≤ j
    · rw [if_pos (by omega)]
      refine ⟨S, rfl, ⟨hP.1, ?_⟩, fun _ => rfl, fun _ _ => rfl, fun _ => rfl⟩
      intro i l2 q x hi h1 h2
      refine hP.2 i l2 q x ?_ h1 h2
      rcases (show i < k ∨ i = k by omega) with hi | hi
      · exact Or.inl hi
      · refine Or.inr ⟨hi, ?_⟩
        subst hi
        rw [hl] at h1
        injection h1 with h1
        injection h1 with h1
        subst h1
        have := (List.getElem?_eq_some_iff.mp h2).1
        omega
    · obtain ⟨x, hx⟩ : ∃ x, l[j]? = some x := ⟨_, List.getElem?_eq_getElem (by omega)⟩
      have hc : gI o.2.2.2.2 (6 * Int32.ofNat k + Int32.ofNat j) = some x := by
        rw [yi_6, gI_nat (by omega)]
        exact h.1.2.2.2.2 k l j x hl hx
      have t36 := yi_nat (i := 6 * k + j) (by omega)
      have t3 : (Int32.ofNat (6 * k + j)).toInt.toNat = 6 * k + j := yi_toNat (by omega)
      rw [if_neg (by omega), hc]
      show ∃ S', (if zok (zA S 4) (6 * Int32.ofNat k + Int32.ofNat j) then _ else none) = _ ∧ _
      rw [yi_6, if_pos ⟨by rw [t36]; omega, by rw [t36, hP.1]; omega⟩, yi_add1, zs, t3]
      obtain ⟨S', a1, a2, a3, a4, a5⟩ := cp_83 (k24 := k24) h hk h4 hl (m - 1) (j + 1) n (zsA S 4 ((zA S 4).set (6 * k + j) x)) (by omega) (by omega) (by
        refine ⟨by show ((zA S 4).set _ _).length = 36; rw [List.length_set]; exact hP.1, ?_⟩
        intro i l2 q x2 hi h1 h2
        show ((zA S 4).set _ _)[6 * i + q]? = _
        have l26 := gl l2 (List.mem_of_getElem? h1)
        have hq := (List.getElem?_eq_some_iff.mp h2).1
        by_cases e : 6 * k + j = 6 * i + q
        · have ei : i = k := by omega
          have eq : q = j := by omega
          subst ei eq
          rw [hl] at h1
          injection h1 with h1
          injection h1 with h1
          subst h1
          rw [hx] at h2
          injection h2 with h2
          subst h2
          rw [List.getElem?_set_self (by rw [hP.1]; omega)]
        · rw [List.getElem?_set_ne e]
          refine hP.2 i l2 q x2 ?_ h1 h2
          rcases hi with hi | ⟨hi, hq2⟩
          · exact Or.inl hi
          · refine Or.inr ⟨hi, ?_⟩
            subst hi
            omega)
      refine ⟨S', a1, a2, a3, ?_, a5⟩
      intro i hi
      rw [a4 i hi]
      exact zup_ne hi
/-- rows over -/
theorem cp_24c {b3 : List Int32} (h : hM6 o y) (hk : yOk En y) (h4 : y.1 = 4) (hN : 6 < N) (hb3 : b3.length = 6) : ∀ (m k n : Nat) (S : zS), zI S 0 = 4 → k + m = osz y → m < n → (zB S 2).length = 12 → zA S 3 = o.2.2.2.1.take k ++ b3.drop k → cpP y k 0 (zA S 4) → ∃ S', rC_copied_24 gi ga ne sn N n o (Int32.ofNat k) S = some (Int32.ofNat (osz y), S') ∧ (zB S' 2).length = 12 ∧ zA S' 3 = o.2.2.2.1.take (osz y) ++ b3.drop (osz y) ∧ cpP y (osz y) 0 (zA S' 4) ∧ (∀ i, zI S' i = zI S i) ∧ zA S' 9 = zA S 9
  | _, _, 0, _, _, _, hn, _, _, _ => by omega
  | 0, k, n + 1, S, h0, hm, _, hB, h3, hP => by
    have h12 := osz_12 hk
    have hk2 : k = osz y := by omega
    subst hk2
    refine ⟨S, ?_, hB, h3, hP, fun _ => rfl, rfl⟩
    rw [rC_copied_24, if_pos (by rw [h.1.n hk, yi_nat (by omega)]; omega), h.1.2.1]
  | m + 1, k, n + 1, S, h0, hm, hn, hB, h3, hP => by
    obtain ⟨g1, g6, gl⟩ := hk.2.1 h4
    have hz : osz y = y.2.2.length := osz4 h4
    obtain ⟨h1, l1, l2, l3⟩ := id h
    have tk := yi_nat (i := k) (by omega)
    have tk3 : (Int32.ofNat k).toInt.toNat = k := yi_toNat (by omega)
    obtain ⟨x, hx⟩ : ∃ x, o.2.2.1[k]? = some x := ⟨_, List.getElem?_eq_getElem (by omega)⟩
    obtain ⟨rw0, hrw⟩ : ∃ rw0, y.2.2[k]? = some rw0 := ⟨_, List.getElem?_eq_getElem (by omega)⟩
    have hrz := h1.2.2.2.1 k rw0 hrw
    have e1 : gI o.2.2.1 (Int32.ofNat k) = some x := by rw [gI_nat (by omega)]; exact hx
    have e2 : gI o.2.2.2.1 (Int32.ofNat k) = some (rsz rw0) := by rw [gI_nat (by omega)]; exact hrz
    have hst : rC_copied_24 gi ga ne sn N (n + 1) o (Int32.ofNat k) S = rC_copied_83 gi ga ne sn N (rC_copied_24 gi ga ne sn N n) N o (Int32.ofNat k) 0 (zsA (zsB S 2 ((zB S 2).set k x)) 3 (o.2.2.2.1.take (k + 1) ++ b3.drop (k + 1))) := by
      rw [rC_copied_24, if_neg (by rw [h1.n hk, yi_nat (by omega)]; omega), if_pos (by rw [h0]; decide), rC_copied_61, e1]
      show (if zok (zB S 2) (Int32.ofNat k) then _ else none) = _
      rw [if_pos ⟨by rw [tk]; omega, by rw [tk, hB]; omega⟩, if_neg (fun hh => hh (o1_eq h1 h4)), e2]
      show (if zok (zA S 3) (Int32.ofNat k) then _ else none) = _
      rw [if_pos ⟨by rw [tk]; omega, by rw [tk, h3, tk_len (by omega), hb3]; omega⟩, zs, zs, tk3, h3, tk_setG (by omega) (by omega) hrz]
    have cont : ∃ S1, rC_copied_83 gi ga ne sn N (rC_copied_24 gi ga ne sn N n) N o (Int32.ofNat k) 0 (zsA (zsB S 2 ((zB S 2).set k x)) 3 (o.2.2.2.1.take (k + 1) ++ b3.drop (k + 1))) = rC_copied_24 gi ga ne sn N n o (Int32.ofNat (k + 1)) S1 ∧ cpP y (k + 1) 0 (zA S1 4) ∧ (∀ i, zI S1 i = zI S i) ∧ zA S1 3 = o.2.2.2.1.take (k + 1) ++ b3.drop (k + 1) ∧ zA S1 9 = zA S 9 ∧ (zB S1 2).length = 12 := by
      cases rw0 with
      | none =>
        obtain ⟨nn, rfl⟩ : ∃ nn, N = nn + 1 := ⟨N - 1, by omega⟩
        refine ⟨zsA (zsB S 2 ((zB S 2).set k x)) 3 (o.2.2.2.1.take (k + 1) ++ b3.drop (k + 1)), ?_, ⟨hP.1, ?_⟩, fun _ => rfl, rfl, rfl, ?_⟩
        · have zgs : ∀ {α β : Type} (a : α) (f : α → Option β), zg (some a) f = f a := fun _ _ => rfl
          rw [rC_copied_83, e2, zgs, if_pos (by decide), yi_add1]
        · intro i l q x2 hi h5 h6
          refine hP.2 i l q x2 ?_ h5 h6
          rcases (show i < k ∨ i = k by omega) with hi | hi
          · exact Or.inl hi
          · subst hi
            rw [hrw] at h5
            injection h5 with h5
            cases h5
        · show ((zB S 2).set k x).length = 12
          rw [List.length_set]; exact hB
      | some l =>
        have l6 := gl l (List.mem_of_getElem? hrw)
        obtain ⟨S1, a1, a2, a3, a4, a5⟩ := cp_83 (gi := gi) (ga := ga) (ne := ne) (sn := sn) (N := N) (k24 := rC_copied_24 gi ga ne sn N n) h hk h4 hrw l.length 0 N (zsA (zsB S 2 ((zB S 2).set k x)) 3 (o.2.2.2.1.take (k + 1) ++ b3.drop (k + 1))) (by omega) (by omega) hP
        refine ⟨S1, a1, a2, a3, ?_, ?_, ?_⟩
        · rw [a4 3 (by omega)]; rfl
        · rw [a4 9 (by omega)]; rfl
        · rw [a5]
          show ((zB S 2).set k x).length = 12
          rw [List.length_set]; exact hB
    obtain ⟨S1, c1, c2, c3, c4, c5, c6⟩ := cont
    obtain ⟨S', a1, a2, a3, a4, a5, a6⟩ := cp_24c h hk h4 hN hb3 m (k + 1) n S1 ((c3 0).trans h0) (by omega) (by omega) c6 c4 c2
    refine ⟨S', by rw [hst, c1, a1], a2, a3, a4, fun i => (a5 i).trans (c3 i), a6.trans c5⟩
/-- an answer copied to one that is cleared -/
theorem r_copied {js : List Int32} (hsn : sn = En.map Prod.snd ++ js) (hE : En.length ≤ 100) (hN : 12 < N) (h : hM6 o y) (hk : yOk En y) (h0 : zI S 0 = Int32.ofNat y.1) (h1 : zI S 1 = Int32.ofNat (osz y)) (hB : zB S 2 = List.replicate 12 (newv (Int32.ofNat y.1))) (h3 : (zA S 3).length = 6) (h4 : (zA S 4).length = 36) : ∃ S', rC_copied gi ga ne sn N o kd S = some (Int32.ofNat (cryR En kd y).2.1, S') ∧ thV S' (cryR En kd y).1 ∧ zI S' 5 = zI S 5 + (cryR En kd y).2.2 := by
  have h12 := osz_12 hk
  have o1 := yi_nat (i := y.1) (by have := hk.1; omega)
  by_cases g5 : y.1 = 5 ∧ kd = 9
  · obtain ⟨e5, e9⟩ := g5
    have hz : osz y = y.2.1.length := osz_n4 (by omega)
    have hle := sgK_le (En := En) y.2.1
    obtain ⟨S', a1, a2, a3, a4, a5⟩ := cp_24b (gi := gi) (ga := ga) (ne := ne) (N := N) (base := List.replicate 12 (newv (Int32.ofNat y.1))) hsn hE h hk e5 (by simp) y.2.1 [] N (zsI S 0 6) rfl rfl (by omega) hB
    rw [List.length_nil, Nat.zero_add] at a1 a2
    have hcr : cryR En kd y = ((6, y.2.1.take (sgK En y.2.1) ++ List.replicate (y.2.1.length - sgK En y.2.1) (-1), []), sgK En y.2.1, if sgK En y.2.1 < y.2.1.length then 1 else 0) := by rw [cryR, if_pos ⟨e5, e9⟩]
    refine ⟨S', ?_, ?_, ?_⟩
    · rw [rC_copied, if_neg (fun hh => hh (o1_eq h.1 e5)), if_neg (fun hh => hh e9), hcr]
      exact a1
    · rw [hcr]
      obtain ⟨jk, hjk⟩ := h.1.2.2.1
      refine ⟨a3 0 (by omega), ?_, ⟨List.replicate (12 - y.2.1.length) (-1), ?_, ?_⟩, by rw [a5]; exact h3, by rw [a5]; exact h4, ?_, ?_⟩
      · rw [a3 1 (by omega)]
        show zI S 1 = _
        rw [h1, hz, osz_n4 (show (6 : Nat) ≠ 4 by decide)]
        show _ = Int32.ofNat (y.2.1.take (sgK En y.2.1) ++ List.replicate (y.2.1.length - sgK En y.2.1) (-1)).length
        rw [List.length_append, List.length_take, List.length_replicate]
        congr 1; omega
      · rw [a2, hjk, List.take_append_of_le_length (by omega), List.drop_replicate, e5]
        show _ ++ List.replicate (12 - sgK En y.2.1) (-1 : Int64) = (y.2.1.take (sgK En y.2.1) ++ List.replicate (y.2.1.length - sgK En y.2.1) (-1)) ++ _
        rw [List.append_assoc, List.replicate_append_replicate]
        congr 2; omega
      · show (y.2.1.take (sgK En y.2.1) ++ List.replicate (y.2.1.length - sgK En y.2.1) (-1)).length + _ = 12
        rw [List.length_append, List.length_take, List.length_replicate, List.length_replicate]; omega
      · intro i r hr
        cases hr
      · intro i l j x hr
        cases hr
    · rw [hcr, a4]; rfl
  · have e10 : rC_copied gi ga ne sn N o kd S = rC_copied_10 gi ga ne sn N o kd S := by
      rw [rC_copied]
      split
      · rfl
      · rename_i h5
        have h5 : o.1 = 5 := Decidable.not_not.mp h5
        rw [if_pos]
        intro e9
        refine g5 ⟨?_, e9⟩
        have := h.1.s hk
        rw [h5, show (5 : Int32).toInt = 5 from rfl] at this
        omega
    by_cases g6 : y.1 = 6 ∧ kd = 8
    · obtain ⟨e6, e8⟩ := g6
      have hz : osz y = y.2.1.length := osz_n4 (by omega)
      obtain ⟨S', a1, a2, a3, a4⟩ := cp_24a (gi := gi) (ga := ga) (ne := ne) (sn := sn) (N := N) (base := List.replicate 12 (newv (Int32.ofNat y.1))) h hk (by omega) (by simp) (osz y) 0 N (zsI S 0 5) (Or.inl (by show (5 : Int32) ≠ 6; decide)) (by omega) (by omega) hB
      have hcr : cryR En kd y = ((5, y.2.1, []), osz y, 0) := by rw [cryR, if_neg g5, if_pos ⟨e6, e8⟩]
      obtain ⟨jk, hjk⟩ := h.1.2.2.1
      refine ⟨S', ?_, ?_, ?_⟩
      · rw [e10, rC_copied_10, if_neg (fun hh => hh (o1_eq h.1 e6)), if_neg (fun hh => hh e8), hcr]
        exact a1
      · rw [hcr]
        refine ⟨a3 0, ?_, ⟨List.drop (osz y) (List.replicate 12 (newv (Int32.ofNat y.1))), ?_, ?_⟩, by rw [a4]; exact h3, by rw [a4]; exact h4, ?_, ?_⟩
        · rw [a3 1]
          show zI S 1 = _
          rw [h1, hz]
          rfl
        · rw [a2, hjk, hz, List.take_append_of_le_length (Nat.le_refl _), List.take_length]
        · show y.2.1.length + _ = 12
          rw [List.length_drop, List.length_replicate]; omega
        · intro i r hr
          cases hr
        · intro i l j x hr
          cases hr
      · rw [hcr, a3 5]; exact (Int32.add_zero _).symm
    · have hcr : cryR En kd y = (y, osz y, 0) := by rw [cryR, if_neg g5, if_neg g6]
      have e24 : rC_copied gi ga ne sn N o kd S = rC_copied_24 gi ga ne sn N N o 0 (zsI S 0 o.1) := by
        rw [e10, rC_copied_10]
        split
        · rfl
        · rename_i h6
          have h6 : o.1 = 6 := Decidable.not_not.mp h6
          rw [if_pos]
          intro e8
          refine g6 ⟨?_, e8⟩
          have := h.1.s hk
          rw [h6, show (6 : Int32).toInt = 6 from rfl] at this
          omega
      have z0 : zI (zsI S 0 o.1) 0 = Int32.ofNat y.1 := h.1.1
      rw [hcr]
      by_cases h44 : y.1 = 4
      · have hz : osz y = y.2.2.length := osz4 h44
        obtain ⟨g1, gg6, gl⟩ := hk.2.1 h44
        obtain ⟨S', a1, a2, a3, a4, a5, a6⟩ := cp_24c (gi := gi) (ga := ga) (ne := ne) (sn := sn) (N := N) (b3 := zA S 3) h hk h44 (by omega) h3 (osz y) 0 N (zsI S 0 o.1) (by rw [z0, h44]; rfl) (by omega) (by omega) (by show (zB S 2).length = 12; rw [hB, List.length_replicate]) rfl ⟨h4, fun i l q x hi => by omega⟩
        refine ⟨S', by rw [e24]; exact a1, ?_, ?_⟩
        · refine ⟨(a5 0).trans z0, ?_, ⟨zB S' 2, by rw [g1]; rfl, by rw [g1, a2]; rfl⟩, ?_, a4.1, ?_, ?_⟩
          · rw [a5 1]; exact h1
          · rw [a3, List.length_append, List.length_take, List.length_drop, h.2.2.1, h3]; omega
          · intro i r hr
            have hr : y.2.2[i]? = some r := hr
            have hi := (List.getElem?_eq_some_iff.mp hr).1
            rw [a3, List.getElem?_append_left (by rw [List.length_take, h.2.2.1]; omega), List.getElem?_take_of_lt (by omega)]
            exact h.1.2.2.2.1 i r hr
          · intro i l j x hr hx
            have hr : y.2.2[i]? = some (some l) := hr
            exact a4.2 i l j x (Or.inl (by have := (List.getElem?_eq_some_iff.mp hr).1; omega)) hr hx
        · rw [a5 5]; exact (Int32.add_zero _).symm
      · have hz : osz y = y.2.1.length := osz_n4 h44
        obtain ⟨S', a1, a2, a3, a4⟩ := cp_24a (gi := gi) (ga := ga) (ne := ne) (sn := sn) (N := N) (base := List.replicate 12 (newv (Int32.ofNat y.1))) h hk h44 (by simp) (osz y) 0 N (zsI S 0 o.1) (by
          by_cases e5 : y.1 = 5
          · refine Or.inl ?_
            rw [z0, e5]
            decide
          · exact Or.inr e5) (by omega) (by omega) hB
        obtain ⟨jk, hjk⟩ := h.1.2.2.1
        refine ⟨S', by rw [e24]; exact a1, ?_, ?_⟩
        · refine ⟨(a3 0).trans z0, ?_, ⟨List.drop (osz y) (List.replicate 12 (newv (Int32.ofNat y.1))), ?_, ?_⟩, by rw [a4]; exact h3, by rw [a4]; exact h4, ?_, ?_⟩
          · rw [a3 1]; exact h1
          · rw [a2, hjk, hz, List.take_append_of_le_length (Nat.le_refl _), List.take_length]
          · show y.2.1.length + _ = 12
            rw [List.length_drop, List.length_replicate]; omega
          · intro i r hr
            rw [(hk.2.2.1 h44).1] at hr
            cases hr
          · intro i l j x hr
            rw [(hk.2.2.1 h44).1] at hr
            cases hr
        · rw [a3 5]; exact (Int32.add_zero _).symm
end COPIED
