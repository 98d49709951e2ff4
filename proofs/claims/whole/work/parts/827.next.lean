/-! SEARCH: the next filling; the class -/
/-- a row, its first places by a list that has the last first -/
def arr (r : List Nat) (t : List Int32) : List Int32 := r.reverse.map Int32.ofNat ++ t
theorem arr_cons {s : Nat} {r : List Nat} {t : List Int32} : arr (s :: r) t = arr r (Int32.ofNat s :: t) := by
  unfold arr
  rw [List.reverse_cons, List.map_append, List.append_assoc]
  rfl
theorem arr_len {r : List Nat} {t : List Int32} : (arr r t).length = r.length + t.length := by
  unfold arr
  rw [List.length_append, List.length_map, List.length_reverse]
theorem arr_at {r : List Nat} {x : Int32} {t : List Int32} : (arr r (x :: t))[r.length]? = some x := by
  unfold arr
  rw [List.getElem?_append_right (by rw [List.length_map, List.length_reverse]; exact Nat.le_refl _), List.length_map, List.length_reverse, Nat.sub_self]
  rfl
theorem arr_get {r : List Nat} {x : Int32} {t : List Int32} (h : r.length < 2147483648) : gI (arr r (x :: t)) (Int32.ofNat r.length) = some x := by rw [gI_nat h, arr_at]
theorem arr_ok {r : List Nat} {x : Int32} {t : List Int32} (h : r.length < 2147483648) : zok (arr r (x :: t)) (Int32.ofNat r.length) := by
  refine ⟨by rw [yi_nat h]; omega, ?_⟩
  rw [yi_nat h, arr_len, List.length_cons]
  omega
theorem arr_put {r : List Nat} {x v : Int32} {t : List Int32} (h : r.length < 2147483648) : zs (arr r (x :: t)) (Int32.ofNat r.length) v = arr r (v :: t) := by
  unfold zs arr
  rw [yi_toNat h, List.set_append_right _ _ (by rw [List.length_map, List.length_reverse]; exact Nat.le_refl _), List.length_map, List.length_reverse, Nat.sub_self]
  rfl
theorem arr_split {r : List Nat} {t : List Int32} {n : Nat} (h : (arr r t).length = n) (hn : r.length < n) : ∃ x t', t = x :: t' := by
  rw [arr_len] at h
  cases t with
  | nil => rw [List.length_nil] at h; omega
  | cons x t' => exact ⟨x, t', rfl⟩
/-- the place of a row's last -/
def idx (k : Nat) : Int32 := Int32.ofNat k - 1
theorem idx_s {k : Nat} : idx (k + 1) = Int32.ofNat k := yi_s1 k
theorem idx_p {k : Nat} : Int32.ofNat k + (-1) = idx k := by
  unfold idx
  rw [Int32.sub_eq_add_neg]
theorem zg_s {α β : Type} {a : α} {f : α → Option β} : zg (some a) f = f a := rfl
theorem zb_s {α β : Type} {a : α} {S : zS} {f : α → zS → Option β} : zb (some (a, S)) f = f a S := rfl
theorem idx_0 : (idx 0).toInt = -1 := by decide
/-- the choices of parts with so many candidates: the next -/
def advR (mn : Nat → Nat) : List Nat → List Nat → Option (List Nat)
  | s :: ss, c :: cs => if c + 1 < mn s then some ((c + 1) :: cs) else (advR mn ss cs).map (fun l => 0 :: l)
  | _, _ => none
/-- so many places more, each one up -/
def extR (l : List Nat) : Nat → List Nat
  | 0 => l
  | t + 1 => extR ((l.headD 0 + 1) :: l) t
/-- the next set of places -/
def nxR (pc : Nat) : Nat → List Nat → Option (List Nat)
  | _, [] => none
  | t, s :: ss => if s < pc - t - 1 then some (extR ((s + 1) :: ss) t) else nxR pc (t + 1) ss
/-- the first places -/
def rgR : Nat → List Nat
  | 0 => []
  | n + 1 => n :: rgR n
theorem rgR_len : ∀ n, (rgR n).length = n
  | 0 => rfl
  | n + 1 => by rw [rgR, List.length_cons, rgR_len n]
theorem extR_len : ∀ (t : Nat) (l : List Nat), (extR l t).length = l.length + t
  | 0, _ => rfl
  | t + 1, l => by rw [extR, extR_len t, List.length_cons]; omega
theorem nxR_len {pc : Nat} : ∀ (ss : List Nat) (t : Nat) (r : List Nat), nxR pc t ss = some r → r.length = ss.length + t
  | [], _, _, h => by cases h
  | s :: ss, t, r, h => by
    rw [nxR] at h
    split at h
    · injection h with h
      rw [← h, extR_len, List.length_cons, List.length_cons]
    · rw [nxR_len ss (t + 1) r h, List.length_cons]; omega
theorem advR_len {mn : Nat → Nat} : ∀ (ss cs : List Nat) (r : List Nat), advR mn ss cs = some r → r.length = cs.length
  | [], _, _, h => by cases h
  | _ :: _, [], _, h => by cases h
  | s :: ss, c :: cs, r, h => by
    rw [advR] at h
    split at h
    · injection h with h
      rw [← h]; rfl
    · rcases hr : advR mn ss cs with _ | q
      · rw [hr] at h; cases h
      · rw [hr] at h
        injection h with h
        rw [← h]
        show q.length + 1 = cs.length + 1
        rw [advR_len ss cs q hr]
/-- the next filling: which parts, by which candidates -/
def advS (mn : Nat → Nat) (pc : Nat) (sr cr : List Nat) : Option (List Nat × List Nat) := match advR mn sr cr with
  | some c => some (sr, c)
  | none => match nxR pc 0 sr with
    | some s => some (s, List.replicate sr.length 0)
    | none => if sr.length < pc then some (rgR (sr.length + 1), List.replicate (sr.length + 1) 0) else none
/-- how many candidates a part has -/
def mnP (P : yPt) : Nat := if P.1 = 1 ∨ P.1 = 3 then (if P.2.2.2.1 = P.2.2.2.2.1 then 1 else 2) else if P.1 = 4 then P.2.2.2.2.2.1.toInt.toNat else 2
/-- .. the part at a place of the places -/
def mnF (F : yF) (pl : List Nat) (s : Nat) : Nat := ((pl[s]?).bind (fun p => (F.1[p]?).map mnP)).getD 0
/-- parts with candidates -/
def plF (F : yF) : Nat → Nat → List Nat
  | 0, _ => []
  | k + 1, p => (match F.1[p]? with | some P => if P.1.toInt ≤ 5 then [p] else [] | none => []) ++ plF F k (p + 1)
section NEXTC
variable {gi : Nat → Int32} {ga : Nat → List Int32} {N : Nat} {F : yF}
/-- the search of the class: all but one row stay -/
def fr1 (i : Nat) (S S' : zS) : Prop := (∀ j, zI S' j = zI S j) ∧ ∀ j, j ≠ i → zA S' j = zA S j
theorem fr1.rf {i : Nat} {S : zS} : fr1 i S S := ⟨fun _ => rfl, fun _ _ => rfl⟩
theorem fr1.tr {i : Nat} {A B C : zS} (h : fr1 i A B) (k : fr1 i B C) : fr1 i A C := ⟨fun j => (k.1 j).trans (h.1 j), fun j hj => (k.2 j hj).trans (h.2 j hj)⟩
theorem fr1.st {i : Nat} {S : zS} {v : List Int32} : fr1 i S (zsA S i v) := ⟨fun _ => rfl, fun _ hj => zup_ne hj⟩
theorem c_choicesOf (hF : fC2 F gi ga) (hok : yFok F) {p : Nat} {P : yPt} (hP : F.1[p]? = some P) (hk : P.1.toInt ≤ 5) {S : zS} : cS_choicesOf gi ga N (Int32.ofNat p) S = some (Int32.ofNat (mnP P), S) := by
  obtain ⟨fe, _, _, _, _, hl20, _, _, _, hok9⟩ := hok
  have hp : p < F.1.length := (List.getElem?_eq_some_iff.mp hP).1
  have hq := hok9 p P hP
  have e1 : gI (ga 1) (Int32.ofNat p) = some P.1 := by rw [gI_nat (by omega)]; exact hF.1.2.2.1 p P hP
  have h11 : P.1 ≠ 11 := by
    intro h; rw [h] at hk; exact absurd hk (by decide)
  obtain ⟨_, _, g3, _⟩ := hF.2.2.1 p P hP
  obtain ⟨g4, g5, g6⟩ := g3 h11
  have e4 : gI (ga 4) (Int32.ofNat p) = some P.2.2.2.1 := by rw [gI_nat (by omega)]; exact g4
  have e5 : gI (ga 5) (Int32.ofNat p) = some P.2.2.2.2.1 := by rw [gI_nat (by omega)]; exact g5
  have e6 : gI (ga 6) (Int32.ofNat p) = some P.2.2.2.2.2.1 := by rw [gI_nat (by omega)]; exact g6
  have two : cS_choicesOf_6 gi ga N (Int32.ofNat p) S = some (Int32.ofNat (if P.2.2.2.1 = P.2.2.2.2.1 then 1 else 2), S) := by
    rw [cS_choicesOf_6, e4]
    show (zg (gI (ga 5) (Int32.ofNat p)) fun x3 => if P.2.2.2.1 ≠ x3 then some (2, S) else some (1, S)) = _
    rw [e5]
    show (if P.2.2.2.1 ≠ P.2.2.2.2.1 then some ((2 : Int32), S) else some (1, S)) = _
    by_cases e : P.2.2.2.1 = P.2.2.2.2.1
    · rw [if_neg (fun h => h e), if_pos e]; rfl
    · rw [if_pos e, if_neg e]; rfl
  rw [cS_choicesOf, e1, zg_s]
  by_cases k1 : P.1 = 1
  · have : mnP P = if P.2.2.2.1 = P.2.2.2.2.1 then 1 else 2 := by unfold mnP; rw [if_pos (Or.inl k1)]
    rw [if_pos k1, two, this]
  · rw [if_neg k1]
    by_cases k3 : P.1 = 3
    · have : mnP P = if P.2.2.2.1 = P.2.2.2.2.1 then 1 else 2 := by unfold mnP; rw [if_pos (Or.inr k3)]
      rw [if_pos k3, two, this]
    · have hm : mnP P = if P.1 = 4 then P.2.2.2.2.2.1.toInt.toNat else 2 := by unfold mnP; rw [if_neg (fun h => Or.elim h k1 k3)]
      rw [if_neg k3, hm]
      by_cases k4 : P.1 = 4
      · rw [if_pos k4, if_pos k4, e6, zg_s]
        obtain ⟨_, _, _, _, _, _, _, _, _, _, _, hw, _⟩ := hq
        rw [yi_id hw.1]
      · rw [if_neg k4, if_neg k4]; rfl
/-- the choices go on, or all are 0 -/
theorem c_adv (hF : fC2 F gi ga) (hok : yFok F) {pl : List Nat} {j5 : List Int32} (hpl : pl.length ≤ 8) (hpk : ∀ p ∈ pl, ∃ P, F.1[p]? = some P ∧ P.1.toInt ≤ 5) : ∀ (ss cs : List Nat) (n : Nat) (S : zS) (t6 t7 : List Int32), ss.length = cs.length → ss.length < n → ss.length ≤ 8 → (∀ s ∈ ss, s < pl.length) → (∀ c ∈ cs, c < 8) → zA S 5 = pl.map Int32.ofNat ++ j5 → zA S 6 = arr ss t6 → zA S 7 = arr cs t7 → match advR (mnF F pl) ss cs with
    | some r => ∃ S', cS_advance_5 gi ga N n (idx ss.length) S = some (1, S') ∧ zA S' 7 = arr r t7 ∧ fr1 7 S S'
    | none => ∃ S' n', 0 < n' ∧ cS_advance_5 gi ga N n (idx ss.length) S = cS_advance_5 gi ga N n' (idx 0) S' ∧ zA S' 7 = arr (List.replicate cs.length 0) t7 ∧ fr1 7 S S'
  | [], cs, n, S, t6, t7, hl, hn, _, _, _, _, _, h7 => by
    have : cs = [] := List.length_eq_zero_iff.mp hl.symm
    subst this
    exact ⟨S, n, by omega, rfl, h7, fr1.rf⟩
  | s :: ss, [], _, _, _, _, hl, _, _, _, _, _, _, _ => by cases hl
  | s :: ss, c :: cs, 0, _, _, _, _, hn, _, _, _, _, _, _ => by omega
  | s :: ss, c :: cs, n + 1, S, t6, t7, hl, hn, h8, hs, hcs, h5, h6, h7 => by
    rw [List.length_cons] at hn h8
    have hl : ss.length = cs.length := Nat.succ.inj hl
    have hsl := hs s List.mem_cons_self
    obtain ⟨p, hp⟩ : ∃ p, pl[s]? = some p := ⟨_, List.getElem?_eq_getElem hsl⟩
    obtain ⟨P, hP, hPk⟩ := hpk p (List.mem_of_getElem? hp)
    have hmn : mnF F pl s = mnP P := by rw [mnF, hp, Option.bind_some, hP]; rfl
    rw [arr_cons] at h6 h7
    have e7 : gI (zA S 7) (Int32.ofNat ss.length) = some (Int32.ofNat c) := by rw [h7, hl]; exact arr_get (by omega)
    have e6 : gI (zA S 6) (Int32.ofNat ss.length) = some (Int32.ofNat s) := by rw [h6]; exact arr_get (by omega)
    have e5 : gI (zA S 5) (Int32.ofNat s) = some (Int32.ofNat p) := by
      rw [gI_nat (by omega), h5, List.getElem?_append_left (by rw [List.length_map]; exact hsl), List.getElem?_map, hp]; rfl
    have hpc := (List.getElem?_eq_some_iff.mp hP).1
    have hc8 := hcs c List.mem_cons_self
    have hmp : mnP P ≤ 8 := by
      obtain ⟨fe, _, _, _, _, hl20, _, _, _, hok9⟩ := hok
      obtain ⟨_, _, _, _, _, _, _, _, _, _, _, hw, _⟩ := hok9 p P hP
      unfold mnP
      split
      · split <;> omega
      · split <;> omega
    have hst : cS_advance_5 gi ga N (n + 1) (Int32.ofNat ss.length) S = (if (Int32.ofNat (mnP P)).toInt ≤ (Int32.ofNat c + 1).toInt then (if zok (zA S 7) (Int32.ofNat ss.length) then (cS_advance_5 gi ga N n) (Int32.ofNat ss.length + (-1)) (zsA S 7 (zs (zA S 7) (Int32.ofNat ss.length) 0)) else none) else (if zok (zA S 7) (Int32.ofNat ss.length) then some (1, (zsA S 7 (zs (zA S 7) (Int32.ofNat ss.length) (Int32.ofNat c + 1)))) else none)) := by
      rw [cS_advance_5, if_neg (by rw [yi_nat (by omega)]; omega), e7, zg_s, e6, zg_s, e5, zg_s, c_choicesOf hF hok hP hPk, zb_s, e7, zg_s]
    rw [List.length_cons, idx_s, hst, yi_add1, yi_nat (by omega), yi_nat (by omega), advR, hmn]
    have h7' : zA S 7 = arr cs (Int32.ofNat c :: t7) := h7
    by_cases hlt : c + 1 < mnP P
    · rw [if_pos hlt, if_neg (by omega), hl, h7', if_pos (arr_ok (by omega)), arr_put (by omega)]
      exact ⟨_, rfl, by rw [arr_cons]; rfl, fr1.st⟩
    · rw [if_neg hlt, if_pos (by omega), hl, h7', if_pos (arr_ok (by omega)), arr_put (by omega), idx_p]
      have ih := c_adv hF hok hpl hpk ss cs n (zsA S 7 (arr cs (0 :: t7))) (Int32.ofNat s :: t6) (0 :: t7) hl (by omega) (by omega) (fun s hs2 => hs s (List.mem_cons_of_mem _ hs2)) (fun c hc2 => hcs c (List.mem_cons_of_mem _ hc2)) h5 h6 rfl
      rw [hl] at ih
      rcases hr : advR (mnF F pl) ss cs with _ | r
      · rw [hr] at ih
        obtain ⟨S', n', a0, a1, a2, a3⟩ := ih
        refine ⟨S', n', a0, a1, ?_, fr1.st.tr a3⟩
        rw [a2, List.length_cons, List.replicate_succ, arr_cons]
        rfl
      · rw [hr] at ih
        obtain ⟨S', a1, a2, a3⟩ := ih
        refine ⟨S', a1, ?_, fr1.st.tr a3⟩
        rw [a2]
        show arr r (0 :: t7) = arr (0 :: r) t7
        rw [arr_cons]
        rfl
/-- the places behind one -/
theorem c_31 {m : Nat} : ∀ (t : Nat) (l : List Nat) (n : Nat) (S : zS) (tl : List Int32), l ≠ [] → l.length + t = m → m ≤ 8 → t < n → t ≤ tl.length → zI S 4 = Int32.ofNat m → zA S 6 = arr l tl → ∃ S', cS_nextSet_31 gi ga N n (Int32.ofNat l.length) S = some (1, S') ∧ zA S' 6 = arr (extR l t) (tl.drop t) ∧ fr1 6 S S'
  | _, _, 0, _, _, _, _, _, hn, _, _, _ => by omega
  | 0, l, n + 1, S, tl, hne, hm, h8, _, _, h4, h6 => by
    refine ⟨S, ?_, h6, fr1.rf⟩
    rw [cS_nextSet_31, if_pos]
    rw [h4, yi_nat (by omega), yi_nat (by omega)]; omega
  | t + 1, l, n + 1, S, tl, hne, hm, h8, hn, ht, h4, h6 => by
    obtain ⟨x, tl', rfl⟩ : ∃ x tl', tl = x :: tl' := by
      cases tl with
      | nil => rw [List.length_nil] at ht; omega
      | cons x tl' => exact ⟨x, tl', rfl⟩
    obtain ⟨a, l', rfl⟩ : ∃ a l', l = a :: l' := by
      cases l with
      | nil => exact absurd rfl hne
      | cons a l' => exact ⟨a, l', rfl⟩
    have e1 : gI (zA S 6) (Int32.ofNat (a :: l').length - 1) = some (Int32.ofNat a) := by
      rw [h6, arr_cons, List.length_cons, yi_s1]
      exact arr_get (by rw [List.length_cons] at hm; omega)
    rw [cS_nextSet_31, if_neg (by rw [h4, yi_nat (by omega), yi_nat (by omega)]; omega), e1, zg_s, h6, if_pos (arr_ok (by omega)), arr_put (by omega), yi_add1, yi_add1]
    obtain ⟨S', a1, a2, a3⟩ := c_31 (m := m) t ((a + 1) :: a :: l') n (zsA S 6 (arr (a :: l') (Int32.ofNat (a + 1) :: tl'))) tl' (by simp) (by rw [List.length_cons]; omega) h8 (by omega) (by rw [List.length_cons] at ht; omega) h4 arr_cons.symm
    exact ⟨S', a1, a2, fr1.st.tr a3⟩
theorem yi_subn {a b : Nat} (h : b ≤ a) : Int32.ofNat a - Int32.ofNat b = Int32.ofNat (a - b) := by
  have e : Int32.ofNat a = Int32.ofNat (a - b) + Int32.ofNat b := by rw [← Int32.ofNat_add]; congr 1; omega
  rw [e, Int32.add_sub_cancel]
/-- the next set -/
theorem c_next {m pc : Nat} (hm8 : m ≤ pc) (hpc : pc ≤ 8) (hN : 8 < N) : ∀ (ss : List Nat) (t n : Nat) (S : zS) (tl : List Int32), ss.length + t = m → ss.length < n → t ≤ tl.length → (∀ s ∈ ss, s < pc) → zI S 3 = Int32.ofNat pc → zI S 4 = Int32.ofNat m → zA S 6 = arr ss tl → match nxR pc t ss with
    | some r => ∃ S', cS_nextSet_5 gi ga N n (idx ss.length) S = some (1, S') ∧ zA S' 6 = arr r (tl.drop t) ∧ fr1 6 S S'
    | none => cS_nextSet_5 gi ga N n (idx ss.length) S = some (0, S)
  | _, _, 0, _, _, _, hn, _, _, _, _, _ => by omega
  | [], t, n + 1, S, tl, hm, _, _, _, _, _, _ => by
    show cS_nextSet_5 gi ga N (n + 1) (idx 0) S = some (0, S)
    rw [cS_nextSet_5, if_pos (by rw [idx_0]; decide)]
  | s :: ss, t, n + 1, S, tl, hm, hn, ht, hs, h3, h4, h6 => by
    rw [List.length_cons] at hm hn
    have hsl := hs s List.mem_cons_self
    have h6' := h6
    rw [arr_cons] at h6'
    have e6 : gI (zA S 6) (Int32.ofNat ss.length) = some (Int32.ofNat s) := by rw [h6']; exact arr_get (by omega)
    have hlim : ((zI S 3 - zI S 4) + Int32.ofNat ss.length) = Int32.ofNat (pc - t - 1) := by
      rw [h3, h4, yi_subn hm8, ← Int32.ofNat_add]
      congr 1; omega
    rw [List.length_cons, idx_s, cS_nextSet_5, if_neg (by rw [yi_nat (by omega)]; omega), e6, zg_s, hlim, yi_nat (by omega), yi_nat (by omega), nxR]
    by_cases hlt : s < pc - t - 1
    · rw [if_pos hlt, if_neg (by omega), zg_s, h6', if_pos (arr_ok (by omega)), arr_put (by omega), yi_add1, yi_add1]
      obtain ⟨S', a1, a2, a3⟩ := c_31 (gi := gi) (ga := ga) (N := N) (m := m) t ((s + 1) :: ss) N (zsA S 6 (arr ss (Int32.ofNat (s + 1) :: tl))) tl (by simp) (by rw [List.length_cons]; omega) (by omega) (by omega) ht h4 arr_cons.symm
      exact ⟨S', a1, a2, fr1.st.tr a3⟩
    · rw [if_neg hlt, if_pos (by omega), idx_p]
      have ih := c_next hm8 hpc hN ss (t + 1) n S (Int32.ofNat s :: tl) (by omega) (by omega) (by rw [List.length_cons]; omega) (fun s hs2 => hs s (List.mem_cons_of_mem _ hs2)) h3 h4 h6'
      rcases hr : nxR pc (t + 1) ss with _ | r
      · rw [hr] at ih
        exact ih
      · rw [hr] at ih
        exact ih
/-- the first set of so many -/
theorem c_first {m : Nat} (hm : m ≤ 8) : ∀ (t i n : Nat) (S : zS) (t6 t7 : List Int32), i + t = m → t < n → t ≤ t6.length → t ≤ t7.length → zI S 4 = Int32.ofNat m → zA S 6 = arr (rgR i) t6 → zA S 7 = arr (List.replicate i 0) t7 → ∃ S', cS_firstSet_15 gi ga N n (Int32.ofNat i) S = some (1, S') ∧ zA S' 6 = arr (rgR m) (t6.drop t) ∧ zA S' 7 = arr (List.replicate m 0) (t7.drop t) ∧ (∀ j, zI S' j = zI S j) ∧ ∀ j, j ≠ 6 → j ≠ 7 → zA S' j = zA S j
  | _, _, 0, _, _, _, _, hn, _, _, _, _, _ => by omega
  | 0, i, n + 1, S, t6, t7, hi, _, _, _, h4, h6, h7 => by
    have e : i = m := by omega
    subst e
    refine ⟨S, ?_, h6, h7, fun _ => rfl, fun _ _ _ => rfl⟩
    rw [cS_firstSet_15, if_pos (by rw [h4]; exact Int.le_refl _)]
  | t + 1, i, n + 1, S, t6, t7, hi, hn, l6, l7, h4, h6, h7 => by
    obtain ⟨x, t6', rfl⟩ : ∃ x tl', t6 = x :: tl' := by
      cases t6 with
      | nil => rw [List.length_nil] at l6; omega
      | cons x tl' => exact ⟨x, tl', rfl⟩
    obtain ⟨y, t7', rfl⟩ : ∃ x tl', t7 = x :: tl' := by
      cases t7 with
      | nil => rw [List.length_nil] at l7; omega
      | cons x tl' => exact ⟨x, tl', rfl⟩
    rw [List.length_cons] at l6 l7
    have o6 := arr_ok (r := rgR i) (x := x) (t := t6') (by rw [rgR_len]; omega)
    have o7 := arr_ok (r := List.replicate i 0) (x := y) (t := t7') (by rw [List.length_replicate]; omega)
    have p6 := arr_put (r := rgR i) (x := x) (v := Int32.ofNat i) (t := t6') (by rw [rgR_len]; omega)
    have p7 := arr_put (r := List.replicate i 0) (x := y) (v := 0) (t := t7') (by rw [List.length_replicate]; omega)
    rw [rgR_len] at o6 p6
    rw [List.length_replicate] at o7 p7
    rw [cS_firstSet_15, if_neg (by rw [h4, yi_nat (by omega), yi_nat (by omega)]; omega), h6, if_pos o6, h7, if_pos o7, p6, p7, yi_add1]
    obtain ⟨S', a1, a2, a3, a4, a5⟩ := c_first hm t (i + 1) n (zsA (zsA S 6 (arr (rgR i) (Int32.ofNat i :: t6'))) 7 (arr (List.replicate i 0) (0 :: t7'))) t6' t7' (by omega) (by omega) (by omega) (by omega) h4 arr_cons.symm (by rw [List.replicate_succ]; exact arr_cons.symm)
    refine ⟨S', a1, a2, a3, a4, fun j hj6 hj7 => ?_⟩
    rw [a5 j hj6 hj7]
    show zup (zup S.2.2.2.1 6 _) 7 _ j = S.2.2.2.1 j
    rw [zup_ne hj7, zup_ne hj6]
/-- where the class's search stands -/
def srC (F : yF) (S : zS) (pl sr cr : List Nat) : Prop := zI S 3 = Int32.ofNat pl.length ∧ zI S 4 = Int32.ofNat sr.length ∧ sr.length = cr.length ∧ sr.length ≤ pl.length ∧ pl.length ≤ 8 ∧ ((zA S 5).length = 8 ∧ (zA S 6).length = 8 ∧ (zA S 7).length = 8 ∧ (zA S 8).length = 9) ∧ (∃ j5, zA S 5 = pl.map Int32.ofNat ++ j5) ∧ (∃ t6, zA S 6 = arr sr t6) ∧ (∃ t7, zA S 7 = arr cr t7) ∧ (∀ s ∈ sr, s < pl.length) ∧ (∀ c ∈ cr, c < 8) ∧ ∀ p ∈ pl, ∃ P, F.1[p]? = some P ∧ P.1.toInt ≤ 5
end NEXTC
