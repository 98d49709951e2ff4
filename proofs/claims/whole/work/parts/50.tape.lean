/-! NUMBERS; THE TAPE; feed -/
theorem yle {a b : Nat} (h : Nat.ble a b = true) : a ≤ b := Nat.le_of_ble_eq_true h
theorem yi_nat {i : Nat} (h : i < 2147483648) : (Int32.ofNat i).toInt = i := Int32.toInt_ofNat_of_lt h
theorem yi_add1 (i : Nat) : Int32.ofNat i + 1 = Int32.ofNat (i + 1) := (Int32.ofNat_add i 1).symm
theorem yi_add (i k : Nat) : Int32.ofNat i + Int32.ofNat k = Int32.ofNat (i + k) := (Int32.ofNat_add i k).symm
theorem yi_tn {i : Nat} (h : i < 2147483648) : (Int32.ofNat i).toNatClampNeg = i := Int32.toNatClampNeg_ofNat_of_lt h
theorem yi_nn {i : Nat} (h : i < 2147483648) : ¬ Int32.ofNat i < 0 := by
  rw [Int32.lt_iff_toInt_lt, yi_nat h]
  have : (0 : Int32).toInt = 0 := by decide
  omega
theorem yi_of {x : Int32} (h : 0 ≤ x.toInt) : ∃ m : Nat, m < 2147483648 ∧ x = Int32.ofNat m ∧ x.toInt = m := by
  have h1 := x.toInt_lt
  refine ⟨x.toInt.toNat, by omega, ?_, by omega⟩
  rw [xi32_eq, yi_nat (by omega)]
  omega
theorem yi_sub {x y : Int32} (h : -2147483648 ≤ x.toInt - y.toInt) (h2 : x.toInt - y.toInt < 2147483648) : (x - y).toInt = x.toInt - y.toInt := by
  rw [Int32.toInt_sub]
  exact Int.bmod_eq_of_le (by omega) (by omega)
theorem yi_plus {x y : Int32} (h : -2147483648 ≤ x.toInt + y.toInt) (h2 : x.toInt + y.toInt < 2147483648) : (x + y).toInt = x.toInt + y.toInt := by
  rw [Int32.toInt_add]
  exact Int.bmod_eq_of_le (by omega) (by omega)
theorem yi_mul {x y : Int32} (h : -2147483648 ≤ x.toInt * y.toInt) (h2 : x.toInt * y.toInt < 2147483648) : (x * y).toInt = x.toInt * y.toInt := by
  rw [Int32.toInt_mul]
  exact Int.bmod_eq_of_le (by omega) (by omega)
/-- a byte that is fed; as a byte with a sign -/
def fb (fed : Int64) (k : Nat) : Int32 := (fed >>> ((8 * Int32.ofNat k).toInt64 &&& 63)).toInt32 &&& 255
def sb (x : Int32) : Int32 := x.toInt8.toInt32
def fbs (fed : Int64) : Nat → Nat → List Int32
  | _, 0 => []
  | k, m + 1 => fb fed k :: fbs fed (k + 1) m
theorem fbs_n (fed : Int64) : ∀ (m k : Nat), (fbs fed k m).length = m
  | 0, _ => rfl
  | m + 1, k => by
    show (fbs fed (k + 1) m).length + 1 = m + 1
    rw [fbs_n fed m]
theorem sb_fb (z : Int32) : sb (z &&& 255) = z.toInt8.toInt32 := by
  unfold sb
  congr 1
  rw [Int32.toInt8_and]
  have : (255 : Int32).toInt8 = -1 := by decide
  rw [this, Int8.and_neg_one]
theorem yset_at {α : Type} (t r : List α) (x y : α) : (t ++ x :: r).set t.length y = (t ++ [y]) ++ r := by
  rw [List.set_append_right _ _ (Nat.le_refl _), Nat.sub_self, List.append_assoc]
  rfl
def feedT (t : List Int32) (n : Int32) (fed : Int64) : List Int32 := if n.toInt < 1 ∨ 8 < n.toInt ∨ 1400 < t.length + n.toInt then t else t ++ fbs fed 0 n.toInt.toNat
def feedV (t : List Int32) (n : Int32) : Int32 := if n.toInt < 1 ∨ 8 < n.toInt then -1 else if 1400 < t.length + n.toInt then -3 else Int32.ofNat (t.length + n.toInt.toNat)
theorem mF_loop {X : List Int32} {D0 : List xE} {fr lo c s n : Nat} {fed : Int64} {Q : Option Value → List xE → Prop} : ∀ (m k : Nat) (t r : List Int32), k + m = n → t.length + r.length = 1400 → m ≤ r.length → n ≤ 8 → (∀ r' : List Int32, t.length + m + r'.length = 1400 → Q (some (.int (Int32.ofNat (t.length + m)))) ((209, .inl (14, 1, .int (Int32.ofNat (t.length + m)))) :: (210, .inr (2, ((t ++ fbs fed k m).map sb ++ r').map Value.int)) :: D0)) → yT X fr lo 209 18 [some (.ref 209), some (.int (Int32.ofNat n)), some (.long fed), none, some (.int (Int32.ofNat k))] [] ((209, .inl (14, 1, .int (Int32.ofNat t.length))) :: (210, .inr (2, (t.map sb ++ r).map Value.int)) :: D0) c s Q := by
  intro m
  induction m with
  | zero =>
    intro k t r hk hl hr hn hQ
    have hQ := hQ r
    rw [show fbs fed k 0 = [] from rfl, List.append_nil, Nat.add_zero] at hQ
    refine xt_pure rfl rfl rfl rfl ?_
    refine xt_pure rfl rfl rfl rfl ?_
    refine yt_ic rfl rfl ?_ ?_
    · intro (hb : Int32.toInt _ ≤ Int32.toInt _)
      refine xt_pure rfl rfl rfl rfl ?_
      refine xt_getf rfl rfl (xmD 0 rfl) ?_
      refine xt_iret rfl rfl rfl rfl ?_
      exact hQ (by omega)
    · intro (hb : Int32.toInt _ < Int32.toInt _)
      exfalso
      rw [yi_nat (by omega), yi_nat (by omega)] at hb
      omega
  | succ m ih =>
    intro k t r hk hl hr hn hQ
    obtain ⟨x, r, rfl⟩ : ∃ x r1, r = x :: r1 := by
      cases r with
      | nil => simp at hr
      | cons x r1 => exact ⟨x, r1, rfl⟩
    rw [List.length_cons] at hr hl
    refine xt_pure rfl rfl rfl rfl ?_
    refine xt_pure rfl rfl rfl rfl ?_
    refine yt_ic rfl rfl ?_ ?_
    · intro (hb : Int32.toInt _ ≤ Int32.toInt _)
      exfalso
      rw [yi_nat (by omega), yi_nat (by omega)] at hb
      omega
    · intro (hb : Int32.toInt _ < Int32.toInt _)
      refine xt_pure rfl rfl rfl rfl ?_
      refine xt_getf rfl rfl (xmC 176 rfl) ?_
      refine xt_pure rfl rfl rfl rfl ?_
      refine xt_getf rfl rfl (xmD 0 rfl) ?_
      refine xt_pure rfl rfl rfl rfl ?_
      refine xt_pure rfl rfl rfl (st1 := .int 8 :: _) rfl ?_
      refine xt_pure rfl rfl rfl rfl ?_
      refine xt_pure rfl rfl rfl rfl ?_
      refine xt_pure rfl rfl rfl rfl ?_
      refine xt_pure rfl rfl rfl rfl ?_
      refine xt_pure rfl rfl rfl rfl ?_
      refine xt_bast rfl rfl 1 rfl (Or.inl ⟨rfl, by simp [xfit]⟩) ⟨yi_nn (by omega), by rw [yi_tn (by omega)]; simp⟩ (D1 := _ :: _ :: _) rfl ?_
      rw [yi_tn (by omega), ← sb_fb, ← List.map_set, show (List.map sb t ++ x :: r).set t.length (sb ((fed >>> ((8 * Int32.ofNat k).toInt64 &&& 63)).toInt32 &&& 255)) = List.map sb (t ++ [fb fed k]) ++ r by have := yset_at (t.map sb) r x (sb (fb fed k)); rw [List.length_map] at this; rw [List.map_append]; exact this]
      refine xt_pure rfl rfl rfl rfl ?_
      refine xt_pure rfl rfl rfl rfl ?_
      refine xt_getf rfl rfl (xmD 0 rfl) ?_
      refine xt_pure rfl rfl rfl (st1 := .int 1 :: _) rfl ?_
      refine xt_pure rfl rfl rfl rfl ?_
      refine xt_putf rfl rfl rfl rfl 0 rfl (D1 := _ :: _ :: _) rfl ?_
      rw [yi_add1]
      refine xt_pure rfl rfl rfl (L1 := [_, _, _, _, some (.int (_ + 1))]) rfl ?_
      refine xt_pure rfl rfl rfl rfl ?_
      rw [yi_add1]
      have hz := ih (k + 1) (t ++ [fb fed k]) r (by omega) (by simp at hl ⊢; omega) (by simp at hr; omega) hn (fun r' hr' => by
        have := hQ r' (by simp at hr' ⊢; omega)
        simp only [List.length_append, List.length_cons, List.length_nil, List.append_assoc] at hr' ⊢
        rw [show t.length + (0 + 1) + m = t.length + (m + 1) by omega]
        exact this)
      rw [List.length_append] at hz
      exact hz
theorem mF_feed {X : List Int32} {D0 : List xE} {n : Int32} {fed : Int64} {t r : List Int32} (hl : t.length + r.length = 1400) : yK X 0 0 209 [.ref 209, .int n, .long fed] ((209, .inl (14, 1, .int (Int32.ofNat t.length))) :: (210, .inr (2, (t.map sb ++ r).map Value.int)) :: D0) 0 0 (fun w D => ∃ r2 : List Int32, w = some (.int (feedV t n)) ∧ D = (209, .inl (14, 1, .int (Int32.ofNat (feedT t n fed).length))) :: (210, .inr (2, ((feedT t n fed).map sb ++ r2).map Value.int)) :: D0 ∧ (feedT t n fed).length + r2.length = 1400) := by
  refine yK.of rfl (yle rfl) (L := [_, _, _, _, _]) rfl ?_
  refine xt_pure rfl rfl rfl rfl ?_
  refine xt_pure rfl rfl rfl (st1 := .int 1 :: _) rfl ?_
  refine yt_ic rfl rfl ?_ ?_
  · intro (h1 : Int32.toInt _ < (1 : Int))
    refine xt_pure rfl rfl rfl (st1 := .int (-1) :: _) rfl ?_
    refine xt_iret rfl rfl rfl rfl ?_
    refine ⟨r, ?_, ?_, ?_⟩
    · rw [feedV, if_pos (by omega)]
    · rw [feedT, if_pos (by omega)]
    · rw [feedT, if_pos (by omega)]; exact hl
  · intro (h1 : (1 : Int) ≤ Int32.toInt _)
    refine xt_pure rfl rfl rfl rfl ?_
    refine xt_pure rfl rfl rfl (st1 := .int 8 :: _) rfl ?_
    refine yt_ic rfl rfl ?_ ?_
    · intro (h2 : Int32.toInt _ ≤ (8 : Int))
      obtain ⟨m, hm, rfl, hm2⟩ := yi_of (x := n) (by omega)
      refine xt_pure rfl rfl rfl rfl ?_
      refine xt_getf rfl rfl (xmD 0 rfl) ?_
      refine xt_pure rfl rfl rfl rfl ?_
      refine xt_pure rfl rfl rfl rfl ?_
      refine xt_pure rfl rfl rfl (st1 := .int 1400 :: _) rfl ?_
      refine yt_ic rfl rfl ?_ ?_
      · intro (h3 : Int32.toInt _ ≤ (1400 : Int))
        rw [yi_add, yi_nat (by omega)] at h3
        refine xt_pure rfl rfl rfl (st1 := .int 0 :: _) rfl ?_
        refine xt_pure rfl rfl rfl (L1 := [_, _, _, _, _]) rfl ?_
        refine mF_loop m 0 t r (by omega) hl (by omega) (by omega) ?_
        intro r' hr'
        refine ⟨r', ?_, ?_, ?_⟩
        · rw [feedV, if_neg (by omega), if_neg (by omega), hm2]; rfl
        · rw [feedT, if_neg (by omega), hm2, List.length_append, fbs_n]; rfl
        · rw [feedT, if_neg (by omega), hm2, List.length_append, fbs_n]; omega
      · intro (h3 : (1400 : Int) < Int32.toInt _)
        rw [yi_add, yi_nat (by omega)] at h3
        refine xt_pure rfl rfl rfl (st1 := .int (-3) :: _) rfl ?_
        refine xt_iret rfl rfl rfl rfl ?_
        refine ⟨r, ?_, ?_, ?_⟩
        · rw [feedV, if_neg (by omega), if_pos (by omega)]
        · rw [feedT, if_pos (by omega)]
        · rw [feedT, if_pos (by omega)]; exact hl
    · intro (h2 : (8 : Int) < Int32.toInt _)
      refine xt_pure rfl rfl rfl (st1 := .int (-1) :: _) rfl ?_
      refine xt_iret rfl rfl rfl rfl ?_
      refine ⟨r, ?_, ?_, ?_⟩
      · rw [feedV, if_pos (by omega)]
      · rw [feedT, if_pos (by omega)]
      · rw [feedT, if_pos (by omega)]; exact hl
theorem cT_loop {X : List Int32} {D0 : List xE} {fr lo c s n : Nat} {fed : Int64} {t : List Int32} {Q : Option Value → List xE → Prop} : ∀ (m k : Nat) (u r : List Int32), k + m = n → u.length = k → t.length + u.length + r.length = 1400 → m ≤ r.length → n ≤ 8 → (∀ r' : List Int32, t.length + n + r'.length = 1400 → Q (some (.int 1)) ((79, .inl (9, 1, .int (Int32.ofNat (t.length + n)))) :: (80, .inr (0, (t ++ (u ++ fbs fed k m) ++ r').map Value.int)) :: D0)) → yT X fr lo 24 10 [some (.ref 79), some (.int (Int32.ofNat n)), some (.long fed), none, some (.int (Int32.ofNat k))] [] ((79, .inl (9, 1, .int (Int32.ofNat t.length))) :: (80, .inr (0, ((t ++ u) ++ r).map Value.int)) :: D0) c s Q := by
  intro m
  induction m with
  | zero =>
    intro k u r hk hu hl hr hn hQ
    rw [show fbs fed k 0 = [] from rfl, List.append_nil] at hQ
    obtain rfl : k = n := by omega
    refine xt_pure rfl rfl rfl rfl ?_
    refine xt_pure rfl rfl rfl rfl ?_
    refine yt_ic rfl rfl ?_ ?_
    · intro (hb : Int32.toInt _ ≤ Int32.toInt _)
      refine xt_pure rfl rfl rfl rfl ?_
      refine xt_pure rfl rfl rfl rfl ?_
      refine xt_getf rfl rfl (xmD 0 rfl) ?_
      refine xt_pure rfl rfl rfl rfl ?_
      refine xt_pure rfl rfl rfl rfl ?_
      refine xt_putf rfl rfl rfl rfl 0 rfl (D1 := _ :: _ :: _) rfl ?_
      rw [yi_add]
      refine xt_pure rfl rfl rfl (st1 := .int 1 :: _) rfl ?_
      refine xt_iret rfl rfl rfl rfl ?_
      exact hQ r (by omega)
    · intro (hb : Int32.toInt _ < Int32.toInt _)
      exfalso
      omega
  | succ m ih =>
    intro k u r hk hu hl hr hn hQ
    obtain ⟨x, r, rfl⟩ : ∃ x r1, r = x :: r1 := by
      cases r with
      | nil => simp at hr
      | cons x r1 => exact ⟨x, r1, rfl⟩
    rw [List.length_cons] at hr hl
    refine xt_pure rfl rfl rfl rfl ?_
    refine xt_pure rfl rfl rfl rfl ?_
    refine yt_ic rfl rfl ?_ ?_
    · intro (hb : Int32.toInt _ ≤ Int32.toInt _)
      exfalso
      rw [yi_nat (by omega), yi_nat (by omega)] at hb
      omega
    · intro (hb : Int32.toInt _ < Int32.toInt _)
      refine xt_pure rfl rfl rfl rfl ?_
      refine xt_getf rfl rfl (xmC 127 rfl) ?_
      refine xt_pure rfl rfl rfl rfl ?_
      refine xt_getf rfl rfl (xmD 0 rfl) ?_
      refine xt_pure rfl rfl rfl rfl ?_
      refine xt_pure rfl rfl rfl rfl ?_
      refine xt_pure rfl rfl rfl rfl ?_
      refine xt_pure rfl rfl rfl (st1 := .int 8 :: _) rfl ?_
      refine xt_pure rfl rfl rfl rfl ?_
      refine xt_pure rfl rfl rfl rfl ?_
      refine xt_pure rfl rfl rfl rfl ?_
      refine xt_pure rfl rfl rfl rfl ?_
      refine xt_pure rfl rfl rfl (st1 := .int 255 :: _) rfl ?_
      refine xt_pure rfl rfl rfl rfl ?_
      refine xt_iast rfl rfl 1 rfl ⟨by rw [yi_add]; exact yi_nn (by omega), by rw [yi_add, yi_tn (by omega)]; simp; omega⟩ (D1 := _ :: _ :: _) rfl ?_
      rw [yi_add, yi_tn (by omega), ← List.map_set, show (t ++ u ++ x :: r).set (t.length + k) ((fed >>> ((8 * Int32.ofNat k).toInt64 &&& 63)).toInt32 &&& 255) = t ++ (u ++ [fb fed k]) ++ r by have := yset_at (t ++ u) r x (fb fed k); rw [List.length_append, hu] at this; rw [← List.append_assoc]; exact this]
      refine xt_pure rfl rfl rfl (L1 := [_, _, _, _, some (.int (_ + 1))]) rfl ?_
      refine xt_pure rfl rfl rfl rfl ?_
      rw [yi_add1]
      exact ih (k + 1) (u ++ [fb fed k]) r (by omega) (by simp [hu]) (by simp at hl ⊢; omega) (by simp at hr; omega) hn (fun r' hr' => by
        have := hQ r' hr'
        rw [show u ++ [fb fed k] ++ fbs fed (k + 1) m = u ++ fbs fed k (m + 1) by simp [fbs]]
        exact this)
theorem cF_feed {X : List Int32} {D0 : List xE} {n : Int32} {fed : Int64} {t r : List Int32} (hl : t.length + r.length = 1400) : yK X 1 24 23 [.ref 78, .int n, .long fed] ((79, .inl (9, 1, .int (Int32.ofNat t.length))) :: (80, .inr (0, (t ++ r).map Value.int)) :: D0) 0 0 (fun w D => ∃ r2 : List Int32, w = some (.int (feedV t n)) ∧ D = (79, .inl (9, 1, .int (Int32.ofNat (feedT t n fed).length))) :: (80, .inr (0, (feedT t n fed ++ r2).map Value.int)) :: D0 ∧ (feedT t n fed).length + r2.length = 1400) := by
  refine yK.of rfl (yle rfl) (L := [_, _, _, _]) rfl ?_
  refine xt_pure rfl rfl rfl rfl ?_
  refine xt_pure rfl rfl rfl (st1 := .int 1 :: _) rfl ?_
  refine yt_ic rfl rfl ?_ ?_
  · intro (h1 : Int32.toInt _ < (1 : Int))
    refine xt_pure rfl rfl rfl (st1 := .int (-1) :: _) rfl ?_
    refine xt_iret rfl rfl rfl rfl ?_
    refine ⟨r, ?_, ?_, ?_⟩
    · rw [feedV, if_pos (by omega)]
    · rw [feedT, if_pos (by omega)]
    · rw [feedT, if_pos (by omega)]; exact hl
  · intro (h1 : (1 : Int) ≤ Int32.toInt _)
    refine xt_pure rfl rfl rfl rfl ?_
    refine xt_pure rfl rfl rfl (st1 := .int 8 :: _) rfl ?_
    refine yt_ic rfl rfl ?_ ?_
    · intro (h2 : Int32.toInt _ ≤ (8 : Int))
      obtain ⟨m, hm, rfl, hm2⟩ := yi_of (x := n) (by omega)
      refine xt_pure rfl rfl rfl rfl ?_
      refine xt_getf rfl rfl (xmC 115 rfl) ?_
      refine xt_pure rfl rfl rfl rfl ?_
      refine xt_pure rfl rfl rfl rfl ?_
      refine yt_inV (c1 := 0) (s1 := 0) (c2 := 0) (s2 := 0) (fr1 := 0) (lo1 := 0) rfl rfl rfl rfl (xmD 0 rfl) ⟨rfl, rfl, yle rfl, yle rfl, yle rfl, yle rfl⟩ (yle rfl) (L1 := [_, _, _, _, _]) rfl ⟨yle rfl, yle rfl⟩ ?_
      refine xt_pure rfl rfl rfl rfl ?_
      refine xt_pure rfl rfl rfl (st1 := .int 1400 :: _) rfl ?_
      refine xt_pure rfl rfl rfl rfl ?_
      refine xt_getf rfl rfl (xmD 0 rfl) ?_
      refine xt_pure rfl rfl rfl rfl ?_
      refine yt_ic rfl rfl ?_ ?_
      · intro (h3 : Int32.toInt _ ≤ Int32.toInt _)
        have e1 := yi_nat (i := t.length) (by omega)
        have e2 : (1400 : Int32).toInt = 1400 := by decide
        rw [yi_sub (by omega) (by omega), e1, e2] at h3
        refine xt_pure rfl rfl rfl (st1 := .int 0 :: _) rfl ?_
        refine xt_pure rfl rfl rfl (L1 := [_, _, _, _, _]) rfl ?_
        rw [show t ++ r = t ++ [] ++ r by simp]
        refine cT_loop m 0 [] r (by omega) rfl (by simp; omega) (by omega) (by omega) ?_
        intro r' hr'
        show yT _ _ _ _ _ _ (_ :: _) _ _ _ _
        rw [List.nil_append]
        refine xt_pure rfl rfl rfl rfl ?_
        refine xt_pure rfl rfl rfl rfl ?_
        refine xt_getf rfl rfl (xmC 115 rfl) ?_
        refine xt_getf rfl rfl (xmD 0 rfl) ?_
        refine xt_pure rfl rfl rfl rfl ?_
        refine xt_iret rfl rfl rfl rfl ?_
        refine ⟨r', ?_, ?_, ?_⟩
        · rw [feedV, if_neg (by omega), if_neg (by omega), hm2]; rfl
        · rw [feedT, if_neg (by omega), hm2, List.length_append, fbs_n]; rfl
        · rw [feedT, if_neg (by omega), hm2, List.length_append, fbs_n]; omega
      · intro (h3 : Int32.toInt _ < Int32.toInt _)
        have e1 := yi_nat (i := t.length) (by omega)
        have e2 : (1400 : Int32).toInt = 1400 := by decide
        rw [yi_sub (by omega) (by omega), e1, e2] at h3
        refine xt_pure rfl rfl rfl (st1 := .int 0 :: _) rfl ?_
        refine xt_iret rfl rfl rfl rfl ?_
        show yT _ _ _ _ _ _ (_ :: _) _ _ _ _
        refine xt_pure rfl rfl rfl rfl ?_
        refine xt_pure rfl rfl rfl (st1 := .int (-3) :: _) rfl ?_
        refine xt_iret rfl rfl rfl rfl ?_
        refine ⟨r, ?_, ?_, ?_⟩
        · rw [feedV, if_neg (by omega), if_pos (by omega)]
        · rw [feedT, if_pos (by omega)]
        · rw [feedT, if_pos (by omega)]; exact hl
    · intro (h2 : (8 : Int) < Int32.toInt _)
      refine xt_pure rfl rfl rfl (st1 := .int (-1) :: _) rfl ?_
      refine xt_iret rfl rfl rfl rfl ?_
      refine ⟨r, ?_, ?_, ?_⟩
      · rw [feedV, if_pos (by omega)]
      · rw [feedT, if_pos (by omega)]
      · rw [feedT, if_pos (by omega)]; exact hl
