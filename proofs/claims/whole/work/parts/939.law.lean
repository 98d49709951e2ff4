/-! THE LAW: its switch, its loop, its end -/
section LAWL
variable {X : List Int32} {D : List xE} {iv x1 x2 x3 x4 : Int32} {K c s : Nat} {Q : Option Value → List xE → Prop}

def tg0 : List Nat := [22, 73, 80, 107, 144, 205, 232, 239, 290, 317, 354, 381, 388, 405, 432, 449, 476, 514, 561, 578, 595, 622, 649, 676, 684, 701, 728, 745, 772, 799, 837, 884, 911, 928, 955, 972, 979, 996, 1013, 1040, 1057, 1074]
def of0 : List Int := [184, 247, 260, 293, 336, 409, 442, 455, 518, 551, 594, 627, 640, 663, 696, 719, 752, 796, 849, 872, 895, 928, 961, 994, 1008, 1031, 1064, 1087, 1120, 1153, 1197, 1250, 1283, 1306, 1339, 1362, 1375, 1398, 1421, 1454, 1477, 1500]
theorem sw_of : ∀ n, n < 42 → (#[184, 247, 260, 293, 336, 409, 442, 455, 518, 551, 594, 627, 640, 663, 696, 719, 752, 796, 849, 872, 895, 928, 961, 994, 1008, 1031, 1064, 1087, 1120, 1153, 1197, 1250, 1283, 1306, 1339, 1362, 1375, 1398, 1421, 1454, 1477, 1500] : Array Int)[n]? = some (of0.getD n 0) := by decide +kernel
theorem sw_at : (List.range 42).all (fun n => decide (xat xc_345 (((32 : Nat) : Int) + of0.getD n 0).toNat = some (tg0.getD n 0))) = true := by decide +kernel
set_option maxRecDepth 100000 in
theorem law_sw {x0 : Int32} (hKe : K = 300) (a1 : lwA X (iv + 1) x1) (a2 : lwA X (iv + 2) x2) (a3 : lwA X (iv + 3) x3) (a4 : lwA X (iv + 4) x4) (h : Inv D) (kk : ∀ D2, Inv D2 → yT X 2000 80000 345 1091 [some (.ref 0), some (.ref 78), some (.ref 209), some (.int iv)] [] D2 c s Q) : yT X 2000 80000 345 21 [some (.ref 0), some (.ref 78), some (.ref 209), some (.int iv)] [.int x0] D (c + 400) (s + 4800) Q := by
  by_cases hr : x0.toInt < 0 ∨ 41 < x0.toInt
  · exact yt_tsd rfl rfl hr (tg := 1091) (by decide +kernel) ((kk D h).mono (by omega) (by omega) (fun _ _ h => h))
  · have hn : x0.toInt.toNat < 42 := by omega
    have hs : (x0.toInt - 0).toNat = x0.toInt.toNat := by omega
    have hA : ∀ n, n < 42 → xat xc_345 (((32 : Nat) : Int) + of0.getD n 0).toNat = some (tg0.getD n 0) := fun n hn => of_decide_eq_true (List.all_eq_true.mp sw_at n (List.mem_range.mpr hn))
    have go : ∀ n, n < 42 → x0.toInt.toNat = n → (yT X 2000 80000 345 (tg0.getD n 0) [some (.ref 0), some (.ref 78), some (.ref 209), some (.int iv)] [] D (c + 400) (s + 4800) Q) → yT X 2000 80000 345 21 [some (.ref 0), some (.ref 78), some (.ref 209), some (.int iv)] [.int x0] D (c + 400) (s + 4800) Q := by
      intro n hn e k
      refine yt_ts (o := of0.getD n 0) (tg := tg0.getD n 0) rfl rfl hr ?_ (hA n hn) k
      rw [hs, e]
      exact sw_of n hn
    generalize hk : x0.toInt.toNat = n at hn
    have go := go n hn hk
    match n, hn, go with
    | 0, _, go => exact go (law_0 a1 a2 a3 a4 h kk)
    | 1, _, go => exact go (law_1 a1 a2 a3 a4 h kk)
    | 2, _, go => exact go (law_2 a1 a2 a3 a4 h kk)
    | 3, _, go => exact go (law_3 a1 a2 a3 a4 h kk)
    | 4, _, go => exact go (law_4 a1 a2 a3 a4 h kk)
    | 5, _, go => exact go (law_5 a1 a2 a3 a4 h kk)
    | 6, _, go => exact go (law_6 a1 a2 a3 a4 h kk)
    | 7, _, go => exact go (law_7 a1 a2 a3 a4 h kk)
    | 8, _, go => exact go (law_8 a1 a2 a3 a4 h kk)
    | 9, _, go => exact go (law_9 a1 a2 a3 a4 h kk)
    | 10, _, go => exact go (law_10 a1 a2 a3 a4 h kk)
    | 11, _, go => exact go (law_11 a1 a2 a3 a4 h kk)
    | 12, _, go => exact go (law_12 a1 a2 a3 a4 h kk)
    | 13, _, go => exact go (law_13 a1 a2 a3 a4 h kk)
    | 14, _, go => exact go (law_14 a1 a2 a3 a4 h kk)
    | 15, _, go => exact go (law_15 a1 a2 a3 a4 h kk)
    | 16, _, go => exact go (law_16 a1 a2 a3 a4 h kk)
    | 17, _, go => exact go (law_17 a1 a2 a3 a4 h kk)
    | 18, _, go => exact go (law_18 a1 a2 a3 a4 h kk)
    | 19, _, go => exact go (law_19 hKe a1 a2 a3 a4 h kk)
    | 20, _, go => exact go (law_20 a1 a2 a3 a4 h kk)
    | 21, _, go => exact go (law_21 hKe a1 a2 a3 a4 h kk)
    | 22, _, go => exact go (law_22 hKe a1 a2 a3 a4 h kk)
    | 23, _, go => exact go (law_23 a1 a2 a3 a4 h kk)
    | 24, _, go => exact go (law_24 a1 a2 a3 a4 h kk)
    | 25, _, go => exact go (law_25 hKe a1 a2 a3 a4 h kk)
    | 26, _, go => exact go (law_26 a1 a2 a3 a4 h kk)
    | 27, _, go => exact go (law_27 a1 a2 a3 a4 h kk)
    | 28, _, go => exact go (law_28 a1 a2 a3 a4 h kk)
    | 29, _, go => exact go (law_29 a1 a2 a3 a4 h kk)
    | 30, _, go => exact go (law_30 a1 a2 a3 a4 h kk)
    | 31, _, go => exact go (law_31 a1 a2 a3 a4 h kk)
    | 32, _, go => exact go (law_32 a1 a2 a3 a4 h kk)
    | 33, _, go => exact go (law_33 hKe a1 a2 a3 a4 h kk)
    | 34, _, go => exact go (law_34 a1 a2 a3 a4 h kk)
    | 35, _, go => exact go (law_35 a1 a2 a3 a4 h kk)
    | 36, _, go => exact go (law_36 a1 a2 a3 a4 h kk)
    | 37, _, go => exact go (law_37 a1 a2 a3 a4 h kk)
    | 38, _, go => exact go (law_38 a1 a2 a3 a4 h kk)
    | 39, _, go => exact go (law_39 a1 a2 a3 a4 h kk)
    | 40, _, go => exact go (law_40 a1 a2 a3 a4 h kk)
    | 41, _, go => exact go (law_41 a1 a2 a3 a4 h kk)
    | n + 42, hn, _ => exact absurd hn (by omega)
theorem lw_at {i k : Nat} {x : Int32} (hi : i + k < 3000) (h : X[i + k]? = some x) : lwA X (Int32.ofNat i + Int32.ofNat k) x := by
  rw [yi_add]
  refine ⟨yi_nn (by omega), ?_⟩
  rw [yi_tn (by omega), List.getElem?_map, h]
  rfl
set_option maxRecDepth 100000 in
theorem law_loop (hKe : K = 300) (hX : X.length ≤ 2560) : ∀ (n i : Nat) (D : List xE), X.length < i + 5 * n + 5 → i ≤ 2560 → Inv D → yT X 2000 80000 345 10 [some (.ref 0), some (.ref 78), some (.ref 209), some (.int (Int32.ofNat i))] [] D (400 * n) (4800 * n) (fun w _ => w = some (.int 1)) := by
  intro n
  induction n with
  | zero =>
    intro i D hn hi h
    refine xt_pure rfl rfl rfl rfl ?_
    refine xt_pure rfl rfl rfl rfl ?_
    refine xt_alen rfl rfl xmX rfl ?_
    refine xt_pure rfl rfl rfl (st1 := .int 5 :: _) rfl ?_
    refine xt_pure rfl rfl rfl (st1 := .int (Int32.ofNat (X.map Value.int).length - 5) :: _) rfl ?_
    rw [List.length_map]
    have e1 := yi_nat (i := X.length) (by omega)
    have e2 := yi_nat (i := i) (by omega)
    have e5 : (5 : Int32).toInt = 5 := by decide
    have e3 := yi_sub (x := Int32.ofNat X.length) (y := 5) (by omega) (by omega)
    refine yt_ic rfl rfl (fun _ => ?_) (fun (hc : (Int32.ofNat i).toInt ≤ (Int32.ofNat X.length - 5).toInt) => absurd hc (by omega))
    refine xt_pure rfl rfl rfl (st1 := .int 1 :: _) rfl ?_
    exact xt_iret rfl rfl rfl rfl rfl
  | succ n ih =>
    intro i D hn hi h
    refine xt_pure rfl rfl rfl rfl ?_
    refine xt_pure rfl rfl rfl rfl ?_
    refine xt_alen rfl rfl xmX rfl ?_
    refine xt_pure rfl rfl rfl (st1 := .int 5 :: _) rfl ?_
    refine xt_pure rfl rfl rfl (st1 := .int (Int32.ofNat (X.map Value.int).length - 5) :: _) rfl ?_
    rw [List.length_map]
    have e1 := yi_nat (i := X.length) (by omega)
    have e2 := yi_nat (i := i) (by omega)
    have e5 : (5 : Int32).toInt = 5 := by decide
    have e3 := yi_sub (x := Int32.ofNat X.length) (y := 5) (by omega) (by omega)
    refine yt_ic rfl rfl (fun _ => ?_) (fun (hc : (Int32.ofNat i).toInt ≤ (Int32.ofNat X.length - 5).toInt) => ?_)
    · refine xt_pure rfl rfl rfl (st1 := .int 1 :: _) rfl ?_
      exact xt_iret rfl rfl rfl rfl rfl
    · obtain ⟨x0, h0⟩ : ∃ x, X[i + 0]? = some x := ⟨_, List.getElem?_eq_getElem (by omega)⟩
      obtain ⟨x1, h1⟩ : ∃ x, X[i + 1]? = some x := ⟨_, List.getElem?_eq_getElem (by omega)⟩
      obtain ⟨x2, h2⟩ : ∃ x, X[i + 2]? = some x := ⟨_, List.getElem?_eq_getElem (by omega)⟩
      obtain ⟨x3, h3⟩ : ∃ x, X[i + 3]? = some x := ⟨_, List.getElem?_eq_getElem (by omega)⟩
      obtain ⟨x4, h4⟩ : ∃ x, X[i + 4]? = some x := ⟨_, List.getElem?_eq_getElem (by omega)⟩
      have a1 : lwA X (Int32.ofNat i + 1) x1 := lw_at (k := 1) (by omega) h1
      have a2 : lwA X (Int32.ofNat i + 2) x2 := lw_at (k := 2) (by omega) h2
      have a3 : lwA X (Int32.ofNat i + 3) x3 := lw_at (k := 3) (by omega) h3
      have a4 : lwA X (Int32.ofNat i + 4) x4 := lw_at (k := 4) (by omega) h4
      have a0 : lwA X (Int32.ofNat i) x0 := ⟨yi_nn (by omega), by rw [yi_tn (by omega), List.getElem?_map, show X[i]? = some x0 from h0]; rfl⟩
      refine xt_pure rfl rfl rfl rfl ?_
      refine xt_pure rfl rfl rfl rfl ?_
      refine xt_iald rfl rfl xmX a0.1 a0.2 ?_
      refine xt_pure rfl rfl rfl (st1 := .int 63 :: _) rfl ?_
      refine xt_pure rfl rfl rfl (st1 := [.int (x0 &&& 63)]) rfl ?_
      refine (law_sw (c := 400 * n) (s := 4800 * n) hKe a1 a2 a3 a4 h (fun D2 h2 => ?_)).mono (by omega) (by omega) (fun _ _ h => h)
      refine xt_pure rfl rfl rfl (L1 := [some (.ref 0), some (.ref 78), some (.ref 209), some (.int (Int32.ofNat i + 5))]) rfl ?_
      rw [show Int32.ofNat i + 5 = Int32.ofNat (i + 5) from yi_add i 5]
      refine xt_pure rfl rfl rfl (ip1 := 10) rfl ?_
      exact ih (i + 5) D2 (by omega) (by omega) h2
/-- every script runs -/
theorem law_runs {xs : List Int32} (hX : xs.length ≤ 2560) : xRuns xs := by
  obtain ⟨v, h', D', w1, w2, w3, w4, w5⟩ := law_loop (K := 300) rfl hX 512 0 dAll (by omega) (by omega) inv0 (xh1 xs) (xho0 xs)
  subst w5
  have l1 := len_1 xs
  have l2 := xsl_1 xs
  exact xlaw_head w1 (by omega) (by omega)
end LAWL
