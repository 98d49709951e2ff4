/-! the check of the law itself, by segments that overlap in one instruction -/
theorem xckL_seg {bytes : ByteArray} {C : List xI} (st n : Nat) (hs : 0 < st) (hn : C.length ≤ st * n) (h : ∀ k, k < n → xckL bytes C ((C.drop (st * k)).take (st + 1)) = true) : xokc bytes C := by
  intro ip x hx
  have hip : ip < C.length := (List.getElem?_eq_some_iff.mp hx).1
  have hk : ip / st < n := Nat.div_lt_of_lt_mul (by omega)
  have hm : ip % st < st := Nat.mod_lt _ hs
  have e : st * (ip / st) + ip % st = ip := Nat.div_add_mod ip st
  have g : ∀ j, j ≤ st → ((C.drop (st * (ip / st))).take (st + 1))[j]? = C[st * (ip / st) + j]? := fun j hj => by
    rw [List.getElem?_take, if_pos (by omega), List.getElem?_drop]
  have := xckL_ok _ (h _ hk) (ip % st) x (by rw [g _ (by omega), e]; exact hx)
  rw [g _ (by omega), show st * (ip / st) + (ip % st + 1) = ip + 1 by omega] at this
  exact this
theorem xls_0 : xckL code xc_345 ((xc_345.drop 0).take 41) = true := by decide +kernel
theorem xls_1 : xckL code xc_345 ((xc_345.drop 40).take 41) = true := by decide +kernel
theorem xls_2 : xckL code xc_345 ((xc_345.drop 80).take 41) = true := by decide +kernel
theorem xls_3 : xckL code xc_345 ((xc_345.drop 120).take 41) = true := by decide +kernel
theorem xls_4 : xckL code xc_345 ((xc_345.drop 160).take 41) = true := by decide +kernel
theorem xls_5 : xckL code xc_345 ((xc_345.drop 200).take 41) = true := by decide +kernel
theorem xls_6 : xckL code xc_345 ((xc_345.drop 240).take 41) = true := by decide +kernel
theorem xls_7 : xckL code xc_345 ((xc_345.drop 280).take 41) = true := by decide +kernel
theorem xls_8 : xckL code xc_345 ((xc_345.drop 320).take 41) = true := by decide +kernel
theorem xls_9 : xckL code xc_345 ((xc_345.drop 360).take 41) = true := by decide +kernel
theorem xls_10 : xckL code xc_345 ((xc_345.drop 400).take 41) = true := by decide +kernel
theorem xls_11 : xckL code xc_345 ((xc_345.drop 440).take 41) = true := by decide +kernel
theorem xls_12 : xckL code xc_345 ((xc_345.drop 480).take 41) = true := by decide +kernel
theorem xls_13 : xckL code xc_345 ((xc_345.drop 520).take 41) = true := by decide +kernel
theorem xls_14 : xckL code xc_345 ((xc_345.drop 560).take 41) = true := by decide +kernel
theorem xls_15 : xckL code xc_345 ((xc_345.drop 600).take 41) = true := by decide +kernel
theorem xls_16 : xckL code xc_345 ((xc_345.drop 640).take 41) = true := by decide +kernel
theorem xls_17 : xckL code xc_345 ((xc_345.drop 680).take 41) = true := by decide +kernel
theorem xls_18 : xckL code xc_345 ((xc_345.drop 720).take 41) = true := by decide +kernel
theorem xls_19 : xckL code xc_345 ((xc_345.drop 760).take 41) = true := by decide +kernel
theorem xls_20 : xckL code xc_345 ((xc_345.drop 800).take 41) = true := by decide +kernel
theorem xls_21 : xckL code xc_345 ((xc_345.drop 840).take 41) = true := by decide +kernel
theorem xls_22 : xckL code xc_345 ((xc_345.drop 880).take 41) = true := by decide +kernel
theorem xls_23 : xckL code xc_345 ((xc_345.drop 920).take 41) = true := by decide +kernel
theorem xls_24 : xckL code xc_345 ((xc_345.drop 960).take 41) = true := by decide +kernel
theorem xls_25 : xckL code xc_345 ((xc_345.drop 1000).take 41) = true := by decide +kernel
theorem xls_26 : xckL code xc_345 ((xc_345.drop 1040).take 41) = true := by decide +kernel
theorem xls_27 : xckL code xc_345 ((xc_345.drop 1080).take 41) = true := by decide +kernel
theorem xlaw_c : xokc code xc_345 := xckL_seg 40 28 (by decide) (by decide +kernel) (fun k hk => by
  match k, hk with
  | 0, _ => exact xls_0
  | 1, _ => exact xls_1
  | 2, _ => exact xls_2
  | 3, _ => exact xls_3
  | 4, _ => exact xls_4
  | 5, _ => exact xls_5
  | 6, _ => exact xls_6
  | 7, _ => exact xls_7
  | 8, _ => exact xls_8
  | 9, _ => exact xls_9
  | 10, _ => exact xls_10
  | 11, _ => exact xls_11
  | 12, _ => exact xls_12
  | 13, _ => exact xls_13
  | 14, _ => exact xls_14
  | 15, _ => exact xls_15
  | 16, _ => exact xls_16
  | 17, _ => exact xls_17
  | 18, _ => exact xls_18
  | 19, _ => exact xls_19
  | 20, _ => exact xls_20
  | 21, _ => exact xls_21
  | 22, _ => exact xls_22
  | 23, _ => exact xls_23
  | 24, _ => exact xls_24
  | 25, _ => exact xls_25
  | 26, _ => exact xls_26
  | 27, _ => exact xls_27
  | k + 28, hk => exact absurd hk (by omega))
theorem xlaw_1 : xc_345.all (fun x => xck1 xcls xpr xsn xsr 15 xfl xml xic xxw xm_345.1.cls 3 x) = true := by decide +kernel
theorem xk_law : xokm (xTs xpr xfl xml xic xxw) xcls xpr xsn xsr 15 xm_345 := ⟨fun h => absurd h (by decide), fun h => absurd h (by decide), fun h => absurd h (by decide), fun h => absurd h (by decide), xlaw_c, fun x hx => (by cases hx; rfl), fun ip x hx => xck1_ok (List.all_eq_true.mp xlaw_1 x (List.mem_of_getElem? hx))⟩
