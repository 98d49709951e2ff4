/-! THE DESK: no desk, line and cell; the reference -/
section NODESK
variable {X : List Int32} {D0 : List xE} {fl : Int32}
theorem mk_failed {k : Int32} : yK X 0 0 257 [.ref 209, .int k] ((209, .inl (14, 24, .int fl)) :: D0) 0 0 (fun w D => w = some (.int (-10 - k)) ∧ D = (209, .inl (14, 24, .int (fl + 1))) :: D0) := by
  refine yK.of rfl (yle rfl) (L := [_, _]) rfl ?_
  refine xt_pure rfl rfl rfl rfl ?_
  refine xt_pure rfl rfl rfl rfl ?_
  refine xt_getf rfl rfl (xmD 0 rfl) ?_
  refine xt_pure rfl rfl rfl (st1 := .int 1 :: _) rfl ?_
  refine xt_pure rfl rfl rfl rfl ?_
  refine xt_putf rfl rfl rfl rfl 0 rfl (D1 := _ :: _) rfl ?_
  refine xt_pure rfl rfl rfl (st1 := .int (-10) :: _) rfl ?_
  refine xt_pure rfl rfl rfl rfl ?_
  refine xt_pure rfl rfl rfl rfl ?_
  exact xt_iret rfl rfl rfl rfl ⟨rfl, rfl⟩
theorem mD_line0 {i n : Int32} (hh : ((209, .inl (14, 23, .null)) : xE) ∈ D0) : yK X 1 25 263 [.ref 209, .int i, .int n] ((209, .inl (14, 24, .int fl)) :: D0) 0 0 (fun w D => w = some (.int (liV none fl i n)) ∧ D = (209, .inl (14, 24, .int (flW fl (liV none fl i n)))) :: D0) := by
  refine yK.of rfl (yle rfl) (L := [_, _, _, _]) rfl ?_
  refine xt_pure rfl rfl rfl rfl ?_
  refine xt_pure rfl rfl rfl (st1 := .int 6 :: _) rfl ?_
  refine yt_ic rfl rfl (fun (h6 : n.toInt ≤ (6 : Int)) => ?_) (fun (h6 : (6 : Int) < n.toInt) => ?_)
  rotate_left
  · have hc : liV none fl i n = -1 := by rw [liV, if_pos h6]
    rw [hc]
    refine xt_pure rfl rfl rfl (st1 := .int (-1) :: _) rfl ?_
    exact xt_iret rfl rfl rfl rfl ⟨rfl, rfl⟩
  · skip
    refine xt_pure rfl rfl rfl rfl ?_
    refine xt_callV rfl rfl rfl rfl (xmD 0 rfl) ⟨rfl, rfl, yle rfl, yle rfl, yle rfl, yle rfl⟩ (mk_isSpent (fl := fl) List.mem_cons_self) (c2 := 0) (s2 := 0) ⟨yle rfl, yle rfl⟩ ?_
    rintro _ _ (⟨rfl, hs, rfl⟩ | ⟨rfl, hs, rfl⟩)
    · have hc : liV none fl i n = -3 := by rw [liV, if_neg (by omega), if_pos hs]
      rw [hc]
      refine xt_pure rfl rfl rfl rfl ?_
      refine xt_pure rfl rfl rfl (st1 := .int (-3) :: _) rfl ?_
      exact xt_iret rfl rfl rfl rfl ⟨rfl, rfl⟩
    · refine xt_pure rfl rfl rfl rfl ?_
      refine xt_pure rfl rfl rfl rfl ?_
      refine yt_if rfl rfl (fun (h0 : (0 : Int) ≤ n.toInt) => ?_) (fun (h0 : n.toInt < (0 : Int)) => ?_)
      rotate_left
      · have hc : liV none fl i n = -16 := by rw [liV, if_neg (by omega), if_neg hs, if_pos h0]
        rw [hc]
        refine xt_pure rfl rfl rfl rfl ?_
        refine xt_pure rfl rfl rfl (st1 := .int 6 :: _) rfl ?_
        refine xt_callV rfl rfl rfl rfl (xmD 0 rfl) ⟨rfl, rfl, yle rfl, yle rfl, yle rfl, yle rfl⟩ mk_failed (c2 := 0) (s2 := 0) ⟨yle rfl, yle rfl⟩ ?_
        rintro _ _ ⟨rfl, rfl⟩
        exact xt_iret rfl rfl rfl rfl ⟨rfl, rfl⟩
      · have hc : liV none fl i n = -11 := by rw [liV, if_neg (by omega), if_neg hs, if_neg (by omega)]
        rw [hc]
        refine xt_pure rfl rfl rfl rfl ?_
        refine xt_getf rfl rfl (xmS 1 rfl hh) ?_
        refine xt_pure rfl rfl rfl rfl ?_
        refine xt_pure rfl rfl rfl rfl ?_
        refine xt_pure rfl rfl rfl (st1 := .int 1 :: _) rfl ?_
        refine xt_callV rfl rfl rfl rfl (xmD 0 rfl) ⟨rfl, rfl, yle rfl, yle rfl, yle rfl, yle rfl⟩ mk_failed (c2 := 0) (s2 := 0) ⟨yle rfl, yle rfl⟩ ?_
        rintro _ _ ⟨rfl, rfl⟩
        exact xt_iret rfl rfl rfl rfl ⟨rfl, rfl⟩
theorem mD_cell0 {i j v : Int32} (hh : ((209, .inl (14, 23, .null)) : xE) ∈ D0) : yK X 1 25 264 [.ref 209, .int i, .int j, .int v] ((209, .inl (14, 24, .int fl)) :: D0) 0 0 (fun w D => w = some (.int (ceV none fl i j)) ∧ D = (209, .inl (14, 24, .int (flW fl (ceV none fl i j)))) :: D0) := by
  refine yK.of rfl (yle rfl) (L := [_, _, _, _]) rfl ?_
  refine xt_pure rfl rfl rfl rfl ?_
  refine xt_callV rfl rfl rfl rfl (xmD 0 rfl) ⟨rfl, rfl, yle rfl, yle rfl, yle rfl, yle rfl⟩ (mk_isSpent (fl := fl) List.mem_cons_self) (c2 := 0) (s2 := 0) ⟨yle rfl, yle rfl⟩ ?_
  rintro _ _ (⟨rfl, hs, rfl⟩ | ⟨rfl, hs, rfl⟩)
  · have hc : ceV none fl i j = -3 := by rw [ceV, if_pos hs]
    rw [hc]
    refine xt_pure rfl rfl rfl rfl ?_
    refine xt_pure rfl rfl rfl (st1 := .int (-3) :: _) rfl ?_
    exact xt_iret rfl rfl rfl rfl ⟨rfl, rfl⟩
  · have hc : ceV none fl i j = -11 := by rw [ceV, if_neg hs]
    rw [hc]
    refine xt_pure rfl rfl rfl rfl ?_
    refine xt_pure rfl rfl rfl rfl ?_
    refine xt_getf rfl rfl (xmS 1 rfl hh) ?_
    refine xt_pure rfl rfl rfl rfl ?_
    refine xt_pure rfl rfl rfl rfl ?_
    refine xt_pure rfl rfl rfl (st1 := .int 1 :: _) rfl ?_
    refine xt_callV rfl rfl rfl rfl (xmD 0 rfl) ⟨rfl, rfl, yle rfl, yle rfl, yle rfl, yle rfl⟩ mk_failed (c2 := 0) (s2 := 0) ⟨yle rfl, yle rfl⟩ ?_
    rintro _ _ ⟨rfl, rfl⟩
    exact xt_iret rfl rfl rfl rfl ⟨rfl, rfl⟩
end NODESK
