/-! FROM THE LAW'S ENTRY TO ITS LOOP -/
theorem xh0_n (xs : List Int32) : (xh0 xs).length = 78 := by
  show xoldS.length + 1 + 1 = 78
  rw [xold_n]
theorem xlaw_head {xs : List Int32} {h' : xH} (hw : xW 2000 80000 345 10 [some (.ref 0), some (.ref 78), some (.ref 209), some (.int 0)] [] (xh1 xs) (some (.int 1)) h') (hc : h'.length ≤ 78 + 600000) (hs : xsl h' ≤ xsl (xh0 xs) + 7302250) : xRuns xs := by
  have hW : xW 2000 80000 345 0 [some (.ref 0), none, none, none] [] (xh0 xs) (some (.int 1)) h' := by
    refine xr_new (tys := xfts.getD 11 []) rfl rfl rfl ?_
    rw [xh0_n]
    refine xr_pure rfl rfl rfl rfl ?_
    refine xr_callI (k := 78) (r := [.ref 78]) rfl rfl (by decide) (M1 := xm_0) rfl rfl ⟨rfl, by decide, by decide, by decide, by decide⟩ ((xrunF (.inr (0, xs.map Value.int))).up (by decide) (by decide)) ?_
    refine xr_pure rfl rfl rfl rfl ?_
    refine xr_new (tys := xfts.getD 14 []) rfl rfl rfl ?_
    rw [show ((Sum.inr (0, xs.map Value.int) :: xold1) ++ xnewF : xH).length = 209 by simp [xold1_n, xnewF_n]]
    refine xr_pure rfl rfl rfl rfl ?_
    refine xr_callI (k := 209) (r := [.ref 209]) rfl rfl (by decide) (M1 := xm_207) rfl rfl ⟨rfl, by decide, by decide, by decide, by decide⟩ ((xrunM (.inr (0, xs.map Value.int))).up (by decide) (by decide)) ?_
    refine xr_pure rfl rfl rfl rfl ?_
    refine xr_pure rfl rfl rfl rfl ?_
    refine xr_pure rfl rfl rfl rfl ?_
    rw [List.append_assoc]
    exact hw
  obtain ⟨f, e⟩ := hW
  exact ⟨f, h', e, hc, hs⟩
