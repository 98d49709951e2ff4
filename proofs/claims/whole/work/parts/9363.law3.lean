/-! THE LAW, case by case: cameOver, short, proof, keep, export, disk, alter, cut, take, count -/
section LAW3
variable {X : List Int32} {D : List xE} {iv x1 x2 x3 x4 : Int32} {K c s : Nat} {Q : Option Value → List xE → Prop}
set_option maxRecDepth 100000 in
theorem law_32 (a1 : lwA X (iv + 1) x1) (a2 : lwA X (iv + 2) x2) (a3 : lwA X (iv + 3) x3) (a4 : lwA X (iv + 4) x4) (h : Inv D) (kk : ∀ D2, Inv D2 → yT X 2000 80000 345 1091 [some (.ref 0), some (.ref 78), some (.ref 209), some (.int iv)] [] D2 c s Q) : yT X 2000 80000 345 911 [some (.ref 0), some (.ref 78), some (.ref 209), some (.int iv)] [] D (c + 400) (s + 4800) Q := by
  refine xt_pure rfl rfl rfl rfl ?_
  refine xt_pure rfl rfl rfl rfl ?_
  refine xt_pure rfl rfl rfl rfl ?_
  refine xt_pure rfl rfl rfl (st1 := .int 1 :: _) rfl ?_
  refine xt_pure rfl rfl rfl (st1 := .int (iv + 1) :: _) rfl ?_
  refine xt_iald rfl rfl xmX a1.1 a1.2 ?_
  refine xt_callP (as := [.int x1]) (mm := 334) rfl rfl rfl rfl ⟨rfl, rfl, yle rfl, yle rfl, yle rfl, yle rfl⟩ rfl (op_cameOver h) (c2 := c + 200) (s2 := s + 2400) ⟨by omega, by omega⟩ ?_
  intro v D1 hm
  refine xt_pure rfl rfl rfl rfl ?_
  refine xt_pure rfl rfl rfl rfl ?_
  refine xt_pure rfl rfl rfl rfl ?_
  refine xt_pure rfl rfl rfl (st1 := .int 1 :: _) rfl ?_
  refine xt_pure rfl rfl rfl (st1 := .int (iv + 1) :: _) rfl ?_
  refine xt_iald rfl rfl xmX a1.1 a1.2 ?_
  refine xt_callM rfl rfl rfl rfl ⟨rfl, rfl, yle rfl, yle rfl, yle rfl, yle rfl⟩ rfl hm (c2 := c) (s2 := s) ⟨by omega, by omega⟩ ?_
  intro D2 hI
  exact yt_ic rfl rfl (fun _ => kk D2 hI) (fun (hn : v ≠ v) => absurd rfl hn)
set_option maxRecDepth 100000 in
theorem law_33 (hKe : K = 300) (a1 : lwA X (iv + 1) x1) (a2 : lwA X (iv + 2) x2) (a3 : lwA X (iv + 3) x3) (a4 : lwA X (iv + 4) x4) (h : Inv D) (kk : ∀ D2, Inv D2 → yT X 2000 80000 345 1091 [some (.ref 0), some (.ref 78), some (.ref 209), some (.int iv)] [] D2 c s Q) : yT X 2000 80000 345 928 [some (.ref 0), some (.ref 78), some (.ref 209), some (.int iv)] [] D (c + 400) (s + 4800) Q := by
  refine xt_pure rfl rfl rfl rfl ?_
  refine xt_pure rfl rfl rfl rfl ?_
  refine xt_pure rfl rfl rfl rfl ?_
  refine xt_pure rfl rfl rfl (st1 := .int 1 :: _) rfl ?_
  refine xt_pure rfl rfl rfl (st1 := .int (iv + 1) :: _) rfl ?_
  refine xt_iald rfl rfl xmX a1.1 a1.2 ?_
  refine xt_pure rfl rfl rfl rfl ?_
  refine xt_pure rfl rfl rfl rfl ?_
  refine xt_pure rfl rfl rfl (st1 := .int 2 :: _) rfl ?_
  refine xt_pure rfl rfl rfl (st1 := .int (iv + 2) :: _) rfl ?_
  refine xt_iald rfl rfl xmX a2.1 a2.2 ?_
  refine xt_callP (as := [.int x1, .int x2]) (mm := 335) rfl rfl rfl rfl ⟨rfl, rfl, yle rfl, yle rfl, yle rfl, yle rfl⟩ rfl (op_short hKe h) (c2 := c + 200) (s2 := s + 2400) ⟨by omega, by omega⟩ ?_
  intro v D1 hm
  refine xt_pure rfl rfl rfl rfl ?_
  refine xt_pure rfl rfl rfl rfl ?_
  refine xt_pure rfl rfl rfl rfl ?_
  refine xt_pure rfl rfl rfl (st1 := .int 1 :: _) rfl ?_
  refine xt_pure rfl rfl rfl (st1 := .int (iv + 1) :: _) rfl ?_
  refine xt_iald rfl rfl xmX a1.1 a1.2 ?_
  refine xt_pure rfl rfl rfl rfl ?_
  refine xt_pure rfl rfl rfl rfl ?_
  refine xt_pure rfl rfl rfl (st1 := .int 2 :: _) rfl ?_
  refine xt_pure rfl rfl rfl (st1 := .int (iv + 2) :: _) rfl ?_
  refine xt_iald rfl rfl xmX a2.1 a2.2 ?_
  refine xt_callM rfl rfl rfl rfl ⟨rfl, rfl, yle rfl, yle rfl, yle rfl, yle rfl⟩ rfl hm (c2 := c) (s2 := s) ⟨by omega, by omega⟩ ?_
  intro D2 hI
  exact yt_ic rfl rfl (fun _ => kk D2 hI) (fun (hn : v ≠ v) => absurd rfl hn)
set_option maxRecDepth 100000 in
theorem law_34 (a1 : lwA X (iv + 1) x1) (a2 : lwA X (iv + 2) x2) (a3 : lwA X (iv + 3) x3) (a4 : lwA X (iv + 4) x4) (h : Inv D) (kk : ∀ D2, Inv D2 → yT X 2000 80000 345 1091 [some (.ref 0), some (.ref 78), some (.ref 209), some (.int iv)] [] D2 c s Q) : yT X 2000 80000 345 955 [some (.ref 0), some (.ref 78), some (.ref 209), some (.int iv)] [] D (c + 400) (s + 4800) Q := by
  refine xt_pure rfl rfl rfl rfl ?_
  refine xt_pure rfl rfl rfl rfl ?_
  refine xt_pure rfl rfl rfl rfl ?_
  refine xt_pure rfl rfl rfl (st1 := .int 1 :: _) rfl ?_
  refine xt_pure rfl rfl rfl (st1 := .int (iv + 1) :: _) rfl ?_
  refine xt_iald rfl rfl xmX a1.1 a1.2 ?_
  refine xt_callP (as := [.int x1]) (mm := 342) rfl rfl rfl rfl ⟨rfl, rfl, yle rfl, yle rfl, yle rfl, yle rfl⟩ rfl (op_proof h) (c2 := c + 200) (s2 := s + 2400) ⟨by omega, by omega⟩ ?_
  intro v D1 hm
  refine xt_pure rfl rfl rfl rfl ?_
  refine xt_pure rfl rfl rfl rfl ?_
  refine xt_pure rfl rfl rfl rfl ?_
  refine xt_pure rfl rfl rfl (st1 := .int 1 :: _) rfl ?_
  refine xt_pure rfl rfl rfl (st1 := .int (iv + 1) :: _) rfl ?_
  refine xt_iald rfl rfl xmX a1.1 a1.2 ?_
  refine xt_callM rfl rfl rfl rfl ⟨rfl, rfl, yle rfl, yle rfl, yle rfl, yle rfl⟩ rfl hm (c2 := c) (s2 := s) ⟨by omega, by omega⟩ ?_
  intro D2 hI
  exact yt_ic rfl rfl (fun _ => kk D2 hI) (fun (hn : v ≠ v) => absurd rfl hn)
set_option maxRecDepth 100000 in
theorem law_35 (a1 : lwA X (iv + 1) x1) (a2 : lwA X (iv + 2) x2) (a3 : lwA X (iv + 3) x3) (a4 : lwA X (iv + 4) x4) (h : Inv D) (kk : ∀ D2, Inv D2 → yT X 2000 80000 345 1091 [some (.ref 0), some (.ref 78), some (.ref 209), some (.int iv)] [] D2 c s Q) : yT X 2000 80000 345 972 [some (.ref 0), some (.ref 78), some (.ref 209), some (.int iv)] [] D (c + 400) (s + 4800) Q := by
  refine xt_pure rfl rfl rfl rfl ?_
  refine xt_callP (as := []) (mm := 343) rfl rfl rfl rfl ⟨rfl, rfl, yle rfl, yle rfl, yle rfl, yle rfl⟩ rfl (op_keep h) (c2 := c + 200) (s2 := s + 2400) ⟨by omega, by omega⟩ ?_
  intro v D1 hm
  refine xt_pure rfl rfl rfl rfl ?_
  refine xt_callM rfl rfl rfl rfl ⟨rfl, rfl, yle rfl, yle rfl, yle rfl, yle rfl⟩ rfl hm (c2 := c) (s2 := s) ⟨by omega, by omega⟩ ?_
  intro D2 hI
  exact yt_ic rfl rfl (fun _ => kk D2 hI) (fun (hn : v ≠ v) => absurd rfl hn)
set_option maxRecDepth 100000 in
theorem law_36 (a1 : lwA X (iv + 1) x1) (a2 : lwA X (iv + 2) x2) (a3 : lwA X (iv + 3) x3) (a4 : lwA X (iv + 4) x4) (h : Inv D) (kk : ∀ D2, Inv D2 → yT X 2000 80000 345 1091 [some (.ref 0), some (.ref 78), some (.ref 209), some (.int iv)] [] D2 c s Q) : yT X 2000 80000 345 979 [some (.ref 0), some (.ref 78), some (.ref 209), some (.int iv)] [] D (c + 400) (s + 4800) Q := by
  refine xt_pure rfl rfl rfl rfl ?_
  refine xt_pure rfl rfl rfl rfl ?_
  refine xt_pure rfl rfl rfl rfl ?_
  refine xt_pure rfl rfl rfl (st1 := .int 1 :: _) rfl ?_
  refine xt_pure rfl rfl rfl (st1 := .int (iv + 1) :: _) rfl ?_
  refine xt_iald rfl rfl xmX a1.1 a1.2 ?_
  refine xt_callP (as := [.int x1]) (mm := 283) rfl rfl rfl rfl ⟨rfl, rfl, yle rfl, yle rfl, yle rfl, yle rfl⟩ rfl (op_export h) (c2 := c + 200) (s2 := s + 2400) ⟨by omega, by omega⟩ ?_
  intro v D1 hm
  refine xt_pure rfl rfl rfl rfl ?_
  refine xt_pure rfl rfl rfl rfl ?_
  refine xt_pure rfl rfl rfl rfl ?_
  refine xt_pure rfl rfl rfl (st1 := .int 1 :: _) rfl ?_
  refine xt_pure rfl rfl rfl (st1 := .int (iv + 1) :: _) rfl ?_
  refine xt_iald rfl rfl xmX a1.1 a1.2 ?_
  refine xt_callM rfl rfl rfl rfl ⟨rfl, rfl, yle rfl, yle rfl, yle rfl, yle rfl⟩ rfl hm (c2 := c) (s2 := s) ⟨by omega, by omega⟩ ?_
  intro D2 hI
  exact yt_ic rfl rfl (fun _ => kk D2 hI) (fun (hn : v ≠ v) => absurd rfl hn)
set_option maxRecDepth 100000 in
theorem law_37 (a1 : lwA X (iv + 1) x1) (a2 : lwA X (iv + 2) x2) (a3 : lwA X (iv + 3) x3) (a4 : lwA X (iv + 4) x4) (h : Inv D) (kk : ∀ D2, Inv D2 → yT X 2000 80000 345 1091 [some (.ref 0), some (.ref 78), some (.ref 209), some (.int iv)] [] D2 c s Q) : yT X 2000 80000 345 996 [some (.ref 0), some (.ref 78), some (.ref 209), some (.int iv)] [] D (c + 400) (s + 4800) Q := by
  refine xt_pure rfl rfl rfl rfl ?_
  refine xt_pure rfl rfl rfl rfl ?_
  refine xt_pure rfl rfl rfl rfl ?_
  refine xt_pure rfl rfl rfl (st1 := .int 1 :: _) rfl ?_
  refine xt_pure rfl rfl rfl (st1 := .int (iv + 1) :: _) rfl ?_
  refine xt_iald rfl rfl xmX a1.1 a1.2 ?_
  refine xt_callP (as := [.int x1]) (mm := 284) rfl rfl rfl rfl ⟨rfl, rfl, yle rfl, yle rfl, yle rfl, yle rfl⟩ rfl (op_disk h) (c2 := c + 200) (s2 := s + 2400) ⟨by omega, by omega⟩ ?_
  intro v D1 hm
  refine xt_pure rfl rfl rfl rfl ?_
  refine xt_pure rfl rfl rfl rfl ?_
  refine xt_pure rfl rfl rfl rfl ?_
  refine xt_pure rfl rfl rfl (st1 := .int 1 :: _) rfl ?_
  refine xt_pure rfl rfl rfl (st1 := .int (iv + 1) :: _) rfl ?_
  refine xt_iald rfl rfl xmX a1.1 a1.2 ?_
  refine xt_callM rfl rfl rfl rfl ⟨rfl, rfl, yle rfl, yle rfl, yle rfl, yle rfl⟩ rfl hm (c2 := c) (s2 := s) ⟨by omega, by omega⟩ ?_
  intro D2 hI
  exact yt_ic rfl rfl (fun _ => kk D2 hI) (fun (hn : v ≠ v) => absurd rfl hn)
set_option maxRecDepth 100000 in
theorem law_38 (a1 : lwA X (iv + 1) x1) (a2 : lwA X (iv + 2) x2) (a3 : lwA X (iv + 3) x3) (a4 : lwA X (iv + 4) x4) (h : Inv D) (kk : ∀ D2, Inv D2 → yT X 2000 80000 345 1091 [some (.ref 0), some (.ref 78), some (.ref 209), some (.int iv)] [] D2 c s Q) : yT X 2000 80000 345 1013 [some (.ref 0), some (.ref 78), some (.ref 209), some (.int iv)] [] D (c + 400) (s + 4800) Q := by
  refine xt_pure rfl rfl rfl rfl ?_
  refine xt_pure rfl rfl rfl rfl ?_
  refine xt_pure rfl rfl rfl rfl ?_
  refine xt_pure rfl rfl rfl (st1 := .int 1 :: _) rfl ?_
  refine xt_pure rfl rfl rfl (st1 := .int (iv + 1) :: _) rfl ?_
  refine xt_iald rfl rfl xmX a1.1 a1.2 ?_
  refine xt_pure rfl rfl rfl rfl ?_
  refine xt_pure rfl rfl rfl rfl ?_
  refine xt_pure rfl rfl rfl (st1 := .int 2 :: _) rfl ?_
  refine xt_pure rfl rfl rfl (st1 := .int (iv + 2) :: _) rfl ?_
  refine xt_iald rfl rfl xmX a2.1 a2.2 ?_
  refine xt_callP (as := [.int x1, .int x2]) (mm := 285) rfl rfl rfl rfl ⟨rfl, rfl, yle rfl, yle rfl, yle rfl, yle rfl⟩ rfl (op_alter h) (c2 := c + 200) (s2 := s + 2400) ⟨by omega, by omega⟩ ?_
  intro v D1 hm
  refine xt_pure rfl rfl rfl rfl ?_
  refine xt_pure rfl rfl rfl rfl ?_
  refine xt_pure rfl rfl rfl rfl ?_
  refine xt_pure rfl rfl rfl (st1 := .int 1 :: _) rfl ?_
  refine xt_pure rfl rfl rfl (st1 := .int (iv + 1) :: _) rfl ?_
  refine xt_iald rfl rfl xmX a1.1 a1.2 ?_
  refine xt_pure rfl rfl rfl rfl ?_
  refine xt_pure rfl rfl rfl rfl ?_
  refine xt_pure rfl rfl rfl (st1 := .int 2 :: _) rfl ?_
  refine xt_pure rfl rfl rfl (st1 := .int (iv + 2) :: _) rfl ?_
  refine xt_iald rfl rfl xmX a2.1 a2.2 ?_
  refine xt_callM rfl rfl rfl rfl ⟨rfl, rfl, yle rfl, yle rfl, yle rfl, yle rfl⟩ rfl hm (c2 := c) (s2 := s) ⟨by omega, by omega⟩ ?_
  intro D2 hI
  exact yt_ic rfl rfl (fun _ => kk D2 hI) (fun (hn : v ≠ v) => absurd rfl hn)
set_option maxRecDepth 100000 in
theorem law_39 (a1 : lwA X (iv + 1) x1) (a2 : lwA X (iv + 2) x2) (a3 : lwA X (iv + 3) x3) (a4 : lwA X (iv + 4) x4) (h : Inv D) (kk : ∀ D2, Inv D2 → yT X 2000 80000 345 1091 [some (.ref 0), some (.ref 78), some (.ref 209), some (.int iv)] [] D2 c s Q) : yT X 2000 80000 345 1040 [some (.ref 0), some (.ref 78), some (.ref 209), some (.int iv)] [] D (c + 400) (s + 4800) Q := by
  refine xt_pure rfl rfl rfl rfl ?_
  refine xt_pure rfl rfl rfl rfl ?_
  refine xt_pure rfl rfl rfl rfl ?_
  refine xt_pure rfl rfl rfl (st1 := .int 1 :: _) rfl ?_
  refine xt_pure rfl rfl rfl (st1 := .int (iv + 1) :: _) rfl ?_
  refine xt_iald rfl rfl xmX a1.1 a1.2 ?_
  refine xt_callP (as := [.int x1]) (mm := 286) rfl rfl rfl rfl ⟨rfl, rfl, yle rfl, yle rfl, yle rfl, yle rfl⟩ rfl (op_cut h) (c2 := c + 200) (s2 := s + 2400) ⟨by omega, by omega⟩ ?_
  intro v D1 hm
  refine xt_pure rfl rfl rfl rfl ?_
  refine xt_pure rfl rfl rfl rfl ?_
  refine xt_pure rfl rfl rfl rfl ?_
  refine xt_pure rfl rfl rfl (st1 := .int 1 :: _) rfl ?_
  refine xt_pure rfl rfl rfl (st1 := .int (iv + 1) :: _) rfl ?_
  refine xt_iald rfl rfl xmX a1.1 a1.2 ?_
  refine xt_callM rfl rfl rfl rfl ⟨rfl, rfl, yle rfl, yle rfl, yle rfl, yle rfl⟩ rfl hm (c2 := c) (s2 := s) ⟨by omega, by omega⟩ ?_
  intro D2 hI
  exact yt_ic rfl rfl (fun _ => kk D2 hI) (fun (hn : v ≠ v) => absurd rfl hn)
set_option maxRecDepth 100000 in
theorem law_40 (a1 : lwA X (iv + 1) x1) (a2 : lwA X (iv + 2) x2) (a3 : lwA X (iv + 3) x3) (a4 : lwA X (iv + 4) x4) (h : Inv D) (kk : ∀ D2, Inv D2 → yT X 2000 80000 345 1091 [some (.ref 0), some (.ref 78), some (.ref 209), some (.int iv)] [] D2 c s Q) : yT X 2000 80000 345 1057 [some (.ref 0), some (.ref 78), some (.ref 209), some (.int iv)] [] D (c + 400) (s + 4800) Q := by
  refine xt_pure rfl rfl rfl rfl ?_
  refine xt_pure rfl rfl rfl rfl ?_
  refine xt_pure rfl rfl rfl rfl ?_
  refine xt_pure rfl rfl rfl (st1 := .int 1 :: _) rfl ?_
  refine xt_pure rfl rfl rfl (st1 := .int (iv + 1) :: _) rfl ?_
  refine xt_iald rfl rfl xmX a1.1 a1.2 ?_
  refine xt_callP (as := [.int x1]) (mm := 287) rfl rfl rfl rfl ⟨rfl, rfl, yle rfl, yle rfl, yle rfl, yle rfl⟩ rfl (op_take h) (c2 := c + 200) (s2 := s + 2400) ⟨by omega, by omega⟩ ?_
  intro v D1 hm
  refine xt_pure rfl rfl rfl rfl ?_
  refine xt_pure rfl rfl rfl rfl ?_
  refine xt_pure rfl rfl rfl rfl ?_
  refine xt_pure rfl rfl rfl (st1 := .int 1 :: _) rfl ?_
  refine xt_pure rfl rfl rfl (st1 := .int (iv + 1) :: _) rfl ?_
  refine xt_iald rfl rfl xmX a1.1 a1.2 ?_
  refine xt_callM rfl rfl rfl rfl ⟨rfl, rfl, yle rfl, yle rfl, yle rfl, yle rfl⟩ rfl hm (c2 := c) (s2 := s) ⟨by omega, by omega⟩ ?_
  intro D2 hI
  exact yt_ic rfl rfl (fun _ => kk D2 hI) (fun (hn : v ≠ v) => absurd rfl hn)
set_option maxRecDepth 100000 in
theorem law_41 (a1 : lwA X (iv + 1) x1) (a2 : lwA X (iv + 2) x2) (a3 : lwA X (iv + 3) x3) (a4 : lwA X (iv + 4) x4) (h : Inv D) (kk : ∀ D2, Inv D2 → yT X 2000 80000 345 1091 [some (.ref 0), some (.ref 78), some (.ref 209), some (.int iv)] [] D2 c s Q) : yT X 2000 80000 345 1074 [some (.ref 0), some (.ref 78), some (.ref 209), some (.int iv)] [] D (c + 400) (s + 4800) Q := by
  refine xt_pure rfl rfl rfl rfl ?_
  refine xt_pure rfl rfl rfl rfl ?_
  refine xt_pure rfl rfl rfl rfl ?_
  refine xt_pure rfl rfl rfl (st1 := .int 1 :: _) rfl ?_
  refine xt_pure rfl rfl rfl (st1 := .int (iv + 1) :: _) rfl ?_
  refine xt_iald rfl rfl xmX a1.1 a1.2 ?_
  refine xt_callP (as := [.int x1]) (mm := 344) rfl rfl rfl rfl ⟨rfl, rfl, yle rfl, yle rfl, yle rfl, yle rfl⟩ rfl (op_count h) (c2 := c + 200) (s2 := s + 2400) ⟨by omega, by omega⟩ ?_
  intro v D1 hm
  refine xt_pure rfl rfl rfl rfl ?_
  refine xt_pure rfl rfl rfl rfl ?_
  refine xt_pure rfl rfl rfl rfl ?_
  refine xt_pure rfl rfl rfl (st1 := .int 1 :: _) rfl ?_
  refine xt_pure rfl rfl rfl (st1 := .int (iv + 1) :: _) rfl ?_
  refine xt_iald rfl rfl xmX a1.1 a1.2 ?_
  refine xt_callM rfl rfl rfl rfl ⟨rfl, rfl, yle rfl, yle rfl, yle rfl, yle rfl⟩ rfl hm (c2 := c) (s2 := s) ⟨by omega, by omega⟩ ?_
  intro D2 hI
  exact yt_ic rfl rfl (fun _ => kk D2 hI) (fun (hn : v ≠ v) => absurd rfl hn)
end LAW3
