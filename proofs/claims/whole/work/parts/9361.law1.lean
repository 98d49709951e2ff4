/-! THE LAW, case by case: sort, draft, give, back, kindOf, item, cellOf, digest, check, finding, shown -/
section LAW1
variable {X : List Int32} {D : List xE} {iv x1 x2 x3 x4 : Int32} {K c s : Nat} {Q : Option Value → List xE → Prop}
set_option maxRecDepth 100000 in
theorem law_11 (a1 : lwA X (iv + 1) x1) (a2 : lwA X (iv + 2) x2) (a3 : lwA X (iv + 3) x3) (a4 : lwA X (iv + 4) x4) (h : Inv D) (kk : ∀ D2, Inv D2 → yT X 2000 80000 345 1091 [some (.ref 0), some (.ref 78), some (.ref 209), some (.int iv)] [] D2 c s Q) : yT X 2000 80000 345 381 [some (.ref 0), some (.ref 78), some (.ref 209), some (.int iv)] [] D (c + 400) (s + 4800) Q := by
  refine xt_pure rfl rfl rfl rfl ?_
  refine xt_callP (as := []) (mm := 266) rfl rfl rfl rfl ⟨rfl, rfl, yle rfl, yle rfl, yle rfl, yle rfl⟩ rfl (op_sort h) (c2 := c + 200) (s2 := s + 2400) ⟨by omega, by omega⟩ ?_
  intro v D1 hm
  refine xt_pure rfl rfl rfl rfl ?_
  refine xt_callM rfl rfl rfl rfl ⟨rfl, rfl, yle rfl, yle rfl, yle rfl, yle rfl⟩ rfl hm (c2 := c) (s2 := s) ⟨by omega, by omega⟩ ?_
  intro D2 hI
  exact yt_ic rfl rfl (fun _ => kk D2 hI) (fun (hn : v ≠ v) => absurd rfl hn)
set_option maxRecDepth 100000 in
theorem law_12 (a1 : lwA X (iv + 1) x1) (a2 : lwA X (iv + 2) x2) (a3 : lwA X (iv + 3) x3) (a4 : lwA X (iv + 4) x4) (h : Inv D) (kk : ∀ D2, Inv D2 → yT X 2000 80000 345 1091 [some (.ref 0), some (.ref 78), some (.ref 209), some (.int iv)] [] D2 c s Q) : yT X 2000 80000 345 388 [some (.ref 0), some (.ref 78), some (.ref 209), some (.int iv)] [] D (c + 400) (s + 4800) Q := by
  refine xt_pure rfl rfl rfl rfl ?_
  refine xt_pure rfl rfl rfl rfl ?_
  refine xt_pure rfl rfl rfl rfl ?_
  refine xt_pure rfl rfl rfl (st1 := .int 1 :: _) rfl ?_
  refine xt_pure rfl rfl rfl (st1 := .int (iv + 1) :: _) rfl ?_
  refine xt_iald rfl rfl xmX a1.1 a1.2 ?_
  refine xt_callP (as := [.int x1]) (mm := 267) rfl rfl rfl rfl ⟨rfl, rfl, yle rfl, yle rfl, yle rfl, yle rfl⟩ rfl (op_draft h) (c2 := c + 200) (s2 := s + 2400) ⟨by omega, by omega⟩ ?_
  intro v D1 hm
  refine xt_pure rfl rfl rfl rfl ?_
  refine xt_pure rfl rfl rfl rfl ?_
  refine xt_pure rfl rfl rfl rfl ?_
  refine xt_pure rfl rfl rfl (st1 := .int 1 :: _) rfl ?_
  refine xt_pure rfl rfl rfl (st1 := .int (iv + 1) :: _) rfl ?_
  refine xt_iald rfl rfl xmX a1.1 a1.2 ?_
  refine xt_callM rfl rfl rfl rfl ⟨rfl, rfl, yle rfl, yle rfl, yle rfl, yle rfl⟩ rfl hm (c2 := c) (s2 := s) ⟨by omega, by omega⟩ ?_
  intro D2 hI
  exact yt_ic rfl rfl (fun _ => kk D2 hI) (fun (hn : v ≠ v) => absurd rfl hn)
set_option maxRecDepth 100000 in
theorem law_13 (a1 : lwA X (iv + 1) x1) (a2 : lwA X (iv + 2) x2) (a3 : lwA X (iv + 3) x3) (a4 : lwA X (iv + 4) x4) (h : Inv D) (kk : ∀ D2, Inv D2 → yT X 2000 80000 345 1091 [some (.ref 0), some (.ref 78), some (.ref 209), some (.int iv)] [] D2 c s Q) : yT X 2000 80000 345 405 [some (.ref 0), some (.ref 78), some (.ref 209), some (.int iv)] [] D (c + 400) (s + 4800) Q := by
  refine xt_pure rfl rfl rfl rfl ?_
  refine xt_pure rfl rfl rfl rfl ?_
  refine xt_pure rfl rfl rfl rfl ?_
  refine xt_pure rfl rfl rfl (st1 := .int 1 :: _) rfl ?_
  refine xt_pure rfl rfl rfl (st1 := .int (iv + 1) :: _) rfl ?_
  refine xt_iald rfl rfl xmX a1.1 a1.2 ?_
  refine xt_pure rfl rfl rfl rfl ?_
  refine xt_pure rfl rfl rfl rfl ?_
  refine xt_pure rfl rfl rfl (st1 := .int 2 :: _) rfl ?_
  refine xt_pure rfl rfl rfl (st1 := .int (iv + 2) :: _) rfl ?_
  refine xt_iald rfl rfl xmX a2.1 a2.2 ?_
  refine xt_callP (as := [.int x1, .int x2]) (mm := 269) rfl rfl rfl rfl ⟨rfl, rfl, yle rfl, yle rfl, yle rfl, yle rfl⟩ rfl (op_give h) (c2 := c + 200) (s2 := s + 2400) ⟨by omega, by omega⟩ ?_
  intro v D1 hm
  refine xt_pure rfl rfl rfl rfl ?_
  refine xt_pure rfl rfl rfl rfl ?_
  refine xt_pure rfl rfl rfl rfl ?_
  refine xt_pure rfl rfl rfl (st1 := .int 1 :: _) rfl ?_
  refine xt_pure rfl rfl rfl (st1 := .int (iv + 1) :: _) rfl ?_
  refine xt_iald rfl rfl xmX a1.1 a1.2 ?_
  refine xt_pure rfl rfl rfl rfl ?_
  refine xt_pure rfl rfl rfl rfl ?_
  refine xt_pure rfl rfl rfl (st1 := .int 2 :: _) rfl ?_
  refine xt_pure rfl rfl rfl (st1 := .int (iv + 2) :: _) rfl ?_
  refine xt_iald rfl rfl xmX a2.1 a2.2 ?_
  refine xt_callM rfl rfl rfl rfl ⟨rfl, rfl, yle rfl, yle rfl, yle rfl, yle rfl⟩ rfl hm (c2 := c) (s2 := s) ⟨by omega, by omega⟩ ?_
  intro D2 hI
  exact yt_ic rfl rfl (fun _ => kk D2 hI) (fun (hn : v ≠ v) => absurd rfl hn)
set_option maxRecDepth 100000 in
theorem law_14 (a1 : lwA X (iv + 1) x1) (a2 : lwA X (iv + 2) x2) (a3 : lwA X (iv + 3) x3) (a4 : lwA X (iv + 4) x4) (h : Inv D) (kk : ∀ D2, Inv D2 → yT X 2000 80000 345 1091 [some (.ref 0), some (.ref 78), some (.ref 209), some (.int iv)] [] D2 c s Q) : yT X 2000 80000 345 432 [some (.ref 0), some (.ref 78), some (.ref 209), some (.int iv)] [] D (c + 400) (s + 4800) Q := by
  refine xt_pure rfl rfl rfl rfl ?_
  refine xt_pure rfl rfl rfl rfl ?_
  refine xt_pure rfl rfl rfl rfl ?_
  refine xt_pure rfl rfl rfl (st1 := .int 1 :: _) rfl ?_
  refine xt_pure rfl rfl rfl (st1 := .int (iv + 1) :: _) rfl ?_
  refine xt_iald rfl rfl xmX a1.1 a1.2 ?_
  refine xt_callP (as := [.int x1]) (mm := 274) rfl rfl rfl rfl ⟨rfl, rfl, yle rfl, yle rfl, yle rfl, yle rfl⟩ rfl (op_back h) (c2 := c + 200) (s2 := s + 2400) ⟨by omega, by omega⟩ ?_
  intro v D1 hm
  refine xt_pure rfl rfl rfl rfl ?_
  refine xt_pure rfl rfl rfl rfl ?_
  refine xt_pure rfl rfl rfl rfl ?_
  refine xt_pure rfl rfl rfl (st1 := .int 1 :: _) rfl ?_
  refine xt_pure rfl rfl rfl (st1 := .int (iv + 1) :: _) rfl ?_
  refine xt_iald rfl rfl xmX a1.1 a1.2 ?_
  refine xt_callM rfl rfl rfl rfl ⟨rfl, rfl, yle rfl, yle rfl, yle rfl, yle rfl⟩ rfl hm (c2 := c) (s2 := s) ⟨by omega, by omega⟩ ?_
  intro D2 hI
  exact yt_ic rfl rfl (fun _ => kk D2 hI) (fun (hn : v ≠ v) => absurd rfl hn)
set_option maxRecDepth 100000 in
theorem law_15 (a1 : lwA X (iv + 1) x1) (a2 : lwA X (iv + 2) x2) (a3 : lwA X (iv + 3) x3) (a4 : lwA X (iv + 4) x4) (h : Inv D) (kk : ∀ D2, Inv D2 → yT X 2000 80000 345 1091 [some (.ref 0), some (.ref 78), some (.ref 209), some (.int iv)] [] D2 c s Q) : yT X 2000 80000 345 449 [some (.ref 0), some (.ref 78), some (.ref 209), some (.int iv)] [] D (c + 400) (s + 4800) Q := by
  refine xt_pure rfl rfl rfl rfl ?_
  refine xt_pure rfl rfl rfl rfl ?_
  refine xt_pure rfl rfl rfl rfl ?_
  refine xt_pure rfl rfl rfl (st1 := .int 1 :: _) rfl ?_
  refine xt_pure rfl rfl rfl (st1 := .int (iv + 1) :: _) rfl ?_
  refine xt_iald rfl rfl xmX a1.1 a1.2 ?_
  refine xt_pure rfl rfl rfl rfl ?_
  refine xt_pure rfl rfl rfl rfl ?_
  refine xt_pure rfl rfl rfl (st1 := .int 2 :: _) rfl ?_
  refine xt_pure rfl rfl rfl (st1 := .int (iv + 2) :: _) rfl ?_
  refine xt_iald rfl rfl xmX a2.1 a2.2 ?_
  refine xt_callP (as := [.int x1, .int x2]) (mm := 275) rfl rfl rfl rfl ⟨rfl, rfl, yle rfl, yle rfl, yle rfl, yle rfl⟩ rfl (op_kindOf h) (c2 := c + 200) (s2 := s + 2400) ⟨by omega, by omega⟩ ?_
  intro v D1 hm
  refine xt_pure rfl rfl rfl rfl ?_
  refine xt_pure rfl rfl rfl rfl ?_
  refine xt_pure rfl rfl rfl rfl ?_
  refine xt_pure rfl rfl rfl (st1 := .int 1 :: _) rfl ?_
  refine xt_pure rfl rfl rfl (st1 := .int (iv + 1) :: _) rfl ?_
  refine xt_iald rfl rfl xmX a1.1 a1.2 ?_
  refine xt_pure rfl rfl rfl rfl ?_
  refine xt_pure rfl rfl rfl rfl ?_
  refine xt_pure rfl rfl rfl (st1 := .int 2 :: _) rfl ?_
  refine xt_pure rfl rfl rfl (st1 := .int (iv + 2) :: _) rfl ?_
  refine xt_iald rfl rfl xmX a2.1 a2.2 ?_
  refine xt_callM rfl rfl rfl rfl ⟨rfl, rfl, yle rfl, yle rfl, yle rfl, yle rfl⟩ rfl hm (c2 := c) (s2 := s) ⟨by omega, by omega⟩ ?_
  intro D2 hI
  exact yt_ic rfl rfl (fun _ => kk D2 hI) (fun (hn : v ≠ v) => absurd rfl hn)
set_option maxRecDepth 100000 in
theorem law_16 (a1 : lwA X (iv + 1) x1) (a2 : lwA X (iv + 2) x2) (a3 : lwA X (iv + 3) x3) (a4 : lwA X (iv + 4) x4) (h : Inv D) (kk : ∀ D2, Inv D2 → yT X 2000 80000 345 1091 [some (.ref 0), some (.ref 78), some (.ref 209), some (.int iv)] [] D2 c s Q) : yT X 2000 80000 345 476 [some (.ref 0), some (.ref 78), some (.ref 209), some (.int iv)] [] D (c + 400) (s + 4800) Q := by
  refine xt_pure rfl rfl rfl rfl ?_
  refine xt_pure rfl rfl rfl rfl ?_
  refine xt_pure rfl rfl rfl rfl ?_
  refine xt_pure rfl rfl rfl (st1 := .int 1 :: _) rfl ?_
  refine xt_pure rfl rfl rfl (st1 := .int (iv + 1) :: _) rfl ?_
  refine xt_iald rfl rfl xmX a1.1 a1.2 ?_
  refine xt_pure rfl rfl rfl rfl ?_
  refine xt_pure rfl rfl rfl rfl ?_
  refine xt_pure rfl rfl rfl (st1 := .int 2 :: _) rfl ?_
  refine xt_pure rfl rfl rfl (st1 := .int (iv + 2) :: _) rfl ?_
  refine xt_iald rfl rfl xmX a2.1 a2.2 ?_
  refine xt_pure rfl rfl rfl rfl ?_
  refine xt_pure rfl rfl rfl rfl ?_
  refine xt_pure rfl rfl rfl (st1 := .int 3 :: _) rfl ?_
  refine xt_pure rfl rfl rfl (st1 := .int (iv + 3) :: _) rfl ?_
  refine xt_iald rfl rfl xmX a3.1 a3.2 ?_
  refine xt_callP (as := [.int x1, .int x2, .int x3]) (mm := 276) rfl rfl rfl rfl ⟨rfl, rfl, yle rfl, yle rfl, yle rfl, yle rfl⟩ rfl (op_item h) (c2 := c + 200) (s2 := s + 2400) ⟨by omega, by omega⟩ ?_
  intro v D1 hm
  refine xt_pure rfl rfl rfl rfl ?_
  refine xt_pure rfl rfl rfl rfl ?_
  refine xt_pure rfl rfl rfl rfl ?_
  refine xt_pure rfl rfl rfl (st1 := .int 1 :: _) rfl ?_
  refine xt_pure rfl rfl rfl (st1 := .int (iv + 1) :: _) rfl ?_
  refine xt_iald rfl rfl xmX a1.1 a1.2 ?_
  refine xt_pure rfl rfl rfl rfl ?_
  refine xt_pure rfl rfl rfl rfl ?_
  refine xt_pure rfl rfl rfl (st1 := .int 2 :: _) rfl ?_
  refine xt_pure rfl rfl rfl (st1 := .int (iv + 2) :: _) rfl ?_
  refine xt_iald rfl rfl xmX a2.1 a2.2 ?_
  refine xt_pure rfl rfl rfl rfl ?_
  refine xt_pure rfl rfl rfl rfl ?_
  refine xt_pure rfl rfl rfl (st1 := .int 3 :: _) rfl ?_
  refine xt_pure rfl rfl rfl (st1 := .int (iv + 3) :: _) rfl ?_
  refine xt_iald rfl rfl xmX a3.1 a3.2 ?_
  refine xt_callM rfl rfl rfl rfl ⟨rfl, rfl, yle rfl, yle rfl, yle rfl, yle rfl⟩ rfl hm (c2 := c) (s2 := s) ⟨by omega, by omega⟩ ?_
  intro D2 hI
  exact yt_lc rfl rfl rfl (fun _ => kk D2 hI) (fun (hn : v ≠ v) => absurd rfl hn)
set_option maxRecDepth 100000 in
theorem law_17 (a1 : lwA X (iv + 1) x1) (a2 : lwA X (iv + 2) x2) (a3 : lwA X (iv + 3) x3) (a4 : lwA X (iv + 4) x4) (h : Inv D) (kk : ∀ D2, Inv D2 → yT X 2000 80000 345 1091 [some (.ref 0), some (.ref 78), some (.ref 209), some (.int iv)] [] D2 c s Q) : yT X 2000 80000 345 514 [some (.ref 0), some (.ref 78), some (.ref 209), some (.int iv)] [] D (c + 400) (s + 4800) Q := by
  refine xt_pure rfl rfl rfl rfl ?_
  refine xt_pure rfl rfl rfl rfl ?_
  refine xt_pure rfl rfl rfl rfl ?_
  refine xt_pure rfl rfl rfl (st1 := .int 1 :: _) rfl ?_
  refine xt_pure rfl rfl rfl (st1 := .int (iv + 1) :: _) rfl ?_
  refine xt_iald rfl rfl xmX a1.1 a1.2 ?_
  refine xt_pure rfl rfl rfl rfl ?_
  refine xt_pure rfl rfl rfl rfl ?_
  refine xt_pure rfl rfl rfl (st1 := .int 2 :: _) rfl ?_
  refine xt_pure rfl rfl rfl (st1 := .int (iv + 2) :: _) rfl ?_
  refine xt_iald rfl rfl xmX a2.1 a2.2 ?_
  refine xt_pure rfl rfl rfl rfl ?_
  refine xt_pure rfl rfl rfl rfl ?_
  refine xt_pure rfl rfl rfl (st1 := .int 3 :: _) rfl ?_
  refine xt_pure rfl rfl rfl (st1 := .int (iv + 3) :: _) rfl ?_
  refine xt_iald rfl rfl xmX a3.1 a3.2 ?_
  refine xt_pure rfl rfl rfl rfl ?_
  refine xt_pure rfl rfl rfl rfl ?_
  refine xt_pure rfl rfl rfl (st1 := .int 4 :: _) rfl ?_
  refine xt_pure rfl rfl rfl (st1 := .int (iv + 4) :: _) rfl ?_
  refine xt_iald rfl rfl xmX a4.1 a4.2 ?_
  refine xt_callP (as := [.int x1, .int x2, .int x3, .int x4]) (mm := 277) rfl rfl rfl rfl ⟨rfl, rfl, yle rfl, yle rfl, yle rfl, yle rfl⟩ rfl (op_cellOf h) (c2 := c + 200) (s2 := s + 2400) ⟨by omega, by omega⟩ ?_
  intro v D1 hm
  refine xt_pure rfl rfl rfl rfl ?_
  refine xt_pure rfl rfl rfl rfl ?_
  refine xt_pure rfl rfl rfl rfl ?_
  refine xt_pure rfl rfl rfl (st1 := .int 1 :: _) rfl ?_
  refine xt_pure rfl rfl rfl (st1 := .int (iv + 1) :: _) rfl ?_
  refine xt_iald rfl rfl xmX a1.1 a1.2 ?_
  refine xt_pure rfl rfl rfl rfl ?_
  refine xt_pure rfl rfl rfl rfl ?_
  refine xt_pure rfl rfl rfl (st1 := .int 2 :: _) rfl ?_
  refine xt_pure rfl rfl rfl (st1 := .int (iv + 2) :: _) rfl ?_
  refine xt_iald rfl rfl xmX a2.1 a2.2 ?_
  refine xt_pure rfl rfl rfl rfl ?_
  refine xt_pure rfl rfl rfl rfl ?_
  refine xt_pure rfl rfl rfl (st1 := .int 3 :: _) rfl ?_
  refine xt_pure rfl rfl rfl (st1 := .int (iv + 3) :: _) rfl ?_
  refine xt_iald rfl rfl xmX a3.1 a3.2 ?_
  refine xt_pure rfl rfl rfl rfl ?_
  refine xt_pure rfl rfl rfl rfl ?_
  refine xt_pure rfl rfl rfl (st1 := .int 4 :: _) rfl ?_
  refine xt_pure rfl rfl rfl (st1 := .int (iv + 4) :: _) rfl ?_
  refine xt_iald rfl rfl xmX a4.1 a4.2 ?_
  refine xt_callM rfl rfl rfl rfl ⟨rfl, rfl, yle rfl, yle rfl, yle rfl, yle rfl⟩ rfl hm (c2 := c) (s2 := s) ⟨by omega, by omega⟩ ?_
  intro D2 hI
  exact yt_ic rfl rfl (fun _ => kk D2 hI) (fun (hn : v ≠ v) => absurd rfl hn)
set_option maxRecDepth 100000 in
theorem law_18 (a1 : lwA X (iv + 1) x1) (a2 : lwA X (iv + 2) x2) (a3 : lwA X (iv + 3) x3) (a4 : lwA X (iv + 4) x4) (h : Inv D) (kk : ∀ D2, Inv D2 → yT X 2000 80000 345 1091 [some (.ref 0), some (.ref 78), some (.ref 209), some (.int iv)] [] D2 c s Q) : yT X 2000 80000 345 561 [some (.ref 0), some (.ref 78), some (.ref 209), some (.int iv)] [] D (c + 400) (s + 4800) Q := by
  refine xt_pure rfl rfl rfl rfl ?_
  refine xt_pure rfl rfl rfl rfl ?_
  refine xt_pure rfl rfl rfl rfl ?_
  refine xt_pure rfl rfl rfl (st1 := .int 1 :: _) rfl ?_
  refine xt_pure rfl rfl rfl (st1 := .int (iv + 1) :: _) rfl ?_
  refine xt_iald rfl rfl xmX a1.1 a1.2 ?_
  refine xt_callP (as := [.int x1]) (mm := 278) rfl rfl rfl rfl ⟨rfl, rfl, yle rfl, yle rfl, yle rfl, yle rfl⟩ rfl (op_digest h) (c2 := c + 200) (s2 := s + 2400) ⟨by omega, by omega⟩ ?_
  intro v D1 hm
  refine xt_pure rfl rfl rfl rfl ?_
  refine xt_pure rfl rfl rfl rfl ?_
  refine xt_pure rfl rfl rfl rfl ?_
  refine xt_pure rfl rfl rfl (st1 := .int 1 :: _) rfl ?_
  refine xt_pure rfl rfl rfl (st1 := .int (iv + 1) :: _) rfl ?_
  refine xt_iald rfl rfl xmX a1.1 a1.2 ?_
  refine xt_callM rfl rfl rfl rfl ⟨rfl, rfl, yle rfl, yle rfl, yle rfl, yle rfl⟩ rfl hm (c2 := c) (s2 := s) ⟨by omega, by omega⟩ ?_
  intro D2 hI
  exact yt_ic rfl rfl (fun _ => kk D2 hI) (fun (hn : v ≠ v) => absurd rfl hn)
set_option maxRecDepth 100000 in
theorem law_19 (hKe : K = 300) (a1 : lwA X (iv + 1) x1) (a2 : lwA X (iv + 2) x2) (a3 : lwA X (iv + 3) x3) (a4 : lwA X (iv + 4) x4) (h : Inv D) (kk : ∀ D2, Inv D2 → yT X 2000 80000 345 1091 [some (.ref 0), some (.ref 78), some (.ref 209), some (.int iv)] [] D2 c s Q) : yT X 2000 80000 345 578 [some (.ref 0), some (.ref 78), some (.ref 209), some (.int iv)] [] D (c + 400) (s + 4800) Q := by
  refine xt_pure rfl rfl rfl rfl ?_
  refine xt_pure rfl rfl rfl rfl ?_
  refine xt_pure rfl rfl rfl rfl ?_
  refine xt_pure rfl rfl rfl (st1 := .int 1 :: _) rfl ?_
  refine xt_pure rfl rfl rfl (st1 := .int (iv + 1) :: _) rfl ?_
  refine xt_iald rfl rfl xmX a1.1 a1.2 ?_
  refine xt_callP (as := [.int x1]) (mm := 293) rfl rfl rfl rfl ⟨rfl, rfl, yle rfl, yle rfl, yle rfl, yle rfl⟩ rfl (op_check hKe h) (c2 := c + 200) (s2 := s + 2400) ⟨by omega, by omega⟩ ?_
  intro v D1 hm
  refine xt_pure rfl rfl rfl rfl ?_
  refine xt_pure rfl rfl rfl rfl ?_
  refine xt_pure rfl rfl rfl rfl ?_
  refine xt_pure rfl rfl rfl (st1 := .int 1 :: _) rfl ?_
  refine xt_pure rfl rfl rfl (st1 := .int (iv + 1) :: _) rfl ?_
  refine xt_iald rfl rfl xmX a1.1 a1.2 ?_
  refine xt_callM rfl rfl rfl rfl ⟨rfl, rfl, yle rfl, yle rfl, yle rfl, yle rfl⟩ rfl hm (c2 := c) (s2 := s) ⟨by omega, by omega⟩ ?_
  intro D2 hI
  exact yt_ic rfl rfl (fun _ => kk D2 hI) (fun (hn : v ≠ v) => absurd rfl hn)
set_option maxRecDepth 100000 in
theorem law_20 (a1 : lwA X (iv + 1) x1) (a2 : lwA X (iv + 2) x2) (a3 : lwA X (iv + 3) x3) (a4 : lwA X (iv + 4) x4) (h : Inv D) (kk : ∀ D2, Inv D2 → yT X 2000 80000 345 1091 [some (.ref 0), some (.ref 78), some (.ref 209), some (.int iv)] [] D2 c s Q) : yT X 2000 80000 345 595 [some (.ref 0), some (.ref 78), some (.ref 209), some (.int iv)] [] D (c + 400) (s + 4800) Q := by
  refine xt_pure rfl rfl rfl rfl ?_
  refine xt_pure rfl rfl rfl rfl ?_
  refine xt_pure rfl rfl rfl rfl ?_
  refine xt_pure rfl rfl rfl (st1 := .int 1 :: _) rfl ?_
  refine xt_pure rfl rfl rfl (st1 := .int (iv + 1) :: _) rfl ?_
  refine xt_iald rfl rfl xmX a1.1 a1.2 ?_
  refine xt_pure rfl rfl rfl rfl ?_
  refine xt_pure rfl rfl rfl rfl ?_
  refine xt_pure rfl rfl rfl (st1 := .int 2 :: _) rfl ?_
  refine xt_pure rfl rfl rfl (st1 := .int (iv + 2) :: _) rfl ?_
  refine xt_iald rfl rfl xmX a2.1 a2.2 ?_
  refine xt_callP (as := [.int x1, .int x2]) (mm := 318) rfl rfl rfl rfl ⟨rfl, rfl, yle rfl, yle rfl, yle rfl, yle rfl⟩ rfl (op_finding h) (c2 := c + 200) (s2 := s + 2400) ⟨by omega, by omega⟩ ?_
  intro v D1 hm
  refine xt_pure rfl rfl rfl rfl ?_
  refine xt_pure rfl rfl rfl rfl ?_
  refine xt_pure rfl rfl rfl rfl ?_
  refine xt_pure rfl rfl rfl (st1 := .int 1 :: _) rfl ?_
  refine xt_pure rfl rfl rfl (st1 := .int (iv + 1) :: _) rfl ?_
  refine xt_iald rfl rfl xmX a1.1 a1.2 ?_
  refine xt_pure rfl rfl rfl rfl ?_
  refine xt_pure rfl rfl rfl rfl ?_
  refine xt_pure rfl rfl rfl (st1 := .int 2 :: _) rfl ?_
  refine xt_pure rfl rfl rfl (st1 := .int (iv + 2) :: _) rfl ?_
  refine xt_iald rfl rfl xmX a2.1 a2.2 ?_
  refine xt_callM rfl rfl rfl rfl ⟨rfl, rfl, yle rfl, yle rfl, yle rfl, yle rfl⟩ rfl hm (c2 := c) (s2 := s) ⟨by omega, by omega⟩ ?_
  intro D2 hI
  exact yt_ic rfl rfl (fun _ => kk D2 hI) (fun (hn : v ≠ v) => absurd rfl hn)
set_option maxRecDepth 100000 in
theorem law_21 (hKe : K = 300) (a1 : lwA X (iv + 1) x1) (a2 : lwA X (iv + 2) x2) (a3 : lwA X (iv + 3) x3) (a4 : lwA X (iv + 4) x4) (h : Inv D) (kk : ∀ D2, Inv D2 → yT X 2000 80000 345 1091 [some (.ref 0), some (.ref 78), some (.ref 209), some (.int iv)] [] D2 c s Q) : yT X 2000 80000 345 622 [some (.ref 0), some (.ref 78), some (.ref 209), some (.int iv)] [] D (c + 400) (s + 4800) Q := by
  refine xt_pure rfl rfl rfl rfl ?_
  refine xt_pure rfl rfl rfl rfl ?_
  refine xt_pure rfl rfl rfl rfl ?_
  refine xt_pure rfl rfl rfl (st1 := .int 1 :: _) rfl ?_
  refine xt_pure rfl rfl rfl (st1 := .int (iv + 1) :: _) rfl ?_
  refine xt_iald rfl rfl xmX a1.1 a1.2 ?_
  refine xt_pure rfl rfl rfl rfl ?_
  refine xt_pure rfl rfl rfl rfl ?_
  refine xt_pure rfl rfl rfl (st1 := .int 2 :: _) rfl ?_
  refine xt_pure rfl rfl rfl (st1 := .int (iv + 2) :: _) rfl ?_
  refine xt_iald rfl rfl xmX a2.1 a2.2 ?_
  refine xt_callP (as := [.int x1, .int x2]) (mm := 319) rfl rfl rfl rfl ⟨rfl, rfl, yle rfl, yle rfl, yle rfl, yle rfl⟩ rfl (op_shown hKe h) (c2 := c + 200) (s2 := s + 2400) ⟨by omega, by omega⟩ ?_
  intro v D1 hm
  refine xt_pure rfl rfl rfl rfl ?_
  refine xt_pure rfl rfl rfl rfl ?_
  refine xt_pure rfl rfl rfl rfl ?_
  refine xt_pure rfl rfl rfl (st1 := .int 1 :: _) rfl ?_
  refine xt_pure rfl rfl rfl (st1 := .int (iv + 1) :: _) rfl ?_
  refine xt_iald rfl rfl xmX a1.1 a1.2 ?_
  refine xt_pure rfl rfl rfl rfl ?_
  refine xt_pure rfl rfl rfl rfl ?_
  refine xt_pure rfl rfl rfl (st1 := .int 2 :: _) rfl ?_
  refine xt_pure rfl rfl rfl (st1 := .int (iv + 2) :: _) rfl ?_
  refine xt_iald rfl rfl xmX a2.1 a2.2 ?_
  refine xt_callM rfl rfl rfl rfl ⟨rfl, rfl, yle rfl, yle rfl, yle rfl, yle rfl⟩ rfl hm (c2 := c) (s2 := s) ⟨by omega, by omega⟩ ?_
  intro D2 hI
  exact yt_ic rfl rfl (fun _ => kk D2 hI) (fun (hn : v ≠ v) => absurd rfl hn)
end LAW1
