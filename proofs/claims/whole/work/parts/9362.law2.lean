/-! THE LAW, case by case: figure, value, told, submit, receipt, earlier, sign, stats, move, migrate -/
section LAW2
variable {X : List Int32} {D : List xE} {iv x1 x2 x3 x4 : Int32} {K c s : Nat} {Q : Option Value → List xE → Prop}
set_option maxRecDepth 100000 in
theorem law_22 (hKe : K = 300) (a1 : lwA X (iv + 1) x1) (a2 : lwA X (iv + 2) x2) (a3 : lwA X (iv + 3) x3) (a4 : lwA X (iv + 4) x4) (h : Inv D) (kk : ∀ D2, Inv D2 → yT X 2000 80000 345 1091 [some (.ref 0), some (.ref 78), some (.ref 209), some (.int iv)] [] D2 c s Q) : yT X 2000 80000 345 649 [some (.ref 0), some (.ref 78), some (.ref 209), some (.int iv)] [] D (c + 400) (s + 4800) Q := by
  refine xt_pure rfl rfl rfl rfl ?_
  refine xt_pure rfl rfl rfl rfl ?_
  refine xt_pure rfl rfl rfl rfl ?_
  refine xt_pure rfl rfl rfl (st1 := .int 1 :: _) rfl ?_
  refine xt_pure rfl rfl rfl (st1 := .int (iv + 1) :: _) rfl ?_
  refine xt_iald rfl rfl xmX a1.1 a1.2 ?_
  refine xt_pure rfl rfl rfl rfl ?_
  refine xt_pure rfl rfl rfl rfl ?_
  refine xt_pure rfl rfl rfl (st1 := .int 2 :: _) rfl ?_
  refine xt_pure rfl rfl rfl (st1 := .int (iv + 2) :: _) rfl ?_
  refine xt_iald rfl rfl xmX a2.1 a2.2 ?_
  refine xt_callP (as := [.int x1, .int x2]) (mm := 321) rfl rfl rfl rfl ⟨rfl, rfl, yle rfl, yle rfl, yle rfl, yle rfl⟩ rfl (op_figure hKe h) (c2 := c + 200) (s2 := s + 2400) ⟨by omega, by omega⟩ ?_
  intro v D1 hm
  refine xt_pure rfl rfl rfl rfl ?_
  refine xt_pure rfl rfl rfl rfl ?_
  refine xt_pure rfl rfl rfl rfl ?_
  refine xt_pure rfl rfl rfl (st1 := .int 1 :: _) rfl ?_
  refine xt_pure rfl rfl rfl (st1 := .int (iv + 1) :: _) rfl ?_
  refine xt_iald rfl rfl xmX a1.1 a1.2 ?_
  refine xt_pure rfl rfl rfl rfl ?_
  refine xt_pure rfl rfl rfl rfl ?_
  refine xt_pure rfl rfl rfl (st1 := .int 2 :: _) rfl ?_
  refine xt_pure rfl rfl rfl (st1 := .int (iv + 2) :: _) rfl ?_
  refine xt_iald rfl rfl xmX a2.1 a2.2 ?_
  refine xt_callM rfl rfl rfl rfl ⟨rfl, rfl, yle rfl, yle rfl, yle rfl, yle rfl⟩ rfl hm (c2 := c) (s2 := s) ⟨by omega, by omega⟩ ?_
  intro D2 hI
  exact yt_ic rfl rfl (fun _ => kk D2 hI) (fun (hn : v ≠ v) => absurd rfl hn)
set_option maxRecDepth 100000 in
theorem law_23 (a1 : lwA X (iv + 1) x1) (a2 : lwA X (iv + 2) x2) (a3 : lwA X (iv + 3) x3) (a4 : lwA X (iv + 4) x4) (h : Inv D) (kk : ∀ D2, Inv D2 → yT X 2000 80000 345 1091 [some (.ref 0), some (.ref 78), some (.ref 209), some (.int iv)] [] D2 c s Q) : yT X 2000 80000 345 676 [some (.ref 0), some (.ref 78), some (.ref 209), some (.int iv)] [] D (c + 400) (s + 4800) Q := by
  refine xt_pure rfl rfl rfl rfl ?_
  refine xt_callP (as := []) (mm := 322) rfl rfl rfl rfl ⟨rfl, rfl, yle rfl, yle rfl, yle rfl, yle rfl⟩ rfl (op_value h) (c2 := c + 200) (s2 := s + 2400) ⟨by omega, by omega⟩ ?_
  intro v D1 hm
  refine xt_pure rfl rfl rfl rfl ?_
  refine xt_callM rfl rfl rfl rfl ⟨rfl, rfl, yle rfl, yle rfl, yle rfl, yle rfl⟩ rfl hm (c2 := c) (s2 := s) ⟨by omega, by omega⟩ ?_
  intro D2 hI
  exact yt_lc rfl rfl rfl (fun _ => kk D2 hI) (fun (hn : v ≠ v) => absurd rfl hn)
set_option maxRecDepth 100000 in
theorem law_24 (a1 : lwA X (iv + 1) x1) (a2 : lwA X (iv + 2) x2) (a3 : lwA X (iv + 3) x3) (a4 : lwA X (iv + 4) x4) (h : Inv D) (kk : ∀ D2, Inv D2 → yT X 2000 80000 345 1091 [some (.ref 0), some (.ref 78), some (.ref 209), some (.int iv)] [] D2 c s Q) : yT X 2000 80000 345 684 [some (.ref 0), some (.ref 78), some (.ref 209), some (.int iv)] [] D (c + 400) (s + 4800) Q := by
  refine xt_pure rfl rfl rfl rfl ?_
  refine xt_pure rfl rfl rfl rfl ?_
  refine xt_pure rfl rfl rfl rfl ?_
  refine xt_pure rfl rfl rfl (st1 := .int 1 :: _) rfl ?_
  refine xt_pure rfl rfl rfl (st1 := .int (iv + 1) :: _) rfl ?_
  refine xt_iald rfl rfl xmX a1.1 a1.2 ?_
  refine xt_callP (as := [.int x1]) (mm := 323) rfl rfl rfl rfl ⟨rfl, rfl, yle rfl, yle rfl, yle rfl, yle rfl⟩ rfl (op_told h) (c2 := c + 200) (s2 := s + 2400) ⟨by omega, by omega⟩ ?_
  intro v D1 hm
  refine xt_pure rfl rfl rfl rfl ?_
  refine xt_pure rfl rfl rfl rfl ?_
  refine xt_pure rfl rfl rfl rfl ?_
  refine xt_pure rfl rfl rfl (st1 := .int 1 :: _) rfl ?_
  refine xt_pure rfl rfl rfl (st1 := .int (iv + 1) :: _) rfl ?_
  refine xt_iald rfl rfl xmX a1.1 a1.2 ?_
  refine xt_callM rfl rfl rfl rfl ⟨rfl, rfl, yle rfl, yle rfl, yle rfl, yle rfl⟩ rfl hm (c2 := c) (s2 := s) ⟨by omega, by omega⟩ ?_
  intro D2 hI
  exact yt_ic rfl rfl (fun _ => kk D2 hI) (fun (hn : v ≠ v) => absurd rfl hn)
set_option maxRecDepth 100000 in
theorem law_25 (hKe : K = 300) (a1 : lwA X (iv + 1) x1) (a2 : lwA X (iv + 2) x2) (a3 : lwA X (iv + 3) x3) (a4 : lwA X (iv + 4) x4) (h : Inv D) (kk : ∀ D2, Inv D2 → yT X 2000 80000 345 1091 [some (.ref 0), some (.ref 78), some (.ref 209), some (.int iv)] [] D2 c s Q) : yT X 2000 80000 345 701 [some (.ref 0), some (.ref 78), some (.ref 209), some (.int iv)] [] D (c + 400) (s + 4800) Q := by
  refine xt_pure rfl rfl rfl rfl ?_
  refine xt_pure rfl rfl rfl rfl ?_
  refine xt_pure rfl rfl rfl rfl ?_
  refine xt_pure rfl rfl rfl (st1 := .int 1 :: _) rfl ?_
  refine xt_pure rfl rfl rfl (st1 := .int (iv + 1) :: _) rfl ?_
  refine xt_iald rfl rfl xmX a1.1 a1.2 ?_
  refine xt_pure rfl rfl rfl rfl ?_
  refine xt_pure rfl rfl rfl rfl ?_
  refine xt_pure rfl rfl rfl (st1 := .int 2 :: _) rfl ?_
  refine xt_pure rfl rfl rfl (st1 := .int (iv + 2) :: _) rfl ?_
  refine xt_iald rfl rfl xmX a2.1 a2.2 ?_
  refine xt_callP (as := [.int x1, .int x2]) (mm := 324) rfl rfl rfl rfl ⟨rfl, rfl, yle rfl, yle rfl, yle rfl, yle rfl⟩ rfl (op_submit hKe h) (c2 := c + 200) (s2 := s + 2400) ⟨by omega, by omega⟩ ?_
  intro v D1 hm
  refine xt_pure rfl rfl rfl rfl ?_
  refine xt_pure rfl rfl rfl rfl ?_
  refine xt_pure rfl rfl rfl rfl ?_
  refine xt_pure rfl rfl rfl (st1 := .int 1 :: _) rfl ?_
  refine xt_pure rfl rfl rfl (st1 := .int (iv + 1) :: _) rfl ?_
  refine xt_iald rfl rfl xmX a1.1 a1.2 ?_
  refine xt_pure rfl rfl rfl rfl ?_
  refine xt_pure rfl rfl rfl rfl ?_
  refine xt_pure rfl rfl rfl (st1 := .int 2 :: _) rfl ?_
  refine xt_pure rfl rfl rfl (st1 := .int (iv + 2) :: _) rfl ?_
  refine xt_iald rfl rfl xmX a2.1 a2.2 ?_
  refine xt_callM rfl rfl rfl rfl ⟨rfl, rfl, yle rfl, yle rfl, yle rfl, yle rfl⟩ rfl hm (c2 := c) (s2 := s) ⟨by omega, by omega⟩ ?_
  intro D2 hI
  exact yt_ic rfl rfl (fun _ => kk D2 hI) (fun (hn : v ≠ v) => absurd rfl hn)
set_option maxRecDepth 100000 in
theorem law_26 (a1 : lwA X (iv + 1) x1) (a2 : lwA X (iv + 2) x2) (a3 : lwA X (iv + 3) x3) (a4 : lwA X (iv + 4) x4) (h : Inv D) (kk : ∀ D2, Inv D2 → yT X 2000 80000 345 1091 [some (.ref 0), some (.ref 78), some (.ref 209), some (.int iv)] [] D2 c s Q) : yT X 2000 80000 345 728 [some (.ref 0), some (.ref 78), some (.ref 209), some (.int iv)] [] D (c + 400) (s + 4800) Q := by
  refine xt_pure rfl rfl rfl rfl ?_
  refine xt_pure rfl rfl rfl rfl ?_
  refine xt_pure rfl rfl rfl rfl ?_
  refine xt_pure rfl rfl rfl (st1 := .int 1 :: _) rfl ?_
  refine xt_pure rfl rfl rfl (st1 := .int (iv + 1) :: _) rfl ?_
  refine xt_iald rfl rfl xmX a1.1 a1.2 ?_
  refine xt_callP (as := [.int x1]) (mm := 325) rfl rfl rfl rfl ⟨rfl, rfl, yle rfl, yle rfl, yle rfl, yle rfl⟩ rfl (op_receipt h) (c2 := c + 200) (s2 := s + 2400) ⟨by omega, by omega⟩ ?_
  intro v D1 hm
  refine xt_pure rfl rfl rfl rfl ?_
  refine xt_pure rfl rfl rfl rfl ?_
  refine xt_pure rfl rfl rfl rfl ?_
  refine xt_pure rfl rfl rfl (st1 := .int 1 :: _) rfl ?_
  refine xt_pure rfl rfl rfl (st1 := .int (iv + 1) :: _) rfl ?_
  refine xt_iald rfl rfl xmX a1.1 a1.2 ?_
  refine xt_callM rfl rfl rfl rfl ⟨rfl, rfl, yle rfl, yle rfl, yle rfl, yle rfl⟩ rfl hm (c2 := c) (s2 := s) ⟨by omega, by omega⟩ ?_
  intro D2 hI
  exact yt_ic rfl rfl (fun _ => kk D2 hI) (fun (hn : v ≠ v) => absurd rfl hn)
set_option maxRecDepth 100000 in
theorem law_27 (a1 : lwA X (iv + 1) x1) (a2 : lwA X (iv + 2) x2) (a3 : lwA X (iv + 3) x3) (a4 : lwA X (iv + 4) x4) (h : Inv D) (kk : ∀ D2, Inv D2 → yT X 2000 80000 345 1091 [some (.ref 0), some (.ref 78), some (.ref 209), some (.int iv)] [] D2 c s Q) : yT X 2000 80000 345 745 [some (.ref 0), some (.ref 78), some (.ref 209), some (.int iv)] [] D (c + 400) (s + 4800) Q := by
  refine xt_pure rfl rfl rfl rfl ?_
  refine xt_pure rfl rfl rfl rfl ?_
  refine xt_pure rfl rfl rfl rfl ?_
  refine xt_pure rfl rfl rfl (st1 := .int 1 :: _) rfl ?_
  refine xt_pure rfl rfl rfl (st1 := .int (iv + 1) :: _) rfl ?_
  refine xt_iald rfl rfl xmX a1.1 a1.2 ?_
  refine xt_pure rfl rfl rfl rfl ?_
  refine xt_pure rfl rfl rfl rfl ?_
  refine xt_pure rfl rfl rfl (st1 := .int 2 :: _) rfl ?_
  refine xt_pure rfl rfl rfl (st1 := .int (iv + 2) :: _) rfl ?_
  refine xt_iald rfl rfl xmX a2.1 a2.2 ?_
  refine xt_callP (as := [.int x1, .int x2]) (mm := 326) rfl rfl rfl rfl ⟨rfl, rfl, yle rfl, yle rfl, yle rfl, yle rfl⟩ rfl (op_earlier h) (c2 := c + 200) (s2 := s + 2400) ⟨by omega, by omega⟩ ?_
  intro v D1 hm
  refine xt_pure rfl rfl rfl rfl ?_
  refine xt_pure rfl rfl rfl rfl ?_
  refine xt_pure rfl rfl rfl rfl ?_
  refine xt_pure rfl rfl rfl (st1 := .int 1 :: _) rfl ?_
  refine xt_pure rfl rfl rfl (st1 := .int (iv + 1) :: _) rfl ?_
  refine xt_iald rfl rfl xmX a1.1 a1.2 ?_
  refine xt_pure rfl rfl rfl rfl ?_
  refine xt_pure rfl rfl rfl rfl ?_
  refine xt_pure rfl rfl rfl (st1 := .int 2 :: _) rfl ?_
  refine xt_pure rfl rfl rfl (st1 := .int (iv + 2) :: _) rfl ?_
  refine xt_iald rfl rfl xmX a2.1 a2.2 ?_
  refine xt_callM rfl rfl rfl rfl ⟨rfl, rfl, yle rfl, yle rfl, yle rfl, yle rfl⟩ rfl hm (c2 := c) (s2 := s) ⟨by omega, by omega⟩ ?_
  intro D2 hI
  exact yt_ic rfl rfl (fun _ => kk D2 hI) (fun (hn : v ≠ v) => absurd rfl hn)
set_option maxRecDepth 100000 in
theorem law_28 (a1 : lwA X (iv + 1) x1) (a2 : lwA X (iv + 2) x2) (a3 : lwA X (iv + 3) x3) (a4 : lwA X (iv + 4) x4) (h : Inv D) (kk : ∀ D2, Inv D2 → yT X 2000 80000 345 1091 [some (.ref 0), some (.ref 78), some (.ref 209), some (.int iv)] [] D2 c s Q) : yT X 2000 80000 345 772 [some (.ref 0), some (.ref 78), some (.ref 209), some (.int iv)] [] D (c + 400) (s + 4800) Q := by
  refine xt_pure rfl rfl rfl rfl ?_
  refine xt_pure rfl rfl rfl rfl ?_
  refine xt_pure rfl rfl rfl rfl ?_
  refine xt_pure rfl rfl rfl (st1 := .int 1 :: _) rfl ?_
  refine xt_pure rfl rfl rfl (st1 := .int (iv + 1) :: _) rfl ?_
  refine xt_iald rfl rfl xmX a1.1 a1.2 ?_
  refine xt_pure rfl rfl rfl rfl ?_
  refine xt_pure rfl rfl rfl rfl ?_
  refine xt_pure rfl rfl rfl (st1 := .int 2 :: _) rfl ?_
  refine xt_pure rfl rfl rfl (st1 := .int (iv + 2) :: _) rfl ?_
  refine xt_iald rfl rfl xmX a2.1 a2.2 ?_
  refine xt_callP (as := [.int x1, .int x2]) (mm := 327) rfl rfl rfl rfl ⟨rfl, rfl, yle rfl, yle rfl, yle rfl, yle rfl⟩ rfl (op_sign h) (c2 := c + 200) (s2 := s + 2400) ⟨by omega, by omega⟩ ?_
  intro v D1 hm
  refine xt_pure rfl rfl rfl rfl ?_
  refine xt_pure rfl rfl rfl rfl ?_
  refine xt_pure rfl rfl rfl rfl ?_
  refine xt_pure rfl rfl rfl (st1 := .int 1 :: _) rfl ?_
  refine xt_pure rfl rfl rfl (st1 := .int (iv + 1) :: _) rfl ?_
  refine xt_iald rfl rfl xmX a1.1 a1.2 ?_
  refine xt_pure rfl rfl rfl rfl ?_
  refine xt_pure rfl rfl rfl rfl ?_
  refine xt_pure rfl rfl rfl (st1 := .int 2 :: _) rfl ?_
  refine xt_pure rfl rfl rfl (st1 := .int (iv + 2) :: _) rfl ?_
  refine xt_iald rfl rfl xmX a2.1 a2.2 ?_
  refine xt_callM rfl rfl rfl rfl ⟨rfl, rfl, yle rfl, yle rfl, yle rfl, yle rfl⟩ rfl hm (c2 := c) (s2 := s) ⟨by omega, by omega⟩ ?_
  intro D2 hI
  exact yt_ic rfl rfl (fun _ => kk D2 hI) (fun (hn : v ≠ v) => absurd rfl hn)
set_option maxRecDepth 100000 in
theorem law_29 (a1 : lwA X (iv + 1) x1) (a2 : lwA X (iv + 2) x2) (a3 : lwA X (iv + 3) x3) (a4 : lwA X (iv + 4) x4) (h : Inv D) (kk : ∀ D2, Inv D2 → yT X 2000 80000 345 1091 [some (.ref 0), some (.ref 78), some (.ref 209), some (.int iv)] [] D2 c s Q) : yT X 2000 80000 345 799 [some (.ref 0), some (.ref 78), some (.ref 209), some (.int iv)] [] D (c + 400) (s + 4800) Q := by
  refine xt_pure rfl rfl rfl rfl ?_
  refine xt_pure rfl rfl rfl rfl ?_
  refine xt_pure rfl rfl rfl rfl ?_
  refine xt_pure rfl rfl rfl (st1 := .int 1 :: _) rfl ?_
  refine xt_pure rfl rfl rfl (st1 := .int (iv + 1) :: _) rfl ?_
  refine xt_iald rfl rfl xmX a1.1 a1.2 ?_
  refine xt_pure rfl rfl rfl rfl ?_
  refine xt_pure rfl rfl rfl rfl ?_
  refine xt_pure rfl rfl rfl (st1 := .int 2 :: _) rfl ?_
  refine xt_pure rfl rfl rfl (st1 := .int (iv + 2) :: _) rfl ?_
  refine xt_iald rfl rfl xmX a2.1 a2.2 ?_
  refine xt_pure rfl rfl rfl rfl ?_
  refine xt_pure rfl rfl rfl rfl ?_
  refine xt_pure rfl rfl rfl (st1 := .int 3 :: _) rfl ?_
  refine xt_pure rfl rfl rfl (st1 := .int (iv + 3) :: _) rfl ?_
  refine xt_iald rfl rfl xmX a3.1 a3.2 ?_
  refine xt_callP (as := [.int x1, .int x2, .int x3]) (mm := 328) rfl rfl rfl rfl ⟨rfl, rfl, yle rfl, yle rfl, yle rfl, yle rfl⟩ rfl (op_stats h) (c2 := c + 200) (s2 := s + 2400) ⟨by omega, by omega⟩ ?_
  intro v D1 hm
  refine xt_pure rfl rfl rfl rfl ?_
  refine xt_pure rfl rfl rfl rfl ?_
  refine xt_pure rfl rfl rfl rfl ?_
  refine xt_pure rfl rfl rfl (st1 := .int 1 :: _) rfl ?_
  refine xt_pure rfl rfl rfl (st1 := .int (iv + 1) :: _) rfl ?_
  refine xt_iald rfl rfl xmX a1.1 a1.2 ?_
  refine xt_pure rfl rfl rfl rfl ?_
  refine xt_pure rfl rfl rfl rfl ?_
  refine xt_pure rfl rfl rfl (st1 := .int 2 :: _) rfl ?_
  refine xt_pure rfl rfl rfl (st1 := .int (iv + 2) :: _) rfl ?_
  refine xt_iald rfl rfl xmX a2.1 a2.2 ?_
  refine xt_pure rfl rfl rfl rfl ?_
  refine xt_pure rfl rfl rfl rfl ?_
  refine xt_pure rfl rfl rfl (st1 := .int 3 :: _) rfl ?_
  refine xt_pure rfl rfl rfl (st1 := .int (iv + 3) :: _) rfl ?_
  refine xt_iald rfl rfl xmX a3.1 a3.2 ?_
  refine xt_callM rfl rfl rfl rfl ⟨rfl, rfl, yle rfl, yle rfl, yle rfl, yle rfl⟩ rfl hm (c2 := c) (s2 := s) ⟨by omega, by omega⟩ ?_
  intro D2 hI
  exact yt_lc rfl rfl rfl (fun _ => kk D2 hI) (fun (hn : v ≠ v) => absurd rfl hn)
set_option maxRecDepth 100000 in
theorem law_30 (a1 : lwA X (iv + 1) x1) (a2 : lwA X (iv + 2) x2) (a3 : lwA X (iv + 3) x3) (a4 : lwA X (iv + 4) x4) (h : Inv D) (kk : ∀ D2, Inv D2 → yT X 2000 80000 345 1091 [some (.ref 0), some (.ref 78), some (.ref 209), some (.int iv)] [] D2 c s Q) : yT X 2000 80000 345 837 [some (.ref 0), some (.ref 78), some (.ref 209), some (.int iv)] [] D (c + 400) (s + 4800) Q := by
  refine xt_pure rfl rfl rfl rfl ?_
  refine xt_pure rfl rfl rfl rfl ?_
  refine xt_pure rfl rfl rfl rfl ?_
  refine xt_pure rfl rfl rfl (st1 := .int 1 :: _) rfl ?_
  refine xt_pure rfl rfl rfl (st1 := .int (iv + 1) :: _) rfl ?_
  refine xt_iald rfl rfl xmX a1.1 a1.2 ?_
  refine xt_pure rfl rfl rfl rfl ?_
  refine xt_pure rfl rfl rfl rfl ?_
  refine xt_pure rfl rfl rfl (st1 := .int 2 :: _) rfl ?_
  refine xt_pure rfl rfl rfl (st1 := .int (iv + 2) :: _) rfl ?_
  refine xt_iald rfl rfl xmX a2.1 a2.2 ?_
  refine xt_pure rfl rfl rfl rfl ?_
  refine xt_pure rfl rfl rfl rfl ?_
  refine xt_pure rfl rfl rfl (st1 := .int 3 :: _) rfl ?_
  refine xt_pure rfl rfl rfl (st1 := .int (iv + 3) :: _) rfl ?_
  refine xt_iald rfl rfl xmX a3.1 a3.2 ?_
  refine xt_pure rfl rfl rfl rfl ?_
  refine xt_pure rfl rfl rfl rfl ?_
  refine xt_pure rfl rfl rfl (st1 := .int 4 :: _) rfl ?_
  refine xt_pure rfl rfl rfl (st1 := .int (iv + 4) :: _) rfl ?_
  refine xt_iald rfl rfl xmX a4.1 a4.2 ?_
  refine xt_callP (as := [.int x1, .int x2, .int x3, .int x4]) (mm := 330) rfl rfl rfl rfl ⟨rfl, rfl, yle rfl, yle rfl, yle rfl, yle rfl⟩ rfl (op_move h) (c2 := c + 200) (s2 := s + 2400) ⟨by omega, by omega⟩ ?_
  intro v D1 hm
  refine xt_pure rfl rfl rfl rfl ?_
  refine xt_pure rfl rfl rfl rfl ?_
  refine xt_pure rfl rfl rfl rfl ?_
  refine xt_pure rfl rfl rfl (st1 := .int 1 :: _) rfl ?_
  refine xt_pure rfl rfl rfl (st1 := .int (iv + 1) :: _) rfl ?_
  refine xt_iald rfl rfl xmX a1.1 a1.2 ?_
  refine xt_pure rfl rfl rfl rfl ?_
  refine xt_pure rfl rfl rfl rfl ?_
  refine xt_pure rfl rfl rfl (st1 := .int 2 :: _) rfl ?_
  refine xt_pure rfl rfl rfl (st1 := .int (iv + 2) :: _) rfl ?_
  refine xt_iald rfl rfl xmX a2.1 a2.2 ?_
  refine xt_pure rfl rfl rfl rfl ?_
  refine xt_pure rfl rfl rfl rfl ?_
  refine xt_pure rfl rfl rfl (st1 := .int 3 :: _) rfl ?_
  refine xt_pure rfl rfl rfl (st1 := .int (iv + 3) :: _) rfl ?_
  refine xt_iald rfl rfl xmX a3.1 a3.2 ?_
  refine xt_pure rfl rfl rfl rfl ?_
  refine xt_pure rfl rfl rfl rfl ?_
  refine xt_pure rfl rfl rfl (st1 := .int 4 :: _) rfl ?_
  refine xt_pure rfl rfl rfl (st1 := .int (iv + 4) :: _) rfl ?_
  refine xt_iald rfl rfl xmX a4.1 a4.2 ?_
  refine xt_callM rfl rfl rfl rfl ⟨rfl, rfl, yle rfl, yle rfl, yle rfl, yle rfl⟩ rfl hm (c2 := c) (s2 := s) ⟨by omega, by omega⟩ ?_
  intro D2 hI
  exact yt_ic rfl rfl (fun _ => kk D2 hI) (fun (hn : v ≠ v) => absurd rfl hn)
set_option maxRecDepth 100000 in
theorem law_31 (a1 : lwA X (iv + 1) x1) (a2 : lwA X (iv + 2) x2) (a3 : lwA X (iv + 3) x3) (a4 : lwA X (iv + 4) x4) (h : Inv D) (kk : ∀ D2, Inv D2 → yT X 2000 80000 345 1091 [some (.ref 0), some (.ref 78), some (.ref 209), some (.int iv)] [] D2 c s Q) : yT X 2000 80000 345 884 [some (.ref 0), some (.ref 78), some (.ref 209), some (.int iv)] [] D (c + 400) (s + 4800) Q := by
  refine xt_pure rfl rfl rfl rfl ?_
  refine xt_pure rfl rfl rfl rfl ?_
  refine xt_pure rfl rfl rfl rfl ?_
  refine xt_pure rfl rfl rfl (st1 := .int 1 :: _) rfl ?_
  refine xt_pure rfl rfl rfl (st1 := .int (iv + 1) :: _) rfl ?_
  refine xt_iald rfl rfl xmX a1.1 a1.2 ?_
  refine xt_pure rfl rfl rfl rfl ?_
  refine xt_pure rfl rfl rfl rfl ?_
  refine xt_pure rfl rfl rfl (st1 := .int 2 :: _) rfl ?_
  refine xt_pure rfl rfl rfl (st1 := .int (iv + 2) :: _) rfl ?_
  refine xt_iald rfl rfl xmX a2.1 a2.2 ?_
  refine xt_callP (as := [.int x1, .int x2]) (mm := 332) rfl rfl rfl rfl ⟨rfl, rfl, yle rfl, yle rfl, yle rfl, yle rfl⟩ rfl (op_migrate h) (c2 := c + 200) (s2 := s + 2400) ⟨by omega, by omega⟩ ?_
  intro v D1 hm
  refine xt_pure rfl rfl rfl rfl ?_
  refine xt_pure rfl rfl rfl rfl ?_
  refine xt_pure rfl rfl rfl rfl ?_
  refine xt_pure rfl rfl rfl (st1 := .int 1 :: _) rfl ?_
  refine xt_pure rfl rfl rfl (st1 := .int (iv + 1) :: _) rfl ?_
  refine xt_iald rfl rfl xmX a1.1 a1.2 ?_
  refine xt_pure rfl rfl rfl rfl ?_
  refine xt_pure rfl rfl rfl rfl ?_
  refine xt_pure rfl rfl rfl (st1 := .int 2 :: _) rfl ?_
  refine xt_pure rfl rfl rfl (st1 := .int (iv + 2) :: _) rfl ?_
  refine xt_iald rfl rfl xmX a2.1 a2.2 ?_
  refine xt_callM rfl rfl rfl rfl ⟨rfl, rfl, yle rfl, yle rfl, yle rfl, yle rfl⟩ rfl hm (c2 := c) (s2 := s) ⟨by omega, by omega⟩ ?_
  intro D2 hI
  exact yt_ic rfl rfl (fun _ => kk D2 hI) (fun (hn : v ≠ v) => absurd rfl hn)
end LAW2
