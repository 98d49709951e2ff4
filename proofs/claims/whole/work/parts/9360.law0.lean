/-! THE LAW, case by case: feed, form, about, part, entry, desk, clear, write, line, cell, seat -/
section LAW0
variable {X : List Int32} {D : List xE} {iv x1 x2 x3 x4 : Int32} {K c s : Nat} {Q : Option Value → List xE → Prop}
set_option maxRecDepth 100000 in
theorem law_0 (a1 : lwA X (iv + 1) x1) (a2 : lwA X (iv + 2) x2) (a3 : lwA X (iv + 3) x3) (a4 : lwA X (iv + 4) x4) (h : Inv D) (kk : ∀ D2, Inv D2 → yT X 2000 80000 345 1091 [some (.ref 0), some (.ref 78), some (.ref 209), some (.int iv)] [] D2 c s Q) : yT X 2000 80000 345 22 [some (.ref 0), some (.ref 78), some (.ref 209), some (.int iv)] [] D (c + 400) (s + 4800) Q := by
  refine xt_pure rfl rfl rfl rfl ?_
  refine xt_pure rfl rfl rfl rfl ?_
  refine xt_pure rfl rfl rfl rfl ?_
  refine xt_pure rfl rfl rfl (st1 := .int 1 :: _) rfl ?_
  refine xt_pure rfl rfl rfl (st1 := .int (iv + 1) :: _) rfl ?_
  refine xt_iald rfl rfl xmX a1.1 a1.2 ?_
  refine xt_pure rfl rfl rfl rfl ?_
  refine xt_pure rfl rfl rfl rfl ?_
  refine xt_pure rfl rfl rfl (st1 := .int 2 :: _) rfl ?_
  refine xt_pure rfl rfl rfl (st1 := .int (iv + 2) :: _) rfl ?_
  refine xt_iald rfl rfl xmX a2.1 a2.2 ?_
  refine xt_pure rfl rfl rfl rfl ?_
  refine xt_pure rfl rfl rfl (st1 := .int 32 :: _) rfl ?_
  refine xt_pure rfl rfl rfl rfl ?_
  refine xt_pure rfl rfl rfl rfl ?_
  refine xt_pure rfl rfl rfl rfl ?_
  refine xt_pure rfl rfl rfl (st1 := .int 3 :: _) rfl ?_
  refine xt_pure rfl rfl rfl (st1 := .int (iv + 3) :: _) rfl ?_
  refine xt_iald rfl rfl xmX a3.1 a3.2 ?_
  refine xt_pure rfl rfl rfl rfl ?_
  refine xt_pure rfl rfl rfl (st1 := .long 4294967295 :: _) rfl ?_
  refine xt_pure rfl rfl rfl rfl ?_
  refine xt_pure rfl rfl rfl rfl ?_
  refine xt_callP (as := [.int x1, .long _]) (mm := 209) rfl rfl rfl rfl ⟨rfl, rfl, yle rfl, yle rfl, yle rfl, yle rfl⟩ rfl (op_feed h) (c2 := c + 200) (s2 := s + 2400) ⟨by omega, by omega⟩ ?_
  intro v D1 hm
  refine xt_pure rfl rfl rfl rfl ?_
  refine xt_pure rfl rfl rfl rfl ?_
  refine xt_pure rfl rfl rfl rfl ?_
  refine xt_pure rfl rfl rfl (st1 := .int 1 :: _) rfl ?_
  refine xt_pure rfl rfl rfl (st1 := .int (iv + 1) :: _) rfl ?_
  refine xt_iald rfl rfl xmX a1.1 a1.2 ?_
  refine xt_pure rfl rfl rfl rfl ?_
  refine xt_pure rfl rfl rfl rfl ?_
  refine xt_pure rfl rfl rfl (st1 := .int 2 :: _) rfl ?_
  refine xt_pure rfl rfl rfl (st1 := .int (iv + 2) :: _) rfl ?_
  refine xt_iald rfl rfl xmX a2.1 a2.2 ?_
  refine xt_pure rfl rfl rfl rfl ?_
  refine xt_pure rfl rfl rfl (st1 := .int 32 :: _) rfl ?_
  refine xt_pure rfl rfl rfl rfl ?_
  refine xt_pure rfl rfl rfl rfl ?_
  refine xt_pure rfl rfl rfl rfl ?_
  refine xt_pure rfl rfl rfl (st1 := .int 3 :: _) rfl ?_
  refine xt_pure rfl rfl rfl (st1 := .int (iv + 3) :: _) rfl ?_
  refine xt_iald rfl rfl xmX a3.1 a3.2 ?_
  refine xt_pure rfl rfl rfl rfl ?_
  refine xt_pure rfl rfl rfl (st1 := .long 4294967295 :: _) rfl ?_
  refine xt_pure rfl rfl rfl rfl ?_
  refine xt_pure rfl rfl rfl rfl ?_
  refine xt_callM rfl rfl rfl rfl ⟨rfl, rfl, yle rfl, yle rfl, yle rfl, yle rfl⟩ rfl hm (c2 := c) (s2 := s) ⟨by omega, by omega⟩ ?_
  intro D2 hI
  exact yt_ic rfl rfl (fun _ => kk D2 hI) (fun (hn : v ≠ v) => absurd rfl hn)
set_option maxRecDepth 100000 in
theorem law_1 (a1 : lwA X (iv + 1) x1) (a2 : lwA X (iv + 2) x2) (a3 : lwA X (iv + 3) x3) (a4 : lwA X (iv + 4) x4) (h : Inv D) (kk : ∀ D2, Inv D2 → yT X 2000 80000 345 1091 [some (.ref 0), some (.ref 78), some (.ref 209), some (.int iv)] [] D2 c s Q) : yT X 2000 80000 345 73 [some (.ref 0), some (.ref 78), some (.ref 209), some (.int iv)] [] D (c + 400) (s + 4800) Q := by
  refine xt_pure rfl rfl rfl rfl ?_
  refine xt_callP (as := []) (mm := 210) rfl rfl rfl rfl ⟨rfl, rfl, yle rfl, yle rfl, yle rfl, yle rfl⟩ rfl (op_form h) (c2 := c + 200) (s2 := s + 2400) ⟨by omega, by omega⟩ ?_
  intro v D1 hm
  refine xt_pure rfl rfl rfl rfl ?_
  refine xt_callM rfl rfl rfl rfl ⟨rfl, rfl, yle rfl, yle rfl, yle rfl, yle rfl⟩ rfl hm (c2 := c) (s2 := s) ⟨by omega, by omega⟩ ?_
  intro D2 hI
  exact yt_ic rfl rfl (fun _ => kk D2 hI) (fun (hn : v ≠ v) => absurd rfl hn)
set_option maxRecDepth 100000 in
theorem law_2 (a1 : lwA X (iv + 1) x1) (a2 : lwA X (iv + 2) x2) (a3 : lwA X (iv + 3) x3) (a4 : lwA X (iv + 4) x4) (h : Inv D) (kk : ∀ D2, Inv D2 → yT X 2000 80000 345 1091 [some (.ref 0), some (.ref 78), some (.ref 209), some (.int iv)] [] D2 c s Q) : yT X 2000 80000 345 80 [some (.ref 0), some (.ref 78), some (.ref 209), some (.int iv)] [] D (c + 400) (s + 4800) Q := by
  refine xt_pure rfl rfl rfl rfl ?_
  refine xt_pure rfl rfl rfl rfl ?_
  refine xt_pure rfl rfl rfl rfl ?_
  refine xt_pure rfl rfl rfl (st1 := .int 1 :: _) rfl ?_
  refine xt_pure rfl rfl rfl (st1 := .int (iv + 1) :: _) rfl ?_
  refine xt_iald rfl rfl xmX a1.1 a1.2 ?_
  refine xt_pure rfl rfl rfl rfl ?_
  refine xt_pure rfl rfl rfl rfl ?_
  refine xt_pure rfl rfl rfl (st1 := .int 2 :: _) rfl ?_
  refine xt_pure rfl rfl rfl (st1 := .int (iv + 2) :: _) rfl ?_
  refine xt_iald rfl rfl xmX a2.1 a2.2 ?_
  refine xt_callP (as := [.int x1, .int x2]) (mm := 249) rfl rfl rfl rfl ⟨rfl, rfl, yle rfl, yle rfl, yle rfl, yle rfl⟩ rfl (op_about h) (c2 := c + 200) (s2 := s + 2400) ⟨by omega, by omega⟩ ?_
  intro v D1 hm
  refine xt_pure rfl rfl rfl rfl ?_
  refine xt_pure rfl rfl rfl rfl ?_
  refine xt_pure rfl rfl rfl rfl ?_
  refine xt_pure rfl rfl rfl (st1 := .int 1 :: _) rfl ?_
  refine xt_pure rfl rfl rfl (st1 := .int (iv + 1) :: _) rfl ?_
  refine xt_iald rfl rfl xmX a1.1 a1.2 ?_
  refine xt_pure rfl rfl rfl rfl ?_
  refine xt_pure rfl rfl rfl rfl ?_
  refine xt_pure rfl rfl rfl (st1 := .int 2 :: _) rfl ?_
  refine xt_pure rfl rfl rfl (st1 := .int (iv + 2) :: _) rfl ?_
  refine xt_iald rfl rfl xmX a2.1 a2.2 ?_
  refine xt_callM rfl rfl rfl rfl ⟨rfl, rfl, yle rfl, yle rfl, yle rfl, yle rfl⟩ rfl hm (c2 := c) (s2 := s) ⟨by omega, by omega⟩ ?_
  intro D2 hI
  exact yt_ic rfl rfl (fun _ => kk D2 hI) (fun (hn : v ≠ v) => absurd rfl hn)
set_option maxRecDepth 100000 in
theorem law_3 (a1 : lwA X (iv + 1) x1) (a2 : lwA X (iv + 2) x2) (a3 : lwA X (iv + 3) x3) (a4 : lwA X (iv + 4) x4) (h : Inv D) (kk : ∀ D2, Inv D2 → yT X 2000 80000 345 1091 [some (.ref 0), some (.ref 78), some (.ref 209), some (.int iv)] [] D2 c s Q) : yT X 2000 80000 345 107 [some (.ref 0), some (.ref 78), some (.ref 209), some (.int iv)] [] D (c + 400) (s + 4800) Q := by
  refine xt_pure rfl rfl rfl rfl ?_
  refine xt_pure rfl rfl rfl rfl ?_
  refine xt_pure rfl rfl rfl rfl ?_
  refine xt_pure rfl rfl rfl (st1 := .int 1 :: _) rfl ?_
  refine xt_pure rfl rfl rfl (st1 := .int (iv + 1) :: _) rfl ?_
  refine xt_iald rfl rfl xmX a1.1 a1.2 ?_
  refine xt_pure rfl rfl rfl rfl ?_
  refine xt_pure rfl rfl rfl rfl ?_
  refine xt_pure rfl rfl rfl (st1 := .int 2 :: _) rfl ?_
  refine xt_pure rfl rfl rfl (st1 := .int (iv + 2) :: _) rfl ?_
  refine xt_iald rfl rfl xmX a2.1 a2.2 ?_
  refine xt_pure rfl rfl rfl rfl ?_
  refine xt_pure rfl rfl rfl rfl ?_
  refine xt_pure rfl rfl rfl (st1 := .int 3 :: _) rfl ?_
  refine xt_pure rfl rfl rfl (st1 := .int (iv + 3) :: _) rfl ?_
  refine xt_iald rfl rfl xmX a3.1 a3.2 ?_
  refine xt_callP (as := [.int x1, .int x2, .int x3]) (mm := 252) rfl rfl rfl rfl ⟨rfl, rfl, yle rfl, yle rfl, yle rfl, yle rfl⟩ rfl (op_part h) (c2 := c + 200) (s2 := s + 2400) ⟨by omega, by omega⟩ ?_
  intro v D1 hm
  refine xt_pure rfl rfl rfl rfl ?_
  refine xt_pure rfl rfl rfl rfl ?_
  refine xt_pure rfl rfl rfl rfl ?_
  refine xt_pure rfl rfl rfl (st1 := .int 1 :: _) rfl ?_
  refine xt_pure rfl rfl rfl (st1 := .int (iv + 1) :: _) rfl ?_
  refine xt_iald rfl rfl xmX a1.1 a1.2 ?_
  refine xt_pure rfl rfl rfl rfl ?_
  refine xt_pure rfl rfl rfl rfl ?_
  refine xt_pure rfl rfl rfl (st1 := .int 2 :: _) rfl ?_
  refine xt_pure rfl rfl rfl (st1 := .int (iv + 2) :: _) rfl ?_
  refine xt_iald rfl rfl xmX a2.1 a2.2 ?_
  refine xt_pure rfl rfl rfl rfl ?_
  refine xt_pure rfl rfl rfl rfl ?_
  refine xt_pure rfl rfl rfl (st1 := .int 3 :: _) rfl ?_
  refine xt_pure rfl rfl rfl (st1 := .int (iv + 3) :: _) rfl ?_
  refine xt_iald rfl rfl xmX a3.1 a3.2 ?_
  refine xt_callM rfl rfl rfl rfl ⟨rfl, rfl, yle rfl, yle rfl, yle rfl, yle rfl⟩ rfl hm (c2 := c) (s2 := s) ⟨by omega, by omega⟩ ?_
  intro D2 hI
  exact yt_ic rfl rfl (fun _ => kk D2 hI) (fun (hn : v ≠ v) => absurd rfl hn)
set_option maxRecDepth 100000 in
theorem law_4 (a1 : lwA X (iv + 1) x1) (a2 : lwA X (iv + 2) x2) (a3 : lwA X (iv + 3) x3) (a4 : lwA X (iv + 4) x4) (h : Inv D) (kk : ∀ D2, Inv D2 → yT X 2000 80000 345 1091 [some (.ref 0), some (.ref 78), some (.ref 209), some (.int iv)] [] D2 c s Q) : yT X 2000 80000 345 144 [some (.ref 0), some (.ref 78), some (.ref 209), some (.int iv)] [] D (c + 400) (s + 4800) Q := by
  refine xt_pure rfl rfl rfl rfl ?_
  refine xt_pure rfl rfl rfl rfl ?_
  refine xt_pure rfl rfl rfl rfl ?_
  refine xt_pure rfl rfl rfl (st1 := .int 1 :: _) rfl ?_
  refine xt_pure rfl rfl rfl (st1 := .int (iv + 1) :: _) rfl ?_
  refine xt_iald rfl rfl xmX a1.1 a1.2 ?_
  refine xt_pure rfl rfl rfl rfl ?_
  refine xt_pure rfl rfl rfl rfl ?_
  refine xt_pure rfl rfl rfl (st1 := .int 2 :: _) rfl ?_
  refine xt_pure rfl rfl rfl (st1 := .int (iv + 2) :: _) rfl ?_
  refine xt_iald rfl rfl xmX a2.1 a2.2 ?_
  refine xt_pure rfl rfl rfl rfl ?_
  refine xt_pure rfl rfl rfl (st1 := .int 32 :: _) rfl ?_
  refine xt_pure rfl rfl rfl rfl ?_
  refine xt_pure rfl rfl rfl rfl ?_
  refine xt_pure rfl rfl rfl rfl ?_
  refine xt_pure rfl rfl rfl (st1 := .int 3 :: _) rfl ?_
  refine xt_pure rfl rfl rfl (st1 := .int (iv + 3) :: _) rfl ?_
  refine xt_iald rfl rfl xmX a3.1 a3.2 ?_
  refine xt_pure rfl rfl rfl rfl ?_
  refine xt_pure rfl rfl rfl (st1 := .long 4294967295 :: _) rfl ?_
  refine xt_pure rfl rfl rfl rfl ?_
  refine xt_pure rfl rfl rfl rfl ?_
  refine xt_pure rfl rfl rfl rfl ?_
  refine xt_pure rfl rfl rfl rfl ?_
  refine xt_pure rfl rfl rfl (st1 := .int 4 :: _) rfl ?_
  refine xt_pure rfl rfl rfl (st1 := .int (iv + 4) :: _) rfl ?_
  refine xt_iald rfl rfl xmX a4.1 a4.2 ?_
  refine xt_callP (as := [.int x1, .long _, .int x4]) (mm := 254) rfl rfl rfl rfl ⟨rfl, rfl, yle rfl, yle rfl, yle rfl, yle rfl⟩ rfl (op_entry h) (c2 := c + 200) (s2 := s + 2400) ⟨by omega, by omega⟩ ?_
  intro v D1 hm
  refine xt_pure rfl rfl rfl rfl ?_
  refine xt_pure rfl rfl rfl rfl ?_
  refine xt_pure rfl rfl rfl rfl ?_
  refine xt_pure rfl rfl rfl (st1 := .int 1 :: _) rfl ?_
  refine xt_pure rfl rfl rfl (st1 := .int (iv + 1) :: _) rfl ?_
  refine xt_iald rfl rfl xmX a1.1 a1.2 ?_
  refine xt_pure rfl rfl rfl rfl ?_
  refine xt_pure rfl rfl rfl rfl ?_
  refine xt_pure rfl rfl rfl (st1 := .int 2 :: _) rfl ?_
  refine xt_pure rfl rfl rfl (st1 := .int (iv + 2) :: _) rfl ?_
  refine xt_iald rfl rfl xmX a2.1 a2.2 ?_
  refine xt_pure rfl rfl rfl rfl ?_
  refine xt_pure rfl rfl rfl (st1 := .int 32 :: _) rfl ?_
  refine xt_pure rfl rfl rfl rfl ?_
  refine xt_pure rfl rfl rfl rfl ?_
  refine xt_pure rfl rfl rfl rfl ?_
  refine xt_pure rfl rfl rfl (st1 := .int 3 :: _) rfl ?_
  refine xt_pure rfl rfl rfl (st1 := .int (iv + 3) :: _) rfl ?_
  refine xt_iald rfl rfl xmX a3.1 a3.2 ?_
  refine xt_pure rfl rfl rfl rfl ?_
  refine xt_pure rfl rfl rfl (st1 := .long 4294967295 :: _) rfl ?_
  refine xt_pure rfl rfl rfl rfl ?_
  refine xt_pure rfl rfl rfl rfl ?_
  refine xt_pure rfl rfl rfl rfl ?_
  refine xt_pure rfl rfl rfl rfl ?_
  refine xt_pure rfl rfl rfl (st1 := .int 4 :: _) rfl ?_
  refine xt_pure rfl rfl rfl (st1 := .int (iv + 4) :: _) rfl ?_
  refine xt_iald rfl rfl xmX a4.1 a4.2 ?_
  refine xt_callM rfl rfl rfl rfl ⟨rfl, rfl, yle rfl, yle rfl, yle rfl, yle rfl⟩ rfl hm (c2 := c) (s2 := s) ⟨by omega, by omega⟩ ?_
  intro D2 hI
  exact yt_ic rfl rfl (fun _ => kk D2 hI) (fun (hn : v ≠ v) => absurd rfl hn)
set_option maxRecDepth 100000 in
theorem law_5 (a1 : lwA X (iv + 1) x1) (a2 : lwA X (iv + 2) x2) (a3 : lwA X (iv + 3) x3) (a4 : lwA X (iv + 4) x4) (h : Inv D) (kk : ∀ D2, Inv D2 → yT X 2000 80000 345 1091 [some (.ref 0), some (.ref 78), some (.ref 209), some (.int iv)] [] D2 c s Q) : yT X 2000 80000 345 205 [some (.ref 0), some (.ref 78), some (.ref 209), some (.int iv)] [] D (c + 400) (s + 4800) Q := by
  refine xt_pure rfl rfl rfl rfl ?_
  refine xt_pure rfl rfl rfl rfl ?_
  refine xt_pure rfl rfl rfl rfl ?_
  refine xt_pure rfl rfl rfl (st1 := .int 1 :: _) rfl ?_
  refine xt_pure rfl rfl rfl (st1 := .int (iv + 1) :: _) rfl ?_
  refine xt_iald rfl rfl xmX a1.1 a1.2 ?_
  refine xt_pure rfl rfl rfl rfl ?_
  refine xt_pure rfl rfl rfl rfl ?_
  refine xt_pure rfl rfl rfl (st1 := .int 2 :: _) rfl ?_
  refine xt_pure rfl rfl rfl (st1 := .int (iv + 2) :: _) rfl ?_
  refine xt_iald rfl rfl xmX a2.1 a2.2 ?_
  refine xt_callP (as := [.int x1, .int x2]) (mm := 255) rfl rfl rfl rfl ⟨rfl, rfl, yle rfl, yle rfl, yle rfl, yle rfl⟩ rfl (op_desk h) (c2 := c + 200) (s2 := s + 2400) ⟨by omega, by omega⟩ ?_
  intro v D1 hm
  refine xt_pure rfl rfl rfl rfl ?_
  refine xt_pure rfl rfl rfl rfl ?_
  refine xt_pure rfl rfl rfl rfl ?_
  refine xt_pure rfl rfl rfl (st1 := .int 1 :: _) rfl ?_
  refine xt_pure rfl rfl rfl (st1 := .int (iv + 1) :: _) rfl ?_
  refine xt_iald rfl rfl xmX a1.1 a1.2 ?_
  refine xt_pure rfl rfl rfl rfl ?_
  refine xt_pure rfl rfl rfl rfl ?_
  refine xt_pure rfl rfl rfl (st1 := .int 2 :: _) rfl ?_
  refine xt_pure rfl rfl rfl (st1 := .int (iv + 2) :: _) rfl ?_
  refine xt_iald rfl rfl xmX a2.1 a2.2 ?_
  refine xt_callM rfl rfl rfl rfl ⟨rfl, rfl, yle rfl, yle rfl, yle rfl, yle rfl⟩ rfl hm (c2 := c) (s2 := s) ⟨by omega, by omega⟩ ?_
  intro D2 hI
  exact yt_ic rfl rfl (fun _ => kk D2 hI) (fun (hn : v ≠ v) => absurd rfl hn)
set_option maxRecDepth 100000 in
theorem law_6 (a1 : lwA X (iv + 1) x1) (a2 : lwA X (iv + 2) x2) (a3 : lwA X (iv + 3) x3) (a4 : lwA X (iv + 4) x4) (h : Inv D) (kk : ∀ D2, Inv D2 → yT X 2000 80000 345 1091 [some (.ref 0), some (.ref 78), some (.ref 209), some (.int iv)] [] D2 c s Q) : yT X 2000 80000 345 232 [some (.ref 0), some (.ref 78), some (.ref 209), some (.int iv)] [] D (c + 400) (s + 4800) Q := by
  refine xt_pure rfl rfl rfl rfl ?_
  refine xt_callP (as := []) (mm := 261) rfl rfl rfl rfl ⟨rfl, rfl, yle rfl, yle rfl, yle rfl, yle rfl⟩ rfl (op_clear h) (c2 := c + 200) (s2 := s + 2400) ⟨by omega, by omega⟩ ?_
  intro v D1 hm
  refine xt_pure rfl rfl rfl rfl ?_
  refine xt_callM rfl rfl rfl rfl ⟨rfl, rfl, yle rfl, yle rfl, yle rfl, yle rfl⟩ rfl hm (c2 := c) (s2 := s) ⟨by omega, by omega⟩ ?_
  intro D2 hI
  exact yt_ic rfl rfl (fun _ => kk D2 hI) (fun (hn : v ≠ v) => absurd rfl hn)
set_option maxRecDepth 100000 in
theorem law_7 (a1 : lwA X (iv + 1) x1) (a2 : lwA X (iv + 2) x2) (a3 : lwA X (iv + 3) x3) (a4 : lwA X (iv + 4) x4) (h : Inv D) (kk : ∀ D2, Inv D2 → yT X 2000 80000 345 1091 [some (.ref 0), some (.ref 78), some (.ref 209), some (.int iv)] [] D2 c s Q) : yT X 2000 80000 345 239 [some (.ref 0), some (.ref 78), some (.ref 209), some (.int iv)] [] D (c + 400) (s + 4800) Q := by
  refine xt_pure rfl rfl rfl rfl ?_
  refine xt_pure rfl rfl rfl rfl ?_
  refine xt_pure rfl rfl rfl rfl ?_
  refine xt_pure rfl rfl rfl (st1 := .int 1 :: _) rfl ?_
  refine xt_pure rfl rfl rfl (st1 := .int (iv + 1) :: _) rfl ?_
  refine xt_iald rfl rfl xmX a1.1 a1.2 ?_
  refine xt_pure rfl rfl rfl rfl ?_
  refine xt_pure rfl rfl rfl rfl ?_
  refine xt_pure rfl rfl rfl (st1 := .int 2 :: _) rfl ?_
  refine xt_pure rfl rfl rfl (st1 := .int (iv + 2) :: _) rfl ?_
  refine xt_iald rfl rfl xmX a2.1 a2.2 ?_
  refine xt_pure rfl rfl rfl rfl ?_
  refine xt_pure rfl rfl rfl (st1 := .int 32 :: _) rfl ?_
  refine xt_pure rfl rfl rfl rfl ?_
  refine xt_pure rfl rfl rfl rfl ?_
  refine xt_pure rfl rfl rfl rfl ?_
  refine xt_pure rfl rfl rfl (st1 := .int 3 :: _) rfl ?_
  refine xt_pure rfl rfl rfl (st1 := .int (iv + 3) :: _) rfl ?_
  refine xt_iald rfl rfl xmX a3.1 a3.2 ?_
  refine xt_pure rfl rfl rfl rfl ?_
  refine xt_pure rfl rfl rfl (st1 := .long 4294967295 :: _) rfl ?_
  refine xt_pure rfl rfl rfl rfl ?_
  refine xt_pure rfl rfl rfl rfl ?_
  refine xt_callP (as := [.int x1, .long _]) (mm := 262) rfl rfl rfl rfl ⟨rfl, rfl, yle rfl, yle rfl, yle rfl, yle rfl⟩ rfl (op_write h) (c2 := c + 200) (s2 := s + 2400) ⟨by omega, by omega⟩ ?_
  intro v D1 hm
  refine xt_pure rfl rfl rfl rfl ?_
  refine xt_pure rfl rfl rfl rfl ?_
  refine xt_pure rfl rfl rfl rfl ?_
  refine xt_pure rfl rfl rfl (st1 := .int 1 :: _) rfl ?_
  refine xt_pure rfl rfl rfl (st1 := .int (iv + 1) :: _) rfl ?_
  refine xt_iald rfl rfl xmX a1.1 a1.2 ?_
  refine xt_pure rfl rfl rfl rfl ?_
  refine xt_pure rfl rfl rfl rfl ?_
  refine xt_pure rfl rfl rfl (st1 := .int 2 :: _) rfl ?_
  refine xt_pure rfl rfl rfl (st1 := .int (iv + 2) :: _) rfl ?_
  refine xt_iald rfl rfl xmX a2.1 a2.2 ?_
  refine xt_pure rfl rfl rfl rfl ?_
  refine xt_pure rfl rfl rfl (st1 := .int 32 :: _) rfl ?_
  refine xt_pure rfl rfl rfl rfl ?_
  refine xt_pure rfl rfl rfl rfl ?_
  refine xt_pure rfl rfl rfl rfl ?_
  refine xt_pure rfl rfl rfl (st1 := .int 3 :: _) rfl ?_
  refine xt_pure rfl rfl rfl (st1 := .int (iv + 3) :: _) rfl ?_
  refine xt_iald rfl rfl xmX a3.1 a3.2 ?_
  refine xt_pure rfl rfl rfl rfl ?_
  refine xt_pure rfl rfl rfl (st1 := .long 4294967295 :: _) rfl ?_
  refine xt_pure rfl rfl rfl rfl ?_
  refine xt_pure rfl rfl rfl rfl ?_
  refine xt_callM rfl rfl rfl rfl ⟨rfl, rfl, yle rfl, yle rfl, yle rfl, yle rfl⟩ rfl hm (c2 := c) (s2 := s) ⟨by omega, by omega⟩ ?_
  intro D2 hI
  exact yt_ic rfl rfl (fun _ => kk D2 hI) (fun (hn : v ≠ v) => absurd rfl hn)
set_option maxRecDepth 100000 in
theorem law_8 (a1 : lwA X (iv + 1) x1) (a2 : lwA X (iv + 2) x2) (a3 : lwA X (iv + 3) x3) (a4 : lwA X (iv + 4) x4) (h : Inv D) (kk : ∀ D2, Inv D2 → yT X 2000 80000 345 1091 [some (.ref 0), some (.ref 78), some (.ref 209), some (.int iv)] [] D2 c s Q) : yT X 2000 80000 345 290 [some (.ref 0), some (.ref 78), some (.ref 209), some (.int iv)] [] D (c + 400) (s + 4800) Q := by
  refine xt_pure rfl rfl rfl rfl ?_
  refine xt_pure rfl rfl rfl rfl ?_
  refine xt_pure rfl rfl rfl rfl ?_
  refine xt_pure rfl rfl rfl (st1 := .int 1 :: _) rfl ?_
  refine xt_pure rfl rfl rfl (st1 := .int (iv + 1) :: _) rfl ?_
  refine xt_iald rfl rfl xmX a1.1 a1.2 ?_
  refine xt_pure rfl rfl rfl rfl ?_
  refine xt_pure rfl rfl rfl rfl ?_
  refine xt_pure rfl rfl rfl (st1 := .int 2 :: _) rfl ?_
  refine xt_pure rfl rfl rfl (st1 := .int (iv + 2) :: _) rfl ?_
  refine xt_iald rfl rfl xmX a2.1 a2.2 ?_
  refine xt_callP (as := [.int x1, .int x2]) (mm := 263) rfl rfl rfl rfl ⟨rfl, rfl, yle rfl, yle rfl, yle rfl, yle rfl⟩ rfl (op_line h) (c2 := c + 200) (s2 := s + 2400) ⟨by omega, by omega⟩ ?_
  intro v D1 hm
  refine xt_pure rfl rfl rfl rfl ?_
  refine xt_pure rfl rfl rfl rfl ?_
  refine xt_pure rfl rfl rfl rfl ?_
  refine xt_pure rfl rfl rfl (st1 := .int 1 :: _) rfl ?_
  refine xt_pure rfl rfl rfl (st1 := .int (iv + 1) :: _) rfl ?_
  refine xt_iald rfl rfl xmX a1.1 a1.2 ?_
  refine xt_pure rfl rfl rfl rfl ?_
  refine xt_pure rfl rfl rfl rfl ?_
  refine xt_pure rfl rfl rfl (st1 := .int 2 :: _) rfl ?_
  refine xt_pure rfl rfl rfl (st1 := .int (iv + 2) :: _) rfl ?_
  refine xt_iald rfl rfl xmX a2.1 a2.2 ?_
  refine xt_callM rfl rfl rfl rfl ⟨rfl, rfl, yle rfl, yle rfl, yle rfl, yle rfl⟩ rfl hm (c2 := c) (s2 := s) ⟨by omega, by omega⟩ ?_
  intro D2 hI
  exact yt_ic rfl rfl (fun _ => kk D2 hI) (fun (hn : v ≠ v) => absurd rfl hn)
set_option maxRecDepth 100000 in
theorem law_9 (a1 : lwA X (iv + 1) x1) (a2 : lwA X (iv + 2) x2) (a3 : lwA X (iv + 3) x3) (a4 : lwA X (iv + 4) x4) (h : Inv D) (kk : ∀ D2, Inv D2 → yT X 2000 80000 345 1091 [some (.ref 0), some (.ref 78), some (.ref 209), some (.int iv)] [] D2 c s Q) : yT X 2000 80000 345 317 [some (.ref 0), some (.ref 78), some (.ref 209), some (.int iv)] [] D (c + 400) (s + 4800) Q := by
  refine xt_pure rfl rfl rfl rfl ?_
  refine xt_pure rfl rfl rfl rfl ?_
  refine xt_pure rfl rfl rfl rfl ?_
  refine xt_pure rfl rfl rfl (st1 := .int 1 :: _) rfl ?_
  refine xt_pure rfl rfl rfl (st1 := .int (iv + 1) :: _) rfl ?_
  refine xt_iald rfl rfl xmX a1.1 a1.2 ?_
  refine xt_pure rfl rfl rfl rfl ?_
  refine xt_pure rfl rfl rfl rfl ?_
  refine xt_pure rfl rfl rfl (st1 := .int 2 :: _) rfl ?_
  refine xt_pure rfl rfl rfl (st1 := .int (iv + 2) :: _) rfl ?_
  refine xt_iald rfl rfl xmX a2.1 a2.2 ?_
  refine xt_pure rfl rfl rfl rfl ?_
  refine xt_pure rfl rfl rfl rfl ?_
  refine xt_pure rfl rfl rfl (st1 := .int 3 :: _) rfl ?_
  refine xt_pure rfl rfl rfl (st1 := .int (iv + 3) :: _) rfl ?_
  refine xt_iald rfl rfl xmX a3.1 a3.2 ?_
  refine xt_callP (as := [.int x1, .int x2, .int x3]) (mm := 264) rfl rfl rfl rfl ⟨rfl, rfl, yle rfl, yle rfl, yle rfl, yle rfl⟩ rfl (op_cell h) (c2 := c + 200) (s2 := s + 2400) ⟨by omega, by omega⟩ ?_
  intro v D1 hm
  refine xt_pure rfl rfl rfl rfl ?_
  refine xt_pure rfl rfl rfl rfl ?_
  refine xt_pure rfl rfl rfl rfl ?_
  refine xt_pure rfl rfl rfl (st1 := .int 1 :: _) rfl ?_
  refine xt_pure rfl rfl rfl (st1 := .int (iv + 1) :: _) rfl ?_
  refine xt_iald rfl rfl xmX a1.1 a1.2 ?_
  refine xt_pure rfl rfl rfl rfl ?_
  refine xt_pure rfl rfl rfl rfl ?_
  refine xt_pure rfl rfl rfl (st1 := .int 2 :: _) rfl ?_
  refine xt_pure rfl rfl rfl (st1 := .int (iv + 2) :: _) rfl ?_
  refine xt_iald rfl rfl xmX a2.1 a2.2 ?_
  refine xt_pure rfl rfl rfl rfl ?_
  refine xt_pure rfl rfl rfl rfl ?_
  refine xt_pure rfl rfl rfl (st1 := .int 3 :: _) rfl ?_
  refine xt_pure rfl rfl rfl (st1 := .int (iv + 3) :: _) rfl ?_
  refine xt_iald rfl rfl xmX a3.1 a3.2 ?_
  refine xt_callM rfl rfl rfl rfl ⟨rfl, rfl, yle rfl, yle rfl, yle rfl, yle rfl⟩ rfl hm (c2 := c) (s2 := s) ⟨by omega, by omega⟩ ?_
  intro D2 hI
  exact yt_ic rfl rfl (fun _ => kk D2 hI) (fun (hn : v ≠ v) => absurd rfl hn)
set_option maxRecDepth 100000 in
theorem law_10 (a1 : lwA X (iv + 1) x1) (a2 : lwA X (iv + 2) x2) (a3 : lwA X (iv + 3) x3) (a4 : lwA X (iv + 4) x4) (h : Inv D) (kk : ∀ D2, Inv D2 → yT X 2000 80000 345 1091 [some (.ref 0), some (.ref 78), some (.ref 209), some (.int iv)] [] D2 c s Q) : yT X 2000 80000 345 354 [some (.ref 0), some (.ref 78), some (.ref 209), some (.int iv)] [] D (c + 400) (s + 4800) Q := by
  refine xt_pure rfl rfl rfl rfl ?_
  refine xt_pure rfl rfl rfl rfl ?_
  refine xt_pure rfl rfl rfl rfl ?_
  refine xt_pure rfl rfl rfl (st1 := .int 1 :: _) rfl ?_
  refine xt_pure rfl rfl rfl (st1 := .int (iv + 1) :: _) rfl ?_
  refine xt_iald rfl rfl xmX a1.1 a1.2 ?_
  refine xt_pure rfl rfl rfl rfl ?_
  refine xt_pure rfl rfl rfl rfl ?_
  refine xt_pure rfl rfl rfl (st1 := .int 2 :: _) rfl ?_
  refine xt_pure rfl rfl rfl (st1 := .int (iv + 2) :: _) rfl ?_
  refine xt_iald rfl rfl xmX a2.1 a2.2 ?_
  refine xt_callP (as := [.int x1, .int x2]) (mm := 265) rfl rfl rfl rfl ⟨rfl, rfl, yle rfl, yle rfl, yle rfl, yle rfl⟩ rfl (op_seat h) (c2 := c + 200) (s2 := s + 2400) ⟨by omega, by omega⟩ ?_
  intro v D1 hm
  refine xt_pure rfl rfl rfl rfl ?_
  refine xt_pure rfl rfl rfl rfl ?_
  refine xt_pure rfl rfl rfl rfl ?_
  refine xt_pure rfl rfl rfl (st1 := .int 1 :: _) rfl ?_
  refine xt_pure rfl rfl rfl (st1 := .int (iv + 1) :: _) rfl ?_
  refine xt_iald rfl rfl xmX a1.1 a1.2 ?_
  refine xt_pure rfl rfl rfl rfl ?_
  refine xt_pure rfl rfl rfl rfl ?_
  refine xt_pure rfl rfl rfl (st1 := .int 2 :: _) rfl ?_
  refine xt_pure rfl rfl rfl (st1 := .int (iv + 2) :: _) rfl ?_
  refine xt_iald rfl rfl xmX a2.1 a2.2 ?_
  refine xt_callM rfl rfl rfl rfl ⟨rfl, rfl, yle rfl, yle rfl, yle rfl, yle rfl⟩ rfl hm (c2 := c) (s2 := s) ⟨by omega, by omega⟩ ?_
  intro D2 hI
  exact yt_ic rfl rfl (fun _ => kk D2 hI) (fun (hn : v ≠ v) => absurd rfl hn)
end LAW0
