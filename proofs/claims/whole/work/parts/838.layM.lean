/-! SEARCH: a filling laid out; the reference -/
/-- a thing: its address, those of its rows, its sort, size, items, row sizes, cells -/
abbrev yTg : Type := Nat × Nat × Nat × Nat × Int32 × Int32 × List Int64 × List Int32 × List Int32
abbrev tgE (x : yTg) : List xE := thE x.1 x.2.1 x.2.2.1 x.2.2.2.1 x.2.2.2.2.1 x.2.2.2.2.2.1 x.2.2.2.2.2.2.1 x.2.2.2.2.2.2.2.1 x.2.2.2.2.2.2.2.2
def tgL (x : yTg) : Prop := x.2.2.2.2.2.2.1.length = 12 ∧ x.2.2.2.2.2.2.2.1.length = 6 ∧ x.2.2.2.2.2.2.2.2.length = 36
def pD : List yTg → List xE
  | [] => []
  | x :: r => tgE x ++ pD r
theorem pD_app : ∀ (a b : List yTg), pD (a ++ b) = pD a ++ pD b
  | [], b => rfl
  | x :: a, b => by
    show tgE x ++ pD (a ++ b) = (tgE x ++ pD a) ++ pD b
    rw [pD_app a b, List.append_assoc]
theorem pD_mem {l : List yTg} {x : yTg} (h : x ∈ l) : tgE x ⊆ pD l := by
  induction l with
  | nil => cases h
  | cons y r ih =>
    rcases List.mem_cons.mp h with rfl | h
    · exact fun _ he => List.mem_append_left _ he
    · exact fun _ he => List.mem_append_right _ (ih h he)
theorem tg_han {x : yTg} : zOM (tgE x) x.1 (x.2.2.2.2.1, x.2.2.2.2.2.1, x.2.2.2.2.2.2.1, x.2.2.2.2.2.2.2.1, x.2.2.2.2.2.2.2.2) := ⟨x.2.1, x.2.2.1, x.2.2.2.1, List.mem_of_getElem? (i := 0) rfl, List.mem_of_getElem? (i := 1) rfl, List.mem_of_getElem? (i := 5) rfl, List.mem_of_getElem? (i := 6) rfl, List.mem_of_getElem? (i := 7) rfl, List.mem_of_getElem? (i := 2) rfl, List.mem_of_getElem? (i := 3) rfl, List.mem_of_getElem? (i := 4) rfl⟩
/-- the pool's row -/
def pvl (ps : List yTg) : List Value := ps.map (fun x => Value.ref x.1) ++ List.replicate (9 - ps.length) .null
theorem pvl_len {ps : List yTg} (h : ps.length ≤ 9) : (pvl ps).length = 9 := by
  unfold pvl
  rw [List.length_append, List.length_map, List.length_replicate]; omega
theorem pvl_at {ps : List yTg} {k : Nat} {x : yTg} (h : ps[k]? = some x) : (pvl ps)[k]? = some (.ref x.1) := by
  unfold pvl
  rw [List.getElem?_append_left (by rw [List.length_map]; exact (List.getElem?_eq_some_iff.mp h).1), List.getElem?_map, h]
  rfl
theorem pvl_no {ps : List yTg} (h : ps.length < 9) : (pvl ps)[ps.length]? = some .null := by
  unfold pvl
  rw [List.getElem?_append_right (by rw [List.length_map]; exact Nat.le_refl _), List.length_map, Nat.sub_self, List.getElem?_replicate, if_pos (by omega)]
theorem pvl_put {ps : List yTg} {x : yTg} (h : ps.length < 9) : (pvl ps).set ps.length (.ref x.1) = pvl (ps ++ [x]) := by
  unfold pvl
  rw [List.set_append_right _ _ (by rw [List.length_map]; exact Nat.le_refl _), List.length_map, Nat.sub_self, List.map_append, List.append_assoc, List.length_append, show 9 - ps.length = (9 - (ps.length + [x].length)) + 1 by rw [List.length_singleton]; omega]
  rfl
theorem pvl_set {ps : List yTg} {k : Nat} {x y : yTg} (h : ps[k]? = some x) (he : y.1 = x.1) : pvl (ps.set k y) = pvl ps := by
  unfold pvl
  rw [List.length_set, List.map_set, he]
  congr 1
  apply List.ext_getElem?
  intro i
  by_cases e : k = i
  · subst e
    rw [List.getElem?_set_self (by rw [List.length_map]; exact (List.getElem?_eq_some_iff.mp h).1), List.getElem?_map, h]
    rfl
  · rw [List.getElem?_set_ne e]
section LAYM
variable {X : List Int32} {D0 D1 D2 : List xE} {F : yF} {S : zS} {fa : Nat} {pl sr cr : List Nat} {En : List (Int64 × Int32)} {u : Value}
theorem mk_cand {x : yTg} {ev : Int32} {js : List Int32} {p c : Nat} {P : yPt} (hNe : ((209, .inl (14, 19, .int (Int32.ofNat En.length))) : xE) ∈ D1) (hSn : ((236, .inr (0, (En.map Prod.snd ++ js).map Value.int)) : xE) ∈ D1) (hF : yFM D1 fa F) (hok : yFok F) (hP : F.1[p]? = some P) (h5 : P.1.toInt ≤ 5) (hc : c < mnP P) (hx : tgL x) : yK X 1 20 340 [.ref x.1, .ref fa, .int (Int32.ofNat p), .int (Int32.ofNat c)] ((209, .inl (14, 24, .int ev)) :: (tgE x ++ D1)) 0 0 (fun r D => ∃ x', r = some (.ref x.1) ∧ D = (209, .inl (14, 24, .int ev)) :: (tgE x' ++ D1) ∧ x'.1 = x.1 ∧ yOM (tgE x') x.1 (cndP P c) ∧ tgL x') := by
  obtain ⟨pp, gi, ga, vl, g1, g2, _⟩ := hF.han
  obtain ⟨S', e1, e2, e3⟩ := M_cand (N := 9) (ne := Int32.ofNat En.length) (sn := En.map Prod.snd ++ js) (S := sC x.2.2.2.2.1 x.2.2.2.2.2.1 x.2.2.2.2.2.2.1 x.2.2.2.2.2.2.2.1 x.2.2.2.2.2.2.2.2 ev) g2 hok (by omega) hP h5 hc hx.1 hx.2.1 hx.2.2
  have sub : D1 ⊆ (x.1, .inl (13, 2, .ref x.2.1)) :: (x.1, .inl (13, 3, .ref x.2.2.1)) :: (x.1, .inl (13, 4, .ref x.2.2.2.1)) :: D1 := fun _ he => List.mem_cons_of_mem _ (List.mem_cons_of_mem _ (List.mem_cons_of_mem _ he))
  have tr := trC_candidate (X := X) (D0 := (x.1, .inl (13, 2, .ref x.2.1)) :: (x.1, .inl (13, 3, .ref x.2.2.1)) :: (x.1, .inl (13, 4, .ref x.2.2.2.1)) :: D1) (tb := x.1) (ti := x.2.1) (tr := x.2.2.1) (tc := x.2.2.2.1) (fr := 1) (lo := 20) List.mem_cons_self (List.mem_cons_of_mem _ List.mem_cons_self) (List.mem_cons_of_mem _ (List.mem_cons_of_mem _ List.mem_cons_self)) (sub hNe) (sub hSn) (fun e he => sub (g1 e he)) (by omega) (by omega) e1
  have pm : ∀ (a e1 e2 e3 e4 e5 : xE) (L : List xE), (a :: e1 :: e2 :: e3 :: e4 :: e5 :: L).Perm (e1 :: e2 :: e3 :: e4 :: e5 :: a :: L) := fun a e1 e2 e3 e4 e5 L => (List.perm_middle (a := a) (l₁ := [e1, e2, e3, e4, e5]) (l₂ := L)).symm
  refine yK.post (yK.perm (pm _ _ _ _ _ _ _) tr) ?_
  rintro r D ⟨rfl, rfl⟩
  refine ⟨(209, .inl (14, 24, .int ev)) :: (tgE (x.1, x.2.1, x.2.2.1, x.2.2.2.1, zI S' 0, zI S' 1, zB S' 2, zA S' 3, zA S' 4) ++ D1), ?_, (x.1, x.2.1, x.2.2.1, x.2.2.2.1, zI S' 0, zI S' 1, zB S' 2, zA S' 3, zA S' 4), rfl, rfl, rfl, e2.om, ?_, e2.2.2.2.1, e2.2.2.2.2.1⟩
  · have e3 : zI S' 5 = ev := e3
    rw [← e3]
    exact (pm _ _ _ _ _ _ _).symm
  · obtain ⟨jk, h1, h2⟩ := e2.2.2.1
    show (zB S' 2).length = 12
    rw [h1, List.length_append]; exact h2
theorem mk_pooled1 {ps : List yTg} {k : Nat} {x : yTg} (hk : k < 9) (h : ((266, .inr (10, pvl ps)) : xE) ∈ D0) (hx : ps[k]? = some x) : yK X 0 0 339 [.ref 209, .int (Int32.ofNat k)] D0 0 0 (fun a D => a = some (.ref x.1) ∧ D = D0) := by
  have tk := yi_nat (i := k) (by omega)
  have tk3 : (Int32.ofNat k).toInt.toNat = k := yi_toNat (by omega)
  have tk4 := yjn (j := Int32.ofNat k) (by rw [tk]; omega)
  refine yK.of rfl (yle rfl) (L := [_, _]) rfl ?_
  refine xt_pure rfl rfl rfl rfl ?_
  refine xt_getf rfl rfl (xmC 215 rfl) ?_
  refine xt_pure rfl rfl rfl rfl ?_
  refine xt_aald rfl rfl ⟨by decide, rfl⟩ (xmS 0 rfl h) tk4.1 (v := .ref x.1) (by rw [tk4.2, tk3]; exact pvl_at hx) ?_
  refine xt_pure rfl rfl rfl rfl ?_
  refine xt_pure rfl rfl rfl rfl ?_
  refine xt_getf rfl rfl (xmC 215 rfl) ?_
  refine xt_pure rfl rfl rfl rfl ?_
  refine xt_aald rfl rfl ⟨by decide, rfl⟩ (xmS 0 rfl h) tk4.1 (v := .ref x.1) (by rw [tk4.2, tk3]; exact pvl_at hx) ?_
  exact xt_aret rfl rfl rfl rfl rfl ⟨rfl, rfl⟩
theorem mk_pooled2 {ps : List yTg} {i : Nat} (hk : ps.length < 9) (h : D0[i]? = some (266, .inr (10, pvl ps))) : yK X 3 150 339 [.ref 209, .int (Int32.ofNat ps.length)] D0 4 59 (fun a D => ∃ x, a = some (.ref x.1) ∧ D = tgE x ++ D0.set i (266, .inr (10, pvl (ps ++ [x]))) ∧ tgL x) := by
  have tk := yi_nat (i := ps.length) (by omega)
  have tk3 : (Int32.ofNat ps.length).toInt.toNat = ps.length := yi_toNat (by omega)
  have tk4 := yjn (j := Int32.ofNat ps.length) (by rw [tk]; omega)
  refine yK.of rfl (yle rfl) (L := [_, _]) rfl ?_
  refine xt_pure rfl rfl rfl rfl ?_
  refine xt_getf rfl rfl (xmC 215 rfl) ?_
  refine xt_pure rfl rfl rfl rfl ?_
  refine xt_aald rfl rfl ⟨by decide, rfl⟩ (xmS 0 rfl (List.mem_of_getElem? h)) tk4.1 (v := .null) (by rw [tk4.2, tk3]; exact pvl_no hk) ?_
  refine xt_pure rfl rfl rfl rfl ?_
  refine xt_pure rfl rfl rfl rfl ?_
  refine xt_getf rfl rfl (xmC 215 rfl) ?_
  refine xt_pure rfl rfl rfl rfl ?_
  refine xt_pure rfl rfl rfl (st1 := .int 0 :: _) rfl ?_
  refine xt_pure rfl rfl rfl (st1 := .int 0 :: _) rfl ?_
  refine xt_callS rfl rfl (by decide) rfl ⟨rfl, yle rfl, yle rfl, yle rfl, yle rfl⟩ mk_thing (c2 := 0) (s2 := 0) ⟨yle rfl, yle rfl⟩ ?_
  rintro _ _ ⟨b, ia, ra, ca, rfl, rfl⟩
  have hp := pvl_put (ps := ps) (x := (b, ia, ra, ca, 0, 0, List.replicate 12 (newv 0), List.replicate 6 (-1), List.replicate 36 0)) hk
  refine yt_ast rfl rfl (i + 8) h rfl (by decide) (Or.inl ⟨_, 13, 0, _, rfl, rfl, List.mem_append_left _ (List.mem_of_getElem? (i := 0) rfl)⟩) ⟨by rw [tk]; omega, by rw [tk, pvl_len (by omega)]; omega⟩ (D1 := tgE (b, ia, ra, ca, 0, 0, List.replicate 12 (newv 0), List.replicate 6 (-1), List.replicate 36 0) ++ D0.set i (266, .inr (10, pvl (ps ++ [(b, ia, ra, ca, 0, 0, List.replicate 12 (newv 0), List.replicate 6 (-1), List.replicate 36 0)])))) (by rw [tk3, hp]; rfl) ?_
  refine xt_pure rfl rfl rfl rfl ?_
  refine xt_getf rfl rfl (xmC 215 rfl) ?_
  refine xt_pure rfl rfl rfl rfl ?_
  refine xt_aald rfl rfl ⟨by decide, rfl⟩ (xmS 8 rfl (List.mem_of_getElem? (sat_set h))) tk4.1 (v := .ref b) (by rw [tk4.2, tk3]; exact pvl_at (x := (b, ia, ra, ca, 0, 0, List.replicate 12 (newv 0), List.replicate 6 (-1), List.replicate 36 0)) (by rw [List.getElem?_append_right (Nat.le_refl _), Nat.sub_self]; rfl)) ?_
  exact xt_aret rfl rfl rfl rfl rfl ⟨_, rfl, rfl, rfl, rfl, rfl⟩
/-- the answers laid so far -/
def laidM (mr : List Value) (A : List (Option yO)) (ps : List yTg) (i : Nat) : Prop := mr.length = 620 ∧ A.length = 20 ∧ ∀ (p : Nat) v z, p < 20 → mr[600 + p]? = some v → A[p]? = some z → (z = none ∧ v = .null) ∨ ∃ (j : Nat) (x : yTg) (y : yO), j < i ∧ ps[j]? = some x ∧ yOM (tgE x) x.1 y ∧ z = some y ∧ v = .ref x.1
abbrev LM (S : zS) (u : Value) (a b c e : xE) (mr : List Value) (ps : List yTg) (D2 : List xE) : List xE := EM S u (a :: b :: c :: e :: (239, .inr (10, mr)) :: (266, .inr (10, pvl ps)) :: (pD ps ++ D2))
theorem inLM {S : zS} {u : Value} {a b c e : xE} {mr : List Value} {ps : List yTg} {D2 : List xE} : D2 ⊆ LM S u a b c e mr ps D2 := fun _ he => inEM (List.mem_cons_of_mem _ (List.mem_cons_of_mem _ (List.mem_cons_of_mem _ (List.mem_cons_of_mem _ (List.mem_cons_of_mem _ (List.mem_cons_of_mem _ (List.mem_append_right _ he)))))))
theorem inLMp {S : zS} {u : Value} {a b c e : xE} {mr : List Value} {ps : List yTg} {D2 : List xE} {x : yTg} (h : x ∈ ps) : tgE x ⊆ LM S u a b c e mr ps D2 := fun _ he => inEM (List.mem_cons_of_mem _ (List.mem_cons_of_mem _ (List.mem_cons_of_mem _ (List.mem_cons_of_mem _ (List.mem_cons_of_mem _ (List.mem_cons_of_mem _ (List.mem_append_left _ (pD_mem h he))))))))
theorem lm_perm {S : zS} {u : Value} {a b c e f g : xE} {p1 p2 : List yTg} {x : yTg} {D2 : List xE} : (EM S u (a :: b :: c :: e :: f :: g :: (pD (p1 ++ x :: p2) ++ D2))).Perm ((209, .inl (14, 24, .int (zI S 0))) :: (tgE x ++ (zE zaF S 1 zTF.tail ++ ((209, .inl (14, 46, u)) :: a :: b :: c :: e :: f :: g :: (pD p1 ++ (pD p2 ++ D2)))))) := by
  have h : ∀ (A B C : List xE), (A ++ (B ++ C)).Perm (B ++ (A ++ C)) := fun A B C => by
    rw [← List.append_assoc, ← List.append_assoc]
    exact List.Perm.append_right _ List.perm_append_comm
  have e0 : pD (p1 ++ x :: p2) ++ D2 = pD p1 ++ (tgE x ++ (pD p2 ++ D2)) := by
    rw [pD_app, List.append_assoc]
    show pD p1 ++ ((tgE x ++ pD p2) ++ D2) = _
    rw [List.append_assoc]
  rw [e0]
  have := h (zE zaF S 1 zTF.tail ++ ([(209, .inl (14, 46, u)), a, b, c, e, f, g] ++ pD p1)) (tgE x) (pD p2 ++ D2)
  rw [List.append_assoc, List.append_assoc, List.append_assoc, List.append_assoc] at this
  exact List.Perm.cons _ this
theorem lm_perm2 {S : zS} {u : Value} {a b c e f g : xE} {ps : List yTg} {x : yTg} {D2 : List xE} : (tgE x ++ EM S u (a :: b :: c :: e :: f :: g :: (pD ps ++ D2))).Perm (EM S u (a :: b :: c :: e :: f :: g :: (pD (ps ++ [x]) ++ D2))) := by
  have h : ∀ (A B C : List xE), (A ++ (B ++ C)).Perm (B ++ (A ++ C)) := fun A B C => by
    rw [← List.append_assoc, ← List.append_assoc]
    exact List.Perm.append_right _ List.perm_append_comm
  have e0 : pD (ps ++ [x]) ++ D2 = pD ps ++ (tgE x ++ D2) := by
    rw [pD_app, List.append_assoc]
    rfl
  rw [e0]
  have := h (tgE x) (zE zaF S 0 zTF ++ ([(209, .inl (14, 46, u)), a, b, c, e, f, g] ++ pD ps)) D2
  rw [List.append_assoc, List.append_assoc, List.append_assoc, List.append_assoc] at this
  exact this
theorem layM_loop {a b ec e : xE} {St : zS} {js : List Int32} {al : List Value} {tf : Int32} (hT : ∀ q ∈ zE zaT St 0 zTT, q ∈ D2) (htf : zI St 0 = tf) (hal : ((211, .inr (8, al)) : xE) ∈ D2) (haf : gI al tf = some (.ref fa)) (hNe : ((209, .inl (14, 19, .int (Int32.ofNat En.length))) : xE) ∈ D2) (hSn : ((236, .inr (0, (En.map Prod.snd ++ js).map Value.int)) : xE) ∈ D2) (hF : yFM D2 fa F) (hok : yFok F) (hst : stM2 F St pl sr cr) : ∀ (td tc dn dc : List Nat) (mr : List Value) (ps : List yTg) (l3 : Option Value), sr = td.reverse ++ dn → cr = tc.reverse ++ dc → td.length = tc.length → dn.length = dc.length → dn.length ≤ ps.length → ps.length ≤ 9 → (∀ x ∈ ps, tgL x) → laidM mr (layR F pl dn dc) ps dn.length → yT X 20 700 338 7 [some (.ref 209), some (.int 30), some (.int (Int32.ofNat dn.length)), l3] [] (LM S u a b ec e mr ps D2) (4 * (sr.length - ps.length)) (59 * (sr.length - ps.length)) (fun r D => ∃ mr' ps', r = none ∧ D = LM S u a b ec e mr' ps' D2 ∧ laidM mr' (layR F pl sr cr) ps' 9 ∧ ps'.length ≤ 9 ∧ (∀ x ∈ ps', tgL x) ∧ (∀ q, q < 600 → mr'[q]? = mr[q]?) ∧ ps'.length = max ps.length sr.length)
  | [], tc, dn, dc, mr, ps, l3, hs, hc, htl, hdl, hd9, hp9, hx, hL => by
    have : tc = [] := List.length_eq_zero_iff.mp htl.symm
    subst this
    rw [List.reverse_nil, List.nil_append] at hs hc
    subst hs hc
    have h4 := hst.2.1
    refine xt_pure rfl rfl rfl rfl ?_
    refine xt_pure rfl rfl rfl rfl ?_
    refine xt_getf rfl rfl (xmS 0 rfl (inLM (ymm hT 3 rfl))) ?_
    rw [show zI St 3 = _ from h4]
    refine yt_ic rfl rfl (fun _ => ?_) (fun (h : Int32.toInt _ < Int32.toInt _) => by omega)
    refine xt_vret rfl rfl rfl ⟨mr, ps, rfl, rfl, ⟨hL.1, hL.2.1, fun p v z hp h1 h2 => ?_⟩, hp9, hx, fun _ _ => rfl, by omega⟩
    rcases hL.2.2 p v z hp h1 h2 with h | ⟨j, x, y, hj, r⟩
    · exact Or.inl h
    · exact Or.inr ⟨j, x, y, by omega, r⟩
  | s :: td, [], dn, dc, mr, ps, l3, hs, hc, htl, hdl, hd9, hp9, hx, hL => by cases htl
  | s :: td, c :: tc, dn, dc, mr, ps, l3, hs, hc, htl, hdl, hd9, hp9, hx, hL => by
    obtain ⟨h4, h3, h8, ⟨l5, l6, l7, l8, l9⟩, ⟨⟨j5, h5⟩, h6⟩, ⟨t7, h7⟩, ⟨t8, h8a⟩, hpk, hv⟩ := id hst
    have hle := hv.1.le (Nat.zero_le _)
    rw [List.reverse_cons, List.append_assoc] at hs hc
    have hs : sr = td.reverse ++ s :: dn := hs
    have hc : cr = tc.reverse ++ c :: dc := hc
    have hsl : sr.length = td.length + (dn.length + 1) := by rw [hs, List.length_append, List.length_reverse, List.length_cons]
    have hsp : s < pl.length := hv.1.lt s (by rw [hs]; exact List.mem_append_right _ List.mem_cons_self)
    have hcm : c < mnF F pl s := vlC_at hv.2 hs hc (Nat.succ.inj htl)
    obtain ⟨p, hp⟩ : ∃ p, pl[s]? = some p := ⟨_, List.getElem?_eq_getElem hsp⟩
    obtain ⟨P, hP, hPk⟩ := hpk p (List.mem_of_getElem? hp)
    have hmn : mnF F pl s = mnP P := by rw [mnF, hp, Option.bind_some, hP]; rfl
    rw [hmn] at hcm
    have hpl : p < F.1.length := (List.getElem?_eq_some_iff.mp hP).1
    obtain ⟨fe, _, _, _, _, hl20, _, _, _, hok9⟩ := id hok
    have ti := yi_nat (i := dn.length) (by omega)
    have e7 : gI (zA St 7) (Int32.ofNat dn.length) = some (Int32.ofNat s) := by rw [h7, hs]; exact arr_mid (by omega)
    have e8 : gI (zA St 8) (Int32.ofNat dn.length) = some (Int32.ofNat c) := by rw [h8a, hc, hdl]; exact arr_mid (by omega)
    have e5 : gI (zA St 5) (Int32.ofNat s) = some (Int32.ofNat p) := by
      rw [gI_nat (by omega), h5, List.getElem?_append_left (by rw [List.length_map]; exact hsp), List.getElem?_map, hp]; rfl
    have tx : (20 : Int32) * 30 + Int32.ofNat p = Int32.ofNat (600 + p) := by rw [Int32.ofNat_add]; rfl
    have t2 := yi_nat (i := 600 + p) (by omega)
    have t3 : (Int32.ofNat (600 + p)).toInt.toNat = 600 + p := yi_toNat (by omega)
    have go : ∀ (ps1 : List yTg) (x : yTg), ps1[dn.length]? = some x → ps1.length ≤ 9 → (∀ x ∈ ps1, tgL x) → (∀ j, j < dn.length → ps1[j]? = ps[j]?) → yT X 20 700 338 29 [some (.ref 209), some (.int 30), some (.int (Int32.ofNat dn.length)), some (.int (Int32.ofNat p))] [.ref x.1, .int (Int32.ofNat (600 + p)), .ref 239] (LM S u a b ec e mr ps1 D2) (4 * (sr.length - ps1.length)) (59 * (sr.length - ps1.length)) (fun r D => ∃ mr' ps', r = none ∧ D = LM S u a b ec e mr' ps' D2 ∧ laidM mr' (layR F pl sr cr) ps' 9 ∧ ps'.length ≤ 9 ∧ (∀ x ∈ ps', tgL x) ∧ (∀ q, q < 600 → mr'[q]? = mr[q]?) ∧ ps'.length = max ps1.length sr.length) := by
      intro ps1 x hx1 hp19 hxt hsame
      have hspl := ysplit hx1
      have hdl1 := (List.getElem?_eq_some_iff.mp hx1).1
      obtain ⟨fg1, fg2, fg3, fg4, fg5⟩ := gI_some haf
      refine xt_pure rfl rfl rfl rfl ?_
      refine xt_getf rfl rfl (xmC 177 rfl) ?_
      refine xt_pure rfl rfl rfl rfl ?_
      refine xt_getf rfl rfl (xmS 0 rfl (inLM (ymm hT 0 rfl))) ?_
      rw [show zI St 0 = _ from htf]
      refine xt_aald rfl rfl ⟨by decide, rfl⟩ (xmS 0 rfl (inLM hal)) fg5 (v := .ref fa) (by rw [fg4, fg3]) ?_
      refine xt_pure rfl rfl rfl rfl ?_
      refine xt_pure rfl rfl rfl rfl ?_
      refine xt_getf rfl rfl (xmC 213 rfl) ?_
      refine xt_pure rfl rfl rfl rfl ?_
      refine xt_iald rfl rfl (xmS 0 rfl (inLM (ymm hT 8 rfl))) (gI_some e8).2.2.2.2 (v := .int (Int32.ofNat c)) (gI_int e8) ?_
      have hpm := lm_perm (S := S) (u := u) (a := a) (b := b) (c := ec) (e := e) (f := (239, .inr (10, mr))) (g := (266, .inr (10, pvl ps1))) (p1 := ps1.take dn.length) (x := x) (p2 := ps1.drop (dn.length + 1)) (D2 := D2)
      rw [← hspl.1] at hpm
      refine yT.perm hpm ?_
      have sbr : D2 ⊆ zE zaF S 1 zTF.tail ++ ((209, .inl (14, 46, u)) :: a :: b :: ec :: e :: (239, .inr (10, mr)) :: (266, .inr (10, pvl ps1)) :: (pD (ps1.take dn.length) ++ (pD (ps1.drop (dn.length + 1)) ++ D2))) := fun _ he => List.mem_append_right _ (List.mem_cons_of_mem _ (List.mem_cons_of_mem _ (List.mem_cons_of_mem _ (List.mem_cons_of_mem _ (List.mem_cons_of_mem _ (List.mem_cons_of_mem _ (List.mem_cons_of_mem _ (List.mem_append_right _ (List.mem_append_right _ he)))))))))
      refine xt_callS rfl rfl (by decide) rfl ⟨rfl, yle rfl, yle rfl, yle rfl, yle rfl⟩ (mk_cand (sbr hNe) (sbr hSn) (hF.mono sbr) hok hP hPk hcm (hxt x (List.mem_of_getElem? hx1))) (c2 := 4 * (sr.length - ps1.length)) (s2 := 59 * (sr.length - ps1.length)) ⟨yle2, yle2⟩ ?_
      rintro _ _ ⟨x', rfl, rfl, k1, k2, k3⟩
      have hpm2 := lm_perm (S := S) (u := u) (a := a) (b := b) (c := ec) (e := e) (f := (239, .inr (10, mr))) (g := (266, .inr (10, pvl ps1))) (p1 := ps1.take dn.length) (x := x') (p2 := ps1.drop (dn.length + 1)) (D2 := D2)
      rw [← hspl.2, ← pvl_set hx1 k1] at hpm2
      rw [← pvl_set hx1 k1]
      refine yT.perm (D2 := LM S u a b ec e mr (ps1.set dn.length x') D2) hpm2.symm ?_
      have hx2 : (ps1.set dn.length x')[dn.length]? = some x' := List.getElem?_set_self hdl1
      have hmem : ((x.1, .inl (13, 0, .int x'.2.2.2.2.1)) : xE) ∈ LM S u a b ec e mr (ps1.set dn.length x') D2 := inLMp (List.mem_of_getElem? hx2) (by rw [← k1]; exact List.mem_of_getElem? (i := 0) rfl)
      refine yt_ast rfl rfl 25 rfl rfl (by decide) (asM (Or.inr ⟨x.1, _, rfl, hmem⟩)) ⟨by rw [t2]; omega, by rw [t2, hL.1]; omega⟩ (D1 := LM S u a b ec e (mr.set (600 + p) (.ref x.1)) (ps1.set dn.length x') D2) (by rw [t3]; rfl) ?_
      refine xt_pure rfl rfl rfl (L1 := [_, _, some (.int (_ + 1)), _]) rfl ?_
      refine xt_pure rfl rfl rfl rfl ?_
      rw [yi_add1]
      have hln : (ps1.set dn.length x').length = ps1.length := List.length_set
      have hLL : laidM (mr.set (600 + p) (.ref x.1)) (layR F pl (s :: dn) (c :: dc)) (ps1.set dn.length x') (s :: dn).length := by
        rw [layR_s hp hP]
        refine ⟨by rw [List.length_set]; exact hL.1, by rw [List.length_set]; exact hL.2.1, fun q v z hq q1 q2 => ?_⟩
        by_cases eq : p = q
        · subst eq
          rw [List.getElem?_set_self (by rw [hL.1]; omega)] at q1
          rw [List.getElem?_set_self (by rw [hL.2.1]; omega)] at q2
          injection q1 with q1
          injection q2 with q2
          exact Or.inr ⟨dn.length, x', cndP P c, by rw [List.length_cons]; omega, hx2, by rw [k1]; exact k2, q2.symm, by rw [k1]; exact q1.symm⟩
        · rw [List.getElem?_set_ne (by omega)] at q1
          rw [List.getElem?_set_ne eq] at q2
          rcases hL.2.2 q v z hq q1 q2 with h | ⟨j, y, yy, hj, hy, r⟩
          · exact Or.inl h
          · exact Or.inr ⟨j, y, yy, by rw [List.length_cons]; omega, by rw [List.getElem?_set_ne (by omega), hsame j hj]; exact hy, r⟩
      have hrec := layM_loop (a := a) (b := b) (ec := ec) (e := e) hT htf hal haf hNe hSn hF hok hst td tc (s :: dn) (c :: dc) (mr.set (600 + p) (.ref x.1)) (ps1.set dn.length x') (some (.int (Int32.ofNat p))) hs hc (Nat.succ.inj htl) (by rw [List.length_cons, List.length_cons, hdl]) (by rw [hln, List.length_cons]; omega) (by rw [hln]; exact hp19) (by
        intro y hy
        rcases List.mem_or_eq_of_mem_set hy with hy | hy
        · exact hxt y hy
        · rw [hy]; exact k3) hLL
      rw [hln] at hrec
      refine hrec.mono (Nat.le_refl _) (Nat.le_refl _) ?_
      rintro r D ⟨mr', ps', w1, w2, w3, w4, w5, w6, w7⟩
      refine ⟨mr', ps', w1, w2, w3, w4, w5, fun q hq => ?_, w7⟩
      rw [w6 q hq, List.getElem?_set_ne (by omega)]
    refine xt_pure rfl rfl rfl rfl ?_
    refine xt_pure rfl rfl rfl rfl ?_
    refine xt_getf rfl rfl (xmS 0 rfl (inLM (ymm hT 3 rfl))) ?_
    rw [show zI St 3 = _ from h3]
    refine yt_ic rfl rfl (fun (h : Int32.toInt _ ≤ Int32.toInt _) => ?_) (fun _ => ?_)
    · rw [ti, yi_nat (by omega)] at h
      omega
    · skip
      refine xt_pure rfl rfl rfl rfl ?_
      refine xt_getf rfl rfl (xmC 210 rfl) ?_
      refine xt_pure rfl rfl rfl rfl ?_
      refine xt_getf rfl rfl (xmC 212 rfl) ?_
      refine xt_pure rfl rfl rfl rfl ?_
      refine xt_iald rfl rfl (xmS 0 rfl (inLM (ymm hT 7 rfl))) (gI_some e7).2.2.2.2 (v := .int (Int32.ofNat s)) (gI_int e7) ?_
      refine xt_iald rfl rfl (xmS 0 rfl (inLM (ymm hT 5 rfl))) (gI_some e5).2.2.2.2 (v := .int (Int32.ofNat p)) (gI_int e5) ?_
      refine xt_pure rfl rfl rfl (L1 := [_, _, _, _]) rfl ?_
      refine xt_pure rfl rfl rfl rfl ?_
      refine xt_getf rfl rfl (xmC 188 rfl) ?_
      refine xt_pure rfl rfl rfl (st1 := .int 20 :: _) rfl ?_
      refine xt_pure rfl rfl rfl rfl ?_
      refine xt_pure rfl rfl rfl rfl ?_
      refine xt_pure rfl rfl rfl rfl ?_
      refine xt_pure rfl rfl rfl rfl ?_
      rw [tx]
      refine xt_pure rfl rfl rfl rfl ?_
      refine xt_pure rfl rfl rfl rfl ?_
      rcases Nat.lt_or_ge dn.length ps.length with hlt | hge
      · obtain ⟨x, hxi⟩ : ∃ x, ps[dn.length]? = some x := ⟨_, List.getElem?_eq_getElem hlt⟩
        refine xt_callV rfl rfl rfl rfl (xmC 176 rfl) ⟨rfl, rfl, yle rfl, yle rfl, yle rfl, yle rfl⟩ (mk_pooled1 (ps := ps) (k := dn.length) (by omega) (List.mem_of_getElem? (i := 26) rfl) hxi) (c2 := 4 * (sr.length - ps.length)) (s2 := 59 * (sr.length - ps.length)) ⟨yle2, yle2⟩ ?_
        rintro _ _ ⟨rfl, rfl⟩
        exact go ps x hxi hp9 hx (fun _ _ => rfl)
      · have hpe : ps.length = dn.length := by omega
        rw [← hpe]
        refine xt_callV rfl rfl rfl rfl (xmC 176 rfl) ⟨rfl, rfl, yle rfl, yle rfl, yle rfl, yle rfl⟩ (mk_pooled2 (ps := ps) (i := 26) (by omega) rfl) (c2 := 4 * (sr.length - (ps.length + 1))) (s2 := 59 * (sr.length - (ps.length + 1))) ⟨by omega, by omega⟩ ?_
        rintro _ _ ⟨x, rfl, rfl, hxl⟩
        have hgo := go (ps ++ [x]) x (by rw [← hpe, List.getElem?_append_right (Nat.le_refl _), Nat.sub_self]; rfl) (by rw [List.length_append, List.length_singleton]; omega) (by
          intro y hy
          rcases List.mem_append.mp hy with hy | hy
          · exact hx y hy
          · rw [List.mem_singleton.mp hy]; exact hxl) (fun j hj => List.getElem?_append_left (by omega))
        rw [List.length_append, List.length_singleton, ← hpe] at hgo
        refine yT.perm (D2 := LM S u a b ec e mr (ps ++ [x]) D2) ?_ (hgo.mono (Nat.le_refl _) (Nat.le_refl _) (by
          rintro r D ⟨mr', ps', w1, w2, w3, w4, w5, w6, w7⟩
          exact ⟨mr', ps', w1, w2, w3, w4, w5, w6, by omega⟩))
        exact lm_perm2 (f := (239, .inr (10, mr))) (g := (266, .inr (10, pvl (ps ++ [x]))))
theorem mk_laid {of fi rc sg : List Int32} {mr : List Value} {ps : List yTg} {St : zS} {js : List Int32} {al : List Value} {tf : Int32} (l1 : of.length = 31) (l2 : fi.length = 31) (l3 : rc.length = 31) (l4 : sg.length = 31) (l5 : mr.length = 620) (hT : ∀ q ∈ zE zaT St 0 zTT, q ∈ D2) (htf : zI St 0 = tf) (hal : ((211, .inr (8, al)) : xE) ∈ D2) (haf : gI al tf = some (.ref fa)) (hNe : ((209, .inl (14, 19, .int (Int32.ofNat En.length))) : xE) ∈ D2) (hSn : ((236, .inr (0, (En.map Prod.snd ++ js).map Value.int)) : xE) ∈ D2) (hF : yFM D2 fa F) (hok : yFok F) (hst : stM2 F St pl sr cr) (hp9 : ps.length ≤ 9) (hx : ∀ x ∈ ps, tgL x) : yK X 30 800 338 [.ref 209, .int 30] (LM S u (238, .inr (0, of.map Value.int)) (240, .inr (3, fi.map Value.int)) (241, .inr (0, rc.map Value.int)) (242, .inr (0, sg.map Value.int)) mr ps D2) (4 * (sr.length - ps.length)) (59 * (sr.length - ps.length)) (fun r D => ∃ mr' ps', r = none ∧ D = LM S u (238, .inr (0, (of.set 30 tf).map Value.int)) (240, .inr (3, (fi.set 30 0).map Value.int)) (241, .inr (0, (rc.set 30 (-9)).map Value.int)) (242, .inr (0, (sg.set 30 0).map Value.int)) mr' ps' D2 ∧ laidM mr' (layR F pl sr cr) ps' 9 ∧ ps'.length ≤ 9 ∧ (∀ x ∈ ps', tgL x) ∧ (∀ q, q < 600 → mr'[q]? = mr[q]?) ∧ ps'.length = max ps.length sr.length) := by
  refine yK.of rfl (yle rfl) (L := [_, _, _, _]) rfl ?_
  refine xt_pure rfl rfl rfl rfl ?_
  refine xt_pure rfl rfl rfl rfl ?_
  refine xt_pure rfl rfl rfl rfl ?_
  refine xt_getf rfl rfl (xmS 0 rfl (inLM (ymm hT 0 rfl))) ?_
  rw [show zI St 0 = _ from htf]
  refine xt_callV rfl rfl rfl rfl (xmC 176 rfl) ⟨rfl, rfl, yle rfl, yle rfl, yle rfl, yle rfl⟩ (mk_emptied (d := 30) (x := tf) (by omega) (k0 := 21) rfl l1 (k1 := 22) rfl l2 (k2 := 23) rfl l3 (k3 := 24) rfl l4 (k4 := 25) rfl l5) (c2 := 4 * (sr.length - ps.length)) (s2 := 59 * (sr.length - ps.length)) ⟨yle2, yle2⟩ ?_
  rintro _ _ ⟨rfl, rfl⟩
  refine xt_pure rfl rfl rfl (st1 := .int 0 :: _) rfl ?_
  refine xt_pure rfl rfl rfl (L1 := [_, _, _, _]) rfl ?_
  refine ((layM_loop (S := S) (u := u) hT htf hal haf hNe hSn hF hok hst sr.reverse cr.reverse [] [] (nul mr 600 20) ps none (by simp) (by simp) (by rw [List.length_reverse, List.length_reverse]; exact hst.2.2.2.2.2.2.2.2.2.len) rfl (by simp) hp9 hx ?_).up (by omega) (by omega)).mono (Nat.le_refl _) (Nat.le_refl _) ?_
  · refine ⟨by rw [nul_len]; exact l5, layR_len _ _, fun p v z hp h1 h2 => ?_⟩
    rw [nul_in _ hp (by omega)] at h1
    injection h1 with h1
    have e2 := (List.mem_replicate.mp (List.mem_of_getElem? (show (List.replicate 20 none)[p]? = some z by simpa [layR] using h2))).2
    exact Or.inl ⟨e2, h1.symm⟩
  · rintro r D ⟨mr', ps', w1, w2, w3, w4, w5, w6, w7⟩
    refine ⟨mr', ps', w1, w2, w3, w4, w5, fun q hq => ?_, w7⟩
    rw [w6 q hq, nul_out _ (by omega)]
end LAYM
