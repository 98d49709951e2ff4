/-! SEARCH: a filling laid out; the class -/
/-- the answers of a filling -/
def layR (F : yF) (pl : List Nat) : List Nat → List Nat → List (Option yO)
  | s :: ss, c :: cs => match (pl[s]?).bind (fun p => (F.1[p]?).map (fun P => (p, P))) with
    | some q => (layR F pl ss cs).set q.1 (some (cndP q.2 c))
    | none => layR F pl ss cs
  | _, _ => List.replicate 20 none
theorem layR_s {F : yF} {pl ss cs : List Nat} {s c p : Nat} {P : yPt} (hp : pl[s]? = some p) (hP : F.1[p]? = some P) : layR F pl (s :: ss) (c :: cs) = (layR F pl ss cs).set p (some (cndP P c)) := by
  rw [layR, hp, Option.bind_some, hP]
  rfl
theorem layR_len {F : yF} {pl : List Nat} : ∀ (ss cs : List Nat), (layR F pl ss cs).length = 20
  | s :: ss, c :: cs => by
    rw [layR]
    split
    · rw [List.length_set, layR_len ss cs]
    · exact layR_len ss cs
  | [], _ => by simp [layR]
  | _ :: _, [] => by simp [layR]
/-- an object of the search: its sort, size, items -/
abbrev ySl : Type := Int32 × Int32 × List Int64
abbrev sl3 (i : Nat) (x : ySl) : List xE := [(182 + 3 * i, .inl (6, 0, .int x.1)), (182 + 3 * i, .inl (6, 1, .int x.2.1)), (183 + 3 * i, .inr (1, x.2.2.map Value.long))]
abbrev slK (i : Nat) : List xE := [(182 + 3 * i, .inl (6, 2, .ref (183 + 3 * i))), (182 + 3 * i, .inl (6, 3, .ref (184 + 3 * i))), (184 + 3 * i, .inr (4, []))]
def slD : Nat → List ySl → List xE
  | _, [] => []
  | i, x :: r => sl3 i x ++ slD (i + 1) r
theorem slD_app : ∀ (a b : List ySl) (i : Nat), slD i (a ++ b) = slD i a ++ slD (i + a.length) b
  | [], b, i => rfl
  | x :: a, b, i => by
    show sl3 i x ++ slD (i + 1) (a ++ b) = (sl3 i x ++ slD (i + 1) a) ++ slD (i + (a.length + 1)) b
    rw [slD_app a b (i + 1), List.append_assoc, show i + 1 + a.length = i + (a.length + 1) by omega]
theorem slD_mem {l : List ySl} {x : ySl} : ∀ {i j : Nat}, l[j]? = some x → sl3 (i + j) x ⊆ slD i l := by
  induction l with
  | nil => intro i j h; cases h
  | cons y r ih =>
    intro i j h
    cases j with
    | zero =>
      cases h
      exact fun _ he => List.mem_append_left _ he
    | succ j =>
      have := ih (i := i + 1) (j := j) h
      rw [show i + 1 + j = i + (j + 1) by omega] at this
      exact fun _ he => List.mem_append_right _ (this he)
/-- such an object holds an answer -/
def slO (x : ySl) (y : yO) : Prop := y.1 ≤ 2 ∧ x.1 = Int32.ofNat y.1 ∧ x.2.1 = Int32.ofNat (osz y) ∧ x.2.2.length = 8 ∧ ∃ jk, x.2.2 = y.2.1 ++ jk
theorem slO.ob {D : List xE} {x : ySl} {y : yO} {j : Nat} (h : slO x y) (h2 : y.2.2 = []) (h3 : sl3 j x ⊆ D) (hk : ∀ e ∈ slK j, e ∈ D) : yOB D (182 + 3 * j) y := by
  obtain ⟨a0, a1, a2, a3, jk, a4⟩ := h
  have hci : cit y = y.2.1 := by unfold cit; rw [if_neg (by omega)]
  refine ⟨183 + 3 * j, 184 + 3 * j, jk, [], ?_, ?_, ymm hk 0 rfl, ymm hk 1 rfl, ?_, ymm hk 2 rfl, (fun h => by omega), (fun i v r h => by cases h), by rw [hci, ← a4, a3]; decide⟩
  · rw [← a1]; exact h3 (List.mem_of_getElem? (i := 0) rfl)
  · rw [← a2]; exact h3 (List.mem_of_getElem? (i := 1) rfl)
  · rw [hci, ← a4]; exact h3 (List.mem_of_getElem? (i := 2) rfl)
section LAYC
variable {X : List Int32} {D0 : List xE} {F : yF} {S : zS} {fa : Nat} {pl sr cr : List Nat}
theorem arr_mid {td dn : List Nat} {s : Nat} {t : List Int32} (h : dn.length < 2147483648) : gI (arr (td.reverse ++ s :: dn) t) (Int32.ofNat dn.length) = some (Int32.ofNat s) := by
  unfold arr
  rw [gI_nat h, List.reverse_append, List.reverse_cons, List.reverse_reverse, List.append_assoc, List.map_append, List.append_assoc, List.getElem?_append_right (by rw [List.length_map, List.length_reverse]; exact Nat.le_refl _), List.length_map, List.length_reverse, Nat.sub_self]
  rfl
/-- the answers laid so far -/
def laidC (refs : List Value) (A : List (Option yO)) (sl : List ySl) (i : Nat) : Prop := refs.length = 20 ∧ A.length = 20 ∧ ∀ (p : Nat) v z, refs[p]? = some v → A[p]? = some z → (z = none ∧ v = .null) ∨ ∃ (j : Nat) (x : ySl) (y : yO), j < i ∧ sl[j]? = some x ∧ slO x y ∧ y.2.2 = [] ∧ z = some y ∧ v = .ref (182 + 3 * j)
theorem laidC.an {refs : List Value} {A : List (Option yO)} {sl : List ySl} {i : Nat} (h : laidC refs A sl i) (hi : i ≤ 8) (hk : ∀ j, j < 8 → ∀ e ∈ slK j, e ∈ D0) : yAnB (slD 0 sl ++ D0) refs A := by
  refine ⟨h.1, h.2.1, fun p v z h1 h2 => ?_⟩
  rcases h.2.2 p v z h1 h2 with ⟨rfl, rfl⟩ | ⟨j, x, y, hj, hx, hs, hr, rfl, rfl⟩
  · rfl
  · refine ⟨_, rfl, hs.ob hr ?_ (fun e he => List.mem_append_right _ (hk j (by omega) e he))⟩
    have := slD_mem (i := 0) hx
    rw [Nat.zero_add] at this
    exact fun _ he => List.mem_append_left _ (this he)
abbrev LY (S : zS) (refs : List Value) (sl : List ySl) (D0 : List xE) : List xE := zD zTS zaS S ((173, .inr (7, refs)) :: (slD 0 sl ++ D0))
theorem inLY {S : zS} {refs : List Value} {sl : List ySl} {D0 : List xE} : D0 ⊆ LY S refs sl D0 := fun _ he => List.mem_append_right _ (List.mem_cons_of_mem _ (List.mem_append_right _ he))
/-- a view of an object of the search -/
def sY (s n : Int32) (its : List Int64) : zS := (fun i => ([s, n] : List Int32).getD i 0, fun _ => 0, fun _ => .null, fun _ => [], fun i => ([[], [], its] : List (List Int64)).getD i [], fun _ => [])
theorem ly_perm {S : zS} {refs : List Value} {a b : List ySl} {x : ySl} {D0 : List xE} : (LY S refs (a ++ x :: b) D0).Perm (sl3 a.length x ++ zD zTS zaS S ((173, .inr (7, refs)) :: (slD 0 a ++ (slD (a.length + 1) b ++ D0)))) := by
  have e : slD 0 (a ++ x :: b) = slD 0 a ++ (sl3 a.length x ++ slD (a.length + 1) b) := by
    rw [slD_app]
    rw [Nat.zero_add]
    rfl
  have h : ∀ (A B C : List xE), (A ++ (B ++ C)).Perm (B ++ (A ++ C)) := fun A B C => by
    rw [← List.append_assoc, ← List.append_assoc]
    exact List.Perm.append_right _ List.perm_append_comm
  show (zE zaS S 0 zTS ++ ((173, .inr (7, refs)) :: (slD 0 (a ++ x :: b) ++ D0))).Perm _
  rw [e]
  refine List.Perm.trans (List.Perm.append_left _ (List.Perm.cons _ ?_)) (h (zE zaS S 0 zTS ++ [(173, .inr (7, refs))]) (sl3 a.length x) (slD 0 a ++ (slD (a.length + 1) b ++ D0)) |> fun k => by rw [List.append_assoc, List.append_assoc] at k; exact k)
  rw [List.append_assoc, List.append_assoc]
  exact h _ _ _
theorem sl_ref {i : Nat} (h : i < 8) : ([.ref 182, .ref 185, .ref 188, .ref 191, .ref 194, .ref 197, .ref 200, .ref 203] : List Value)[i]? = some (.ref (182 + 3 * i)) := by
  rcases (show i = 0 ∨ i = 1 ∨ i = 2 ∨ i = 3 ∨ i = 4 ∨ i = 5 ∨ i = 6 ∨ i = 7 by omega) with rfl | rfl | rfl | rfl | rfl | rfl | rfl | rfl <;> rfl
theorem vlC_at {mn : Nat → Nat} : ∀ {sr cr : List Nat} {a b ss cs : List Nat} {s c : Nat}, vlC mn sr cr → sr = a.reverse ++ s :: ss → cr = b.reverse ++ c :: cs → a.length = b.length → c < mn s := by
  have key : ∀ (a b : List Nat) (ss cs : List Nat) (s c : Nat), vlC mn (a ++ s :: ss) (b ++ c :: cs) → a.length = b.length → c < mn s := by
    intro a
    induction a with
    | nil =>
      intro b ss cs s c h hl
      cases b with
      | nil => exact h.1
      | cons _ _ => cases hl
    | cons x a ih =>
      intro b ss cs s c h hl
      cases b with
      | nil => cases hl
      | cons y b => exact ih b ss cs s c h.2 (Nat.succ.inj hl)
  intro sr cr a b ss cs s c h h1 h2 h3
  subst h1 h2
  exact key a.reverse b.reverse ss cs s c h (by rw [List.length_reverse, List.length_reverse]; exact h3)
theorem lay_null {fr lo : Nat} {sl : List ySl} {l2 l3 : Option Value} {Q : Option Value → List xE → Prop} (kk : yT X fr lo 184 12 [some (.ref 168), some (.int 20), l2, l3] [] (LY S (List.replicate 20 .null) sl D0) 0 0 Q) : ∀ (m i : Nat) (r : List Value), i + m = 20 → r.length = m → yT X fr lo 184 2 [some (.ref 168), some (.int (Int32.ofNat i)), l2, l3] [] (LY S (List.replicate i .null ++ r) sl D0) 0 0 Q
  | 0, i, r, hi, hr => by
    have e : i = 20 := by omega
    subst e
    have : r = [] := List.length_eq_zero_iff.mp hr
    subst this
    rw [List.append_nil]
    refine xt_pure rfl rfl rfl rfl ?_
    refine xt_pure rfl rfl rfl (st1 := .int 20 :: _) rfl ?_
    refine yt_ic rfl rfl (fun _ => kk) (fun (h : Int32.toInt _ < (20 : Int)) => ?_)
    rw [yi_nat (by omega)] at h
    omega
  | m + 1, i, r, hi, hr => by
    cases r with
    | nil => cases hr
    | cons x r =>
      have ti := yi_nat (i := i) (by omega)
      refine xt_pure rfl rfl rfl rfl ?_
      refine xt_pure rfl rfl rfl (st1 := .int 20 :: _) rfl ?_
      refine yt_ic rfl rfl (fun (h : (20 : Int) ≤ Int32.toInt _) => ?_) (fun _ => ?_)
      · rw [ti] at h
        omega
      · skip
        refine xt_pure rfl rfl rfl rfl ?_
        refine xt_getf rfl rfl (xmC 163 rfl) ?_
        refine xt_pure rfl rfl rfl rfl ?_
        refine xt_pure rfl rfl rfl rfl ?_
        refine yt_ast rfl rfl 9 rfl rfl (by decide) rfl ⟨by rw [ti]; omega, by rw [ti, List.length_append, List.length_replicate, List.length_cons]; omega⟩ (D1 := LY S (List.replicate (i + 1) .null ++ r) sl D0) (by rw [yi_toNat (by omega), yrep_set]; rfl) ?_
        refine xt_pure rfl rfl rfl (L1 := [_, some (.int (_ + 1)), _, _]) rfl ?_
        refine xt_pure rfl rfl rfl rfl ?_
        rw [yi_add1]
        exact lay_null kk m (i + 1) r (by omega) (Nat.succ.inj hr)
theorem lay_loop {fr lo : Nat} {j5 t6 t7 : List Int32} (hf : 3 ≤ fr) (hlo : 200 ≤ lo) (hS2 : ((168, .inl (8, 2, .ref fa)) : xE) ∈ D0) (hC : yFC D0 fa F) (hok : yFok F) (hk : ∀ j, j < 8 → ∀ e ∈ slK j, e ∈ D0) (h8 : pl.length ≤ 8) (hpk : plOk F pl) (h4 : zI S 4 = Int32.ofNat sr.length) (h5 : zA S 5 = pl.map Int32.ofNat ++ j5) (h6 : zA S 6 = arr sr t6) (h7 : zA S 7 = arr cr t7) (hv : vlF (mnF F pl) pl.length sr cr) : ∀ (td tc dn dc : List Nat) (refs : List Value) (sl : List ySl) (l2 l3 : Option Value), sr = td.reverse ++ dn → cr = tc.reverse ++ dc → td.length = tc.length → dn.length = dc.length → sl.length = 8 → (∀ x ∈ sl, x.2.2.length = 8) → laidC refs (layR F pl dn dc) sl dn.length → yT X fr lo 184 14 [some (.ref 168), some (.int (Int32.ofNat dn.length)), l2, l3] [] (LY S refs sl D0) 0 0 (fun a D => ∃ refs' sl', a = none ∧ D = LY S refs' sl' D0 ∧ laidC refs' (layR F pl sr cr) sl' 8 ∧ sl'.length = 8 ∧ ∀ x ∈ sl', x.2.2.length = 8)
  | [], tc, dn, dc, refs, sl, l2, l3, hs, hc, htl, hdl, hl, hx, hL => by
    have : tc = [] := List.length_eq_zero_iff.mp htl.symm
    subst this
    rw [List.reverse_nil, List.nil_append] at hs hc
    subst hs hc
    have hle := hv.1.le (Nat.zero_le _)
    refine xt_pure rfl rfl rfl rfl ?_
    refine xt_pure rfl rfl rfl rfl ?_
    refine xt_getf rfl rfl (xmD 4 rfl) ?_
    rw [show zI S 4 = _ from h4]
    refine yt_ic rfl rfl (fun _ => ?_) (fun (h : Int32.toInt _ < Int32.toInt _) => by omega)
    refine xt_vret rfl rfl rfl ⟨refs, sl, rfl, rfl, ⟨hL.1, hL.2.1, fun p v z h1 h2 => ?_⟩, hl, hx⟩
    rcases hL.2.2 p v z h1 h2 with h | ⟨j, x, y, hj, r⟩
    · exact Or.inl h
    · exact Or.inr ⟨j, x, y, by omega, r⟩
  | s :: td, [], dn, dc, refs, sl, l2, l3, hs, hc, htl, hdl, hl, hx, hL => by cases htl
  | s :: td, c :: tc, dn, dc, refs, sl, l2, l3, hs, hc, htl, hdl, hl, hx, hL => by
    have hle := hv.1.le (Nat.zero_le _)
    rw [List.reverse_cons, List.append_assoc] at hs hc
    have hs : sr = td.reverse ++ s :: dn := hs
    have hc : cr = tc.reverse ++ c :: dc := hc
    have hsl : sr.length = td.length + (dn.length + 1) := by rw [hs, List.length_append, List.length_reverse, List.length_cons]
    have hsp : s < pl.length := hv.1.lt s (by rw [hs]; exact List.mem_append_right _ List.mem_cons_self)
    have hcm : c < mnF F pl s := vlC_at hv.2 hs hc (Nat.succ.inj htl)
    obtain ⟨p, hp⟩ : ∃ p, pl[s]? = some p := ⟨_, List.getElem?_eq_getElem hsp⟩
    obtain ⟨P, hP, hPk⟩ := hpk p (List.mem_of_getElem? hp)
    have hmn : mnF F pl s = mnP P := by rw [mnF, hp, Option.bind_some, hP]; rfl
    rw [hmn] at hcm
    have hm8 := (mnP_le hok hP).1
    have hpl : p < F.1.length := (List.getElem?_eq_some_iff.mp hP).1
    have hsz := cszP_le hok hP
    obtain ⟨fe, _, _, _, _, hl20, _, _, _, hok9⟩ := id hok
    have hk0 := (hok9 p P hP).1
    obtain ⟨pp, gi, ga, g1, g2, g3⟩ := hC.han hok
    obtain ⟨cp, cq, f1, _, fP, _⟩ := id hC
    have tp := yi_nat (i := p) (by omega)
    have tp3 : (Int32.ofNat p).toInt.toNat = p := yi_toNat (by omega)
    have tp4 := yjn (j := Int32.ofNat p) (by rw [tp]; omega)
    have ti := yi_nat (i := dn.length) (by omega)
    have ti3 : (Int32.ofNat dn.length).toInt.toNat = dn.length := yi_toNat (by omega)
    have ti4 := yjn (j := Int32.ofNat dn.length) (by rw [ti]; omega)
    have e6 : gI (zA S 6) (Int32.ofNat dn.length) = some (Int32.ofNat s) := by rw [h6, hs]; exact arr_mid (by omega)
    have e7 : gI (zA S 7) (Int32.ofNat dn.length) = some (Int32.ofNat c) := by rw [h7, hc, hdl]; exact arr_mid (by omega)
    have e5 : gI (zA S 5) (Int32.ofNat s) = some (Int32.ofNat p) := by
      rw [gI_nat (by omega), h5, List.getElem?_append_left (by rw [List.length_map]; exact hsp), List.getElem?_map, hp]; rfl
    obtain ⟨x, hxi⟩ : ∃ x, sl[dn.length]? = some x := ⟨_, List.getElem?_eq_getElem (by omega)⟩
    have hspl : sl = sl.take dn.length ++ x :: sl.drop (dn.length + 1) := (ysplit hxi).1
    have hx8 := hx x (List.mem_of_getElem? hxi)
    have htk : (sl.take dn.length).length = dn.length := by rw [List.length_take]; omega
    have hpm := ly_perm (S := S) (refs := refs) (a := sl.take dn.length) (x := x) (b := sl.drop (dn.length + 1)) (D0 := D0)
    rw [htk, ← hspl] at hpm
    have sb0 : D0 ⊆ zD zTS zaS S ((173, .inr (7, refs)) :: (slD 0 (sl.take dn.length) ++ (slD (dn.length + 1) (sl.drop (dn.length + 1)) ++ D0))) := fun _ he => List.mem_append_right _ (List.mem_cons_of_mem _ (List.mem_append_right _ (List.mem_append_right _ he)))
    have sO := sOf_5 hk0.1 hPk
    have s2 : sOf P.1 ≤ 2 := by rw [sO]; split <;> (try split) <;> omega
    refine xt_pure rfl rfl rfl rfl ?_
    refine xt_pure rfl rfl rfl rfl ?_
    refine xt_getf rfl rfl (xmD 4 rfl) ?_
    rw [show zI S 4 = _ from h4]
    refine yt_ic rfl rfl (fun (h : Int32.toInt _ ≤ Int32.toInt _) => ?_) (fun _ => ?_)
    · rw [ti, yi_nat (by omega)] at h
      omega
    · skip
      refine xt_pure rfl rfl rfl rfl ?_
      refine xt_getf rfl rfl (xmC 159 rfl) ?_
      refine xt_pure rfl rfl rfl rfl ?_
      refine xt_getf rfl rfl (xmC 160 rfl) ?_
      refine xt_pure rfl rfl rfl rfl ?_
      refine xt_iald rfl rfl (xmD 6 rfl) (gI_some e6).2.2.2.2 (v := .int (Int32.ofNat s)) (gI_int e6) ?_
      refine xt_iald rfl rfl (xmD 5 rfl) (gI_some e5).2.2.2.2 (v := .int (Int32.ofNat p)) (gI_int e5) ?_
      refine xt_pure rfl rfl rfl (L1 := [_, _, _, _]) rfl ?_
      refine xt_pure rfl rfl rfl rfl ?_
      refine xt_getf rfl rfl (xmC 164 rfl) ?_
      refine xt_pure rfl rfl rfl rfl ?_
      refine xt_aald rfl rfl ⟨by decide, rfl⟩ (xmC 165 rfl) ti4.1 (v := .ref (182 + 3 * dn.length)) (by rw [ti4.2, ti3]; exact sl_ref (by omega)) ?_
      refine xt_pure rfl rfl rfl (L1 := [_, _, _, _]) rfl ?_
      refine xt_pure rfl rfl rfl rfl ?_
      refine xt_gets rfl rfl rfl ?_
      refine xt_pure rfl rfl rfl rfl ?_
      refine xt_getf rfl rfl (xmS 0 rfl (inLY hS2)) ?_
      refine xt_getf rfl rfl (xmS 0 rfl (inLY (ymm f1 1 rfl))) ?_
      refine xt_pure rfl rfl rfl rfl ?_
      refine xt_iald rfl rfl (xmS 0 rfl (inLY (ymm f1 19 rfl))) tp4.1 (v := .int P.1) (by rw [tp4.2, tp3, List.getElem?_map, (fP p P hP).1]; rfl) ?_
      have hxa := xas_at (k := P.1) ⟨hk0.1, by omega⟩
      refine xt_iald rfl rfl (xmC 0 rfl) (gI_some hxa).2.2.2.2 (v := .int (Int32.ofNat (sOf P.1))) (gI_int hxa) ?_
      refine yT.perm hpm ?_
      refine xt_putf rfl rfl rfl rfl 0 rfl (D1 := zD zTY (zaY (182 + 3 * dn.length) (183 + 3 * dn.length)) (sY (Int32.ofNat (sOf P.1)) x.2.1 x.2.2) (zD zTS zaS S ((173, .inr (7, refs)) :: (slD 0 (sl.take dn.length) ++ (slD (dn.length + 1) (sl.drop (dn.length + 1)) ++ D0))))) rfl ?_
      refine xt_pure rfl rfl rfl rfl ?_
      refine xt_pure rfl rfl rfl rfl ?_
      refine xt_pure rfl rfl rfl rfl ?_
      refine xt_pure rfl rfl rfl rfl ?_
      refine xt_getf rfl rfl (xmC 161 rfl) ?_
      refine xt_pure rfl rfl rfl rfl ?_
      refine xt_iald rfl rfl (xmD 10 rfl) (gI_some e7).2.2.2.2 (v := .int (Int32.ofNat c)) (gI_int e7) ?_
      obtain ⟨S', a1, a2, a3, a4⟩ := C_fill (N := 9) (S := sY (Int32.ofNat (sOf P.1)) x.2.1 x.2.2) g2 hok (by omega) hP hPk hcm rfl (by show cszP P ≤ x.2.2.length; omega) (by show x.2.2.length ≤ 100; omega)
      refine xt_callV rfl rfl rfl rfl (xmC 158 rfl) ⟨rfl, rfl, yle rfl, yle rfl, Nat.le_trans (yle rfl) hf, Nat.le_trans (yle rfl) hlo⟩ (tcY_fill (N := 9) (fr := 1) (lo := 23) (sb0 (hk dn.length (by omega) _ (List.mem_of_getElem? (i := 0) rfl))) (sb0 hS2) (fun e he => sb0 (g1 e he)) (by omega) (by omega) a1) (c2 := 0) (s2 := 0) ⟨yle rfl, yle rfl⟩ ?_
      rintro _ _ ⟨rfl, rfl⟩
      refine xt_pure rfl rfl rfl rfl ?_
      refine xt_getf rfl rfl (xmC 163 rfl) ?_
      refine xt_pure rfl rfl rfl rfl ?_
      refine xt_pure rfl rfl rfl rfl ?_
      refine yt_ast rfl rfl 12 rfl rfl (by decide) (Or.inl ⟨_, 6, 0, _, rfl, rfl, List.mem_append_left _ (List.mem_of_getElem? (i := 0) rfl)⟩) ⟨by rw [tp]; omega, by rw [tp, hL.1]; omega⟩ (D1 := sl3 dn.length (zI S' 0, zI S' 1, zB S' 2) ++ zD zTS zaS S ((173, .inr (7, refs.set p (.ref (182 + 3 * dn.length)))) :: (slD 0 (sl.take dn.length) ++ (slD (dn.length + 1) (sl.drop (dn.length + 1)) ++ D0)))) (by rw [tp3]; rfl) ?_
      have hpm2 := ly_perm (S := S) (refs := refs.set p (.ref (182 + 3 * dn.length))) (a := sl.take dn.length) (x := (zI S' 0, zI S' 1, zB S' 2)) (b := sl.drop (dn.length + 1)) (D0 := D0)
      rw [htk, ← (ysplit hxi).2] at hpm2
      refine yT.perm hpm2.symm ?_
      refine xt_pure rfl rfl rfl (L1 := [_, some (.int (_ + 1)), _, _]) rfl ?_
      refine xt_pure rfl rfl rfl rfl ?_
      rw [yi_add1]
      have hBl : (zB S' 2).length = 8 := by
        rw [a4, List.length_append, List.length_replicate, List.length_drop]
        show cszP P + (x.2.2.length - cszP P) = 8
        omega
      have hoz : osz (cndP P c) = cszP P := by
        rw [osz_n4 (by show sOf P.1 ≠ 4; omega)]
        show (List.replicate _ _).length = _
        rw [List.length_replicate]
      have hsO : slO (zI S' 0, zI S' 1, zB S' 2) (cndP P c) := ⟨s2, a2, by rw [hoz]; exact a3, hBl, _, a4⟩
      refine lay_loop hf hlo hS2 hC hok hk h8 hpk h4 h5 h6 h7 hv td tc (s :: dn) (c :: dc) (refs.set p (.ref (182 + 3 * dn.length))) (sl.set dn.length (zI S' 0, zI S' 1, zB S' 2)) _ _ hs hc (Nat.succ.inj htl) (by rw [List.length_cons, List.length_cons, hdl]) (by rw [List.length_set]; exact hl) ?_ ?_
      · intro y hy
        rcases List.mem_or_eq_of_mem_set hy with hy | hy
        · exact hx y hy
        · rw [hy]; exact hBl
      · rw [layR_s hp hP]
        refine ⟨by rw [List.length_set]; exact hL.1, by rw [List.length_set]; exact hL.2.1, fun q v z q1 q2 => ?_⟩
        by_cases e : p = q
        · subst e
          rw [List.getElem?_set_self (by rw [hL.1]; omega)] at q1
          rw [List.getElem?_set_self (by rw [hL.2.1]; omega)] at q2
          injection q1 with q1
          injection q2 with q2
          exact Or.inr ⟨dn.length, _, cndP P c, by rw [List.length_cons]; omega, List.getElem?_set_self (by omega), hsO, rfl, q2.symm, q1.symm⟩
        · rw [List.getElem?_set_ne e] at q1 q2
          rcases hL.2.2 q v z q1 q2 with h | ⟨j, y, yy, hj, hy, r⟩
          · exact Or.inl h
          · exact Or.inr ⟨j, y, yy, by rw [List.length_cons]; omega, by rw [List.getElem?_set_ne (by omega)]; exact hy, r⟩
theorem ck_layOut {refs : List Value} {sl : List ySl} (hS2 : ((168, .inl (8, 2, .ref fa)) : xE) ∈ D0) (hC : yFC D0 fa F) (hok : yFok F) (hk : ∀ j, j < 8 → ∀ e ∈ slK j, e ∈ D0) (hst : stC2 F S pl sr cr) (hr : refs.length = 20) (hl : sl.length = 8) (hx : ∀ x ∈ sl, x.2.2.length = 8) : yK X 3 200 184 [.ref 168] (LY S refs sl D0) 0 0 (fun a D => ∃ refs' sl', a = none ∧ D = LY S refs' sl' D0 ∧ laidC refs' (layR F pl sr cr) sl' 8 ∧ sl'.length = 8 ∧ ∀ x ∈ sl', x.2.2.length = 8) := by
  obtain ⟨h3, h4, h8, hln, ⟨j5, h5⟩, ⟨t6, h6⟩, ⟨t7, h7⟩, hpk, hv⟩ := hst
  refine yK.of rfl (yle rfl) (L := [_, _, _, _]) rfl ?_
  refine xt_pure rfl rfl rfl (st1 := .int 0 :: _) rfl ?_
  refine xt_pure rfl rfl rfl (L1 := [_, _, _, _]) rfl ?_
  refine lay_null (S := S) (l2 := none) (l3 := none) ?_ 20 0 refs (by omega) hr
  refine xt_pure rfl rfl rfl (st1 := .int 0 :: _) rfl ?_
  refine xt_pure rfl rfl rfl (L1 := [_, _, _, _]) rfl ?_
  refine lay_loop (by omega) (by omega) hS2 hC hok hk h8 hpk h4 h5 h6 h7 hv sr.reverse cr.reverse [] [] (List.replicate 20 .null) sl _ _ (by simp) (by simp) (by rw [List.length_reverse, List.length_reverse]; exact hv.2.len) rfl hl hx ?_
  refine ⟨List.length_replicate, layR_len _ _, fun p v z h1 h2 => ?_⟩
  have e1 := (List.mem_replicate.mp (List.mem_of_getElem? h1)).2
  have e2 := (List.mem_replicate.mp (List.mem_of_getElem? h2)).2
  exact Or.inl ⟨e2, e1⟩
end LAYC
