/-! SHORTEST: the class -/
/-- one more tried of so many parts -/
def trI (tr : List Int32) (m : Nat) : List Int32 := tr.set m ((tr[m]?).getD 0 + 1)
/-- where a search is left: its answer, the filling, the counts, flaws, found, goes on -/
abbrev yTr : Type := Int32 × (List Nat × List Nat) × List Int32 × Int32 × Bool × Bool
/-- so many fillings are tried -/
def tryR (F : yF) (En : List (Int64 × Int32)) (K : Nat) (pl : List Nat) : Nat → List Nat → List Nat → List Int32 → Int32 → yTr
  | 0, sr, cr, tr, ev => (2, (sr, cr), tr, ev, false, true)
  | n + 1, sr, cr, tr, ev => if 10000 ≤ ev.toInt then (-3, (sr, cr), tr, ev, false, true) else if (inspR F (layR F pl sr cr) En K ev).2.2.length = 0 then (100 + Int32.ofNat sr.length, (sr, cr), trI tr sr.length, (inspR F (layR F pl sr cr) En K ev).1.1, true, false) else match advS (mnF F pl) pl.length sr cr with
    | some q => tryR F En K pl n q.1 q.2 (trI tr sr.length) (inspR F (layR F pl sr cr) En K ev).1.1
    | none => (1, (sr, cr), trI tr sr.length, (inspR F (layR F pl sr cr) En K ev).1.1, false, false)
def b32 (b : Bool) : Int32 := if b then 1 else 0
section TRYC
variable {X : List Int32} {D1 : List xE} {F : yF} {En : List (Int64 × Int32)} {K : Nat} {fa : Nat} {pl : List Nat} {t : List Int32}
theorem EC_push {Se : zS} {u v : Value} {t : List Int32} {P D : List xE} : (EC Se u v t (P ++ D)).Perm (P ++ EC Se u v t D) := by
  have h : ∀ (A B : List xE), (A ++ (P ++ B)).Perm (P ++ (A ++ B)) := fun A B => by
    rw [← List.append_assoc, ← List.append_assoc]
    exact List.Perm.append_right _ List.perm_append_comm
  have := h (zE zaE Se 0 zTE ++ [(110, .inl (10, 2, u)), (110, .inl (10, 3, v)), (125, .inr (0, t.map Value.int))]) D
  rw [List.append_assoc, List.append_assoc] at this
  exact this
theorem LY_app {S : zS} {refs : List Value} {sl : List ySl} {D : List xE} : LY S refs sl D = (zE zaS S 0 zTS ++ ((173, .inr (7, refs)) :: slD 0 sl)) ++ D := by
  rw [List.append_assoc]
  rfl
theorem EL_perm {Se S : zS} {u v : Value} {t : List Int32} {refs : List Value} {sl : List ySl} {D : List xE} : (EC Se u v t (LY S refs sl D)).Perm (LY S refs sl (EC Se u v t D)) := by
  rw [LY_app, LY_app]
  exact EC_push
theorem inELY {Se S : zS} {u v : Value} {refs : List Value} {sl : List ySl} : D1 ⊆ EC Se u v t (LY S refs sl D1) := fun _ he => inEC (inLY he)
/-- what a search leaves, in the class -/
def trC2 (F : yF) (pl : List Nat) (Q S : zS) (n0 : Int32) (r : yTr) (t : List Int32) (D1 : List xE) (a : Option Value) (D : List xE) : Prop := ∃ S' Se' w' u' v' refs' sl' sh' fd', a = some (.int r.1) ∧ D = EC Se' u' v' t (LY S' refs' sl' D1) ∧ W0 Se' w' ∧ w'.1 = r.2.2.2.1 ∧ insC175 Q Se' sh' fd' ∧ zI S' 0 = n0 ∧ zA S' 8 = r.2.2.1 ∧ zI S' 2 = b32 r.2.2.2.2.1 ∧ zI S' 1 = b32 r.2.2.2.2.2 ∧ lnS S' ∧ ((r.2.2.2.2.1 || r.2.2.2.2.2) = true → stC2 F S' pl r.2.1.1 r.2.1.2) ∧ refs'.length = 20 ∧ sl'.length = 8 ∧ (∀ x ∈ sl', x.2.2.length = 8)
theorem stC2.tr {S : zS} {sr cr : List Nat} {v : List Int32} (h : stC2 F S pl sr cr) (hv : v.length = 9) : stC2 F (zsA S 8 v) pl sr cr := by
  obtain ⟨h3, h4, h8, ⟨l5, l6, l7, l8⟩, h5, h6, h7, hpk, hv2⟩ := h
  exact ⟨h3, h4, h8, ⟨l5, l6, l7, hv⟩, h5, h6, h7, hpk, hv2⟩
theorem stC2.fl {S : zS} {sr cr : List Nat} {i : Nat} {v : Int32} (h : stC2 F S pl sr cr) (hi : i ≤ 2) : stC2 F (zsI S i v) pl sr cr := by
  obtain ⟨h3, h4, h8, hl, h5, h6, h7, hpk, hv2⟩ := h
  refine ⟨?_, ?_, h8, hl, h5, h6, h7, hpk, hv2⟩
  · show zup S.1 i v 3 = _
    rw [zup_ne (by omega)]; exact h3
  · show zup S.1 i v 4 = _
    rw [zup_ne (by omega)]; exact h4
theorem layR_ok {sr cr : List Nat} (hok : yFok F) (hpk : plOk F pl) : ∀ (ss cs : List Nat), (∀ s ∈ ss, s < pl.length) → vlC (mnF F pl) ss cs → ∀ (p : Nat) y, (layR F pl ss cs)[p]? = some (some y) → yOk En y
  | [], [], _, _, p, y, h => by
    have := (List.mem_replicate.mp (List.mem_of_getElem? (show (List.replicate 20 none)[p]? = some (some y) by simpa [layR] using h))).2
    cases this
  | s :: ss, c :: cs, hs, hv, p, y, h => by
    obtain ⟨q, hq⟩ : ∃ q, pl[s]? = some q := ⟨_, List.getElem?_eq_getElem (hs s List.mem_cons_self)⟩
    obtain ⟨P, hP, hPk⟩ := hpk q (List.mem_of_getElem? hq)
    have hmn : mnF F pl s = mnP P := by rw [mnF, hq, Option.bind_some, hP]; rfl
    rw [layR_s hq hP] at h
    by_cases e : q = p
    · subst e
      rw [List.getElem?_set_self (by have := (List.getElem?_eq_some_iff.mp h).1; rwa [List.length_set] at this)] at h
      injection h with h
      injection h with h
      rw [← h]
      exact cndP_ok hok hP hPk (by rw [← hmn]; exact hv.1)
    · rw [List.getElem?_set_ne e] at h
      exact layR_ok (sr := sr) (cr := cr) hok hpk ss cs (fun s h2 => hs s (List.mem_cons_of_mem _ h2)) hv.2 p y h
  | [], _ :: _, _, hv, _, _, _ => hv.elim
  | _ :: _, [], _, hv, _, _, _ => hv.elim
theorem try_loop (hKe : K = 300) (hS2 : ((168, .inl (8, 2, .ref fa)) : xE) ∈ D1) (hC : yFC D1 fa F) (hok : yFok F) (hk : ∀ j, j < 8 → ∀ e ∈ slK j, e ∈ D1) (hE : En.length ≤ 100) (hc0 : ((106, .inl (5, 2, .int (Int32.ofNat En.length))) : xE) ∈ D1) {ja : List Int64} (hc1 : ((107, .inr (1, (En.map Prod.fst ++ ja).map Value.long)) : xE) ∈ D1) {wk : Int32} {n0 : Int32} {Q : zS} (hwk : wk.toInt ≤ 100) : ∀ (n i : Nat) (S Se : zS) (w : yW) (u v : Value) (refs : List Value) (sl : List ySl) (sh : List Bool) (fd : List yFd) (sr cr : List Nat), (i + n : Int) = wk.toInt → W0 Se w → insC175 Q Se sh fd → stC2 F S pl sr cr → zI S 0 = n0 → refs.length = 20 → sl.length = 8 → (∀ x ∈ sl, x.2.2.length = 8) → ((n ≠ 0 ∧ ¬ 10000 ≤ w.1.toInt) ∨ (zI S 2 = 0 ∧ zI S 1 = 1)) → yT X 195 4800 183 2 [some (.ref 168), some (.int wk), some (.int (Int32.ofNat i))] [] (EC Se u v t (LY S refs sl D1)) 0 0 (trC2 F pl Q S n0 (tryR F En K pl n sr cr (zA S 8) w.1) t D1)
  | 0, i, S, Se, w, u, v, refs, sl, sh, fd, sr, cr, hi, hW, hI, hst, h0, hr, hl, hx, hfl => by
    have ti := yi_nat (i := i) (by omega)
    refine xt_pure rfl rfl rfl rfl ?_
    refine xt_pure rfl rfl rfl rfl ?_
    refine yt_ic rfl rfl (fun _ => ?_) (fun (h : Int32.toInt _ < Int32.toInt _) => ?_)
    · skip
      refine xt_pure rfl rfl rfl (st1 := .int 2 :: _) rfl ?_
      have hfl : zI S 2 = 0 ∧ zI S 1 = 1 := hfl.resolve_left (fun h => h.1 rfl)
      exact xt_iret rfl rfl rfl rfl ⟨S, Se, w, u, v, refs, sl, sh, fd, rfl, rfl, hW, rfl, hI, h0, rfl, hfl.1, hfl.2, hst.2.2.2.1, fun _ => hst, hr, hl, hx⟩
    · rw [ti] at h
      omega
  | n + 1, i, S, Se, w, u, v, refs, sl, sh, fd, sr, cr, hi, hW, hI, hst, h0, hr, hl, hx, hfl => by
    have ti := yi_nat (i := i) (by omega)
    have hw0 := hW.tell.2.2.2
    have hst' := hst
    obtain ⟨h3, h4, h8, ⟨l5, l6, l7, l8⟩, _, _, _, hpk, hv⟩ := hst'
    have hle := hv.1.le (Nat.zero_le _)
    have tm := yi_nat (i := sr.length) (by omega)
    have tm3 : (Int32.ofNat sr.length).toInt.toNat = sr.length := yi_toNat (by omega)
    have tm4 := yjn (j := Int32.ofNat sr.length) (by rw [tm]; omega)
    obtain ⟨q, hq⟩ : ∃ q, (zA S 8)[sr.length]? = some q := ⟨_, List.getElem?_eq_getElem (by omega)⟩
    refine xt_pure rfl rfl rfl rfl ?_
    refine xt_pure rfl rfl rfl rfl ?_
    refine yt_ic rfl rfl (fun (h : Int32.toInt _ ≤ Int32.toInt _) => ?_) (fun _ => ?_)
    · rw [ti] at h
      omega
    · skip
      refine xt_pure rfl rfl rfl rfl ?_
      refine xt_getf rfl rfl (xmC 158 rfl) ?_
      refine xt_getf rfl rfl (xmC 166 rfl) ?_
      refine xt_callV rfl rfl rfl rfl (xmC 142 rfl) ⟨rfl, rfl, yle rfl, yle rfl, yle rfl, yle rfl⟩ (ck_isFull (fl := zI Se 0) (List.mem_of_getElem? (i := 0) rfl)) (c2 := 0) (s2 := 0) ⟨yle rfl, yle rfl⟩ ?_
      rintro _ _ (⟨rfl, hf, rfl⟩ | ⟨rfl, hf, rfl⟩)
      · rw [hw0] at hf
        have hfl : zI S 2 = 0 ∧ zI S 1 = 1 := hfl.resolve_left (fun h => h.2 hf)
        refine xt_pure rfl rfl rfl rfl ?_
        refine xt_pure rfl rfl rfl (st1 := .int (-3) :: _) rfl ?_
        rw [tryR, if_pos hf]
        exact xt_iret rfl rfl rfl rfl ⟨S, Se, w, u, v, refs, sl, sh, fd, rfl, rfl, hW, rfl, hI, h0, rfl, hfl.1, hfl.2, hst.2.2.2.1, fun _ => hst, hr, hl, hx⟩
      · rw [hw0] at hf
        refine xt_pure rfl rfl rfl rfl ?_
        refine xt_pure rfl rfl rfl rfl ?_
        refine xt_getf rfl rfl (xmC 162 rfl) ?_
        refine xt_pure rfl rfl rfl rfl ?_
        refine xt_getf rfl rfl (xmD 37 rfl) ?_
        rw [show zI S 4 = _ from h4]
        refine xt_pure rfl rfl rfl rfl ?_
        refine xt_iald rfl rfl (xmD 41 rfl) tm4.1 (v := .int q) (by rw [tm4.2, tm3]; show ((zA S 8).map Value.int)[sr.length]? = _; rw [List.getElem?_map, hq]; rfl) ?_
        refine xt_pure rfl rfl rfl (st1 := .int 1 :: _) rfl ?_
        refine xt_pure rfl rfl rfl rfl ?_
        have htr : trI (zA S 8) sr.length = (zA S 8).set sr.length (q + 1) := by rw [trI, hq]; rfl
        refine yt_ist rfl rfl 41 rfl ⟨by rw [tm]; omega, by rw [tm]; show (sr.length : Int) < (zA S 8).length; omega⟩ (D1 := EC Se u v t (LY (zsA S 8 (trI (zA S 8) sr.length)) refs sl D1)) (by rw [tm3, htr]; rfl) ?_
        have hst1 := hst.tr (v := trI (zA S 8) sr.length) (by rw [htr, List.length_set]; exact l8)
        refine xt_pure rfl rfl rfl rfl ?_
        refine yT.perm EL_perm ?_
        refine xt_callV rfl rfl rfl rfl (xmC 158 rfl) ⟨rfl, rfl, yle rfl, yle rfl, yle rfl, yle rfl⟩ (ck_layOut (D0 := EC Se u v t D1) (inEC hS2) (hC.mono inEC) hok (fun j hj e he => inEC (hk j hj e he)) hst1 hr hl hx) (c2 := 0) (s2 := 0) ⟨yle rfl, yle rfl⟩ ?_
        rintro _ _ ⟨refs', sl', rfl, rfl, y1, y2, y3⟩
        refine yT.perm EL_perm.symm ?_
        have hH : HC ((125, .inr (0, t.map Value.int)) :: LY (zsA S 8 (trI (zA S 8) sr.length)) refs' sl' D1) fa 173 F (layR F pl sr cr) En := by
          have s1 : D1 ⊆ (125, .inr (0, t.map Value.int)) :: LY (zsA S 8 (trI (zA S 8) sr.length)) refs' sl' D1 := fun _ he => List.mem_cons_of_mem _ (inLY he)
          refine ⟨hC.mono s1, hok, ⟨refs', List.mem_cons_of_mem _ (List.mem_append_right _ List.mem_cons_self), (y1.an (Nat.le_refl _) hk).mono ?_⟩, layR_ok (sr := sr) (cr := cr) hok hpk sr cr hv.1.lt hv.2, hE, s1 hc0, ja, s1 hc1⟩
          exact fun _ he => List.mem_cons_of_mem _ (List.mem_append_right _ (List.mem_cons_of_mem _ he))
        refine xt_pure rfl rfl rfl rfl ?_
        refine xt_pure rfl rfl rfl rfl ?_
        refine xt_getf rfl rfl (xmC 158 rfl) ?_
        refine xt_pure rfl rfl rfl rfl ?_
        refine xt_getf rfl rfl (xmS 0 rfl (inELY hS2)) ?_
        refine xt_pure rfl rfl rfl rfl ?_
        refine xt_getf rfl rfl (xmC 163 rfl) ?_
        refine xt_callV rfl rfl rfl rfl (xmC 166 rfl) ⟨rfl, rfl, yle rfl, yle rfl, yle rfl, yle rfl⟩ (ck_inspect_175 hKe hH hW hI) (c2 := 0) (s2 := 0) ⟨yle rfl, yle rfl⟩ ?_
        rintro _ _ ⟨Se', rfl, rfl, e1, e2, e3⟩
        have tfd := yi_nat (i := (inspR F (layR F pl sr cr) En K w.1).2.2.length) (by omega)
        refine yt_if rfl rfl (fun (hz : Int32.ofNat _ ≠ 0) => ?_) (fun (hz : Int32.ofNat _ = 0) => ?_)
        · have hz : (inspR F (layR F pl sr cr) En K w.1).2.2.length ≠ 0 := fun h => hz (by rw [h]; rfl)
          rw [tryR, if_neg hf, if_neg hz]
          refine xt_pure rfl rfl rfl (st1 := .int 0 :: _) rfl ?_
          refine xt_putf rfl rfl rfl rfl 35 rfl (D1 := EC Se' (.ref fa) (.ref 173) t (LY (zsI (zsA S 8 (trI (zA S 8) sr.length)) 2 0) refs' sl' D1)) rfl ?_
          refine xt_pure rfl rfl rfl rfl ?_
          refine xt_pure rfl rfl rfl rfl ?_
          refine xt_getf rfl rfl (xmD 35 rfl) ?_
          refine xt_pure rfl rfl rfl rfl ?_
          refine xt_pure rfl rfl rfl rfl ?_
          obtain ⟨pp, gi, ga, g1, g2, g3⟩ := hC.han hok
          have hst2 := (hst1.fl (i := 2) (v := 0) (by omega))
          have ADV := C_advance (N := 10) g2 hok (by omega) hst2
          have sb1 : D1 ⊆ (173, .inr (7, refs')) :: (slD 0 sl' ++ EC Se' (.ref fa) (.ref 173) t D1) := fun _ he => List.mem_cons_of_mem _ (List.mem_append_right _ (inEC he))
          have trc : ∀ {x : Int32} {S2 : zS}, cS_advance gi ga 10 (zsI (zsA S 8 (trI (zA S 8) sr.length)) 2 0) = some (x, S2) → yK X 190 4700 188 [.ref 168] (LY (zsI (zsA S 8 (trI (zA S 8) sr.length)) 2 0) refs' sl' (EC Se' (.ref fa) (.ref 173) t D1)) 0 0 (zQi zTS zaS ((173, .inr (7, refs')) :: (slD 0 sl' ++ EC Se' (.ref fa) (.ref 173) t D1)) x S2) := fun h => tcS_advance (D0 := (173, .inr (7, refs')) :: (slD 0 sl' ++ EC Se' (.ref fa) (.ref 173) t D1)) (sb1 hS2) (fun e he => sb1 (g1 e he)) (N := 10) (by omega) (by omega) h
          refine yT.perm EL_perm ?_
          rcases ha : advS (mnF F pl) pl.length sr cr with _ | ⟨s', c'⟩
          · rw [ha] at ADV
            obtain ⟨S2, b1, b2, b3, b4⟩ := ADV
            refine xt_callV rfl rfl rfl rfl (xmC 158 rfl) ⟨rfl, rfl, yle rfl, yle rfl, yle rfl, yle rfl⟩ (trc b1) (c2 := 0) (s2 := 0) ⟨yle rfl, yle rfl⟩ ?_
            rintro _ _ ⟨rfl, rfl⟩
            refine yT.perm (D2 := EC Se' (.ref fa) (.ref 173) t (LY S2 refs' sl' D1)) EL_perm.symm ?_
            refine xt_pure rfl rfl rfl rfl ?_
            refine xt_pure rfl rfl rfl (st1 := .int 0 :: _) rfl ?_
            refine xt_putf rfl rfl rfl rfl 34 rfl (D1 := EC Se' (.ref fa) (.ref 173) t (LY (zsI S2 1 0) refs' sl' D1)) rfl ?_
            refine xt_pure rfl rfl rfl rfl ?_
            refine xt_getf rfl rfl (xmD 34 rfl) ?_
            refine xt_pure rfl rfl rfl rfl ?_
            refine xt_pure rfl rfl rfl rfl ?_
            refine xt_getf rfl rfl (xmD 35 rfl) ?_
            rw [show zI (zsI S2 1 0) 2 = 0 from b3 2]
            refine xt_pure rfl rfl rfl rfl ?_
            refine xt_pure rfl rfl rfl (st1 := .int 1 :: _) rfl ?_
            exact xt_iret rfl rfl rfl rfl ⟨zsI S2 1 0, Se', _, _, _, refs', sl', _, _, rfl, rfl, e1, rfl, e2, (b3 0).trans h0, b4, b3 2, rfl, b2, (fun h => by cases h), y1.1, y2, y3⟩
          · rw [ha] at ADV
            obtain ⟨S2, b1, b2, b3, b4⟩ := ADV
            refine xt_callV rfl rfl rfl rfl (xmC 158 rfl) ⟨rfl, rfl, yle rfl, yle rfl, yle rfl, yle rfl⟩ (trc b1) (c2 := 0) (s2 := 0) ⟨yle rfl, yle rfl⟩ ?_
            rintro _ _ ⟨rfl, rfl⟩
            refine yT.perm (D2 := EC Se' (.ref fa) (.ref 173) t (LY S2 refs' sl' D1)) EL_perm.symm ?_
            refine xt_pure rfl rfl rfl rfl ?_
            refine xt_pure rfl rfl rfl (st1 := .int 1 :: _) rfl ?_
            refine xt_pure rfl rfl rfl rfl ?_
            refine xt_putf rfl rfl rfl rfl 34 rfl (D1 := EC Se' (.ref fa) (.ref 173) t (LY (zsI S2 1 1) refs' sl' D1)) rfl ?_
            refine xt_pure rfl rfl rfl rfl ?_
            refine xt_getf rfl rfl (xmD 34 rfl) ?_
            refine xt_pure rfl rfl rfl rfl ?_
            refine xt_pure rfl rfl rfl (L1 := [_, _, some (.int (_ + 1))]) rfl ?_
            refine xt_pure rfl rfl rfl rfl ?_
            rw [yi_add1]
            have hrec := try_loop hKe hS2 hC hok hk hE hc0 hc1 (Q := Q) (n0 := n0) hwk n (i + 1) (zsI S2 1 1) Se' _ (.ref fa) (.ref 173) refs' sl' _ _ s' c' (by omega) e1 e2 (b2.fl (by omega)) ((b3 0 (by omega)).trans h0) y1.1 y2 y3 (Or.inr ⟨b3 2 (by omega), rfl⟩)
            rw [show zA (zsI S2 1 1) 8 = trI (zA S 8) sr.length from b4] at hrec
            exact hrec
        · have hz : (inspR F (layR F pl sr cr) En K w.1).2.2.length = 0 := by
            have := congrArg Int32.toInt hz
            rw [tfd, show (0 : Int32).toInt = 0 from rfl] at this
            omega
          rw [tryR, if_neg hf, if_pos hz]
          refine xt_pure rfl rfl rfl (st1 := .int 1 :: _) rfl ?_
          refine xt_pure rfl rfl rfl rfl ?_
          refine xt_putf rfl rfl rfl rfl 35 rfl (D1 := EC Se' (.ref fa) (.ref 173) t (LY (zsI (zsA S 8 (trI (zA S 8) sr.length)) 2 1) refs' sl' D1)) rfl ?_
          refine xt_pure rfl rfl rfl rfl ?_
          refine xt_pure rfl rfl rfl rfl ?_
          refine xt_getf rfl rfl (xmD 35 rfl) ?_
          refine xt_pure rfl rfl rfl rfl ?_
          refine xt_pure rfl rfl rfl (st1 := .int 0 :: _) rfl ?_
          refine xt_putf rfl rfl rfl rfl 34 rfl (D1 := EC Se' (.ref fa) (.ref 173) t (LY (zsI (zsI (zsA S 8 (trI (zA S 8) sr.length)) 2 1) 1 0) refs' sl' D1)) rfl ?_
          refine xt_pure rfl rfl rfl rfl ?_
          refine xt_getf rfl rfl (xmD 34 rfl) ?_
          refine xt_pure rfl rfl rfl rfl ?_
          refine xt_pure rfl rfl rfl rfl ?_
          refine xt_getf rfl rfl (xmD 35 rfl) ?_
          refine xt_pure rfl rfl rfl rfl ?_
          refine xt_pure rfl rfl rfl (st1 := .int 100 :: _) rfl ?_
          refine xt_pure rfl rfl rfl rfl ?_
          refine xt_getf rfl rfl (xmD 37 rfl) ?_
          rw [show zI (zsI (zsI (zsA S 8 (trI (zA S 8) sr.length)) 2 1) 1 0) 4 = _ from h4]
          refine xt_pure rfl rfl rfl rfl ?_
          refine xt_pure rfl rfl rfl rfl ?_
          have hst3 := (hst1.fl (i := 2) (v := 1) (by omega)).fl (i := 1) (v := 0) (by omega)
          exact xt_iret rfl rfl rfl rfl ⟨_, Se', _, _, _, refs', sl', _, _, rfl, rfl, e1, rfl, e2, h0, rfl, rfl, rfl, hst3.2.2.2.1, fun _ => hst3, y1.1, y2, y3⟩
end TRYC
