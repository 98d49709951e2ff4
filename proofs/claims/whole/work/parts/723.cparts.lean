/-! THE CLASS READS FORMS: parts -/
section CPARTS
variable {β : Type} {N : Nat} {tk : List zK} {s : zP} {S : zS} {G : zG}
def Kt (tk : List zK) (S : zS) (p : zF β) (o : Option (Unit × zS)) (k : β → zS → Option (Unit × zS)) : Prop := match p with
  | .inl (s, b) => ∃ S', o = k b S' ∧ CP tk s S' ∧ eqX S S'
  | .inr (some q) => ∃ b S', o = k b S' ∧ CF (pl tk q) S' ∧ eqX S S'
  | .inr none => True
theorem Kt.base {S1 : zS} {p : zF β} {o : Option (Unit × zS)} {k : β → zS → Option (Unit × zS)} (e : eqX S S1) (h : Kt tk S1 p o k) : Kt tk S p o k := by
  rcases p with ⟨s, b⟩ | _ | q
  · obtain ⟨S', h1, h2, h3⟩ := h
    exact ⟨S', h1, h2, e.trans h3⟩
  · trivial
  · obtain ⟨b, S', h1, h2, h3⟩ := h
    exact ⟨b, S', h1, h2, e.trans h3⟩
theorem Kt.num (ok : tkOK tk) {lo hi : Int32} {f : zP → Int32 → zF β} {g : Int32 → zS → Option (Unit × zS)} {k : β → zS → Option (Unit × zS)} (h : CP tk s S) (hg : ∀ s' a S1, CP tk s' S1 → Kt tk S1 (f s' a) (g a S1) k) (hf : ∀ a q S1, CF q S1 → ∃ b, g a S1 = k b S1) : Kt tk S (pb (fNum tk lo hi s) f) (zb (cP_readNumber N lo hi S) g) k := by
  have hR := R_num (N := N) (lo := lo) (hi := hi) ok h
  rcases hp : fNum tk lo hi s with ⟨s1, b⟩ | _ | q
  · rw [hp] at hR
    obtain ⟨a, S1, q1, q2, q3, rfl⟩ := hR
    rw [q1, zbs]
    exact Kt.base q3 (hg s1 a S1 q2)
  · trivial
  · rw [hp] at hR
    obtain ⟨a, S1, q1, q2, q3, _⟩ := hR
    obtain ⟨b, w1⟩ := hf a _ _ q2
    rw [q1, zbs, w1]
    exact ⟨b, S1, rfl, q2, q3⟩
theorem R_bounds (ok : tkOK tk) {l1 k : Int32} (h : CP tk s S) : Kt tk S (fBounds tk k s) (cP_readBounds N l1 k S) (fun x S' => cP_readBounds_85 N l1 x.2.2 x.1 x.2.1 S') := by
  unfold fBounds cP_readBounds
  by_cases k1 : k = 1
  · rw [if_pos k1, if_pos k1]
    refine Kt.num ok h (fun s1 a S1 h1 => Kt.num ok h1 (fun s2 b S2 h2 => ⟨S2, rfl, h2, eqX.refl⟩) ?_) ?_
    · intro b q S2 hq; exact ⟨(_, _, _), rfl⟩
    · intro a q S1 hq; rw [num_F hq, zbs]; exact ⟨(_, _, _), rfl⟩
  rw [if_neg k1, if_neg k1]
  by_cases k2 : k = 2
  · rw [if_pos k2, if_pos k2]
    exact Kt.num ok h (fun s2 b S2 h2 => ⟨S2, rfl, h2, eqX.refl⟩) (fun b q S2 hq => ⟨(_, _, _), rfl⟩)
  rw [if_neg k2, if_neg k2]
  by_cases k3 : k = 3
  · rw [if_pos k3, if_pos k3]
    refine Kt.num ok h (fun s1 a S1 h1 => Kt.num ok h1 (fun s2 b S2 h2 => ⟨S2, rfl, h2, eqX.refl⟩) ?_) ?_
    · intro b q S2 hq; exact ⟨(_, _, _), rfl⟩
    · intro a q S1 hq; rw [num_F hq, zbs]; exact ⟨(_, _, _), rfl⟩
  rw [if_neg k3, if_neg k3]
  by_cases k4 : k = 4
  · rw [if_pos k4, if_pos k4]
    exact Kt.num ok h (fun s2 b S2 h2 => ⟨S2, rfl, h2, eqX.refl⟩) (fun b q S2 hq => ⟨(_, _, _), rfl⟩)
  rw [if_neg k4, if_neg k4]
  by_cases k5 : k = 5
  · rw [if_pos k5, if_pos k5]
    refine Kt.num ok h (fun s0 c S0 h0 => Kt.num ok h0 (fun s1 a S1 h1 => Kt.num ok h1 (fun s2 b S2 h2 => ⟨S2, rfl, h2, eqX.refl⟩) ?_) ?_) ?_
    · intro b q S2 hq; exact ⟨(_, _, _), rfl⟩
    · intro a q S1 hq; rw [num_F hq, zbs]; exact ⟨(_, _, _), rfl⟩
    · intro a q S1 hq; rw [num_F hq, zbs, num_F hq, zbs]; exact ⟨(_, _, _), rfl⟩
  rw [if_neg k5, if_neg k5]
  by_cases k6 : k = 6
  · rw [if_pos k6, if_pos k6]
    exact Kt.num ok h (fun s2 b S2 h2 => ⟨S2, rfl, h2, eqX.refl⟩) (fun b q S2 hq => ⟨(_, _, _), rfl⟩)
  rw [if_neg k6, if_neg k6]
  by_cases k7 : k = 7
  · rw [if_pos k7, if_pos k7]
    refine Kt.num ok h (fun s1 a S1 h1 => Kt.num ok h1 (fun s2 b S2 h2 => ⟨S2, rfl, h2, eqX.refl⟩) ?_) ?_
    · intro b q S2 hq; exact ⟨(_, _, _), rfl⟩
    · intro a q S1 hq; rw [num_F hq, zbs]; exact ⟨(_, _, _), rfl⟩
  rw [if_neg k7, if_neg k7]
  by_cases k8 : k = 8
  · rw [if_pos k8, if_pos k8]
    exact Kt.num ok h (fun s2 b S2 h2 => ⟨S2, rfl, h2, eqX.refl⟩) (fun b q S2 hq => ⟨(_, _, _), rfl⟩)
  rw [if_neg k8, if_neg k8]
  by_cases k9 : k = 9
  · rw [if_pos k9, if_pos k9]
    exact Kt.num ok h (fun s2 b S2 h2 => ⟨S2, rfl, h2, eqX.refl⟩) (fun b q S2 hq => ⟨(_, _, _), rfl⟩)
  rw [if_neg k9, if_neg k9]
  exact ⟨S, rfl, h, eqX.refl⟩
def GC (G : zG) (S : zS) : Prop := GCn G G.1.length S
/-- what is known of the part that is being read -/
def PN (nm : Int64) (k g m : Int32) (bd : Option (Int32 × Int32 × Int32)) (w : Int32) (n : Nat) (S : zS) : Prop := (zB S 8)[n]? = some nm ∧ (zA S 15)[n]? = some k ∧ (zA S 16)[n]? = some g ∧ (zA S 17)[n]? = some m ∧ (∀ x, bd = some x → (zA S 18)[n]? = some x.1 ∧ (zA S 19)[n]? = some x.2.1 ∧ (zA S 20)[n]? = some x.2.2) ∧ (zA S 21)[n]? = some w
theorem PN.eqX {nm : Int64} {k g m w : Int32} {bd : Option (Int32 × Int32 × Int32)} {n : Nat} {S' : zS} (e : eqX S S') (h : PN nm k g m bd w n S) : PN nm k g m bd w n S' := by
  obtain ⟨eI, eA, eB⟩ := e
  unfold PN
  rw [eB 8 (by decide), eA 15 (by decide) (by decide) (by decide) (by decide) (by decide), eA 16 (by decide) (by decide) (by decide) (by decide) (by decide), eA 17 (by decide) (by decide) (by decide) (by decide) (by decide), eA 18 (by decide) (by decide) (by decide) (by decide) (by decide), eA 19 (by decide) (by decide) (by decide) (by decide) (by decide), eA 20 (by decide) (by decide) (by decide) (by decide) (by decide), eA 21 (by decide) (by decide) (by decide) (by decide) (by decide)]
  exact h
theorem GCn.upd {c c' : Nat} {S' : zS} (h : GCn G c S) (hc : c' ≤ 20) (e14 : zI S' 14 = Int32.ofNat c') (eI : ∀ j, j ≠ 14 → zI S' j = zI S j) (t8 : ∀ i, i < G.1.length → (zB S' 8)[i]? = (zB S 8)[i]?) (tA : ∀ j i, i < G.1.length → (zA S' j)[i]? = (zA S j)[i]?) (t9 : zB S' 9 = zB S 9) (u23 : zA S' 23 = zA S 23) (u25 : zA S' 25 = zA S 25) (u26 : zA S' 26 = zA S 26) : GCn G c' S' := by
  obtain ⟨⟨a1, a2, a3, a4⟩, ⟨b1, b2, b3⟩, ⟨c1, c2, c3⟩, d1, d2⟩ := h
  refine ⟨⟨e14, hc, a3, ?_⟩, ⟨(eI 22 (by decide)).trans b1, b2, ?_⟩, ⟨(eI 24 (by decide)).trans c1, c2, ?_⟩, (eI 28 (by decide)).trans d1, (eI 29 (by decide)).trans d2⟩
  · intro i p hp
    have hi := (List.getElem?_eq_some_iff.mp hp).1
    rw [t8 i hi, tA 15 i hi, tA 16 i hi, tA 17 i hi, tA 18 i hi, tA 19 i hi, tA 20 i hi, tA 21 i hi]
    exact a4 i p hp
  · rw [t9, u23]; exact b3
  · rw [u25, u26]; exact c3
theorem GCn.add {nm : Int64} {k g m w wn a b c : Int32} {bd : Option (Int32 × Int32 × Int32)} (h : GCn G (G.1.length + 1) S) (hp : PN nm k g m bd w G.1.length S) (hb : k ≠ 11 → bd = some (a, b, c)) : GC (gAdd G (nm, k, g, m, a, b, c, wn, w)) S := by
  obtain ⟨⟨a1, a2, a3, a4⟩, hr⟩ := h
  obtain ⟨p1, p2, p3, p4, p5, p6⟩ := hp
  refine ⟨⟨?_, ?_, ?_, ?_⟩, hr⟩
  · show _ = Int32.ofNat (G.1 ++ [_]).length; rw [List.length_append]; exact a1
  · show (G.1 ++ [_]).length ≤ 20; rw [List.length_append]; exact a2
  · show (G.1 ++ [_]).length ≤ 20; rw [List.length_append]; exact a2
  · intro i p hp
    have hp : (G.1 ++ [(nm, k, g, m, a, b, c, wn, w)])[i]? = some p := hp
    by_cases hi : i < G.1.length
    · rw [List.getElem?_append_left hi] at hp
      exact a4 i p hp
    · have hil := (List.getElem?_eq_some_iff.mp hp).1
      rw [List.length_append, List.length_singleton] at hil
      obtain rfl : i = G.1.length := by omega
      rw [List.getElem?_append_right (Nat.le_refl _), Nat.sub_self] at hp
      cases hp
      exact ⟨p1, p2, p3, p4, fun hk => p5 _ (hb hk), p6⟩
theorem newPart_F {k g m : Int32} {q : Nat} (h : CF q S) : cP_readNewPart N k g m S = some (0, S) := by
  rw [cP_readNewPart, cP_readNewPart_11, cP_readNewPart_11, newName_F h, zbs, newName_F h, zbs, if_neg h.ne, ite_self]
theorem R_newPart (hN : 1400 < N) (ok : tkOK tk) {k g m : Int32} (hg : GC G S) (hW : WG S) (h : CP tk s S) : match fNew tk G (G.1.length < 20) s with
  | .inl (s1, nm) => ∃ S1, cP_readNewPart N k g m S = some (Int32.ofNat G.1.length, S1) ∧ CP tk s1 S1 ∧ WG S1 ∧ GCn G (G.1.length + 1) S1 ∧ PN nm k g m none (-9) G.1.length S1
  | .inr (some q) => ∃ S1, cP_readNewPart N k g m S = some (0, S1) ∧ CF (pl tk q) S1 ∧ WG S1
  | .inr none => True := by
  have p20 := hg.1.2.1
  have e14 := hg.1.1
  have hone : cP_readNewPart N k g m S = cP_readNewPart_11 N k g m (Int32.ofNat G.1.length) (if G.1.length < 20 then 1 else 0) S := by
    rw [cP_readNewPart, e14, yi_nat (by omega)]
    by_cases h20 : G.1.length < 20
    · rw [if_neg (by omega), if_pos h20]
    · rw [if_pos (by omega), if_neg h20]
  have hR := R_newName (N := N) (b := if G.1.length < 20 then 1 else 0) (c := G.1.length < 20) hN ok rfl hg rfl hW h
  rw [hone]
  unfold cP_readNewPart_11
  rcases hp : fNew tk G (G.1.length < 20) s with ⟨s1, nm⟩ | _ | q
  · rw [hp] at hR
    obtain ⟨a, S1, q1, q2, q3, rfl⟩ := hR
    have h20 : G.1.length < 20 := by
      unfold fNew at hp
      split at hp
      · rename_i hh; exact hh.2.1
      · cases hp
    have w1 := WG.eqX q3 hW
    have g1 := GCn.eqX q3 hg
    obtain ⟨⟨l8, l15, l16, l17, l18, l19, l20, l21⟩, wr, _, wr3⟩ := w1
    rw [q1, zbs, if_pos q2.2.1, if_pos (zok_nat (by omega) (by omega)), if_pos (zok_nat (by omega) (by omega)), if_pos (zok_nat (by omega) (by omega)), if_pos (zok_nat (by omega) (by omega)), if_pos (zok_nat (by omega) (by omega)), g1.1.1, yi_add1, zs_nat (by omega), zs_nat (by omega), zs_nat (by omega), zs_nat (by omega), zs_nat (by omega)]
    refine ⟨_, rfl, q2, ⟨⟨?_, ?_, ?_, ?_, l18, l19, l20, ?_⟩, wr, ⟨G.1.length + 1, by omega, rfl⟩, wr3⟩, GCn.upd g1 (by omega) rfl ?_ ?_ ?_ rfl rfl rfl rfl, ?_, ?_, ?_, ?_, ?_, ?_⟩
    · show ((zB S1 8).set _ _).length = 20; rw [List.length_set, l8]
    · show ((zA S1 15).set _ _).length = 20; rw [List.length_set, l15]
    · show ((zA S1 16).set _ _).length = 20; rw [List.length_set, l16]
    · show ((zA S1 17).set _ _).length = 20; rw [List.length_set, l17]
    · show ((zA S1 21).set _ _).length = 20; rw [List.length_set, l21]
    · intro j hj; rw [zi_I, if_neg hj]; rfl
    · intro i hi; show ((zB S1 8).set _ _)[i]? = _; rw [List.getElem?_set_ne (by omega)]
    · intro j i hi
      rw [za_I, za_A]
      split
      · rename_i hj; rw [List.getElem?_set_ne (by omega), hj]
      rw [za_A]
      split
      · rename_i hj; rw [List.getElem?_set_ne (by omega), hj]
      rw [za_A]
      split
      · rename_i hj; rw [List.getElem?_set_ne (by omega), hj]
      rw [za_A]
      split
      · rename_i hj; rw [List.getElem?_set_ne (by omega), hj]
      rw [za_B]
    · show ((zB S1 8).set _ _)[_]? = _; rw [List.getElem?_set_self (by omega)]
    · show ((zA S1 15).set _ _)[_]? = _; rw [List.getElem?_set_self (by omega)]
    · show ((zA S1 16).set _ _)[_]? = _; rw [List.getElem?_set_self (by omega)]
    · show ((zA S1 17).set _ _)[_]? = _; rw [List.getElem?_set_self (by omega)]
    · intro x hx; cases hx
    · show ((zA S1 21).set _ _)[_]? = _; rw [List.getElem?_set_self (by omega)]
  · trivial
  · rw [hp] at hR
    obtain ⟨a, S1, q1, q2, q3, _⟩ := hR
    rw [q1, zbs, if_neg q2.ne]
    exact ⟨S1, rfl, q2, WG.eqX q3 hW⟩
theorem bounds85 {n : Nat} {x : Int32 × Int32 × Int32} (hn : n < 20) (hW : WG S) : ∃ S1, cP_readBounds_85 N (Int32.ofNat n) x.2.2 x.1 x.2.1 S = some ((), S1) ∧ WG S1 ∧ (∀ q, CF q S → CF q S1) ∧ (∀ s, CP tk s S → CP tk s S1) ∧ (∀ c, n = G.1.length → GCn G c S → GCn G c S1) ∧ ∀ nm k g m bd w, PN nm k g m bd w n S → PN nm k g m (some x) w n S1 := by
  obtain ⟨⟨l8, l15, l16, l17, l18, l19, l20, l21⟩, wr⟩ := hW
  rw [cP_readBounds_85, if_pos (zok_nat (by omega) (by omega)), if_pos (zok_nat (by omega) (by omega)), if_pos (zok_nat (by omega) (by omega)), zs_nat (by omega), zs_nat (by omega), zs_nat (by omega)]
  refine ⟨_, rfl, ⟨⟨l8, l15, l16, l17, ?_, ?_, ?_, l21⟩, wr⟩, fun q h => h, fun s h => h, ?_, ?_⟩
  · show ((zA S 18).set _ _).length = 20; rw [List.length_set, l18]
  · show ((zA S 19).set _ _).length = 20; rw [List.length_set, l19]
  · show ((zA S 20).set _ _).length = 20; rw [List.length_set, l20]
  · rintro c rfl hg
    refine GCn.upd hg hg.1.2.1 hg.1.1 (fun _ _ => rfl) (fun _ _ => rfl) ?_ rfl rfl rfl rfl
    intro j i hi
    rw [za_A]
    split
    · rename_i hj; rw [List.getElem?_set_ne (by omega), hj]
    rw [za_A]
    split
    · rename_i hj; rw [List.getElem?_set_ne (by omega), hj]
    rw [za_A]
    split
    · rename_i hj; rw [List.getElem?_set_ne (by omega), hj]
    rfl
  · rintro nm k g m bd w ⟨p1, p2, p3, p4, p5, p6⟩
    refine ⟨p1, p2, p3, p4, ?_, p6⟩
    intro y hy
    cases hy
    refine ⟨?_, ?_, ?_⟩
    · show ((zA S 18).set _ _)[_]? = _; rw [List.getElem?_set_self (by omega)]
    · show ((zA S 19).set _ _)[_]? = _; rw [List.getElem?_set_self (by omega)]
    · show ((zA S 20).set _ _)[_]? = _; rw [List.getElem?_set_self (by omega)]
theorem set21 {n : Nat} {x : Int32} (hn : n < 20) (hW : WG S) : zok (zA S 21) (Int32.ofNat n) ∧ WG (zsA S 21 (zs (zA S 21) (Int32.ofNat n) x)) ∧ (∀ q, CF q S → CF q (zsA S 21 (zs (zA S 21) (Int32.ofNat n) x))) ∧ (∀ s, CP tk s S → CP tk s (zsA S 21 (zs (zA S 21) (Int32.ofNat n) x))) ∧ (∀ c, n = G.1.length → GCn G c S → GCn G c (zsA S 21 (zs (zA S 21) (Int32.ofNat n) x))) ∧ ∀ nm k g m bd w, PN nm k g m bd w n S → PN nm k g m bd x n (zsA S 21 (zs (zA S 21) (Int32.ofNat n) x)) := by
  obtain ⟨⟨l8, l15, l16, l17, l18, l19, l20, l21⟩, wr⟩ := hW
  rw [zs_nat (by omega)]
  refine ⟨zok_nat (by omega) (by omega), ⟨⟨l8, l15, l16, l17, l18, l19, l20, ?_⟩, wr⟩, fun q h => h, fun s h => h, ?_, ?_⟩
  · show ((zA S 21).set _ _).length = 20; rw [List.length_set, l21]
  · rintro c rfl hg
    refine GCn.upd hg hg.1.2.1 hg.1.1 (fun _ _ => rfl) (fun _ _ => rfl) ?_ rfl rfl rfl rfl
    intro j i hi
    rw [za_A]
    split
    · rename_i hj; rw [List.getElem?_set_ne (by omega), hj]
    rfl
  · rintro nm k g m bd w ⟨p1, p2, p3, p4, p5, p6⟩
    refine ⟨p1, p2, p3, p4, p5, ?_⟩
    show ((zA S 21).set _ _)[_]? = _; rw [List.getElem?_set_self (by omega)]
theorem when_F {x i : Int32} {q : Nat} (h : CF q S) : cP_readWhen N x i S = some ((), S) := by
  rw [cP_readWhen, sees_F h, zbs, if_pos (by decide)]
theorem R_when (hN : 1400 < N) (h6 : N / 16 = 100) (ok : tkOK tk) {i : Nat} (hi : i ≤ 10) {nm : Int64} {k g m : Int32} {bd : Option (Int32 × Int32 × Int32)} (h20 : G.1.length < 20) (h0 : G.2.1 = []) (hg : GCn G (G.1.length + 1) S) (hp : PN nm k g m bd (-9) G.1.length S) (hW : WG S) (h : CP tk s S) : match fWhen tk i s with
  | .inl (s1, w) => ∃ S1, cP_readWhen N (Int32.ofNat G.1.length) (Int32.ofNat i) S = some ((), S1) ∧ CP tk s1 S1 ∧ WG S1 ∧ GCn G (G.1.length + 1) S1 ∧ PN nm k g m bd w.2 G.1.length S1
  | .inr (some q) => ∃ S1, cP_readWhen N (Int32.ofNat G.1.length) (Int32.ofNat i) S = some ((), S1) ∧ CF (pl tk q) S1 ∧ WG S1
  | .inr none => True := by
  unfold fWhen cP_readWhen
  rw [sees_G ok h, zbs]
  by_cases hk : kd tk s.1 = 204
  · rw [if_pos hk, if_neg (nn hk)]
    obtain ⟨m1, m2, m3⟩ := next_G (N := N) ok h (by rw [hk]; decide) (by rw [hk]; decide)
    rw [m1, zbs]
    have hfg : zI (zsI S 5 (Int32.ofNat (s.1 + 1))) 22 = Int32.ofNat 0 := by
      have := hg.2.1.1
      rw [h0] at this
      exact this
    have hR := R_exp (N := N) (fg := 0) hN h6 ok hi m2 hfg
    rcases hp1 : fExp tk 0 i (sNx s) with ⟨s1, w⟩ | _ | q
    · rw [hp1] at hR
      obtain ⟨a, S1, q1, q2, q3, rfl⟩ := hR
      have e := m3.trans q3
      obtain ⟨z1, z2, z3, z4, z5, z6⟩ := set21 (tk := tk) (G := G) (n := G.1.length) (x := w.2) h20 (WG.eqX e hW)
      rw [q1, zbs, if_pos z1]
      exact ⟨_, rfl, z4 _ q2, z2, z5 _ rfl (GCn.eqX e hg), z6 _ _ _ _ _ _ (PN.eqX e hp)⟩
    · trivial
    · rw [hp1] at hR
      obtain ⟨a, S1, q1, q2, q3, _⟩ := hR
      have e := m3.trans q3
      obtain ⟨z1, z2, z3, z4, z5, z6⟩ := set21 (tk := tk) (G := G) (n := G.1.length) (x := a) h20 (WG.eqX e hW)
      rw [q1, zbs, if_pos z1]
      exact ⟨_, rfl, z3 _ q2, z2⟩
  · rw [if_neg hk, if_pos hk]
    exact ⟨S, rfl, h, hW, hg, hp⟩
end CPARTS
