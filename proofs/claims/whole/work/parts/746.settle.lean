/-! NAMES ARE SETTLED -/
def nCw (x : Bool × Nat) (c : Int32 × Int32) : Int32 × Int32 := if x.1 then (2, Int32.ofNat x.2) else (c.1, c.2 + Int32.ofNat x.2 * 8)
def nNw (x : Bool × Nat) (n : yNd) : yNd := if x.1 then (2, Int32.ofNat x.2, n.2.2) else (n.1, Int32.ofNat x.2, n.2.2)
def nDo (s : zP) (u : zU) (x : Bool × Nat) : zP := (s.1, s.2.1, s.2.2.1.set (u.2.2.2.1.getD 0) (nCw x ((s.2.2.1[u.2.2.2.1.getD 0]?).getD (0, 0))), s.2.2.2.1.set u.2.2.2.2 (nNw x ((s.2.2.2.1[u.2.2.2.2]?).getD (0, 0, 0, 0))), s.2.2.2.2)
def nFt (G : zG) : List zU → Option Nat
  | [] => none
  | u :: r => if nRes G u.2.1 u.2.2.1 = none then some u.1 else nFt G r
def nAll (G : zG) : List zU → zP → zP
  | [], s => s
  | u :: r, s => nAll G r (match nRes G u.2.1 u.2.2.1 with | none => s | some x => nDo s u x)
theorem nIx_nat {x : Int64} {r : List Int64} (hl : r.length < 2000000000) (h : nIx x r 0 ≠ -9) : ∃ k, k < r.length ∧ nIx x r 0 = Int32.ofNat k := by
  rcases nIx_ge (x := x) r 0 (by omega) with h1 | h1
  · exact absurd h1 h
  · refine ⟨(nIx x r 0).toInt.toNat, by omega, ?_⟩
    rw [xi32_eq, yi_nat (by omega)]
    omega
def nFg (G : zG) (b : Int64) (t : Nat) : Prop := nIx b (G.2.1.map Prod.fst) 0 ≠ -9 ∧ (nIx b (G.2.1.map Prod.fst) 0).toInt < t
theorem nRes_cases {G : zG} {b : Int64} {t : Nat} (h1 : G.1.length ≤ 20) (h2 : G.2.1.length ≤ 12) :
    (∃ j, nFg G b t ∧ nIx b (G.2.1.map Prod.fst) 0 = Int32.ofNat j ∧ j < t ∧ j < G.2.1.length ∧ nRes G b t = some (true, j))
    ∨ (¬ nFg G b t ∧ ∃ p P, nIx b (G.1.map Prod.fst) 0 = Int32.ofNat p ∧ G.1[p]? = some P ∧ P.2.1 ≠ 11 ∧ nRes G b t = some (false, p))
    ∨ (¬ nFg G b t ∧ nRes G b t = none ∧ (nIx b (G.1.map Prod.fst) 0 = -9 ∨ ∃ p P, nIx b (G.1.map Prod.fst) 0 = Int32.ofNat p ∧ G.1[p]? = some P ∧ P.2.1 = 11)) := by
  unfold nRes
  by_cases hf : nFg G b t
  · obtain ⟨j, hj, ej⟩ := nIx_nat (by rw [List.length_map]; omega) hf.1
    rw [List.length_map] at hj
    have hf' := hf
    unfold nFg at hf
    rw [if_pos hf]
    have ht := hf.2
    rw [ej, yi_nat (by omega)] at ht ⊢
    exact Or.inl ⟨j, hf', rfl, by omega, hj, rfl⟩
  · right
    have hf' := hf
    unfold nFg at hf
    rw [if_neg hf]
    by_cases hp : nIx b (G.1.map Prod.fst) 0 = -9
    · right
      rw [hp, if_neg (fun hh => hh.1 rfl)]
      exact ⟨hf', rfl, Or.inl rfl⟩
    · obtain ⟨p, hp1, ep⟩ := nIx_nat (by rw [List.length_map]; omega) hp
      rw [List.length_map] at hp1
      rw [ep, yi_nat (by omega), Int.toNat_natCast, List.getElem?_eq_getElem hp1]
      by_cases hk : (G.1[p]).2.1 = 11
      · right
        rw [if_neg (fun hh => hh.2 (by rw [Option.map_some, hk]))]
        exact ⟨hf', rfl, Or.inr ⟨p, _, rfl, List.getElem?_eq_getElem hp1, hk⟩⟩
      · left
        rw [if_pos ⟨by rw [← ep]; exact hp, by rw [Option.map_some]; intro hh; exact hk (Option.some.inj hh)⟩]
        exact ⟨hf', p, _, rfl, List.getElem?_eq_getElem hp1, hk, rfl⟩
section SETTLE
variable {tk : List zK} {s : zP} {S : zS} {G : zG} {N : Nat}
theorem find86_G (hN : 1400 < N) {x : Int64} (hg : GC G S) (hW : WG S) : cP_find_63_86 N (zI S 14) x S = some (nIx x (G.1.map Prod.fst) 0, S) := by
  obtain ⟨⟨g1, _, g2, g3⟩, _⟩ := hg
  obtain ⟨jk, hjk⟩ := pre_of (l := G.1) (q := zB S 8) (f := Prod.fst) (fun i a ha => (g3 i a ha).1)
  have := find86 (N := N) (S := S) (x := x) (jk := jk) (G.1.map Prod.fst) [] N hjk (by simp; omega) (by rw [hW.1.1]; omega) (by rw [List.length_map]; omega)
  rw [List.length_nil, List.length_map, Nat.zero_add] at this
  unfold cP_find_63_86
  rw [g1]
  exact this
theorem find87_G (hN : 1400 < N) {x : Int64} {t : Nat} (ht : t ≤ G.2.1.length) (hg : GC G S) (hW : WG S) : cP_find_63_87 N (Int32.ofNat t) x S = some (nIx x ((G.2.1.map Prod.fst).take t) 0, S) := by
  obtain ⟨_, ⟨g1, g2, g3⟩, _⟩ := hg
  obtain ⟨jk, hjk⟩ := pre_of (l := G.2.1) (q := zB S 9) (f := Prod.fst) (fun i a ha => (g3 i a ha).1)
  have := find87 (N := N) (S := S) (x := x) (jk := (G.2.1.map Prod.fst).drop t ++ jk) ((G.2.1.map Prod.fst).take t) [] N (by rw [hjk, List.nil_append, ← List.append_assoc, List.take_append_drop]) (by simp; omega) (by rw [hW.2.1.1]; omega) (by rw [List.length_take, List.length_map]; omega)
  rw [List.length_nil, List.length_take, List.length_map, Nat.zero_add, Nat.min_eq_left ht] at this
  exact this
/-- a figure's code -/
theorem doing_G {i : Nat} {d y x : Int32} (h : CP tk s S) (hi : s.2.2.1[i]? = some (d, y)) : zok (zA S 30) (Int32.ofNat i) ∧ CP tk (sCd s i (x, y)) (zsA S 30 (zs (zA S 30) (Int32.ofNat i) x)) ∧ eqX S (zsA S 30 (zs (zA S 30) (Int32.ofNat i) x)) := by
  have hil := (List.getElem?_eq_some_iff.mp hi).1
  obtain ⟨⟨w1, w2, ⟨w3, w3'⟩, w4, w5, w6, w7⟩, r2, r3, r4, r5, ⟨r6, r6', r6''⟩, r7⟩ := h
  refine ⟨zok_nat (by omega) (by omega), ⟨⟨w1, w2, ⟨?_, w3'⟩, w4, w5, w6, w7⟩, r2, r3, r4, r5, ⟨?_, ?_, ?_⟩, r7⟩, ⟨fun _ _ _ _ _ _ => rfl, fun j _ _ _ h30 _ => by rw [za_A, if_neg h30], fun _ _ => rfl⟩⟩
  · show (zs (zA S 30) (Int32.ofNat i) x).length = 560
    rw [zs_nat (by omega), List.length_set]; exact w3
  · show zI S 32 = Int32.ofNat (s.2.2.1.set i (x, y)).length; rw [List.length_set]; exact r6
  · show (s.2.2.1.set i (x, y)).length ≤ 559; rw [List.length_set]; exact r6'
  · intro j c hc
    have hc : (s.2.2.1.set i (x, y))[j]? = some c := hc
    show (zs (zA S 30) (Int32.ofNat i) x)[j]? = _ ∧ (zA S 31)[j]? = _
    rw [zs_nat (by omega)]
    by_cases hj : j = i
    · subst hj
      rw [List.getElem?_set_self hil] at hc
      cases hc
      rw [List.getElem?_set_self (by omega)]
      exact ⟨rfl, (r6'' j _ hi).2⟩
    · rw [List.getElem?_set_ne (by omega)] at hc
      rw [List.getElem?_set_ne (by omega)]
      exact r6'' j c hc
theorem CP.nodes {l : List yNd} (h : CP tk s S) : CP tk (s.1, s.2.1, s.2.2.1, l, s.2.2.2.2) S := h
/-- as nFt and nAll say; the class -/
theorem C_names (hN : 1400 < N) : ∀ (r pre : List zU) (s : zP) (S : zS) (n : Nat), s.2.2.2.2 = pre ++ r → (∀ u ∈ r, Nd G.2.1.length u) → (∀ u ∈ r, u.1 ≤ 1400) → (∀ u ∈ r, ∀ c, u.2.2.2.1 = some c → c < s.2.2.1.length) → GC G S → WG S → CP tk s S → r.length < n → ∃ S', cP_findNames_2 N n (Int32.ofNat pre.length) S = some ((), S') ∧ eqX S S' ∧ match nFt G r with
    | none => CP tk (nAll G r s) S'
    | some p => CF p S'
  | _, _, _, _, 0, _, _, _, _, _, _, _, h => by omega
  | [], pre, s, S, n + 1, hu, _, _, _, _, _, h, _ => by
    have h7 := h.2.2.2.2.2.2
    rw [List.append_nil] at hu
    rw [cP_findNames_2, if_pos (by rw [h7.1, hu]; omega)]
    exact ⟨S, rfl, eqX.refl, h⟩
  | u :: r, pre, s, S, n + 1, hu, hd, hp, hc, hg, hW, h, hn => by
    have h7 := h.2.2.2.2.2.2
    have hlen : s.2.2.2.2.length = pre.length + (r.length + 1) := by rw [hu, List.length_append, List.length_cons]
    have hget : s.2.2.2.2[pre.length]? = some u := by rw [hu, List.getElem?_append_right (Nat.le_refl _), Nat.sub_self]; rfl
    obtain ⟨a1, a2, a3, a4⟩ := h7.2.2 _ _ hget
    obtain ⟨⟨nu1, nu2⟩, hp0⟩ := And.intro (hd u List.mem_cons_self) (hp u List.mem_cons_self)
    obtain ⟨p0, b, t, o, m⟩ := u
    obtain ⟨c, rfl⟩ := Option.ne_none_iff_exists'.mp nu1
    have hcl := hc _ List.mem_cons_self c rfl
    have a4 := a4 c rfl
    have l250 : pre.length < 250 := by have := h7.2.1; omega
    have w559 := h.2.2.2.2.2.1.2.1
    obtain ⟨d, hdc⟩ : ∃ d, s.2.2.1[c]? = some d := ⟨_, List.getElem?_eq_getElem hcl⟩
    have e7 : ∀ {α : Type} (l : List α), gI l (Int32.ofNat pre.length) = l[pre.length]? := fun l => gI_nat (by omega)
    have step : ∀ (s' : zP) (S1 : zS), s'.2.2.2.2 = s.2.2.2.2 → s'.2.2.1.length = s.2.2.1.length → CP tk s' S1 → eqX S S1 → ∃ S', cP_findNames_2 N n (Int32.ofNat pre.length + 1) S1 = some ((), S') ∧ eqX S S' ∧ match nFt G r with
        | none => CP tk (nAll G r s') S'
        | some p => CF p S' := by
      intro s' S1 q1 q2 q3 q4
      obtain ⟨S', r1, r2, r3⟩ := C_names hN r (pre ++ [(p0, b, t, some c, m)]) s' S1 n (by rw [q1, hu]; simp) (fun v hv => hd v (List.mem_cons_of_mem _ hv)) (fun v hv => hp v (List.mem_cons_of_mem _ hv)) (fun v hv c' hc' => by rw [q2]; exact hc v (List.mem_cons_of_mem _ hv) c' hc') (hg.eqX q4) (hW.eqX q4) q3 (by rw [List.length_cons] at hn; omega)
      rw [List.length_append, List.length_singleton, ← yi_add1] at r1
      exact ⟨S', r1, q4.trans r2, r3⟩
    rw [cP_findNames_2, if_neg (by rw [h7.1, hlen, yi_nat (by omega), yi_nat (by omega)]; omega), if_neg (nn h.2.1), e7, a3, zgs, e7, a2, zgs, find87_G hN nu2 hg hW, zbs, e7, a2, zgs, find86_G hN hg hW, zbs, e7, a4, zgs, nIx_take _ _ _ (by rw [List.length_map]; have := hg.2.1.2.1; omega)]
    have hgp := hg.1
    rcases nRes_cases (G := G) (b := b) (t := t) hgp.2.2.1 hg.2.1.2.1 with ⟨j, f1, f2, f3, f4, f5⟩ | ⟨f1, p, P, f2, f3, f4, f5⟩ | ⟨f1, f5, f2⟩
    · have f1' : nIx b (G.2.1.map Prod.fst) 0 ≠ -9 ∧ (nIx b (G.2.1.map Prod.fst) 0).toInt < (0 : Nat) + t := ⟨f1.1, by have := f1.2; omega⟩
      rw [if_pos f1', if_neg f1.1, f2]
      obtain ⟨k1, k2, k3⟩ := doing_G (x := 2) h hdc
      have hil : (sCd s c ((2, d.2) : Int32 × Int32)).2.2.1[c]? = some (2, d.2) := List.getElem?_set_self hcl
      obtain ⟨g1, g2, g3⟩ := with_G (x := Int32.ofNat j) k2 hil
      rw [if_pos k1, if_pos (show zok (zA S 31) (Int32.ofNat c) from g1)]
      obtain ⟨S', r1, r2, r3⟩ := step (nDo s (p0, b, t, some c, m) (true, j)) _ rfl (by show (s.2.2.1.set _ _).length = _; rw [List.length_set]) (by
        have hset : (s.2.2.1.set c (2, d.2)).set c (2, Int32.ofNat j) = s.2.2.1.set c (2, Int32.ofNat j) := List.set_set _
        have g2 : CP tk (s.1, s.2.1, (s.2.2.1.set c (2, d.2)).set c (2, Int32.ofNat j), s.2.2.2) _ := g2
        rw [hset] at g2
        exact g2.nodes) (k3.trans g3)
      refine ⟨S', r1, r2, ?_⟩
      rw [nFt, nAll]
      show match (if nRes G b t = none then some p0 else nFt G r) with | none => CP tk (nAll G r (match nRes G b t with | none => s | some x => nDo s (p0, b, t, some c, m) x)) S' | some p => CF p S'
      rw [f5, if_neg (by intro hh; cases hh)]
      exact r3
    · have f1' : ¬ (nIx b (G.2.1.map Prod.fst) 0 ≠ -9 ∧ (nIx b (G.2.1.map Prod.fst) 0).toInt < (0 : Nat) + t) := fun hh => f1 ⟨hh.1, by have := hh.2; omega⟩
      have hpl := (List.getElem?_eq_some_iff.mp f3).1
      have hpn : Int32.ofNat p ≠ -9 := by rw [Ne, xi32_eq, yi_nat (by omega), y_m9]; omega
      have ek := (hgp.2.2.2 p P f3).2.1
      have ans : cP_isAnswered N (Int32.ofNat p) S = some (1, S) := by
        unfold cP_isAnswered
        rw [if_neg (by rw [yi_nat (by omega)]; omega), if_neg (by rw [hgp.1, yi_nat (by omega), yi_nat (by omega)]; omega), gI_nat (by omega), ek, zgs, if_neg f4]
      rw [if_neg f1', if_pos rfl, f2, if_neg hpn, ans, zbs, if_neg (by decide), gI_nat (by omega)]
      obtain ⟨_, ed⟩ := h.2.2.2.2.2.1.2.2 c d hdc
      rw [ed, zgs]
      obtain ⟨g1, g2, g3⟩ := with_G (x := d.2 + Int32.ofNat p * 8) h hdc
      rw [if_pos g1]
      obtain ⟨S', r1, r2, r3⟩ := step (nDo s (p0, b, t, some c, m) (false, p)) _ rfl (by show (s.2.2.1.set _ _).length = _; rw [List.length_set]) (by
        have e : nDo s (p0, b, t, some c, m) (false, p) = (s.1, s.2.1, s.2.2.1.set c (d.1, d.2 + Int32.ofNat p * 8), s.2.2.2.1.set m (nNw (false, p) ((s.2.2.2.1[m]?).getD (0, 0, 0, 0))), s.2.2.2.2) := by
          show (s.1, s.2.1, s.2.2.1.set c (nCw (false, p) ((s.2.2.1[c]?).getD (0, 0))), _, _) = _
          rw [hdc]; rfl
        rw [e]
        have g2 : CP tk (s.1, s.2.1, s.2.2.1.set c (d.1, d.2 + Int32.ofNat p * 8), s.2.2.2) _ := g2
        exact g2.nodes) g3
      refine ⟨S', r1, r2, ?_⟩
      rw [nFt, nAll]
      show match (if nRes G b t = none then some p0 else nFt G r) with | none => CP tk (nAll G r (match nRes G b t with | none => s | some x => nDo s (p0, b, t, some c, m) x)) S' | some p => CF p S'
      rw [f5, if_neg (by intro hh; cases hh)]
      exact r3
    · have f1' : ¬ (nIx b (G.2.1.map Prod.fst) 0 ≠ -9 ∧ (nIx b (G.2.1.map Prod.fst) 0).toInt < (0 : Nat) + t) := fun hh => f1 ⟨hh.1, by have := hh.2; omega⟩
      have fin : ∃ S', cP_findNames_2 N n (Int32.ofNat pre.length + 1) (zsI S 6 (Int32.ofNat p0)) = some ((), S') ∧ eqX S S' ∧ CF p0 S' := by
        have hF : CF p0 (zsI S 6 (Int32.ofNat p0)) := ⟨h.1, hp0, rfl⟩
        refine ⟨zsI S 6 (Int32.ofNat p0), ?_, ⟨fun j _ h6 _ _ _ => by rw [zi_I, if_neg h6], fun _ _ _ _ _ _ => rfl, fun _ _ => rfl⟩, hF⟩
        obtain ⟨n, rfl⟩ : ∃ n', n = n' + 1 := ⟨n - 1, by rw [List.length_cons] at hn; omega⟩
        rw [cP_findNames_2]
        split
        · rfl
        · rw [if_pos hF.ne]
      obtain ⟨S', r1, r2, r3⟩ := fin
      refine ⟨S', ?_, r2, ?_⟩
      · rw [if_neg f1', if_pos rfl]
        rcases f2 with f2 | ⟨p, P, f2, f3, f4⟩
        · rw [f2, if_pos rfl, e7, a1, zgs]
          exact r1
        · have hpl := (List.getElem?_eq_some_iff.mp f3).1
          have hpn : Int32.ofNat p ≠ -9 := by rw [Ne, xi32_eq, yi_nat (by omega), y_m9]; omega
          have ek := (hgp.2.2.2 p P f3).2.1
          have ans : cP_isAnswered N (Int32.ofNat p) S = some (0, S) := by
            unfold cP_isAnswered
            rw [if_neg (by rw [yi_nat (by omega)]; omega), if_neg (by rw [hgp.1, yi_nat (by omega), yi_nat (by omega)]; omega), gI_nat (by omega), ek, zgs, if_pos f4]
          rw [f2, if_neg hpn, ans, zbs, if_pos rfl, e7, a1, zgs]
          exact r1
      · rw [nFt]
        show match (if nRes G b t = none then some p0 else nFt G r) with | none => _ | some p => CF p S'
        rw [f5, if_pos rfl]
        exact r3
end SETTLE
