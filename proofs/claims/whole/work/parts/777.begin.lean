/-! FINDINGS: the class, all of an inspection -/
theorem set_rep {l : List Int32} {i : Nat} (hl : l.length = 12) (hi : i < 12) (h : ∀ k, k < i → l[k]? = some 0) : ∀ k, k < i + 1 → (l.set i 0)[k]? = some 0 := by
  intro k hk
  by_cases e : k = i
  · subst e
    rw [List.getElem?_set_self (by omega)]
  · rw [List.getElem?_set_ne (by omega)]
    exact h k (by omega)
theorem zsA_same {S : zS} {i : Nat} {v : List Int32} (h : zA S i = v) : zsA S i v = S := by
  obtain ⟨a, b, c, d, e, f⟩ := S
  show (a, b, c, zup d i v, e, f) = (a, b, c, d, e, f)
  have : zup d i v = d := by
    funext j
    unfold zup
    split
    · rename_i hj; subst hj; exact h.symm
    · rfl
  rw [this]
theorem zsA_twice {S : zS} {i : Nat} {u v : List Int32} : zsA (zsA S i u) i v = zsA S i v := by
  obtain ⟨a, b, c, d, e, f⟩ := S
  show (a, b, c, zup (zup d i u) i v, e, f) = (a, b, c, zup d i v, e, f)
  have : zup (zup d i u) i v = zup d i v := by
    funext j
    unfold zup
    split
    · rfl
    · rfl
  rw [this]
theorem beg_17 {N : Nat} : ∀ (n i : Nat) (S : zS), 12 < n + i → i ≤ 12 → (zA S 12).length = 12 → (∀ k, k < i → (zA S 12)[k]? = some 0) → ∃ m, cB_begin_17 N n (Int32.ofNat i) S = some ((), zsI (zsA S 12 m) 1 0) ∧ m.length = 12 ∧ ∀ k, k < 12 → m[k]? = some 0
  | 0, i, _, h, h2, _, _ => by omega
  | n + 1, i, S, h, hi, hl, hz => by
    rw [cB_begin_17]
    by_cases h12 : i = 12
    · subst h12
      rw [if_pos (by decide)]
      refine ⟨zA S 12, ?_, hl, hz⟩
      rw [zsA_same rfl]
    · rw [if_neg (by rw [yi_nat (by omega)]; omega), if_pos (zok_nat (by omega) (by omega)), zs_nat (by omega), yi_add1]
      obtain ⟨m, e1, e2, e3⟩ := beg_17 n (i + 1) (zsA S 12 ((zA S 12).set i 0)) (by omega) (by omega) (by show ((zA S 12).set i 0).length = 12; rw [List.length_set]; exact hl) (set_rep hl (by omega) hz)
      exact ⟨m, by rw [e1, zsA_twice], e2, e3⟩
theorem C_begin {N : Nat} {S : zS} {w : yW} (hN : 12 < N) (h : W0 S w) : ∃ S', cB_begin N S = some ((), S') ∧ W0 S' (w0R w.1) ∧ frC S S' ∧ zI S' 1 = 0 := by
  obtain ⟨R, ⟨a1, a2, a3, a4, a5, _⟩, b, c, ⟨⟨d1, d2, d3, d4⟩, ml, mm⟩⟩ := h
  obtain ⟨m, e1, e2, e3⟩ := beg_17 (N := N) N 0 (zsI (zsI (zsI S 4 0) 5 0) 6 0) (by omega) (by omega) d1 (fun k hk => absurd hk (by omega))
  refine ⟨_, e1, ⟨S, ⟨a1, rfl, rfl, rfl, a5, frC.rf⟩, b, c, ⟨⟨e2, d2, d3, d4⟩, rfl, ?_⟩⟩, frC.rf, rfl⟩
  intro i x hx
  have hi := (List.getElem?_eq_some_iff.mp hx).1
  have hi : i < 12 := hi
  have : x = none := by
    have h2 : (List.replicate 12 (none : Option yR))[i]? = some x := hx
    rw [List.getElem?_replicate, if_pos hi] at h2
    cases h2; rfl
  subst this
  exact e3 i hi
section INSPALL
variable {gi : Nat → Int32} {ga : Nat → List Int32} {As : List (Option zO)} {ne : Int32} {am : List Int64} {N : Nat} {Q S : zS} {En : List (Int64 × Int32)} {F : yF} {A : List (Option yO)} {w : yW} {sh : List Bool} {fd : List yFd}
theorem insp_118 {K : Nat} (hKe : K = 300) (hF : fC2 F gi ga) (hok : yFok F) (hA : aA En F A As) (hE : eC En ne am) (hN : 1000 < N) (hW : W0 S w) (h : insC118 Q S sh fd) : ∃ S', cE_inspect_118 gi ga As ne am N S = some (Int32.ofNat (inspR F A En K w.1).2.2.length, S') ∧ W0 S' (inspR F A En K w.1).1 ∧ insC118 Q S' (inspR F A En K w.1).2.1 (inspR F A En K w.1).2.2 ∧ (inspR F A En K w.1).2.2.length ≤ 32 := by
  have hW1 : W0 (zsI S 16 0) w := W0.same (S := S) ⟨rfl, rfl, rfl, rfl, rfl⟩ ⟨rfl, rfl⟩ ⟨rfl, rfl, rfl⟩ ⟨rfl, rfl, rfl, rfl⟩ hW
  obtain ⟨S1, e1, e2, e3, _⟩ := C_begin (N := N) (by omega) hW1
  have i1 : insC118 Q (zsI S 16 0) [] [] := by
    obtain ⟨_, l, _, _, o⟩ := h
    exact ⟨rfl, l, fun i f hf => by simp at hf, fun i b hb => by simp at hb, o⟩
  have i2 := insC118.fr e3 i1
  have hok' := hok
  obtain ⟨_, _, _, _, _, hl20, _, hc12, _⟩ := hok'
  obtain ⟨S2, f1, f2, f3, f4⟩ := parts_118 hKe hF hok hA hE hN F.1 [] N S1 (w0R w.1, [], []) rfl (by omega) e2 i2 rfl (by simp)
  obtain ⟨S3, g1, g2, g3, g4⟩ := chks_118 hKe hF hok hA hE hN F.2.2.1 [] N S2 (ipParts F A En K 0 F.1 (w0R w.1, [], [])) rfl (by omega) f2 f3 (by simpa using f4)
  refine ⟨S3, ?_, g2, g3, g4⟩
  rw [cE_inspect_118, e1, zbs]
  exact f1.trans g1
theorem insp_175 {K : Nat} (hKe : K = 300) (hF : fC2 F gi ga) (hok : yFok F) (hA : aA En F A As) (hE : eC En ne am) (hN : 1000 < N) (hW : W0 S w) (h : insC175 Q S sh fd) : ∃ S', cE_inspect_175 gi ga As ne am N S = some (Int32.ofNat (inspR F A En K w.1).2.2.length, S') ∧ W0 S' (inspR F A En K w.1).1 ∧ insC175 Q S' (inspR F A En K w.1).2.1 (inspR F A En K w.1).2.2 ∧ (inspR F A En K w.1).2.2.length ≤ 32 := by
  have hW1 : W0 (zsI S 23 0) w := W0.same (S := S) ⟨rfl, rfl, rfl, rfl, rfl⟩ ⟨rfl, rfl⟩ ⟨rfl, rfl, rfl⟩ ⟨rfl, rfl, rfl, rfl⟩ hW
  obtain ⟨S1, e1, e2, e3, _⟩ := C_begin (N := N) (by omega) hW1
  have i1 : insC175 Q (zsI S 23 0) [] [] := by
    obtain ⟨_, l, _, _, o⟩ := h
    exact ⟨rfl, l, fun i f hf => by simp at hf, fun i b hb => by simp at hb, o⟩
  have i2 := insC175.fr e3 i1
  have hok' := hok
  obtain ⟨_, _, _, _, _, hl20, _, hc12, _⟩ := hok'
  obtain ⟨S2, f1, f2, f3, f4⟩ := parts_175 hKe hF hok hA hE hN F.1 [] N S1 (w0R w.1, [], []) rfl (by omega) e2 i2 rfl (by simp)
  obtain ⟨S3, g1, g2, g3, g4⟩ := chks_175 hKe hF hok hA hE hN F.2.2.1 [] N S2 (ipParts F A En K 0 F.1 (w0R w.1, [], [])) rfl (by omega) f2 f3 (by simpa using f4)
  refine ⟨S3, ?_, g2, g3, g4⟩
  rw [cE_inspect_175, e1, zbs]
  exact f1.trans g1
end INSPALL
