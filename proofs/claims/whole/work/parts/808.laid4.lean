/-! THE DISK: a draft laid, the class -/
theorem flat_le {α : Type} {f : α → List Int32} {k : Nat} : ∀ (l : List α), (∀ x ∈ l, (f x).length ≤ k) → (l.flatMap f).length ≤ k * l.length
  | [], _ => by simp
  | a :: l, h => by
    have h1 := h a List.mem_cons_self
    have h2 := flat_le l (fun x hx => h x (List.mem_cons_of_mem _ hx))
    rw [List.flatMap_cons, List.length_append, List.length_cons, Nat.mul_add]
    omega
theorem obB_len {En : List (Int64 × Int32)} {y : yO} {p : Nat} (hk : yOk En y) : (obB p y).length ≤ 155 := by
  have hi : (obI y).length ≤ 150 := by
    unfold obI
    by_cases h4 : y.1 = 4
    · rw [if_pos h4]
      have l6 := (hk.2.1 h4).2.1
      have := flat_le (f := rwB) (k := 25) y.2.2 (fun q hq => rwB_len (fun l hl => (hk.2.1 h4).2.2 l (hl ▸ hq)))
      omega
    · rw [if_neg h4]
      have l12 := (hk.2.2.1 h4).2
      have := flat_le (f := itB y.1) (k := 8) y.2.1 (fun v _ => itB_len y.1 v)
      omega
  unfold obB
  rw [List.length_append, List.length_append, List.length_append, List.length_append, bts_len, bts_len, bts_len, bts_len]
  omega
/-- the bytes of a draft's answers from part p on, k parts -/
def drB (A : List (Option yO)) : Nat → Nat → List Int32
  | 0, _ => []
  | k + 1, p => (match anR A (Int32.ofNat p) with | none => [] | some y => obB p y) ++ drB A k (p + 1)
section LAID4
variable {As : List (Option zO)} {N : Nat} {Q : zS} {En : List (Int64 × Int32)} {F : yF} {A : List (Option yO)} {np : Int32}
theorem c_lay_5 (hN : 3200 < N) (hnp : np = Int32.ofNat F.1.length) (hl20 : F.1.length ≤ 20) (hA : aA En F A As) (hE : En.length ≤ 100) : ∀ (k p n : Nat) (S : zS) (bs : List Int32), p + k = F.1.length → k < n → bs.length ≤ 155 * p → KC Q S bs → ∃ S', cKd_lay_5 np As N n (Int32.ofNat p) S = some ((), S') ∧ KC Q S' (bs ++ drB A k p)
  | _, _, 0, _, _, _, hn, _, _ => by omega
  | 0, p, n + 1, S, bs, hp, _, _, hK => by
    rw [cKd_lay_5, if_pos (by rw [hnp, yi_nat (by omega), yi_nat (by omega)]; omega), drB, List.append_nil]
    exact ⟨S, rfl, hK⟩
  | k + 1, p, n + 1, S, bs, hp, hn, hb, hK => by
    obtain ⟨P, hP⟩ : ∃ P, F.1[p]? = some P := ⟨_, List.getElem?_eq_getElem (by omega)⟩
    obtain ⟨z, hz1, hz2⟩ := hA p P hP
    rw [cKd_lay_5, if_neg (by rw [hnp, yi_nat (by omega), yi_nat (by omega)]; omega), hz1, zgs, drB]
    rcases z with _ | o
    · rcases hy : anR A (Int32.ofNat p) with _ | y
      · show ∃ S', cKd_lay_5 np As N n (Int32.ofNat p + 1) S = _ ∧ KC Q S' (bs ++ ([] ++ drB A k (p + 1)))
        rw [List.nil_append, yi_add1]
        exact c_lay_5 hN hnp hl20 hA hE k (p + 1) n S bs (by omega) (by omega) (by omega) hK
      · rw [hy] at hz2; exact absurd hz2 id
    · rcases hy : anR A (Int32.ofNat p) with _ | y
      · rw [hy] at hz2; exact absurd hz2 id
      · rw [hy] at hz2
        obtain ⟨hc, hk⟩ := hz2
        obtain ⟨S1, e1, e2⟩ := c_row (np := np) (As := As) (N := N) (p := p) hN hc hk hE (by omega) hK
        have l := obB_len (p := p) hk
        obtain ⟨S', f1, f2⟩ := c_lay_5 hN hnp hl20 hA hE k (p + 1) n S1 (bs ++ obB p y) (by omega) (by omega) (by rw [List.length_append]; omega) e2
        refine ⟨S', ?_, ?_⟩
        · show (zg (some (some o)) fun z2 => (zo z2 (none) fun o2 => (zb (cKd_layRow np As N (Int32.ofNat p) o2 S) fun _ S4 => (cKd_lay_5 np As N n) (Int32.ofNat p + 1) S4))) = _
          rw [zgs]
          show (zb (cKd_layRow np As N (Int32.ofNat p) o S) fun _ S4 => (cKd_lay_5 np As N n) (Int32.ofNat p + 1) S4) = _
          rw [e1, zbs, yi_add1]
          exact f1
        · show KC Q S' (bs ++ (obB p y ++ drB A k (p + 1)))
          rw [← List.append_assoc]
          exact f2
/-- a draft laid -/
theorem c_layAll {S : zS} {bs : List Int32} (hN : 3200 < N) (hnp : np = Int32.ofNat F.1.length) (hl20 : F.1.length ≤ 20) (hA : aA En F A As) (hE : En.length ≤ 100) (hK : KC Q S bs) : ∃ S', cKd_lay np As N S = some ((), S') ∧ KC Q S' (drB A F.1.length 0) := by
  have hK0 : KC Q (zsI S 1 0) [] := ⟨rfl, hK.2.1, fun i b h => by simp at h, hK.2.2.2⟩
  obtain ⟨S', e1, e2⟩ := c_lay_5 (np := np) hN hnp hl20 hA hE F.1.length 0 N (zsI S 1 0) [] (by omega) (by omega) (by simp) hK0
  exact ⟨S', e1, by rw [List.nil_append] at e2; exact e2⟩
end LAID4
