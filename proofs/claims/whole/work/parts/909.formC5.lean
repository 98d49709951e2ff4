/-! CALLS OVER BLOCKS: form, the class (5) -/
section FORMC5
variable {X : List Int32} {N B B2 B3 Rm : List xE} {Fs : List yF} {t : List Int32} {a n : Nat} {p m : Nat → Nat} {S2 : zS} {tk : List zK} {G : zG} {s : zP} {fa : List Nat}
theorem zaP_old : ∀ j, j < 14 → zaP n m j = zaP a p j
  | 0, _ => rfl
  | 1, _ => rfl
  | 2, _ => rfl
  | 3, _ => rfl
  | 4, _ => rfl
  | 5, _ => rfl
  | 6, _ => rfl
  | 7, _ => rfl
  | 8, _ => rfl
  | 9, _ => rfl
  | 10, _ => rfl
  | 11, _ => rfl
  | 12, _ => rfl
  | 13, _ => rfl
  | _ + 14, h => absurd h (by omega)
theorem zE_eq {ad ad2 : Nat → Nat} {S S' : zS} : ∀ {T : List (Nat × Nat × Nat)} {i : Nat}, (∀ j t, i ≤ j → j < i + T.length → zent S' ad2 j t = zent S ad j t) → zE ad2 S' i T = zE ad S i T
  | [], _, _ => rfl
  | t0 :: r, i, h => by
    unfold zE
    rw [h i t0 (Nat.le_refl _) (by rw [List.length_cons]; omega), zE_eq (T := r) (i := i + 1) (fun j t hj hj2 => h j t (by omega) (by rw [List.length_cons]; omega))]
theorem zE_old : zE (zaP n m) (zNwC S2) 2 ((zTP.drop 2).take 12) = zE (zaP a p) S2 2 ((zTP.drop 2).take 12) := by
  refine zE_eq fun j t h1 h2 => ?_
  have hl : ((zTP.drop 2).take 12).length = 12 := rfl
  have h14 : j < 14 := by omega
  have eI : zI (zNwC S2) j = zI S2 j := if_pos h14
  have eA : zA (zNwC S2) j = zA S2 j := if_pos h14
  have eB : zB (zNwC S2) j = zB S2 j := rfl
  have eJ : zJ (zNwC S2) j = zJ S2 j := rfl
  have eR : zR (zNwC S2) j = zR S2 j := rfl
  have eV : zV (zNwC S2) j = zV S2 j := rfl
  unfold zent
  rw [eI, eA, eB, eJ, eR, eV, zaP_old (a := a) (p := p) j h14]
theorem cFs_new (hf : ¬ 10 ≤ Fs.length) (f1 : fa.length = Fs.length) (f4 : ∀ (i : Nat) F a, Fs[i]? = some F → fa[i]? = some a → yFC N a F) {M : List xE} (sM : N ⊆ M) {F0 : yF} (hF0 : yFC M a F0) : cFs (Fs ++ [F0]) M [(78, .inl (11, 3, .int (Int32.ofNat (Fs ++ [F0]).length))), (92, .inr (5, (fa ++ [a]).map Value.ref ++ List.replicate (10 - (Fs ++ [F0]).length) Value.null))] := by
  refine ⟨fa ++ [a], by rw [List.length_append, List.length_append, f1]; rfl, by rw [List.length_append, List.length_singleton]; omega, rfl, fun i F b hF hbb => ?_⟩
  by_cases ei : Fs.length = i
  · subst ei
    rw [List.getElem?_append_right (Nat.le_refl _), Nat.sub_self] at hF
    rw [← f1, List.getElem?_append_right (Nat.le_refl _), Nat.sub_self] at hbb
    injection hF with hF
    injection hbb with hbb
    subst hF
    subst hbb
    exact hF0
  · have hil : i < Fs.length := by
      have := (List.getElem?_eq_some_iff.mp hF).1
      rw [List.length_append, List.length_singleton] at this
      omega
    rw [List.getElem?_append_left hil] at hF
    rw [List.getElem?_append_left (by omega)] at hbb
    exact (f4 i F b hF hbb).mono sM
theorem fl_new (hf : ¬ 10 ≤ Fs.length) (f1 : fa.length = Fs.length) {F0 : yF} : (fa.map Value.ref ++ List.replicate (10 - Fs.length) Value.null).set (Int32.ofNat Fs.length).toInt.toNat (.ref a) = (fa ++ [a]).map Value.ref ++ List.replicate (10 - (Fs ++ [F0]).length) Value.null := by
  rw [yi_toNat (by omega), ← f1, List.set_append_right _ _ (by rw [List.length_map]; omega), List.length_map, Nat.sub_self, List.map_append, List.length_append, List.length_singleton, ← f1, show 10 - fa.length = (10 - (fa.length + 1)) + 1 by omega, List.replicate_succ, List.append_assoc]
  rfl
theorem new_cn {φ : xE → Nat} {L : List xE} : cn φ (fcN n m ++ zD zTP (zaP a p) (zsI S2 0 0) L) = φ (79, .inl (9, 1, .int 0)) + φ (80, .inr (0, (zA S2 1).map Value.int)) + cn φ (zE (zaP n m) (zNwC S2) 2 (zTP.drop 2)) + cn φ (zE (zaP a p) S2 14 (zTP.drop 14)) + cn φ (zgP n m) + cn φ L := by
  rw [cn_a, cPs_out, fcN_cn (S := S2), zE_cut1 (a := a) (p := p) (S2 := S2), zE_cut1 (a := n) (p := m) (S2 := zNwC S2), zE_old (a := a) (p := p), cn_a, cn_a]
  omega
end FORMC5
