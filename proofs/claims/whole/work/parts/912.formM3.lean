/-! CALLS OVER BLOCKS: form, the reference (2) -/
theorem xW.la {fr lo mi ip : Nat} {L : xL} {st : List Value} {h h' : xH} {v : Option Value} (w : xW fr lo mi ip L st h v h') : xla h h' := by
  obtain ⟨f, e⟩ := w
  exact xmonoA _ _ _ _ _ _ _ _ _ _ e
theorem yT.lens {X : List Int32} {fr lo mi ip c s : Nat} {L : xL} {st : List Value} {D : List xE} {Q : Option Value → List xE → Prop} (w : yT X fr lo mi ip L st D c s Q) : yT X fr lo mi ip L st D c s (fun v D' => Q v D' ∧ xln D D') := by
  intro h H
  obtain ⟨v, h', D', q1, q2, q3, q4, q5⟩ := w h H
  refine ⟨v, h', D', q1, q2, q3, q4, q5, ?_⟩
  intro k t l t' l' m1 m2
  have e1 : h[k]? = some (.inr (t, l)) := H.2.1 _ (List.mem_append_left _ m1)
  have e2 : h'[k]? = some (.inr (t', l')) := q2.2.1 _ (List.mem_append_left _ m2)
  obtain ⟨d, d1, d2⟩ := q1.la k _ e1
  rw [e2] at d1
  cases d1
  simp only [xshp, Prod.mk.injEq, true_and] at d2
  exact ⟨d2.2, d2.1⟩
section FORMM3
variable {X : List Int32} {N B B2 B3 D2 Rm : List xE} {Fs : List yF} {t : List Int32} {a : Nat} {p : Nat → Nat} {S : zS} {fa : List Nat}
theorem mFs_new {M : List xE} {F0 : yF} (hf : ¬ 10 ≤ Fs.length) (f1 : fa.length = Fs.length) (f4 : ∀ (i : Nat) F a, Fs[i]? = some F → fa[i]? = some a → yFM N a F) (sM : N ⊆ M) (hF0 : yFM M a F0) : mFs (Fs ++ [F0]) M [(209, .inl (14, 7, .int (Int32.ofNat (Fs ++ [F0]).length))), (211, .inr (8, (fa ++ [a]).map Value.ref ++ List.replicate (10 - (Fs ++ [F0]).length) Value.null))] := by
  refine ⟨fa ++ [a], by rw [List.length_append, List.length_append, f1]; rfl, by rw [List.length_append, List.length_singleton]; omega, rfl, fun i F b hF hbb => ?_⟩
  by_cases ei : Fs.length = i
  · subst ei
    rw [List.getElem?_append_right (Nat.le_refl _), Nat.sub_self] at hF
    rw [← f1, List.getElem?_append_right (Nat.le_refl _), Nat.sub_self] at hbb
    injection hF with hF
    injection hbb with hbb
    subst hF
    subst hbb
    exact hF0
  · have hil : i < Fs.length := by
      have := (List.getElem?_eq_some_iff.mp hF).1
      rw [List.length_append, List.length_singleton] at this
      omega
    rw [List.getElem?_append_left hil] at hF
    rw [List.getElem?_append_left (by omega)] at hbb
    exact (f4 i F b hF hbb).mono sM
theorem zQ_cut : zE (zaQ a p) S 2 (zTQ.drop 2) = zE (zaQ a p) S 2 ((zTQ.drop 2).take 12) ++ zE (zaQ a p) S 14 (zTQ.drop 14) := rfl
theorem zaQ_old {b : Nat} {q : Nat → Nat} : ∀ j, j < 14 → zaQ a p j = zaQ b q j
  | 0, _ => rfl
  | 1, _ => rfl
  | 2, _ => rfl
  | 3, _ => rfl
  | 4, _ => rfl
  | 5, _ => rfl
  | 6, _ => rfl
  | 7, _ => rfl
  | 8, _ => rfl
  | 9, _ => rfl
  | 10, _ => rfl
  | 11, _ => rfl
  | 12, _ => rfl
  | 13, _ => rfl
  | _ + 14, h => absurd h (by omega)
theorem zQ_old : zE (zaQ a p) S 2 ((zTQ.drop 2).take 12) = zE zaQ0 S 2 ((zTQ.take 14).drop 2) := by
  have e : (zTQ.take 14).drop 2 = (zTQ.drop 2).take 12 := rfl
  rw [e]
  refine zE_eq fun j t h1 h2 => ?_
  have hl : ((zTQ.drop 2).take 12).length = 12 := rfl
  have h14 : j < 14 := by omega
  unfold zent
  rw [show zaQ0 j = zaQ a p j from zaQ_old j h14]
end FORMM3
