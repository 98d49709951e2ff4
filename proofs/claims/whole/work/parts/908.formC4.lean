/-! CALLS OVER BLOCKS: form, the class (4) -/
section FORMC4
variable {X : List Int32} {N B B2 B3 Rm : List xE} {Fs : List yF} {t : List Int32} {a n : Nat} {p m : Nat → Nat} {S2 : zS} {tk : List zK} {G : zG} {s : zP}
theorem WL_new (hcp : CP tk s S2) (hwg : WG S2) : WL (zNwC S2) := by
  obtain ⟨⟨⟨p1, p2, p3⟩, ⟨p4, p5, p6, p7⟩, -⟩, -⟩ := hcp
  obtain ⟨⟨q1, -⟩, ⟨q2, -⟩, -⟩ := hwg
  have e20 : ∀ i, 14 ≤ i → i ≤ 21 → (zA (zNwC S2) i).length = 20 := fun i h1 h2 => by
    show (if i < 14 then zA S2 i else if i ≤ 21 then List.replicate 20 0 else if i ≤ 26 then List.replicate 12 0 else List.replicate 560 0).length = 20
    rw [if_neg (by omega), if_pos h2, List.length_replicate]
  have e12 : ∀ i, 22 ≤ i → i ≤ 26 → (zA (zNwC S2) i).length = 12 := fun i h1 h2 => by
    show (if i < 14 then zA S2 i else if i ≤ 21 then List.replicate 20 0 else if i ≤ 26 then List.replicate 12 0 else List.replicate 560 0).length = 12
    rw [if_neg (by omega), if_neg (by omega), if_pos h2, List.length_replicate]
  have e56 : ∀ i, 27 ≤ i → (zA (zNwC S2) i).length = 560 := fun i h1 => by
    show (if i < 14 then zA S2 i else if i ≤ 21 then List.replicate 20 0 else if i ≤ 26 then List.replicate 12 0 else List.replicate 560 0).length = 560
    rw [if_neg (by omega), if_neg (by omega), if_neg (by omega), List.length_replicate]
  have eo : ∀ i, i < 14 → zA (zNwC S2) i = zA S2 i := fun i h => if_pos h
  refine ⟨⟨?_, ?_, p3⟩, ⟨?_, p5, ?_, ?_⟩, ⟨e56 30 (by omega), e56 31 (by omega)⟩, ⟨q1, e20 15 (by omega) (by omega), e20 16 (by omega) (by omega), e20 17 (by omega) (by omega), e20 18 (by omega) (by omega), e20 19 (by omega) (by omega), e20 20 (by omega) (by omega), e20 21 (by omega) (by omega)⟩, q2, e12 23 (by omega) (by omega), e12 25 (by omega) (by omega), e12 26 (by omega) (by omega)⟩
  · rw [eo 2 (by omega)]; exact p1
  · rw [eo 3 (by omega)]; exact p2
  · rw [eo 10 (by omega)]; exact p4
  · rw [eo 12 (by omega)]; exact p6
  · rw [eo 13 (by omega)]; exact p7
theorem zE_cut1 : zE (zaP a p) S2 2 (zTP.drop 2) = zE (zaP a p) S2 2 ((zTP.drop 2).take 12) ++ zE (zaP a p) S2 14 (zTP.drop 14) := rfl
end FORMC4
