/-! CALLS OVER BLOCKS: form, the class (3) -/
section FORMC3
variable {X : List Int32} {N B B2 B3 Rm : List xE} {Fs : List yF} {t : List Int32}
theorem oC_formA {Nf : Nat} (hNf : Nf = 1600) (hc : 10 ≤ Fs.length ∨ ∃ q, rdForm t = .inl q) (hb : byR t) (h1 : cTp t B) (h2 : cPs N B2) (h3 : cFs Fs N B3) (sN : N ⊆ Rm) : yK X 500 10000 25 [.ref 78] (B ++ (B2 ++ (B3 ++ Rm))) 13 1315 (fun w D => w = some (.int (foV Fs t)) ∧ ∃ B' B2' B3' G, D.Perm (B' ++ (B2' ++ (B3' ++ (G ++ Rm)))) ∧ cTp [] B' ∧ cPs (G ++ N) B2' ∧ cFs (foT Fs t) (G ++ N) B3') := by
  have h30 := h3
  obtain ⟨r, hl, rfl⟩ := h1
  obtain ⟨S, a, p, uu, rfl, hw, hG⟩ := h2
  obtain ⟨fa, f1, f2, rfl, f4⟩ := h3
  refine yK.perm cPs_in ?_
  have hw0 : WL (zsA (zsI S 0 (Int32.ofNat t.length)) 1 (t ++ r)) := hw
  have e3 : zE (zaP a p) (zsA (zsI S 0 (Int32.ofNat t.length)) 1 (t ++ r)) 2 (zTP.drop 2) = zE (zaP a p) S 2 (zTP.drop 2) := zE_same fun j t hj => by rw [zo_A j t (by omega), zo_I j t (by omega)]
  have tn : (Int32.ofNat Fs.length).toInt = Fs.length := yi_nat (by omega)
  by_cases hk : 10 ≤ Fs.length
  · rw [foV, foT, if_pos hk, if_pos hk]
    refine ((yForm_C1 (by rw [tn]; omega)).mono (Nat.zero_le _) (Nat.zero_le _) ?_)
    rintro w D ⟨rfl, rfl⟩
    refine ⟨rfl, [(79, .inl (9, 1, .int 0)), (80, .inr (0, (t ++ r).map Value.int))], (85, .inl (7, 1, uu)) :: (78, .inl (11, 4, .ref a)) :: zE (zaP a p) S 2 (zTP.drop 2), [(78, .inl (11, 3, .int (Int32.ofNat Fs.length))), (92, .inr (5, fa.map Value.ref ++ List.replicate (10 - Fs.length) Value.null))], [], pq fun φ => ?_, ⟨t ++ r, by rw [List.length_append]; show 0 + _ = _; omega, rfl⟩, ⟨S, a, p, uu, rfl, hw, hG⟩, h30⟩
    rw [cPs_out, e3]
    show _ + φ (80, .inr (0, (t ++ r).map Value.int)) + _ + _ = _
    simp only [cn_c, cn_a, cn_n]
    omega
  · have hr := C_read (N := Nf) (by omega) (by omega) (t := t) (jk := r) (S := zsA (zsI S 0 (Int32.ofNat t.length)) 1 (t ++ r)) (by omega) hb rfl rfl hw0
    rw [foV, foT, if_neg hk, if_neg hk]
    cases hrf : rdForm t with
    | inl q =>
      rw [hrf] at hr
      obtain ⟨hq, S2, hS2⟩ := hr
      have hne : Int32.ofNat q ≠ -9 := fun h => by
        have := congrArg Int32.toInt h
        rw [yi_nat (by omega), show (-9 : Int32).toInt = -9 from rfl] at this
        omega
      refine ((yForm_C2 (N := Nf) (by rw [tn]; omega) (by omega) (by omega) (fun e he => sN (hG e he)) hS2 hne).lens.mono (Nat.zero_le _) (Nat.zero_le _) ?_)
      rintro w D ⟨⟨rfl, rfl⟩, hx⟩
      have hw2 : WL (zsI S2 0 0) := WL_len hx hw0
      have hw2 : WL S2 := hw2
      have l1 : (zA S2 1).length = 1400 := ((zv_len hx (i := 1) (k := 0)).1 rfl).trans (by show (t ++ r).length = 1400; rw [List.length_append]; exact hl)
      refine ⟨rfl, [(79, .inl (9, 1, .int 0)), (80, .inr (0, (zA S2 1).map Value.int))], (85, .inl (7, 1, .ref a)) :: (78, .inl (11, 4, .ref a)) :: zE (zaP a p) S2 2 (zTP.drop 2), [(78, .inl (11, 3, .int (Int32.ofNat Fs.length))), (92, .inr (5, fa.map Value.ref ++ List.replicate (10 - Fs.length) Value.null))], [], pq fun φ => ?_, ⟨zA S2 1, by show 0 + _ = _; omega, rfl⟩, ⟨S2, a, p, .ref a, rfl, hw2, hG⟩, h30⟩
      rw [cPs_out]
      simp only [cn_c, cn_a, cn_n]
      omega
    | inr gs =>
      rcases hc with hc | ⟨q, hc⟩
      · exact absurd hc hk
      · rw [hrf] at hc
        cases hc
end FORMC3
