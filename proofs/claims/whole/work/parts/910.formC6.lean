/-! CALLS OVER BLOCKS: form, the class (6) -/
section FORMC6
variable {X : List Int32} {N B B2 B3 Rm : List xE} {Fs : List yF} {t : List Int32} {G : zG} {s : zP}
theorem oC_formB {Nf : Nat} (hNf : Nf = 1600) (hk : ¬ 10 ≤ Fs.length) (hrf : rdForm t = .inr (G, s)) (hb : byR t) (h1 : cTp t B) (h2 : cPs N B2) (h3 : cFs Fs N B3) (sN : N ⊆ Rm) : yK X 500 10000 25 [.ref 78] (B ++ (B2 ++ (B3 ++ Rm))) 13 1315 (fun w D => w = some (.int (Int32.ofNat Fs.length)) ∧ ∃ B' B2' B3' G', D.Perm (B' ++ (B2' ++ (B3' ++ (G' ++ Rm)))) ∧ cTp [] B' ∧ cPs (G' ++ N) B2' ∧ cFs (Fs ++ [fF G s]) (G' ++ N) B3') := by
  obtain ⟨r, hl, rfl⟩ := h1
  obtain ⟨S, a, p, uu, rfl, hw, hG⟩ := h2
  obtain ⟨fa, f1, f2, rfl, f4⟩ := h3
  refine yK.perm cPs_in ?_
  have hw0 : WL (zsA (zsI S 0 (Int32.ofNat t.length)) 1 (t ++ r)) := hw
  have tn : (Int32.ofNat Fs.length).toInt = Fs.length := yi_nat (by omega)
  have hr := C_read (N := Nf) (by omega) (by omega) (t := t) (jk := r) (S := zsA (zsI S 0 (Int32.ofNat t.length)) 1 (t ++ r)) (by omega) hb rfl rfl hw0
  rw [hrf] at hr
  obtain ⟨S2, hS2, hcp, hgc, hwg⟩ := hr
  have hfl : (fa.map Value.ref ++ List.replicate (10 - Fs.length) Value.null).length = 10 := by
    rw [List.length_append, List.length_map, List.length_replicate]
    omega
  refine ((yForm_C3 (N := Nf) (by rw [tn]; omega) (by omega) (by omega) (fun e he => sN (hG e he)) ⟨by rw [tn]; omega, by rw [tn, hfl]; omega⟩ ⟨_, sN (hG _ List.mem_cons_self)⟩ hS2).lens.mono (Nat.le_refl _) (Nat.le_refl _) ?_)
  rintro w D ⟨⟨n, m, rfl, rfl⟩, hx⟩
  have l1 : (zA S2 1).length = 1400 := by
    have a1 := zD_at (T := zTP) (ad := zaP a p) (S := zsA (zsI S 0 (Int32.ofNat t.length)) 1 (t ++ r)) (D0 := (85, .inl (7, 1, uu)) :: (78, .inl (11, 3, .int (Int32.ofNat Fs.length))) :: (78, .inl (11, 4, .ref a)) :: (92, .inr (5, fa.map Value.ref ++ List.replicate (10 - Fs.length) Value.null)) :: Rm) (k := 1) rfl
    have a2 := zD_at (T := zTP) (ad := zaP a p) (S := zsI S2 0 0) (D0 := (85, .inl (7, 1, .ref a)) :: (78, .inl (11, 3, .int (Int32.ofNat Fs.length + 1))) :: (78, .inl (11, 4, .ref n)) :: (92, .inr (5, (fa.map Value.ref ++ List.replicate (10 - Fs.length) Value.null).set (Int32.ofNat Fs.length).toInt.toNat (.ref a))) :: Rm) (k := 1) rfl
    have := (hx _ _ _ _ _ (List.mem_of_getElem? a1) (List.mem_append_right _ (List.mem_of_getElem? a2))).1
    rw [List.length_map, List.length_map] at this
    rw [show zA (zsI S2 0 0) 1 = zA S2 1 from rfl] at this
    rw [this]
    show (t ++ r).length = 1400
    rw [List.length_append]
    exact hl
  have hk1 : Int32.ofNat Fs.length + 1 = Int32.ofNat (Fs ++ [fF G s]).length := by
    rw [List.length_append, List.length_singleton, Int32.ofNat_add]
    rfl
  have hy : yFC ((zE (zaP a p) S2 14 (zTP.drop 14) ++ zgP n m) ++ N) a (fF G s) := (yFC_of hcp hgc hwg hG).mono (fun e he => by
    rcases List.mem_append.mp he with he | he
    · exact List.mem_append_left _ (List.mem_append_left _ he)
    · exact List.mem_append_right _ he)
  refine ⟨by rw [Int32.add_sub_cancel], [(79, .inl (9, 1, .int 0)), (80, .inr (0, (zA S2 1).map Value.int))], (85, .inl (7, 1, .ref a)) :: (78, .inl (11, 4, .ref n)) :: zE (zaP n m) (zNwC S2) 2 (zTP.drop 2), [(78, .inl (11, 3, .int (Int32.ofNat (Fs ++ [fF G s]).length))), (92, .inr (5, (fa ++ [a]).map Value.ref ++ List.replicate (10 - (Fs ++ [fF G s]).length) Value.null))], zE (zaP a p) S2 14 (zTP.drop 14) ++ zgP n m, pq fun φ => ?_, ⟨zA S2 1, by show 0 + _ = _; omega, rfl⟩, ⟨zNwC S2, n, m, .ref a, rfl, WL_new hcp hwg, fun e he => List.mem_append_left _ (List.mem_append_right _ he)⟩, cFs_new hk f1 f4 (List.subset_append_right _ _) hy⟩
  rw [new_cn, fl_new (F0 := fF G s) hk f1, hk1]
  simp only [cn_c, cn_a, cn_n]
  omega
theorem oC_form (hb : byR t) (h1 : cTp t B) (h2 : cPs N B2) (h3 : cFs Fs N B3) (sN : N ⊆ Rm) : yK X 500 10000 25 [.ref 78] (B ++ (B2 ++ (B3 ++ Rm))) 13 1315 (fun w D => w = some (.int (foV Fs t)) ∧ ∃ B' B2' B3' G, D.Perm (B' ++ (B2' ++ (B3' ++ (G ++ Rm)))) ∧ cTp [] B' ∧ cPs (G ++ N) B2' ∧ cFs (foT Fs t) (G ++ N) B3') := by
  by_cases hk : 10 ≤ Fs.length
  · exact oC_formA rfl (.inl hk) hb h1 h2 h3 sN
  · cases hrf : rdForm t with
    | inl q => exact oC_formA rfl (.inr ⟨q, hrf⟩) hb h1 h2 h3 sN
    | inr gs =>
      rw [foV, foT, if_neg hk, if_neg hk, hrf]
      exact oC_formB rfl hk hrf hb h1 h2 h3 sN
end FORMC6
