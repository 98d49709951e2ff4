/-! CALLS OVER BLOCKS: form, the reference (3) -/
section FORMM4
variable {X : List Int32} {N B B2 B3 D2 Rm : List xE} {Fs : List yF} {t : List Int32} {a : Nat} {p : Nat → Nat} {S : zS} {fa : List Nat} {x : Int32}
theorem qf_go {Nf : Nat} (hNf : Nf = 1600) (hT : refTape t S) (hw : WM S) (l1 : (zA S 1).length = 1400) (hk : ¬ 10 ≤ Fs.length) (f1 : fa.length = Fs.length) (f4 : ∀ (i : Nat) F a, Fs[i]? = some F → fa[i]? = some a → yFM N a F) (hG : ∀ e ∈ zgQ a p, e ∈ N) (sN : N ⊆ D2) : yT X 800 17000 210 20 [some (.ref 209)] [] (zD zTQ (zaQ a p) S ((209, .inl (14, 9, .ref a)) :: (209, .inl (14, 10, .int x)) :: (209, .inl (14, 7, .int (Int32.ofNat Fs.length))) :: (211, .inr (8, fa.map Value.ref ++ List.replicate (10 - Fs.length) Value.null)) :: D2)) 0 0 (fun w D => w = some (.int (foV Fs t)) ∧ ∃ B' B2' B3' G', D.Perm (B' ++ (B2' ++ (B3' ++ (G' ++ D2)))) ∧ mTp [] B' ∧ mPs (G' ++ N) B2' ∧ mFs (foT Fs t) (G' ++ N) B3') := by
  have tn : (Int32.ofNat Fs.length).toInt = Fs.length := yi_nat (by omega)
  have hr := Q_formT (N := Nf) (by omega) (by omega) hT hw
  rw [foV, foT, if_neg hk, if_neg hk]
  cases hrf : rdForm t with
  | inl q =>
    rw [hrf] at hr
    obtain ⟨hq, S2, hS2, h6, h0⟩ := hr
    refine ((yForm_MF (N := Nf) (by omega) (by omega) (fun e he => sN (hG e he)) hS2 (by rw [h6, yi_nat (by omega)]; omega)).lens.mono (Nat.le_refl _) (Nat.le_refl _) ?_)
    rintro w D ⟨⟨rfl, rfl⟩, hx⟩
    have hw2 : WM S2 := WM_len hx hw
    have l2 : (zA S2 1).length = 1400 := ((zv_len hx (i := 1) (k := 2)).1 rfl).trans l1
    rw [h6]
    refine ⟨rfl, [(209, .inl (14, 1, .int 0)), (210, .inr (2, (zA S2 1).map Value.int))], (209, .inl (14, 9, .ref a)) :: (209, .inl (14, 10, .int 0)) :: zE (zaQ a p) S2 2 (zTQ.drop 2), [(209, .inl (14, 7, .int (Int32.ofNat Fs.length))), (211, .inr (8, fa.map Value.ref ++ List.replicate (10 - Fs.length) Value.null))], [], pq fun φ => ?_, ⟨zA S2 1, by show 0 + _ = _; omega, rfl⟩, .inl ⟨S2, a, p, rfl, hw2, hG⟩, fa, f1, (show Fs.length ≤ 10 by omega), rfl, f4⟩
    rw [mPs_out h0]
    simp only [cn_c, cn_a, cn_n]
    omega
  | inr gs =>
    obtain ⟨G, s⟩ := gs
    rw [hrf] at hr
    obtain ⟨S1, hS2, hrq, hgm⟩ := hr
    have hfl : (fa.map Value.ref ++ List.replicate (10 - Fs.length) Value.null).length = 10 := by
      rw [List.length_append, List.length_map, List.length_replicate]
      omega
    refine ((yForm_MG (N := Nf) (by omega) (by omega) (fun e he => sN (hG e he)) hS2 (by show (-9 : Int32).toInt < 0; decide) ⟨by rw [tn]; omega, by rw [tn, hfl]; omega⟩ ⟨_, sN (hG _ List.mem_cons_self)⟩).lens.mono (Nat.le_refl _) (Nat.le_refl _) ?_)
    rintro w D ⟨⟨rfl, rfl⟩, hx⟩
    have hw2 : WM (zsI (zsI S1 6 (-9)) 0 0) := WM_len hx hw
    have hw1 : WM S1 := hw2
    have l2 : (zA (zsI (zsI S1 6 (-9)) 0 0) 1).length = 1400 := ((zv_len hx (i := 1) (k := 2)).1 rfl).trans l1
    have hk1 : Int32.ofNat Fs.length + 1 = Int32.ofNat (Fs ++ [fF G s]).length := by
      rw [List.length_append, List.length_singleton, Int32.ofNat_add]
      rfl
    have e14 : zE (zaQ a p) (zsI (zsI S1 6 (-9)) 0 0) 14 (zTQ.drop 14) = zE (zaQ a p) S1 14 (zTQ.drop 14) := zE_same fun j t hj => by rw [zo_I j t (by omega), zo_I j t (by omega)]
    have hy := yFM_of (a := a) (p := p) hrq hgm hw1 hG
    obtain ⟨-, ⟨w1, w2, w3, w4⟩, -⟩ := id hw1
    refine ⟨by rw [Int32.add_sub_cancel], [(209, .inl (14, 1, .int 0)), (210, .inr (2, (zA (zsI (zsI S1 6 (-9)) 0 0) 1).map Value.int))], (209, .inl (14, 9, .ref a)) :: (209, .inl (14, 10, .int 1)) :: zE zaQ0 (zsI (zsI S1 6 (-9)) 0 0) 2 ((zTQ.take 14).drop 2), [(209, .inl (14, 7, .int (Int32.ofNat (Fs ++ [fF G s]).length))), (211, .inr (8, (fa ++ [a]).map Value.ref ++ List.replicate (10 - (Fs ++ [fF G s]).length) Value.null))], zE (zaQ a p) S1 14 (zTQ.drop 14), pq fun φ => ?_, ⟨zA (zsI (zsI S1 6 (-9)) 0 0) 1, by show 0 + _ = _; omega, rfl⟩, .inr ⟨zsI (zsI S1 6 (-9)) 0 0, a, rfl, w1, w2, w3, w4⟩, mFs_new hk f1 f4 (List.subset_append_right _ _) hy⟩
    rw [mPs_out (S := zsI (zsI S1 6 (-9)) 0 0) rfl, zQ_cut, e14, zQ_old, fl_new (F0 := fF G s) hk f1, hk1]
    simp only [cn_c, cn_a, cn_n]
    omega
end FORMM4
