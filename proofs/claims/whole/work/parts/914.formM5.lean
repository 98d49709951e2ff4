/-! CALLS OVER BLOCKS: form, the reference (4) -/
section FORMM5
variable {X : List Int32} {N B B2 B3 D2 Rm : List xE} {Fs : List yF} {t : List Int32} {a : Nat} {p : Nat → Nat} {S : zS} {fa : List Nat} {x : Int32}
theorem WM_new (h1 : (zB S 10).length = 252) (h2 : (zA S 11).length = 252) (h3 : (zA S 12).length = 252) (h4 : (zA S 13).length = 252) : WM (zNew S) := by
  have A2 : ∀ i, ¬ i < 14 → i ≤ 22 → (zA (zNew S) i).length = 20 := fun i ha hb => by rw [zNew_A20 ha hb, List.length_replicate]
  have A1 : ∀ i, ¬ i < 14 → ¬ i ≤ 22 → i ≤ 28 → (zA (zNew S) i).length = 12 := fun i ha hb hc => by rw [zNew_A12 ha hb hc, List.length_replicate]
  have A3 : ∀ i, ¬ i < 14 → ¬ i ≤ 22 → ¬ i ≤ 28 → (zA (zNew S) i).length = 300 := fun i ha hb hc => by rw [zNew_A300 ha hb hc, List.length_replicate]
  refine ⟨⟨A3 33 (by omega) (by omega) (by omega), A3 35 (by omega) (by omega) (by omega), A3 36 (by omega) (by omega) (by omega), ?_⟩, ⟨?_, ?_, ?_, ?_⟩, ⟨?_, A2 16 (by omega) (by omega), A2 17 (by omega) (by omega), A2 18 (by omega) (by omega), A2 19 (by omega) (by omega), A2 20 (by omega) (by omega), A2 21 (by omega) (by omega), A2 22 (by omega) (by omega)⟩, ?_, A1 25 (by omega) (by omega) (by omega), A1 27 (by omega) (by omega) (by omega), A1 28 (by omega) (by omega) (by omega)⟩
  · rw [zNew_B300 (by omega) (by omega) (by omega), List.length_replicate]
  · rw [zNew_B (by omega)]; exact h1
  · rw [zNew_A (by omega)]; exact h2
  · rw [zNew_A (by omega)]; exact h3
  · rw [zNew_A (by omega)]; exact h4
  · rw [zNew_B20 (by omega) (by omega), List.length_replicate]
  · rw [zNew_B12 (by omega) (by omega) (by omega), List.length_replicate]
theorem mPs_in0 {r : List Int32} {x k : Int32} {fs : List Value} {b : Nat} : ([(209, .inl (14, 1, .int (Int32.ofNat t.length))), (210, .inr (2, (t.map sb ++ r).map Value.int))] ++ (((209, .inl (14, 9, .ref b)) :: (209, .inl (14, 10, .int x)) :: zE zaQ0 S 2 ((zTQ.take 14).drop 2)) ++ ([(209, .inl (14, 7, .int k)), (211, .inr (8, fs))] ++ Rm)) : List xE).Perm (zD (zTQ.take 14) zaQ0 (zsA (zsI S 0 (Int32.ofNat t.length)) 1 (t.map sb ++ r)) ((209, .inl (14, 9, .ref b)) :: (209, .inl (14, 10, .int x)) :: (209, .inl (14, 7, .int k)) :: (211, .inr (8, fs)) :: Rm)) := by
  have e3 : zE zaQ0 (zsA (zsI S 0 (Int32.ofNat t.length)) 1 (t.map sb ++ r)) 2 ((zTQ.take 14).drop 2) = zE zaQ0 S 2 ((zTQ.take 14).drop 2) := zE_same fun j t hj => by rw [zo_A j t (by omega), zo_I j t (by omega)]
  have e4 : zD (zTQ.take 14) zaQ0 (zsA (zsI S 0 (Int32.ofNat t.length)) 1 (t.map sb ++ r)) ((209, .inl (14, 9, .ref b)) :: (209, .inl (14, 10, .int x)) :: (209, .inl (14, 7, .int k)) :: (211, .inr (8, fs)) :: Rm) = (209, .inl (14, 1, .int (Int32.ofNat t.length))) :: (210, .inr (2, (t.map sb ++ r).map Value.int)) :: (zE zaQ0 S 2 ((zTQ.take 14).drop 2) ++ ((209, .inl (14, 9, .ref b)) :: (209, .inl (14, 10, .int x)) :: (209, .inl (14, 7, .int k)) :: (211, .inr (8, fs)) :: Rm)) := by
    rw [← e3]
    rfl
  rw [e4]
  exact pq fun φ => by simp only [cn_c, cn_a, cn_n]; omega
theorem oM_form0 {Nf : Nat} (hNf : Nf = 1600) (hb : byR t) (h1 : mTp t B) (h2 : mPs N B2) (h3 : mFs Fs N B3) (sN : N ⊆ Rm) : yK X 800 17000 210 [.ref 209] (B ++ (B2 ++ (B3 ++ Rm))) 17 1431 (fun w D => w = some (.int (foV Fs t)) ∧ ∃ B' B2' B3' G, D.Perm (B' ++ (B2' ++ (B3' ++ (G ++ Rm)))) ∧ mTp [] B' ∧ mPs (G ++ N) B2' ∧ mFs (foT Fs t) (G ++ N) B3') := by
  have h30 := h3
  obtain ⟨r, hl, rfl⟩ := h1
  obtain ⟨fa, f1, f2, rfl, f4⟩ := h3
  have l1 : (t.map sb ++ r).length = 1400 := by
    rw [List.length_append, List.length_map]
    exact hl
  by_cases hk : 10 ≤ Fs.length
  · have hk10 : Int32.ofNat Fs.length = 10 := by
      rw [show Fs.length = 10 by omega]
      rfl
    rw [foV, foT, if_pos hk, if_pos hk]
    rcases h2 with ⟨S, a, p, rfl, hw, hG⟩ | ⟨S, a, rfl, w1, w2, w3, w4⟩
    · refine yK.perm mPs_in ?_
      refine ((yForm_M1 (T := zTQ) (ad := zaQ a p) rfl rfl hk10).mono (Nat.zero_le _) (Nat.zero_le _) ?_)
      rintro w D ⟨rfl, rfl⟩
      refine ⟨rfl, [(209, .inl (14, 1, .int 0)), (210, .inr (2, (t.map sb ++ r).map Value.int))], (209, .inl (14, 9, .ref a)) :: (209, .inl (14, 10, .int 0)) :: zE (zaQ a p) S 2 (zTQ.drop 2), [(209, .inl (14, 7, .int (Int32.ofNat Fs.length))), (211, .inr (8, fa.map Value.ref ++ List.replicate (10 - Fs.length) Value.null))], [], ?_, ⟨t.map sb ++ r, by rw [l1]; rfl, rfl⟩, .inl ⟨S, a, p, rfl, hw, hG⟩, h30⟩
      have e : zsI (zsA (zsI S 0 (Int32.ofNat t.length)) 1 (t.map sb ++ r)) 0 0 = zsA (zsI S 0 (Int32.ofNat ([] : List Int32).length)) 1 (([] : List Int32).map sb ++ (t.map sb ++ r)) := by
        refine Prod.ext (funext fun i => ?_) rfl
        show zup (zup S.1 0 (Int32.ofNat t.length)) 0 0 i = zup S.1 0 0 i
        by_cases hi : i = 0
        · rw [hi, zup_eq, zup_eq]
        · rw [zup_ne hi, zup_ne hi, zup_ne hi]
      rw [e]
      exact (mPs_in (t := []) (S := S) (r := t.map sb ++ r)).symm
    · refine yK.perm mPs_in0 ?_
      refine ((yForm_M1 (T := zTQ.take 14) (ad := zaQ0) rfl rfl hk10).mono (Nat.zero_le _) (Nat.zero_le _) ?_)
      rintro w D ⟨rfl, rfl⟩
      refine ⟨rfl, [(209, .inl (14, 1, .int 0)), (210, .inr (2, (t.map sb ++ r).map Value.int))], (209, .inl (14, 9, .ref a)) :: (209, .inl (14, 10, .int 1)) :: zE zaQ0 S 2 ((zTQ.take 14).drop 2), [(209, .inl (14, 7, .int (Int32.ofNat Fs.length))), (211, .inr (8, fa.map Value.ref ++ List.replicate (10 - Fs.length) Value.null))], [], ?_, ⟨t.map sb ++ r, by rw [l1]; rfl, rfl⟩, .inr ⟨S, a, rfl, w1, w2, w3, w4⟩, h30⟩
      have e : zsI (zsA (zsI S 0 (Int32.ofNat t.length)) 1 (t.map sb ++ r)) 0 0 = zsA (zsI S 0 (Int32.ofNat ([] : List Int32).length)) 1 (([] : List Int32).map sb ++ (t.map sb ++ r)) := by
        refine Prod.ext (funext fun i => ?_) rfl
        show zup (zup S.1 0 (Int32.ofNat t.length)) 0 0 i = zup S.1 0 0 i
        by_cases hi : i = 0
        · rw [hi, zup_eq, zup_eq]
        · rw [zup_ne hi, zup_ne hi, zup_ne hi]
      rw [e]
      exact (mPs_in0 (t := []) (S := S) (r := t.map sb ++ r)).symm
  · have hk10 : Int32.ofNat Fs.length ≠ 10 := fun h => by
      have := congrArg Int32.toInt h
      rw [yi_nat (by omega), show (10 : Int32).toInt = 10 from rfl] at this
      omega
    rcases h2 with ⟨S, a, p, rfl, hw, hG⟩ | ⟨S, a, rfl, w1, w2, w3, w4⟩
    · refine yK.perm mPs_in ?_
      exact (yForm_M0 hk10 (qf_go (S := zsA (zsI S 0 (Int32.ofNat t.length)) 1 (t.map sb ++ r)) hNf ⟨rfl, by omega, hb, r, rfl⟩ hw l1 hk f1 f4 hG sN)).mono (Nat.zero_le _) (Nat.zero_le _) (fun _ _ h => h)
    · refine yK.perm mPs_in0 ?_
      refine yForm_MN hk10 (by omega) (by omega) (fun n m => ?_)
      have hT : refTape t (zNew (zsA (zsI S 0 (Int32.ofNat t.length)) 1 (t.map sb ++ r))) := ⟨by rw [zNew_I (by omega)]; rfl, by omega, hb, r, by rw [zNew_A (by omega)]; rfl⟩
      refine (qf_go (N := zgQ n m ++ N) hNf hT (WM_new w1 w2 w3 w4) (by rw [zNew_A (by omega)]; exact l1) hk f1 (fun i F a h1 h2 => (f4 i F a h1 h2).mono (List.subset_append_right _ _)) (fun e he => List.mem_append_left _ he) (fun e he => ?_)).mono (Nat.le_refl _) (Nat.le_refl _) ?_
      · rcases List.mem_append.mp he with he | he
        · exact List.mem_append_left _ he
        · exact List.mem_append_right _ (sN he)
      · rintro w D ⟨h1, B', B2', B3', G', h2, h3, h4, h5⟩
        refine ⟨h1, B', B2', B3', G' ++ zgQ n m, h2.trans (pq fun φ => by simp only [cn_a]; omega), h3, ?_, ?_⟩
        · rw [List.append_assoc]
          exact h4
        · rw [List.append_assoc]
          exact h5
theorem oM_form (hb : byR t) (h1 : mTp t B) (h2 : mPs N B2) (h3 : mFs Fs N B3) (sN : N ⊆ Rm) : yK X 800 17000 210 [.ref 209] (B ++ (B2 ++ (B3 ++ Rm))) 17 1431 (fun w D => w = some (.int (foV Fs t)) ∧ ∃ B' B2' B3' G, D.Perm (B' ++ (B2' ++ (B3' ++ (G ++ Rm)))) ∧ mTp [] B' ∧ mPs (G ++ N) B2' ∧ mFs (foT Fs t) (G ++ N) B3') := oM_form0 rfl hb h1 h2 h3 sN
end FORMM5
