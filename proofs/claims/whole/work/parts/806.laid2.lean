/-! THE DISK: an answer laid, the class -/
section LAID2
variable {np : Int32} {As : List (Option zO)} {N : Nat} {Q : zS} {En : List (Int64 × Int32)}
theorem wdB_le (s : Nat) : wdB s ≤ 8 ∧ 1 ≤ wdB s := by unfold wdB; split; omega; split; omega; split; omega; omega
theorem itB_len (s : Nat) (v : Int64) : (itB s v).length ≤ 8 := by
  unfold itB
  split
  · rw [bts_len]; omega
  · rw [bts_len]; exact (wdB_le s).1
theorem c_item_16 {o : zO} {s : Nat} {v : Int64} {S : zS} {bs : List Int32} {f : Int32} (hs : s ≤ 7) (ho : o.1 = Int32.ofNat s) (hN : 8 < N) (hl : bs.length + 8 ≤ 3200) (hK : KC Q S bs) : ∃ S', cKd_layItem_16 np As N o v f S = some ((), S') ∧ KC Q S' (bs ++ bts (if f = 0 then v else if v = -9 then 0 else v + 1) (wdB s)) := by
  obtain ⟨w8, _⟩ := wdB_le s
  have go : ∀ u : Int64, ∃ S', (zb (cKd_bytesOf np As N o.1 S) fun x2 S3 => (zb (cKd_layNumber np As N u x2 S3) fun _ S6 => some ((), S6))) = some ((), S') ∧ KC Q S' (bs ++ bts u (wdB s)) := by
    intro u
    obtain ⟨S1, e1, e2⟩ := c_lay (np := np) (As := As) (N := N) (v := u) (w := wdB s) hN w8 (by omega) hK
    refine ⟨S1, ?_, e2⟩
    rw [ho, c_bytesOf hs, zbs, e1, zbs]
  rw [cKd_layItem_16]
  by_cases hf : f = 0
  · rw [if_neg (nn hf), if_pos hf]
    exact go v
  · rw [if_pos hf, if_neg hf]
    by_cases hv : v = -9
    · rw [if_neg (nn hv), if_pos hv]
      exact go 0
    · rw [if_pos hv, if_neg hv]
      exact go (v + 1)
theorem cit_ix {y : yO} {jk : List Int64} {i : Nat} {v : Int64} (h : y.2.1[i]? = some v) : (cit y ++ jk)[i]? = some (if y.1 = 5 ∨ y.1 = 6 then cnv v else v) := by
  have hi := (List.getElem?_eq_some_iff.mp h).1
  rw [List.getElem?_append_left (by rw [cit_len]; exact hi)]
  unfold cit
  split
  · rw [List.getElem?_map, h]; rfl
  · exact h
theorem c_item {o : zO} {y : yO} {i : Nat} {v : Int64} {S : zS} {bs : List Int32} (hc : hC o y) (hk : yOk En y) (hE : En.length ≤ 100) (hi : y.2.1[i]? = some v) (h12 : i < 12) (hN : 8 < N) (hl : bs.length + 8 ≤ 3200) (hK : KC Q S bs) : ∃ S', cKd_layItem np As N o (Int32.ofNat i) S = some ((), S') ∧ KC Q S' (bs ++ itB y.1 v) := by
  obtain ⟨c1, c2, ⟨jk, c3, c4⟩, c5⟩ := hc
  have hs : y.1 ≤ 7 := hk.1
  have hg : gI o.2.2.1 (Int32.ofNat i) = some (if y.1 = 5 ∨ y.1 = 6 then cnv v else v) := by rw [gI_nat (by omega), c3]; exact cit_ix hi
  have h5 : o.1 = (5 : Int32) ↔ y.1 = 5 := by
    rw [c1, xi32_eq, yi_nat (by omega), show (5 : Int32).toInt = 5 from rfl]; omega
  have h6 : o.1 = (6 : Int32) ↔ y.1 = 6 := by
    rw [c1, xi32_eq, yi_nat (by omega), show (6 : Int32).toInt = 6 from rfl]; omega
  rw [cKd_layItem, hg, zgs]
  by_cases h56 : y.1 = 5 ∨ y.1 = 6
  · have hvv : v = -1 ∨ ∃ n, n < En.length ∧ v = Int64.ofNat n := by
      have hm := List.mem_of_getElem? hi
      rcases h56 with h | h
      · exact hk.2.2.2.2.1 h v hm
      · rcases hk.2.2.2.2.2.1 h v hm with q | ⟨n, e, q1, _, q3⟩
        · exact Or.inl q
        · exact Or.inr ⟨n, (List.getElem?_eq_some_iff.mp q1).1, q3⟩
    obtain ⟨S', e1, e2⟩ := c_item_16 (np := np) (As := As) (N := N) (v := if y.1 = 5 ∨ y.1 = 6 then cnv v else v) (f := 1) hs c1 hN hl hK
    have ew : wdB y.1 = 1 := by rcases h56 with h | h <;> rw [h] <;> rfl
    have ev : (if (1 : Int32) = 0 then (if y.1 = 5 ∨ y.1 = 6 then cnv v else v) else if (if y.1 = 5 ∨ y.1 = 6 then cnv v else v) = -9 then 0 else (if y.1 = 5 ∨ y.1 = 6 then cnv v else v) + 1) = (if v = -1 then 0 else v + 1) := by
      rw [if_neg (by decide), if_pos h56]
      unfold cnv
      by_cases hv : v = -1
      · rw [if_pos hv, if_pos rfl, if_pos hv]
      · rw [if_neg hv, if_neg hv, if_neg]
        rcases hvv with q | ⟨n, q1, q2⟩
        · exact absurd q hv
        · intro hh
          have := congrArg Int64.toInt hh
          rw [q2, y64_m9, Int64.toInt_ofNat_of_lt (by omega)] at this
          omega
    rw [ev, ew] at e2
    refine ⟨S', ?_, ?_⟩
    · rcases h56 with h | h
      · rw [if_pos (h5.mpr h)]; exact e1
      · rw [if_neg (fun hh => by rw [h5.mp hh] at h; omega), if_neg (nn (h6.mpr h))]; exact e1
    · unfold itB
      rw [if_pos h56]
      exact e2
  · obtain ⟨S', e1, e2⟩ := c_item_16 (np := np) (As := As) (N := N) (v := if y.1 = 5 ∨ y.1 = 6 then cnv v else v) (f := 0) hs c1 hN hl hK
    rw [if_pos rfl, if_neg h56] at e2
    refine ⟨S', ?_, ?_⟩
    · rw [if_neg (fun hh => h56 (Or.inl (h5.mp hh))), if_pos (fun hh => h56 (Or.inr (h6.mp hh)))]; exact e1
    · unfold itB
      rw [if_neg h56]
      exact e2
end LAID2
