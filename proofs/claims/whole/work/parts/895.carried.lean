/-! MIGRATE, purely: what comes over is as it must be -/
section CRYP
variable {En : List (Int64 × Int32)} {Fs : List yF} {o : yO} {kd : Int32}
theorem sgK_mem : ∀ {l : List Int64} {v : Int64}, v ∈ l.take (sgK En l) → v = -1 ∨ (0 ≤ v.toInt ∧ v.toInt < En.length ∧ ¬ (sgE En v.toInt32).toInt = -9)
  | [], v, h => by cases h
  | a :: r, v, h => by
    rw [sgK] at h
    by_cases hc : a = -1 ∨ (0 ≤ a.toInt ∧ a.toInt < En.length ∧ ¬ (sgE En a.toInt32).toInt = -9)
    · rw [if_pos hc, List.take_succ_cons] at h
      rcases List.mem_cons.mp h with rfl | h
      · exact hc
      · exact sgK_mem h
    · rw [if_neg hc] at h
      cases h
theorem cry_ok (hE : En.length ≤ 100) (h : yOk En o) : yOk En (cryR En kd o).1 := by
  rw [cryR]
  by_cases h1 : o.1 = 5 ∧ kd = 9
  · rw [if_pos h1]
    have hl : o.2.1.length ≤ 12 := (h.2.2.1 (by omega)).2
    have h5 := h.2.2.2.2.1 h1.1
    have hs := sgK_le (En := En) o.2.1
    refine ⟨show 6 ≤ 7 by omega, fun h => absurd h (show (6 : Nat) ≠ 4 by decide), fun _ => ⟨rfl, ?_⟩, fun h => absurd h (show (6 : Nat) ≠ 7 by decide), fun h => absurd h (show (6 : Nat) ≠ 5 by decide), fun _ v hv => ?_, fun h => absurd h (show (6 : Nat) ≠ 0 by decide), fun h => absurd h (show (6 : Nat) ≠ 1 by decide), fun h => absurd h (show (6 : Nat) ≠ 3 by decide)⟩
    · show (o.2.1.take (sgK En o.2.1) ++ List.replicate (o.2.1.length - sgK En o.2.1) (-1)).length ≤ 12
      rw [List.length_append, List.length_take, List.length_replicate]
      omega
    · rcases List.mem_append.mp hv with hv | hv
      · have hm := List.mem_of_mem_take hv
        rcases h5 v hm with rfl | ⟨n, hn, rfl⟩
        · exact .inl rfl
        · rcases sgK_mem hv with hv2 | ⟨-, -, hv2⟩
          · exact .inl hv2
          · obtain ⟨e, he⟩ : ∃ e, En[n]? = some e := ⟨_, List.getElem?_eq_getElem hn⟩
            refine .inr ⟨n, e, he, fun h9 => hv2 ?_, rfl⟩
            have e1 : (Int64.ofNat n).toInt32 = Int32.ofNat n := by
              apply Int32.toInt_inj.mp
              rw [Int64.toInt_toInt32, Int64.toInt_ofNat_of_lt (by omega), yi_nat (by omega)]
              exact Int.bmod_eq_of_le (by omega) (by omega)
            have g : gI (En.map Prod.snd) (Int32.ofNat n) = some e.2 := by
              rw [gI_nat (by omega), List.getElem?_map, he]
              rfl
            rw [e1, sgE, g, h9]
            rfl
      · exact .inl (List.mem_replicate.mp hv).2
  · rw [if_neg h1]
    by_cases h2 : o.1 = 6 ∧ kd = 8
    · rw [if_pos h2]
      have hl : o.2.1.length ≤ 12 := (h.2.2.1 (by omega)).2
      have h6 := h.2.2.2.2.2.1 h2.1
      refine ⟨show 5 ≤ 7 by omega, fun h => absurd h (show (5 : Nat) ≠ 4 by decide), fun _ => ⟨rfl, hl⟩, fun h => absurd h (show (5 : Nat) ≠ 7 by decide), fun _ v hv => ?_, fun h => absurd h (show (5 : Nat) ≠ 6 by decide), fun h => absurd h (show (5 : Nat) ≠ 0 by decide), fun h => absurd h (show (5 : Nat) ≠ 1 by decide), fun h => absurd h (show (5 : Nat) ≠ 3 by decide)⟩
      rcases h6 v hv with rfl | ⟨n, e, he, -, rfl⟩
      · exact .inl rfl
      · exact .inr ⟨n, (List.getElem?_eq_some_iff.mp he).1, rfl⟩
    · rw [if_neg h2]
      exact h
theorem cryO_ok {z : Option yO} (hE : En.length ≤ 100) (h : ∀ y, z = some y → yOk En y) : ∀ y, (cryO En kd z).1 = some y → yOk En y := by
  intro y hy
  cases z with
  | none => cases hy
  | some o =>
    injection hy with hy
    rw [← hy]
    exact cry_ok hE (h o rfl)
theorem mgR_ok {A : List (Option yO)} {F : yF} {f tf : Int32} (hE : En.length ≤ 100) (hA : ∀ y, some y ∈ A → yOk En y) : ∀ (ms : List yMv) (B : List (Option yO)) (cm : List Int32) (ev : Int32), (∀ y, some y ∈ B → yOk En y) → (mgR En A F f tf ms B cm ev).1.length = B.length ∧ (mgR En A F f tf ms B cm ev).2.1.length = cm.length + ms.length ∧ ∀ y, some y ∈ (mgR En A F f tf ms B cm ev).1 → yOk En y
  | [], B, cm, ev, hB => ⟨rfl, rfl, hB⟩
  | m :: ms, B, cm, ev, hB => by
    rw [mgR]
    by_cases hc : m.1 = f ∧ m.2.2.1 = tf
    · rw [if_pos hc]
      have han : ∀ y, anR A m.2.1 = some y → yOk En y := by
        intro y hy
        rw [anR] at hy
        rcases hg : gI A m.2.1 with _ | z
        · rw [hg] at hy
          cases hy
        · rw [hg] at hy
          have hy2 : z = some y := hy
          rw [hy2] at hg
          exact hA y (List.mem_of_getElem? (gI_some hg).2.2.1)
      obtain ⟨q1, q2, q3⟩ := mgR_ok (F := F) (f := f) (tf := tf) hE hA ms (B.set m.2.2.2.toInt.toNat (cryO En (knd F m.2.2.2) (anR A m.2.1)).1) (cm ++ [Int32.ofNat (cryO En (knd F m.2.2.2) (anR A m.2.1)).2.1]) (ev + (cryO En (knd F m.2.2.2) (anR A m.2.1)).2.2) (fun y hy => by
        rcases List.mem_or_eq_of_mem_set hy with hy | hy
        · exact hB y hy
        · exact cryO_ok hE han y hy.symm)
      refine ⟨by rw [q1, List.length_set], by rw [q2, List.length_append, List.length_singleton, List.length_cons]; omega, q3⟩
    · rw [if_neg hc]
      obtain ⟨q1, q2, q3⟩ := mgR_ok (F := F) (f := f) (tf := tf) hE hA ms B (cm ++ [-9]) ev hB
      exact ⟨q1, by rw [q2, List.length_append, List.length_singleton, List.length_cons]; omega, q3⟩
end CRYP
