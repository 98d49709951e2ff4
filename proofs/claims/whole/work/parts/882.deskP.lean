/-! THE DESK: what lies there stays as it must be -/
section DESKP
variable {En : List (Int64 × Int32)} {ob : yO} {fl i j n e v : Int32}
theorem i64and {v : Int64} : 0 ≤ (v &&& 65535).toInt ∧ (v &&& 65535).toInt ≤ 65535 := by
  have e : (v &&& 65535).toInt = ((v &&& 65535).toBitVec.toInt) := rfl
  have e2 : (v &&& 65535).toBitVec = v.toBitVec &&& 65535#64 := rfl
  have hle : (v.toBitVec &&& 65535#64).toNat ≤ 65535 := by
    rw [BitVec.toNat_and]
    exact Nat.and_le_right
  rw [e, e2, BitVec.toInt_eq_toNat_of_lt (by omega)]
  omega
theorem putv_ok {s : Nat} {v : Int64} : (s = 0 → putv s v = 0 ∨ putv s v = 1) ∧ (s = 1 → (putv s v).toInt32.toInt64 = putv s v) ∧ (s = 3 → 0 ≤ (putv s v).toInt ∧ (putv s v).toInt ≤ 65535) := by
  refine ⟨?_, ?_, ?_⟩
  · rintro rfl
    rw [putv, if_pos rfl]
    by_cases h : v = 0
    · rw [if_pos h]; exact .inl rfl
    · rw [if_neg h]; exact .inr rfl
  · rintro rfl
    rw [putv, if_neg (by decide), if_pos rfl, Int32.toInt32_toInt64]
  · rintro rfl
    rw [putv, if_neg (by decide), if_neg (by decide), if_pos rfl]
    exact i64and
theorem wr_ok {v : Int64} (h : yOk En ob) : yOk En (wrO ob (wrV (some ob) fl i) i v) ∧ (wrO ob (wrV (some ob) fl i) i v).1 = ob.1 ∧ osz (wrO ob (wrV (some ob) fl i) i v) = osz ob ∧ (wrO ob (wrV (some ob) fl i) i v).2.2 = ob.2.2 := by
  rw [wrO]
  by_cases hw : wrV (some ob) fl i = 0
  rotate_left
  · rw [if_neg hw]
    exact ⟨h, rfl, rfl, rfl⟩
  · rw [if_pos hw]
    have h3 : ob.1 ≤ 3 := by
      rw [wrV] at hw
      by_cases hf : 10000 ≤ fl.toInt
      · rw [if_pos hf] at hw
        exact absurd hw (by decide)
      · rw [if_neg hf] at hw
        have hw2 : (if 3 < ob.1 then (-12 : Int32) else if ¬ (0 ≤ i.toInt ∧ i.toInt < osz ob) then -13 else 0) = 0 := hw
        by_cases h3 : 3 < ob.1
        · rw [if_pos h3] at hw2
          exact absurd hw2 (by decide)
        · omega
    obtain ⟨k1, k2, k3, k4, k5, k6, k7, k8, k9⟩ := h
    have hset : ∀ x, x ∈ ob.2.1.set i.toInt.toNat (putv ob.1 v) → x ∈ ob.2.1 ∨ x = putv ob.1 v := fun x hx => List.mem_or_eq_of_mem_set hx
    have k3' := k3 (by omega)
    refine ⟨⟨k1, fun h4 => absurd h4 (by show ob.1 ≠ 4; omega), fun _ => ⟨k3'.1, by show (ob.2.1.set _ _).length ≤ 12; rw [List.length_set]; exact k3'.2⟩, fun h4 => absurd h4 (by show ob.1 ≠ 7; omega), fun h4 => absurd h4 (by show ob.1 ≠ 5; omega), fun h4 => absurd h4 (by show ob.1 ≠ 6; omega), fun h0 x hx => ?_, fun h0 x hx => ?_, fun h0 x hx => ?_⟩, rfl, ?_, rfl⟩
    · rcases hset x hx with hx | rfl
      · exact k7 h0 x hx
      · exact putv_ok.1 h0
    · rcases hset x hx with hx | rfl
      · exact k8 h0 x hx
      · exact putv_ok.2.1 h0
    · rcases hset x hx with hx | rfl
      · exact k9 h0 x hx
      · exact putv_ok.2.2 h0
    · rw [osz_n4 (o := ob) (by omega), osz_n4 (o := (ob.1, ob.2.1.set i.toInt.toNat (putv ob.1 v), ob.2.2)) (by show ob.1 ≠ 4; omega)]
      exact List.length_set
theorem se_ok (hE : En.length ≤ 100) (h : yOk En ob) : yOk En (seO ob (seV (some ob) En fl i e) i e) ∧ (seO ob (seV (some ob) En fl i e) i e).1 = ob.1 ∧ osz (seO ob (seV (some ob) En fl i e) i e) = osz ob ∧ (seO ob (seV (some ob) En fl i e) i e).2.2 = ob.2.2 := by
  rw [seO]
  by_cases hw : seV (some ob) En fl i e = 0
  rotate_left
  · rw [if_neg hw]
    exact ⟨h, rfl, rfl, rfl⟩
  · rw [if_pos hw]
    rw [seV] at hw
    by_cases h1 : e.toInt = -1 ∨ (0 ≤ e.toInt ∧ e.toInt < En.length)
    rotate_left
    · rw [if_pos h1] at hw
      exact absurd hw (by decide)
    rw [if_neg (fun h => h h1)] at hw
    by_cases hf : 10000 ≤ fl.toInt
    · rw [if_pos hf] at hw
      exact absurd hw (by decide)
    rw [if_neg hf] at hw
    have hw2 : (if ¬ (ob.1 = 5 ∨ ob.1 = 6) then (-12 : Int32) else if ¬ (0 ≤ i.toInt ∧ i.toInt < osz ob) then -13 else if ob.1 = 6 ∧ ¬ e.toInt = -1 ∧ (sgE En e).toInt = -9 then -15 else 0) = 0 := hw
    by_cases h5 : ob.1 = 5 ∨ ob.1 = 6
    rotate_left
    · rw [if_pos h5] at hw2
      exact absurd hw2 (by decide)
    rw [if_neg (fun h => h h5)] at hw2
    by_cases hi : 0 ≤ i.toInt ∧ i.toInt < osz ob
    rotate_left
    · rw [if_pos hi] at hw2
      exact absurd hw2 (by decide)
    rw [if_neg (fun h => h hi)] at hw2
    have h6 : ¬ (ob.1 = 6 ∧ ¬ e.toInt = -1 ∧ (sgE En e).toInt = -9) := by
      intro h6
      rw [if_pos h6] at hw2
      exact absurd hw2 (by decide)
    have n4 : ob.1 ≠ 4 := by omega
    have n7 : ob.1 ≠ 7 := by omega
    have n0 : ob.1 ≠ 0 := by omega
    have n1 : ob.1 ≠ 1 := by omega
    have n3 : ob.1 ≠ 3 := by omega
    obtain ⟨k1, k2, k3, k4, k5, k6, k7, k8, k9⟩ := h
    have hset : ∀ x, x ∈ ob.2.1.set i.toInt.toNat e.toInt64 → x ∈ ob.2.1 ∨ x = e.toInt64 := fun x hx => List.mem_or_eq_of_mem_set hx
    have k3' := k3 n4
    have he : e.toInt = -1 → e.toInt64 = -1 := fun h => by
      have : e = -1 := Int32.toInt_inj.mp h
      rw [this]
      rfl
    have hen : 0 ≤ e.toInt → e.toInt64 = Int64.ofNat e.toInt.toNat := fun h => by
      apply Int64.toInt_inj.mp
      rw [y6432, Int64.toInt_ofNat_of_lt (by have := e.toInt_lt; omega)]
      omega
    refine ⟨⟨k1, fun h4 => absurd h4 n4, fun _ => ⟨k3'.1, by show (ob.2.1.set _ _).length ≤ 12; rw [List.length_set]; exact k3'.2⟩, fun h4 => absurd h4 n7, fun h4 x hx => ?_, fun h4 x hx => ?_, fun h0 => absurd h0 n0, fun h0 => absurd h0 n1, fun h0 => absurd h0 n3⟩, rfl, ?_, rfl⟩
    · rcases hset x hx with hx | rfl
      · exact k5 h4 x hx
      · rcases h1 with h1 | h1
        · exact .inl (he h1)
        · exact .inr ⟨e.toInt.toNat, by omega, hen h1.1⟩
    · rcases hset x hx with hx | rfl
      · exact k6 h4 x hx
      · rcases h1 with h1 | h1
        · exact .inl (he h1)
        · obtain ⟨p, hp⟩ : ∃ p, En[e.toInt.toNat]? = some p := ⟨_, List.getElem?_eq_getElem (by omega)⟩
          refine .inr ⟨e.toInt.toNat, p, hp, fun hn => h6 ⟨h4, by omega, ?_⟩, hen h1.1⟩
          have g : gI (En.map Prod.snd) e = some p.2 := by
            rw [← yi_id h1.1, gI_nat (by omega), List.getElem?_map, hp]
            rfl
          rw [sgE, g, hn]
          rfl
    · rw [osz_n4 (o := ob) n4, osz_n4 (o := (ob.1, ob.2.1.set i.toInt.toNat e.toInt64, ob.2.2)) n4]
      exact List.length_set
theorem li_ok (h : yOk En ob) : yOk En (liO ob (liV (some ob) fl i n) i n) ∧ (liO ob (liV (some ob) fl i n) i n).1 = ob.1 ∧ osz (liO ob (liV (some ob) fl i n) i n) = osz ob ∧ (liO ob (liV (some ob) fl i n) i n).2.1 = ob.2.1 := by
  rw [liO]
  by_cases hw : liV (some ob) fl i n = 0
  rotate_left
  · rw [if_neg hw]
    exact ⟨h, rfl, rfl, rfl⟩
  · rw [if_pos hw]
    rw [liV] at hw
    by_cases h1 : 6 < n.toInt
    · rw [if_pos h1] at hw
      exact absurd hw (by decide)
    rw [if_neg h1] at hw
    by_cases hf : 10000 ≤ fl.toInt
    · rw [if_pos hf] at hw
      exact absurd hw (by decide)
    rw [if_neg hf] at hw
    by_cases h0 : n.toInt < 0
    · rw [if_pos h0] at hw
      exact absurd hw (by decide)
    rw [if_neg h0] at hw
    have hw2 : (if ¬ ob.1 = 4 then (-12 : Int32) else if ¬ (0 ≤ i.toInt ∧ i.toInt < osz ob) then -13 else 0) = 0 := hw
    by_cases h4 : ob.1 = 4
    rotate_left
    · rw [if_pos h4] at hw2
      exact absurd hw2 (by decide)
    obtain ⟨k1, k2, k3, k4, k5, k6, k7, k8, k9⟩ := h
    have k2' := k2 h4
    refine ⟨⟨k1, fun _ => ⟨k2'.1, by show (ob.2.2.set _ _).length ≤ 6; rw [List.length_set]; exact k2'.2.1, fun l hl => ?_⟩, fun h => absurd h4 h, fun h => absurd h (by show ob.1 ≠ 7; omega), fun h => absurd h (by show ob.1 ≠ 5; omega), fun h => absurd h (by show ob.1 ≠ 6; omega), fun h => absurd h (by show ob.1 ≠ 0; omega), fun h => absurd h (by show ob.1 ≠ 1; omega), fun h => absurd h (by show ob.1 ≠ 3; omega)⟩, rfl, ?_, rfl⟩
    · rcases List.mem_or_eq_of_mem_set hl with hl | hl
      · exact k2'.2.2 l hl
      · injection hl with hl
        rw [hl, List.length_replicate]
        omega
    · rw [osz4 h4, osz4 (o := (ob.1, ob.2.1, ob.2.2.set i.toInt.toNat (some (List.replicate n.toInt.toNat 0)))) h4]
      exact List.length_set
theorem ce_ok (h : yOk En ob) : yOk En (ceO ob (ceV (some ob) fl i j) i j v) ∧ (ceO ob (ceV (some ob) fl i j) i j v).1 = ob.1 ∧ osz (ceO ob (ceV (some ob) fl i j) i j v) = osz ob ∧ (ceO ob (ceV (some ob) fl i j) i j v).2.1 = ob.2.1 := by
  rw [ceO]
  by_cases hw : ceV (some ob) fl i j = 0
  rotate_left
  · rw [if_neg hw]
    exact ⟨h, rfl, rfl, rfl⟩
  · rw [if_pos hw]
    rw [ceV] at hw
    by_cases hf : 10000 ≤ fl.toInt
    · rw [if_pos hf] at hw
      exact absurd hw (by decide)
    rw [if_neg hf] at hw
    by_cases h4 : ob.1 = 4
    rotate_left
    · have hw2 : (if ¬ ob.1 = 4 then (-12 : Int32) else _) = 0 := hw
      rw [if_pos h4] at hw2
      exact absurd hw2 (by decide)
    obtain ⟨k1, k2, k3, k4, k5, k6, k7, k8, k9⟩ := h
    have k2' := k2 h4
    refine ⟨⟨k1, fun _ => ⟨k2'.1, by show (ob.2.2.set _ _).length ≤ 6; rw [List.length_set]; exact k2'.2.1, fun l hl => ?_⟩, fun h => absurd h4 h, fun h => absurd h (by show ob.1 ≠ 7; omega), fun h => absurd h (by show ob.1 ≠ 5; omega), fun h => absurd h (by show ob.1 ≠ 6; omega), fun h => absurd h (by show ob.1 ≠ 0; omega), fun h => absurd h (by show ob.1 ≠ 1; omega), fun h => absurd h (by show ob.1 ≠ 3; omega)⟩, rfl, ?_, rfl⟩
    · rcases List.mem_or_eq_of_mem_set hl with hl | hl
      · exact k2'.2.2 l hl
      · obtain ⟨l0, g1, g2⟩ := Option.map_eq_some_iff.mp hl.symm
        rw [← g2, List.length_set]
        rw [rwO] at g1
        rcases hg : gI ob.2.2 i with _ | r
        · rw [hg] at g1
          cases g1
        · rw [hg] at g1
          have g1' : r = some l0 := g1
          subst g1'
          exact k2'.2.2 l0 (List.mem_of_getElem? (gI_some hg).2.2.1)
    · rw [osz4 h4, osz4 (o := (ob.1, ob.2.1, ob.2.2.set i.toInt.toNat ((rwO ob i).map fun l => l.set j.toInt.toNat v))) h4]
      exact List.length_set
theorem de_ok {s : Int32} (hE : En.length ≤ 100) (hw : deV En fl s n = 0) : yOk En (deO s n) := by
  rw [deV] at hw
  by_cases h7 : 0 ≤ s.toInt ∧ s.toInt ≤ 7
  rotate_left
  · rw [if_pos h7] at hw
    exact absurd hw (by decide)
  rw [if_neg (fun h => h h7)] at hw
  by_cases a1 : s.toInt = 7 ∧ ¬ (0 ≤ n.toInt ∧ n.toInt < En.length)
  · rw [if_pos a1] at hw
    exact absurd hw (by decide)
  rw [if_neg a1] at hw
  by_cases a2 : s.toInt = 4 ∧ 6 < n.toInt
  · rw [if_pos a2] at hw
    exact absurd hw (by decide)
  rw [if_neg a2] at hw
  by_cases a3 : ¬ s.toInt = 7 ∧ ¬ s.toInt = 4 ∧ 12 < n.toInt
  · rw [if_pos a3] at hw
    exact absurd hw (by decide)
  rw [if_neg a3] at hw
  by_cases hf : 10000 ≤ fl.toInt
  · rw [if_pos hf] at hw
    exact absurd hw (by decide)
  rw [if_neg hf] at hw
  by_cases h0 : n.toInt < 0
  · rw [if_pos h0] at hw
    exact absurd hw (by decide)
  have i1 : (deO s n).1 = s.toInt.toNat := rfl
  have i2 : (deO s n).2.1 = if s.toInt = 7 then [n.toInt64] else if s.toInt = 4 then [] else List.replicate n.toInt.toNat (if s.toInt = 5 ∨ s.toInt = 6 then -1 else 0) := rfl
  have i3 : (deO s n).2.2 = if s.toInt = 4 then List.replicate n.toInt.toNat none else [] := rfl
  have it : ∀ x, x ∈ (deO s n).2.1 → (s.toInt = 7 ∧ x = n.toInt64) ∨ (s.toInt ≠ 7 ∧ s.toInt ≠ 4 ∧ x = if s.toInt = 5 ∨ s.toInt = 6 then -1 else 0) := by
    intro x hx
    rw [i2] at hx
    by_cases e7 : s.toInt = 7
    · rw [if_pos e7] at hx
      exact .inl ⟨e7, List.mem_singleton.mp hx⟩
    · rw [if_neg e7] at hx
      by_cases e4 : s.toInt = 4
      · rw [if_pos e4] at hx
        cases hx
      · rw [if_neg e4] at hx
        exact .inr ⟨e7, e4, (List.mem_replicate.mp hx).2⟩
  refine ⟨by rw [i1]; omega, fun h => ?_, fun h => ?_, fun h => ?_, fun h x hx => ?_, fun h x hx => ?_, fun h x hx => ?_, fun h x hx => ?_, fun h x hx => ?_⟩
  · rw [i1] at h
    rw [i2, i3, if_neg (by omega), if_pos (by omega), if_pos (by omega)]
    refine ⟨rfl, by rw [List.length_replicate]; omega, fun l hl => ?_⟩
    have := (List.mem_replicate.mp hl).2
    cases this
  · rw [i1] at h
    rw [i3, if_neg (by omega)]
    refine ⟨rfl, ?_⟩
    rw [i2]
    by_cases e7 : s.toInt = 7
    · rw [if_pos e7]
      exact Nat.le_of_ble_eq_true rfl
    · rw [if_neg e7, if_neg (by omega), List.length_replicate]
      omega
  · rw [i1] at h
    refine ⟨n.toInt.toNat, by omega, ?_⟩
    rw [i2, if_pos (by omega)]
    congr 1
    apply Int64.toInt_inj.mp
    rw [y6432, Int64.toInt_ofNat_of_lt (by have := n.toInt_lt; omega)]
    omega
  · rw [i1] at h
    rcases it x hx with ⟨h1, -⟩ | ⟨-, -, h3⟩
    · omega
    · rw [if_pos (by omega)] at h3
      exact .inl h3
  · rw [i1] at h
    rcases it x hx with ⟨h1, -⟩ | ⟨-, -, h3⟩
    · omega
    · rw [if_pos (by omega)] at h3
      exact .inl h3
  · rw [i1] at h
    rcases it x hx with ⟨h1, -⟩ | ⟨-, -, h3⟩
    · omega
    · rw [if_neg (by omega)] at h3
      exact .inl h3
  · rw [i1] at h
    rcases it x hx with ⟨h1, -⟩ | ⟨-, -, h3⟩
    · omega
    · rw [if_neg (by omega)] at h3
      rw [h3]
      rfl
  · rw [i1] at h
    rcases it x hx with ⟨h1, -⟩ | ⟨-, -, h3⟩
    · omega
    · rw [if_neg (by omega)] at h3
      rw [h3]
      decide
/-- more entries in the ledger -/
theorem yOk.more {En2 : List (Int64 × Int32)} (h : yOk En ob) : yOk (En ++ En2) ob := by
  obtain ⟨k1, k2, k3, k4, k5, k6, k7⟩ := h
  refine ⟨k1, k2, k3, fun h => ?_, fun h v hv => ?_, fun h v hv => ?_, k7⟩
  · obtain ⟨n, q1, q2⟩ := k4 h
    exact ⟨n, by rw [List.length_append]; omega, q2⟩
  · rcases k5 h v hv with q | ⟨n, q1, q2⟩
    · exact .inl q
    · exact .inr ⟨n, by rw [List.length_append]; omega, q2⟩
  · rcases k6 h v hv with q | ⟨n, p, q1, q2, q3⟩
    · exact .inl q
    · exact .inr ⟨n, p, by rw [List.getElem?_append_left (List.getElem?_eq_some_iff.mp q1).1]; exact q1, q2, q3⟩
end DESKP
