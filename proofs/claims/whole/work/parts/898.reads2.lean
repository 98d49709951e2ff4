/-! TAKE, purely: what is read is as it must be -/
section RDP
variable {En : List (Int64 × Int32)} {F : yF}
def itP (En : List (Int64 × Int32)) (s : Nat) (v : Int64) : Prop := (s = 0 → v = 0 ∨ v = 1) ∧ (s = 1 → v.toInt32.toInt64 = v) ∧ (s = 3 → 0 ≤ v.toInt ∧ v.toInt ≤ 65535) ∧ (s = 5 → v = -1 ∨ ∃ n, n < En.length ∧ v = Int64.ofNat n) ∧ (s = 6 → v = -1 ∨ ∃ (n : Nat) (e : Int64 × Int32), En[n]? = some e ∧ e.2 ≠ -9 ∧ v = Int64.ofNat n) ∧ (s = 7 → ∃ n, n < En.length ∧ v = Int64.ofNat n)
theorem i64_less {v : Int32} (h : 0 < v.toInt) : v.toInt64 - 1 = Int64.ofNat (v.toInt.toNat - 1) := by
  have := v.toInt_lt
  apply Int64.toInt_inj.mp
  rw [Int64.toInt_sub, y6432, Int64.toInt_ofNat_of_lt (by omega), show (1 : Int64).toInt = 1 from rfl, Int.bmod_eq_of_le (by omega) (by omega)]
  omega
theorem i64_same {v : Int32} (h : 0 ≤ v.toInt) : v.toInt64 = Int64.ofNat v.toInt.toNat := by
  have := v.toInt_lt
  apply Int64.toInt_inj.mp
  rw [y6432, Int64.toInt_ofNat_of_lt (by omega)]
  omega
theorem rd1_by {l : List Int32} {q : Int32 × List Int32} (hb : byR l) (h : rdN 1 0 l = some q) : (0 ≤ q.1.toInt ∧ q.1.toInt ≤ 255) ∧ byR q.2 := by
  have e := rd1 h
  rw [e] at hb
  exact ⟨hb q.1 List.mem_cons_self, fun b hb2 => hb b (List.mem_cons_of_mem _ hb2)⟩
theorem itmK_ok {s : Nat} {v : Int32} {w : Int64} (hE : En.length ≤ 100) (h0 : s ≠ 1 → 0 ≤ v.toInt) (h3 : s = 3 → v.toInt ≤ 65535) (h2 : s ≠ 2) (h : itmK En s v = some w) : itP En s w := by
  rw [itmK] at h
  by_cases s0 : s = 0
  · have hp := h0 (by omega)
    rw [if_pos s0] at h
    by_cases h1 : 1 < v.toInt
    · rw [if_pos h1] at h
      cases h
    · rw [if_neg h1] at h
      injection h with h
      refine ⟨fun _ => ?_, fun h => by omega, fun h => by omega, fun h => by omega, fun h => by omega, fun h => by omega⟩
      rcases (show v.toInt = 0 ∨ v.toInt = 1 by omega) with e | e
      · have : v = 0 := Int32.toInt_inj.mp e
        rw [← h, this]
        exact .inl rfl
      · have : v = 1 := Int32.toInt_inj.mp e
        rw [← h, this]
        exact .inr rfl
  rw [if_neg s0] at h
  by_cases s5 : s = 5
  · have hp := h0 (by omega)
    rw [if_pos s5] at h
    refine ⟨fun h => absurd h s0, fun h => by omega, fun h => by omega, fun _ => ?_, fun h => by omega, fun h => by omega⟩
    by_cases hv : v = 0
    · rw [if_pos hv] at h
      injection h with h
      exact .inl h.symm
    · rw [if_neg hv] at h
      by_cases hl : v.toInt ≤ En.length
      · rw [if_pos hl] at h
        injection h with h
        have hv0 : v.toInt ≠ 0 := fun e => hv (Int32.toInt_inj.mp e)
        exact .inr ⟨v.toInt.toNat - 1, by omega, by rw [← h]; exact i64_less (by omega)⟩
      · rw [if_neg hl] at h
        cases h
  rw [if_neg s5] at h
  by_cases s6 : s = 6
  · have hp := h0 (by omega)
    rw [if_pos s6] at h
    refine ⟨fun h => absurd h s0, fun h => by omega, fun h => by omega, fun h => absurd h s5, fun _ => ?_, fun h => by omega⟩
    by_cases hv : v = 0
    · rw [if_pos hv] at h
      injection h with h
      exact .inl h.symm
    · rw [if_neg hv] at h
      by_cases hl : v.toInt ≤ En.length ∧ sgE En (v - 1) ≠ -9
      · rw [if_pos hl] at h
        injection h with h
        have hv0 : v.toInt ≠ 0 := fun e => hv (Int32.toInt_inj.mp e)
        obtain ⟨e, he⟩ : ∃ e, En[v.toInt.toNat - 1]? = some e := ⟨_, List.getElem?_eq_getElem (by omega)⟩
        refine .inr ⟨v.toInt.toNat - 1, e, he, fun h9 => hl.2 ?_, by rw [← h]; exact i64_less (by omega)⟩
        have e1 : v - 1 = Int32.ofNat (v.toInt.toNat - 1) := by
          apply Int32.toInt_inj.mp
          rw [yi_sub (by rw [show (1 : Int32).toInt = 1 from rfl]; omega) (by rw [show (1 : Int32).toInt = 1 from rfl]; omega), yi_nat (by omega), show (1 : Int32).toInt = 1 from rfl]
          omega
        have g : gI (En.map Prod.snd) (Int32.ofNat (v.toInt.toNat - 1)) = some e.2 := by
          rw [gI_nat (by omega), List.getElem?_map, he]
          rfl
        rw [e1, sgE, g, h9]
        rfl
      · rw [if_neg hl] at h
        cases h
  rw [if_neg s6] at h
  by_cases s7 : s = 7
  · have hp := h0 (by omega)
    rw [if_pos s7] at h
    refine ⟨fun h => absurd h s0, fun h => by omega, fun h => by omega, fun h => absurd h s5, fun h => absurd h s6, fun _ => ?_⟩
    by_cases hl : v.toInt < En.length
    · rw [if_pos hl] at h
      injection h with h
      exact ⟨v.toInt.toNat, by omega, by rw [← h]; exact i64_same hp⟩
    · rw [if_neg hl] at h
      cases h
  rw [if_neg s7] at h
  injection h with h
  refine ⟨fun h => absurd h s0, fun _ => ?_, fun e3 => ?_, fun h => absurd h s5, fun h => absurd h s6, fun h => absurd h s7⟩
  · rw [← h]
    exact i64_r32
  · rw [← h, y6432]
    exact ⟨h0 (by omega), h3 e3⟩
theorem rdI_ok {s : Nat} {l : List Int32} {q : Int64 × List Int32} (hE : En.length ≤ 100) (hs4 : s ≠ 4) (hs : s ≤ 7) (hb : byR l) (h : rdI En s l = some q) : itP En s q.1 := by
  by_cases s2 : s = 2
  · subst s2
    exact ⟨fun h => absurd h (by decide), fun h => absurd h (by decide), fun h => absurd h (by decide), fun h => absurd h (by decide), fun h => absurd h (by decide), fun h => absurd h (by decide)⟩
  · rw [rdI, if_neg s2] at h
    obtain ⟨a, h1, h2⟩ := Option.bind_eq_some_iff.mp h
    obtain ⟨v, h3, h4⟩ := Option.map_eq_some_iff.mp h2
    rw [← h4]
    refine itmK_ok hE (fun s1 => ?_) (fun s3 => ?_) s2 h3
    · by_cases s3 : s = 3
      · subst s3
        exact (rd2 hb h1).1
      · have : bOf s = 1 := by rw [bOf, if_neg s1, if_neg s2, if_neg s3]
        rw [this] at h1
        exact (rd1_by hb h1).1.1
    · subst s3
      exact (rd2 hb h1).2
theorem rdIs_ok {s : Nat} (hE : En.length ≤ 100) (hs4 : s ≠ 4) (hs : s ≤ 7) : ∀ (k : Nat) (l : List Int32) (q : List Int64 × List Int32), byR l → rdIs En s k l = some q → (∀ v ∈ q.1, itP En s v) ∧ byR q.2
  | 0, l, q, hb, h => by
    injection h with h
    rw [← h]
    exact ⟨fun v hv => (by cases hv), hb⟩
  | k + 1, l, q, hb, h => by
    rw [rdIs] at h
    obtain ⟨a, h1, h2⟩ := Option.bind_eq_some_iff.mp h
    obtain ⟨r, h3, h4⟩ := Option.map_eq_some_iff.mp h2
    obtain ⟨q1, q2⟩ := rdIs_ok hE hs4 hs k a.2 r (rdI_byR h1 hb) h3
    rw [← h4]
    refine ⟨fun v hv => ?_, q2⟩
    rcases List.mem_cons.mp hv with rfl | hv
    · exact rdI_ok hE hs4 hs hb h1
    · exact q1 v hv
theorem rdC_len2 : ∀ (k : Nat) (l : List Int32) (q : List Int32 × List Int32), rdC k l = some q → q.1.length = k
  | 0, l, q, h => by
    injection h with h
    rw [← h]; rfl
  | k + 1, l, q, h => by
    rw [rdC] at h
    obtain ⟨a, h1, h2⟩ := Option.bind_eq_some_iff.mp h
    obtain ⟨r, h3, h4⟩ := Option.map_eq_some_iff.mp h2
    rw [← h4, List.length_cons, rdC_len2 k _ _ h3]
theorem rdR_ok {l : List Int32} {q : Option (List Int32) × List Int32} (h : rdR l = some q) : ∀ r, q.1 = some r → r.length ≤ 6 := by
  intro r hr
  rw [rdR] at h
  obtain ⟨a, h1, h2⟩ := Option.bind_eq_some_iff.mp h
  by_cases c1 : a.1 = 255
  · rw [if_pos c1] at h2
    injection h2 with h2
    rw [← h2] at hr
    cases hr
  · rw [if_neg c1] at h2
    by_cases c2 : 6 < a.1.toInt
    · rw [if_pos c2] at h2
      cases h2
    · rw [if_neg c2] at h2
      obtain ⟨b, h3, h4⟩ := Option.map_eq_some_iff.mp h2
      rw [← h4] at hr
      injection hr with hr
      rw [← hr, rdC_len2 _ _ _ h3]
      omega
theorem rdRs_ok : ∀ (k : Nat) (l : List Int32) (q : List (Option (List Int32)) × List Int32), byR l → rdRs k l = some q → (∀ r, some r ∈ q.1 → r.length ≤ 6) ∧ byR q.2
  | 0, l, q, hb, h => by
    injection h with h
    rw [← h]
    exact ⟨fun v hv => (by cases hv), hb⟩
  | k + 1, l, q, hb, h => by
    rw [rdRs] at h
    obtain ⟨a, h1, h2⟩ := Option.bind_eq_some_iff.mp h
    obtain ⟨r, h3, h4⟩ := Option.map_eq_some_iff.mp h2
    obtain ⟨q1, q2⟩ := rdRs_ok k a.2 r (rdR_byR h1 hb) h3
    rw [← h4]
    refine ⟨fun v hv => ?_, q2⟩
    rcases List.mem_cons.mp hv with hv | hv
    · exact rdR_ok h1 v hv.symm
    · exact q1 v hv
theorem rdOb_ok {l : List Int32} {q : yO × List Int32} (hE : En.length ≤ 100) (hb : byR l) (h : rdOb En l = some q) : yOk En q.1 ∧ byR q.2 := by
  rw [rdOb] at h
  obtain ⟨a, h1, h⟩ := Option.bind_eq_some_iff.mp h
  obtain ⟨b, h2, h⟩ := Option.bind_eq_some_iff.mp h
  obtain ⟨a1, a2⟩ := rd1_by hb h1
  obtain ⟨b1, b2⟩ := rd1_by a2 h2
  by_cases hc : a.1.toInt ≤ 7 ∧ b.1.toInt ≤ (if a.1 = 4 then 6 else 12) ∧ (a.1 = 7 → b.1 = 1)
  rotate_left
  · rw [if_neg hc] at h
    cases h
  rw [if_pos hc, rdO] at h
  by_cases s4 : a.1.toInt.toNat = 4
  · rw [if_pos s4] at h
    obtain ⟨r, h3, h4⟩ := Option.map_eq_some_iff.mp h
    obtain ⟨q1, q2⟩ := rdRs_ok _ _ _ b2 h3
    have hl := rdRs_len _ _ _ h3
    have ea : a.1 = 4 := Int32.toInt_inj.mp (by rw [show (4 : Int32).toInt = 4 from rfl]; omega)
    rw [if_pos ea] at hc
    rw [← h4]
    refine ⟨⟨show 4 ≤ 7 by decide, fun _ => ⟨rfl, show r.1.length ≤ 6 by omega, q1⟩, fun h => absurd rfl h, fun h => absurd h (show (4 : Nat) ≠ 7 by decide), fun h => absurd h (show (4 : Nat) ≠ 5 by decide), fun h => absurd h (show (4 : Nat) ≠ 6 by decide), fun h => absurd h (show (4 : Nat) ≠ 0 by decide), fun h => absurd h (show (4 : Nat) ≠ 1 by decide), fun h => absurd h (show (4 : Nat) ≠ 3 by decide)⟩, q2⟩
  · rw [if_neg s4] at h
    obtain ⟨r, h3, h4⟩ := Option.map_eq_some_iff.mp h
    obtain ⟨q1, q2⟩ := rdIs_ok hE s4 (by omega) _ _ _ b2 h3
    have hl := rdIs_len _ _ _ h3
    have ea : a.1 ≠ 4 := fun e => s4 (by rw [e]; rfl)
    rw [if_neg ea] at hc
    rw [← h4]
    refine ⟨⟨show a.1.toInt.toNat ≤ 7 by omega, fun h => absurd h s4, fun _ => ⟨rfl, show r.1.length ≤ 12 by omega⟩, fun h7 => ?_, fun h v hv => (q1 v hv).2.2.2.1 h, fun h v hv => (q1 v hv).2.2.2.2.1 h, fun h v hv => (q1 v hv).1 h, fun h v hv => (q1 v hv).2.1 h, fun h v hv => (q1 v hv).2.2.1 h⟩, q2⟩
    have h7' : a.1.toInt.toNat = 7 := h7
    have e7 : a.1 = 7 := Int32.toInt_inj.mp (by rw [show (7 : Int32).toInt = 7 from rfl]; omega)
    rw [hc.2.2 e7] at hl
    have hl1 : r.1.length = 1 := hl
    match hr : r.1, hl1 with
    | [v], _ =>
      obtain ⟨n, hn, hv⟩ := (q1 v (by rw [hr]; exact List.mem_singleton.mpr rfl)).2.2.2.2.2 h7'
      refine ⟨n, hn, ?_⟩
      rw [hv]
theorem rdAll_ok (hE : En.length ≤ 100) (h20 : F.1.length ≤ 20) : ∀ (k lst : Nat) (l : List Int32) (A : List (Option yO)) (r : Nat) (A2 : List (Option yO)) (j : Nat), byR l → (∀ y, some y ∈ A → yOk En y) → rdAll En F k lst l A r = (some A2, j) → A2.length = A.length ∧ ∀ y, some y ∈ A2 → yOk En y
  | 0, lst, l, A, r, A2, j, hb, hA, h => by
    injection h with h _
    injection h with h
    rw [← h]
    exact ⟨rfl, hA⟩
  | k + 1, lst, l, A, r, A2, j, hb, hA, h => by
    rw [rdAll] at h
    by_cases hl : l = []
    · rw [if_pos hl] at h
      injection h with h _
      injection h with h
      rw [← h]
      exact ⟨rfl, hA⟩
    · rw [if_neg hl] at h
      rcases hr : rdRow En F lst l with _ | q
      · rw [hr] at h
        injection h with h _
        cases h
      · rw [hr] at h
        rw [rdRow] at hr
        obtain ⟨a, h1, hr⟩ := Option.bind_eq_some_iff.mp hr
        obtain ⟨a1, a2⟩ := rd1_by hb h1
        by_cases hc : (lst : Int) ≤ a.1.toInt ∧ (askP F a.1).isSome
        rotate_left
        · rw [if_neg hc] at hr
          cases hr
        rw [if_pos hc] at hr
        obtain ⟨o, h2, hr⟩ := Option.bind_eq_some_iff.mp hr
        obtain ⟨c, h3, hr⟩ := Option.bind_eq_some_iff.mp hr
        by_cases hc2 : c.1 = smB 0 (l.take (l.length - o.2.length))
        rotate_left
        · rw [if_neg hc2] at hr
          cases hr
        rw [if_pos hc2] at hr
        injection hr with hr
        obtain ⟨o1, o2⟩ := rdOb_ok hE a2 h2
        have hb2 : byR c.2 := by
          rw [(rdN_drop _ _ _ _ h3).1]
          exact o2.drop _
        rw [← hr] at h
        obtain ⟨q1, q2⟩ := rdAll_ok hE h20 k _ _ _ _ A2 j hb2 (fun y hy => by
          rcases List.mem_or_eq_of_mem_set hy with hy | hy
          · exact hA y hy
          · injection hy with hy
            rw [hy]
            exact o1) h
        exact ⟨by rw [q1, List.length_set], q2⟩
end RDP
