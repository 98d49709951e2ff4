/-! THE DISK: items told, the reference -/
section TOLD3
variable {N : Nat} {Q : zS} {En : List (Int64 × Int32)} {o : zH} {y : yO} {hd : List Int32}
theorem tl_fin {S : zS} {m : List Int32} (hN : 8 < N) (hl : (hd ++ m).length + 2 < 100000) (hK : KM Q S (hd ++ m) (smB 0 m) (hsB 17 (hd ++ m))) : ∃ S', (zb (rK_tellL N ((zI S 2).toInt64) 2 S) fun _ S11 => some ((), S11)) = some ((), S') ∧ ∃ c, KM Q S' (hd ++ m ++ bts (smB 0 m).toInt64 2) c (hsB 17 (hd ++ m ++ bts (smB 0 m).toInt64 2)) := by
  obtain ⟨S1, e1, e2⟩ := r_tellL (N := N) (v := (smB 0 m).toInt64) (w := 2) hN (by omega) hl hK
  have e1' : rK_tellL N ((zI S 2).toInt64) 2 S = some ((), S1) := by rw [hK.2.2.2.1]; exact e1
  have e3 : hsB 17 (hd ++ m ++ bts (smB 0 m).toInt64 2) = hsB (hsB 17 (hd ++ m)) (bts (smB 0 m).toInt64 2) := hsB_app _ _
  exact ⟨S1, by rw [e1', zbs], _, e3 ▸ e2⟩
theorem tl_step {v : Int64} {i n : Nat} {S : zS} {bs : List Int32} {c h : Int32} (hc : hM o y) (hk : yOk En y) (hE : En.length ≤ 100) (h4 : y.1 ≠ 4) (hi : y.2.1[i]? = some v) (hN : 8 < N) (hl : bs.length + 8 < 100000) (hK : KM Q S bs c h) : ∃ S', rK_tellAnswer_16 N (n + 1) o (Int32.ofNat i) S = rK_tellAnswer_16 N n o (Int32.ofNat (i + 1)) S' ∧ KM Q S' (bs ++ itB y.1 v) (smB c (itB y.1 v)) (hsB h (itB y.1 v)) := by
  have l12 := (hk.2.2.1 h4).2
  have hil := (List.getElem?_eq_some_iff.mp hi).1
  have h7 := hk.1
  obtain ⟨c1, c2, ⟨jk, c3⟩, _⟩ := hc
  have hg : gI o.2.2.1 (Int32.ofNat i) = some v := by rw [gI_nat (by omega), c3, List.getElem?_append_left hil]; exact hi
  have hsz : ¬ o.2.1.toInt ≤ (Int32.ofNat i).toInt := by rw [c2, osz_n4 h4, yi_nat (by omega), yi_nat (by omega)]; omega
  have hm := List.mem_of_getElem? hi
  have big : ∀ w : Nat, w ≤ 8 → ∃ S', rK_tellL N v (Int32.ofNat w) S = some ((), S') ∧ KM Q S' (bs ++ bts v w) (smB c (bts v w)) (hsB h (bts v w)) := fun w hw => r_tellL hN hw (by omega) hK
  rw [rK_tellAnswer_16, if_neg hsz, yi_add1]
  have hs : y.1 = 0 ∨ y.1 = 1 ∨ y.1 = 2 ∨ y.1 = 3 ∨ y.1 = 5 ∨ y.1 = 6 ∨ y.1 = 7 := by omega
  rcases hs with e | e | e | e | e | e | e <;> rw [e] at c1
  · obtain ⟨S1, e1, e2⟩ := big 1 (by omega)
    have e1' : rK_tellL N v 1 S = some ((), S1) := e1
    rw [c1, if_pos (by decide), if_neg (by decide), if_pos (by decide), hg, zgs, if_pos (by decide), if_pos (by decide), if_pos (by decide), e1', zbs, e]
    exact ⟨S1, rfl, e2⟩
  · obtain ⟨S1, e1, e2⟩ := big 4 (by omega)
    have e1' : rK_tellL N v 4 S = some ((), S1) := e1
    rw [c1, if_pos (by decide), if_neg (by decide), if_pos (by decide), hg, zgs, if_neg (by decide), e1', zbs, e]
    exact ⟨S1, rfl, e2⟩
  · obtain ⟨S1, e1, e2⟩ := big 8 (by omega)
    have e1' : rK_tellL N v 8 S = some ((), S1) := e1
    rw [c1, if_pos (by decide), if_neg (by decide), if_pos (by decide), hg, zgs, if_pos (by decide), if_neg (by decide), e1', zbs, e]
    exact ⟨S1, rfl, e2⟩
  · obtain ⟨S1, e1, e2⟩ := big 2 (by omega)
    have e1' : rK_tellL N v 2 S = some ((), S1) := e1
    rw [c1, if_pos (by decide), if_neg (by decide), if_pos (by decide), hg, zgs, if_pos (by decide), if_pos (by decide), if_neg (by decide), e1', zbs, e]
    exact ⟨S1, rfl, e2⟩
  · obtain ⟨S1, e1, e2⟩ := r_seat (N := N) hE (hk.2.2.2.2.1 e v hm) (by omega) hK
    rw [c1, if_pos (by decide), if_pos (by decide), hg, zgs, e1, zbs, e]
    exact ⟨S1, rfl, e2⟩
  · obtain ⟨S1, e1, e2⟩ := r_seat (N := N) hE (by
      rcases hk.2.2.2.2.2.1 e v hm with q | ⟨n, x, q1, _, q3⟩
      · exact Or.inl q
      · exact Or.inr ⟨n, (List.getElem?_eq_some_iff.mp q1).1, q3⟩) (by omega) hK
    rw [c1, if_pos (by decide), if_neg (by decide), if_neg (by decide), hg, zgs, e1, zbs, e]
    exact ⟨S1, rfl, e2⟩
  · obtain ⟨S1, e1, e2⟩ := big 1 (by omega)
    have e1' : rK_tellL N v 1 S = some ((), S1) := e1
    rw [c1, if_pos (by decide), if_neg (by decide), if_pos (by decide), hg, zgs, if_pos (by decide), if_pos (by decide), if_pos (by decide), e1', zbs, e]
    exact ⟨S1, rfl, e2⟩
theorem tl_I (hc : hM o y) (hk : yOk En y) (hE : En.length ≤ 100) (h4 : y.1 ≠ 4) (hN : 8 < N) : ∀ (r pre : List Int64) (n : Nat) (S : zS) (m : List Int32), y.2.1 = pre ++ r → r.length < n → (hd ++ m).length + 8 * r.length + 2 < 100000 → KM Q S (hd ++ m) (smB 0 m) (hsB 17 (hd ++ m)) → ∃ S', rK_tellAnswer_16 N n o (Int32.ofNat pre.length) S = some ((), S') ∧ ∃ c, KM Q S' (hd ++ (m ++ r.flatMap (itB y.1)) ++ bts (smB 0 (m ++ r.flatMap (itB y.1))).toInt64 2) c (hsB 17 (hd ++ (m ++ r.flatMap (itB y.1)) ++ bts (smB 0 (m ++ r.flatMap (itB y.1))).toInt64 2))
  | _, _, 0, _, _, _, hn, _, _ => by omega
  | [], pre, n + 1, S, m, hp, _, hl, hK => by
    have l12 := (hk.2.2.1 h4).2
    rw [List.append_nil] at hp
    rw [rK_tellAnswer_16, if_pos (by rw [hc.2.1, osz_n4 h4, hp]; omega), List.flatMap_nil, List.append_nil]
    exact tl_fin hN (by rw [List.length_nil] at hl; omega) hK
  | v :: r, pre, n + 1, S, m, hp, hn, hl, hK => by
    rw [List.length_cons] at hn hl
    have hv : y.2.1[pre.length]? = some v := by rw [hp, List.getElem?_append_right (Nat.le_refl _), Nat.sub_self]; rfl
    obtain ⟨S1, e1, e2⟩ := tl_step (N := N) (n := n) hc hk hE h4 hv hN (by omega) hK
    have e3 := itB_len y.1 v
    rw [← smB_app, ← hsB_app, List.append_assoc] at e2
    obtain ⟨S', f1, f2⟩ := tl_I hc hk hE h4 hN r (pre ++ [v]) n S1 (m ++ itB y.1 v) (by rw [hp]; simp) (by omega) (by rw [List.length_append] at hl ⊢; rw [List.length_append]; omega) e2
    rw [List.length_append, List.length_singleton] at f1
    refine ⟨S', by rw [e1, f1], ?_⟩
    rw [List.flatMap_cons, ← List.append_assoc m]
    exact f2
end TOLD3
