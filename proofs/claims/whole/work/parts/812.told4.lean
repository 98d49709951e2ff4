/-! THE DISK: rows told, the reference -/
section TOLD4
variable {N : Nat} {Q : zS} {En : List (Int64 × Int32)} {o : zH} {y : yO} {hd : List Int32} {k16 : zH → Int32 → zS → Option (Unit × zS)}
theorem tl_cells {i : Nat} {l : List Int32} (hc : hM o y) (hi : y.2.2[i]? = some (some l)) (h6 : l.length ≤ 6) (hi6 : i < 6) (hN : 8 < N) : ∀ (r pre : List Int32) (n : Nat) (S : zS) (bs : List Int32) (c h : Int32), l = pre ++ r → r.length < n → bs.length + 4 * r.length < 100000 → KM Q S bs c h → ∃ S', rK_tellAnswer_39 N k16 n o (Int32.ofNat i) (Int32.ofNat pre.length) S = k16 o (Int32.ofNat (i + 1)) S' ∧ KM Q S' (bs ++ r.flatMap fun c => bts c.toInt64 4) (smB c (r.flatMap fun c => bts c.toInt64 4)) (hsB h (r.flatMap fun c => bts c.toInt64 4))
  | _, _, 0, _, _, _, _, _, hn, _, _ => by omega
  | r, pre, n + 1, S, bs, c, h, hp, hn, hl, hK => by
    have hr : gI o.2.2.2.1 (Int32.ofNat i) = some (Int32.ofNat l.length) := by rw [gI_nat (by omega)]; exact hc.2.2.2.1 i _ hi
    have hlen : l.length = pre.length + r.length := by rw [hp, List.length_append]
    rw [rK_tellAnswer_39, hr, zgs]
    rcases r with _ | ⟨x, r⟩
    · rw [List.length_nil] at hlen
      rw [if_pos (by rw [hlen]; exact Int.le_refl _), yi_add1, List.flatMap_nil, List.append_nil]
      exact ⟨S, rfl, hK⟩
    · rw [List.length_cons] at hn hl hlen
      have hx : l[pre.length]? = some x := by rw [hp, List.getElem?_append_right (Nat.le_refl _), Nat.sub_self]; rfl
      have hg : gI o.2.2.2.2 (6 * Int32.ofNat i + Int32.ofNat pre.length) = some x := by rw [yi_6, gI_nat (by omega)]; exact hc.2.2.2.2 i l _ x hi hx
      obtain ⟨S1, e1, e2⟩ := r_tellL (N := N) (v := x.toInt64) (w := 4) hN (by omega) (by omega) hK
      have e1' : rK_tellL N x.toInt64 4 S = some ((), S1) := e1
      rw [if_neg (by rw [yi_nat (by omega), yi_nat (by omega)]; omega), hg, zgs, e1', zbs, yi_add1]
      obtain ⟨S', f1, f2⟩ := tl_cells hc hi h6 hi6 hN r (pre ++ [x]) n S1 (bs ++ bts x.toInt64 4) _ _ (by rw [hp]; simp) (by omega) (by rw [List.length_append, bts_len]; omega) e2
      rw [List.length_append, List.length_singleton] at f1
      refine ⟨S', f1, ?_⟩
      rw [List.flatMap_cons, smB_app, hsB_app, ← List.append_assoc]
      exact f2
theorem tl_row {i n : Nat} {q : Option (List Int32)} {S : zS} {bs : List Int32} {c h : Int32} (hc : hM o y) (hk : yOk En y) (h4 : y.1 = 4) (hi : y.2.2[i]? = some q) (hN : 8 < N) (hl : bs.length + 25 < 100000) (hK : KM Q S bs c h) : ∃ S', rK_tellAnswer_16 N (n + 1) o (Int32.ofNat i) S = rK_tellAnswer_16 N n o (Int32.ofNat (i + 1)) S' ∧ KM Q S' (bs ++ rwB q) (smB c (rwB q)) (hsB h (rwB q)) := by
  have l6 := (hk.2.1 h4).2.1
  have hil := (List.getElem?_eq_some_iff.mp hi).1
  have hr : gI o.2.2.2.1 (Int32.ofNat i) = some (rsz q) := by rw [gI_nat (by omega)]; exact hc.2.2.2.1 i _ hi
  have hsz : ¬ o.2.1.toInt ≤ (Int32.ofNat i).toInt := by rw [hc.2.1, osz4 h4, yi_nat (by omega), yi_nat (by omega)]; omega
  have ho : ¬ o.1 ≠ (4 : Int32) := by rw [hc.1, h4]; exact nn rfl
  rw [rK_tellAnswer_16, if_neg hsz, if_neg ho, hr, zgs]
  rcases q with _ | l
  · obtain ⟨S1, e1, e2⟩ := r_tell1 (N := N) (k := 255) (by omega) (by omega) hK
    have e1' : rK_tell N 255 S = some ((), S1) := e1
    obtain ⟨m, rfl⟩ : ∃ m, N = m + 1 := ⟨N - 1, by omega⟩
    rw [if_neg (by decide), e1', zbs, rK_tellAnswer_39, hr, zgs, if_pos (by decide), yi_add1]
    exact ⟨S1, rfl, e2⟩
  · have h6 := (hk.2.1 h4).2.2 l (List.mem_of_getElem? hi)
    have er : rsz (some l) = Int32.ofNat l.length := rfl
    obtain ⟨S1, e1, e2⟩ := r_tell1 (N := N) (k := l.length) (by omega) (by omega) hK
    obtain ⟨S', f1, f2⟩ := tl_cells (k16 := rK_tellAnswer_16 N n) hc hi h6 (by omega) hN l [] N S1 _ _ _ rfl (by omega) (by rw [List.length_append, bts_len]; omega) e2
    rw [er, if_pos (by rw [yi_nat (by omega)]; omega), zgs, e1, zbs]
    refine ⟨S', f1, ?_⟩
    show KM Q S' (bs ++ (bts (Int32.ofNat l.length).toInt64 1 ++ l.flatMap fun c => bts c.toInt64 4)) (smB c (bts (Int32.ofNat l.length).toInt64 1 ++ l.flatMap fun c => bts c.toInt64 4)) (hsB h (bts (Int32.ofNat l.length).toInt64 1 ++ l.flatMap fun c => bts c.toInt64 4))
    rw [smB_app, hsB_app, ← List.append_assoc]
    exact f2
end TOLD4
