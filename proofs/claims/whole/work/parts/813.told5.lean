/-! THE DISK: an answer told, the reference -/
section TOLD5
variable {N : Nat} {Q : zS} {En : List (Int64 × Int32)} {o : zH} {y : yO} {hd : List Int32}
theorem tl_R (hc : hM o y) (hk : yOk En y) (h4 : y.1 = 4) (hN : 8 < N) : ∀ (r pre : List (Option (List Int32))) (n : Nat) (S : zS) (m : List Int32), y.2.2 = pre ++ r → r.length < n → (hd ++ m).length + 25 * r.length + 2 < 100000 → KM Q S (hd ++ m) (smB 0 m) (hsB 17 (hd ++ m)) → ∃ S', rK_tellAnswer_16 N n o (Int32.ofNat pre.length) S = some ((), S') ∧ ∃ c, KM Q S' (hd ++ (m ++ r.flatMap rwB) ++ bts (smB 0 (m ++ r.flatMap rwB)).toInt64 2) c (hsB 17 (hd ++ (m ++ r.flatMap rwB) ++ bts (smB 0 (m ++ r.flatMap rwB)).toInt64 2))
  | _, _, 0, _, _, _, hn, _, _ => by omega
  | [], pre, n + 1, S, m, hp, _, hl, hK => by
    have l6 := (hk.2.1 h4).2.1
    rw [List.append_nil] at hp
    rw [rK_tellAnswer_16, if_pos (by rw [hc.2.1, osz4 h4, hp]; omega), List.flatMap_nil, List.append_nil]
    exact tl_fin hN (by rw [List.length_nil] at hl; omega) hK
  | q :: r, pre, n + 1, S, m, hp, hn, hl, hK => by
    rw [List.length_cons] at hn hl
    have hv : y.2.2[pre.length]? = some q := by rw [hp, List.getElem?_append_right (Nat.le_refl _), Nat.sub_self]; rfl
    obtain ⟨S1, e1, e2⟩ := tl_row (N := N) (n := n) hc hk h4 hv hN (by omega) hK
    have e3 := rwB_len (r := q) (fun l hl => (hk.2.1 h4).2.2 l (hl ▸ List.mem_of_getElem? hv))
    rw [← smB_app, ← hsB_app, List.append_assoc] at e2
    obtain ⟨S', f1, f2⟩ := tl_R hc hk h4 hN r (pre ++ [q]) n S1 (m ++ rwB q) (by rw [hp]; simp) (by omega) (by rw [List.length_append] at hl ⊢; rw [List.length_append]; omega) e2
    rw [List.length_append, List.length_singleton] at f1
    refine ⟨S', by rw [e1, f1], ?_⟩
    rw [List.flatMap_cons, ← List.append_assoc m]
    exact f2
/-- an answer told -/
theorem r_ans {p : Nat} {S : zS} {c : Int32} (hN : 20 < N) (hp : p < 20) (hc : hM o y) (hk : yOk En y) (hE : En.length ≤ 100) (hl : hd.length + 160 < 100000) (hK : KM Q S hd c (hsB 17 hd)) : ∃ S', rK_tellAnswer N (Int32.ofNat p) o S = some ((), S') ∧ ∃ c', KM Q S' (hd ++ obB p y) c' (hsB 17 (hd ++ obB p y)) := by
  have h7 := hk.1
  have hz := osz_le hk.1 hk.2.1 hk.2.2.1
  have hK0 : KM Q (zsI S 2 0) (hd ++ []) (smB 0 []) (hsB 17 (hd ++ [])) := by
    rw [List.append_nil]
    exact ⟨hK.1, hK.2.1, hK.2.2.1, rfl, hK.2.2.2.2.1, hK.2.2.2.2.2⟩
  obtain ⟨S1, e1, e2⟩ := r_tell1 (N := N) (k := p) (by omega) (by rw [List.append_nil]; omega) hK0
  rw [← smB_app, ← hsB_app, List.append_assoc, List.nil_append] at e2
  obtain ⟨S2, f1, f2⟩ := r_tell1 (N := N) (k := y.1) (by omega) (by rw [List.length_append, bts_len]; omega) e2
  rw [← smB_app, ← hsB_app, List.append_assoc] at f2
  obtain ⟨S3, g1, g2⟩ := r_tell1 (N := N) (k := osz y) (by omega) (by rw [List.length_append, List.length_append, bts_len, bts_len]; omega) f2
  rw [← smB_app, ← hsB_app, List.append_assoc] at g2
  rw [rK_tellAnswer, e1, zbs, hc.1, f1, zbs, hc.2.1, g1, zbs]
  have hm : (hd ++ (bts (Int32.ofNat p).toInt64 1 ++ bts (Int32.ofNat y.1).toInt64 1 ++ bts (Int32.ofNat (osz y)).toInt64 1)).length = hd.length + 3 := by
    rw [List.length_append, List.length_append, List.length_append, bts_len, bts_len, bts_len]
  unfold obB obI
  by_cases h4 : y.1 = 4
  · have l6 := (hk.2.1 h4).2.1
    rw [if_pos h4, ← List.append_assoc hd]
    exact tl_R hc hk h4 (by omega) y.2.2 [] N S3 _ rfl (by omega) (by rw [hm]; omega) g2
  · have l12 := (hk.2.2.1 h4).2
    rw [if_neg h4, ← List.append_assoc hd]
    exact tl_I hc hk hE h4 (by omega) y.2.1 [] N S3 _ rfl (by omega) (by rw [hm]; omega) g2
end TOLD5
