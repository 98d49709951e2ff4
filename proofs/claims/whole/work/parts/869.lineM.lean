/-! THE DESK: a line; the reference -/
section DESKM4
variable {N : Nat} {S : zS} {En : List (Int64 × Int32)} {ob : yO} {i n : Int32}
theorem rd_l55 {N i : Nat} (hi : i < 6) : ∀ (m : Nat) {n k : Nat} {S : zS}, k + m = 6 → m < n → (zA S 4).length = 36 → ∃ S', rD_line_55 N n (Int32.ofNat i) (Int32.ofNat k) S = some (0, S') ∧ zI S' 0 = zI S 0 ∧ zI S' 1 = zI S 1 ∧ zI S' 5 = zI S 5 ∧ zB S' 2 = zB S 2 ∧ zA S' 3 = zA S 3 ∧ (zA S' 4).length = 36 ∧ (∀ q, 6 * i + k ≤ q → q < 6 * i + 6 → (zA S' 4)[q]? = some 0) ∧ (∀ q, (q < 6 * i + k ∨ 6 * i + 6 ≤ q) → (zA S' 4)[q]? = (zA S 4)[q]?)
  | _, 0, _, _, _, h, _ => absurd h (by omega)
  | 0, n + 1, k, S, h0, _, h2 => ⟨S, by rw [rD_line_55, if_pos (by rw [yi_nat (by omega)]; omega)], rfl, rfl, rfl, rfl, rfl, h2, fun q h3 h4 => absurd h3 (by omega), fun _ _ => rfl⟩
  | m + 1, n + 1, k, S, h0, h1, h2 => by
    have t6 : 6 * Int32.ofNat i + Int32.ofNat k = Int32.ofNat (6 * i + k) := by
      rw [show (6 : Int32) = Int32.ofNat 6 from rfl, Int32.ofNat_add, Int32.ofNat_mul]
    obtain ⟨S', e1, e2, e3, e4, e5, e6, e7, e8, e9⟩ := rd_l55 (N := N) hi m (n := n) (k := k + 1) (S := zsA S 4 ((zA S 4).set (6 * i + k) 0)) (by omega) (by omega) (by show ((zA S 4).set _ _).length = 36; rw [List.length_set]; exact h2)
    refine ⟨S', ?_, e2, e3, e4, e5, e6, e7, fun q h3 h4 => ?_, fun q h3 => ?_⟩
    · rw [rD_line_55, if_neg (by rw [yi_nat (by omega)]; omega), t6, if_pos ⟨by rw [yi_nat (by omega)]; omega, by rw [yi_nat (by omega), h2]; omega⟩, zs, yi_toNat (by omega), show Int32.ofNat k + 1 = Int32.ofNat (k + 1) by rw [Int32.ofNat_add]; rfl]
      exact e1
    · by_cases e : q = 6 * i + k
      · rw [e9 q (by omega), e]
        show ((zA S 4).set _ _)[_]? = _
        rw [List.getElem?_set_self (by omega)]
      · exact e8 q (by omega) h4
    · rw [e9 q (by omega)]
      show ((zA S 4).set _ _)[_]? = _
      rw [List.getElem?_set_ne (by omega)]
theorem r_lineD (hN : 7 ≤ N) (hv : thV S ob) (hk : yOk En ob) : ∃ S', rD_line N i n S = some (liV (some ob) (zI S 5) i n, S') ∧ thV S' (liO ob (liV (some ob) (zI S 5) i n) i n) ∧ zI S' 5 = flW (zI S 5) (liV (some ob) (zI S 5) i n) := by
  obtain ⟨v0, v1, v2, v3, v4, v5, v6⟩ := id hv
  have bad : ∀ {w : Int32} {S' : zS}, rD_line N i n S = some (w, S') → liV (some ob) (zI S 5) i n = w → w ≠ 0 → thV S' ob → zI S' 5 = flW (zI S 5) w → ∃ S', rD_line N i n S = some (liV (some ob) (zI S 5) i n, S') ∧ thV S' (liO ob (liV (some ob) (zI S 5) i n) i n) ∧ zI S' 5 = flW (zI S 5) (liV (some ob) (zI S 5) i n) := by
    intro w S' h1 h2 h3 h4 h5
    rw [h2]
    exact ⟨S', h1, by rw [liO, if_neg h3]; exact h4, h5⟩
  have hF : ∀ k : Int32, thV (zsI S 5 k) ob := fun k => hv
  by_cases h6 : n.toInt ≤ 6
  rotate_left
  · exact bad (w := -1) (by rw [rD_line, if_neg h6]) (by rw [liV, if_pos (by omega)]) (by decide) hv (by rw [flW, if_neg (by decide)])
  · by_cases hs : 10000 ≤ (zI S 5).toInt
    · exact bad (w := -3) (by rw [rD_line, if_pos h6, rd_spent, if_pos hs, zb_s, if_neg (by decide)]) (by rw [liV, if_neg (by omega), if_pos hs]) (by decide) hv (by rw [flW, if_neg (by decide)])
    · by_cases h0 : 0 ≤ n.toInt
      rotate_left
      · exact bad (w := -16) (by rw [rD_line, if_pos h6, rd_spent, if_neg hs, zb_s, if_pos rfl, if_neg h0, rD_failed, zb_s]; rfl) (by rw [liV, if_neg (by omega), if_neg hs, if_pos (by omega)]) (by decide) (hF _) (by rw [flWn (by decide) (by decide)]; rfl)
      · have lv : liV (some ob) (zI S 5) i n = if ¬ ob.1 = 4 then -12 else if ¬ (0 ≤ i.toInt ∧ i.toInt < osz ob) then -13 else 0 := by rw [liV, if_neg (by omega), if_neg hs, if_neg (by omega)]
        by_cases e4 : ob.1 = 4
        rotate_left
        · have k4 : zI S 0 ≠ 4 := by
            rw [v0]
            exact fun h => e4 (yi_inj (b := 4) (by have := hk.1; omega) (by omega) h)
          exact bad (w := -12) (by rw [rD_line, if_pos h6, rd_spent, if_neg hs, zb_s, if_pos rfl, if_pos h0, if_neg k4, rD_failed, zb_s]; rfl) (by rw [lv, if_pos e4]) (by decide) (hF _) (by rw [flWn (by decide) (by decide)]; rfl)
        · have k4 : zI S 0 = 4 := by rw [v0, e4]; rfl
          have hr6 := hk.2.1 e4
          have hsz : osz ob = ob.2.2.length := osz4 e4
          have tsz : ((zI S 1 - 1).toInt64).toInt = (osz ob : Int) - 1 := by rw [y6432, v1, la_int (by omega)]
          by_cases hi : 0 ≤ i.toInt ∧ i.toInt < osz ob
          rotate_left
          · exact bad (w := -13) (by rw [rD_line, if_pos h6, rd_spent, if_neg hs, zb_s, if_pos rfl, if_pos h0, if_pos k4, rd_in, zb_s, y6432, tsz, if_neg (show ¬ (0 ≤ i.toInt ∧ i.toInt ≤ (osz ob : Int) - 1) by omega), if_neg (fun h => h rfl), rD_failed, zb_s]; rfl) (by rw [lv, if_neg (fun h => h e4), if_pos hi]) (by decide) (hF _) (by rw [flWn (by decide) (by decide)]; rfl)
          · have lv0 : liV (some ob) (zI S 5) i n = 0 := by rw [lv, if_neg (fun h => h e4), if_neg (fun h => h hi)]
            rw [lv0]
            have hiN : i = Int32.ofNat i.toInt.toNat := (yi_id hi.1).symm
            obtain ⟨S', s1, s2, s3, s4, s5, s6, s7, s8, s9⟩ := rd_l55 (N := N) (i := i.toInt.toNat) (by omega) 6 (n := N) (k := 0) (S := zsA S 3 ((zA S 3).set i.toInt.toNat n)) rfl (by omega) v4
            refine ⟨S', ?_, ?_, ?_⟩
            · rw [rD_line, if_pos h6, rd_spent, if_neg hs, zb_s, if_pos rfl, if_pos h0, if_pos k4, rd_in, zb_s, y6432, tsz, if_pos (show 0 ≤ i.toInt ∧ i.toInt ≤ (osz ob : Int) - 1 by omega), if_pos (by decide), if_pos ⟨hi.1, by rw [v3]; omega⟩, zs]
              rw [yi_id hi.1] at s1
              exact s1
            · rw [liO, if_pos rfl]
              refine ⟨s2.trans v0, ?_, ?_, ?_, s7, fun k r hk2 => ?_, fun k l' q x hk2 hq => ?_⟩
              · rw [s3]
                show zI S 1 = _
                rw [v1, hsz, osz4 (o := (ob.1, ob.2.1, ob.2.2.set i.toInt.toNat (some (List.replicate n.toInt.toNat 0)))) e4]
                show _ = Int32.ofNat (ob.2.2.set _ _).length
                rw [List.length_set]
              · rw [s5]
                exact v2
              · rw [s6]
                show ((zA S 3).set _ _).length = 6
                rw [List.length_set]
                exact v3
              · rw [s6]
                show ((zA S 3).set _ _)[_]? = _
                by_cases e : i.toInt.toNat = k
                · subst e
                  have hk3 : (ob.2.2.set i.toInt.toNat (some (List.replicate n.toInt.toNat 0)))[i.toInt.toNat]? = some r := hk2
                  rw [List.getElem?_set_self (by omega)] at hk3
                  injection hk3 with hk3
                  rw [← hk3, List.getElem?_set_self (by omega)]
                  show _ = some (Int32.ofNat (List.replicate _ _).length)
                  rw [List.length_replicate, yi_id h0]
                · have hk3 : (ob.2.2.set i.toInt.toNat (some (List.replicate n.toInt.toNat 0)))[k]? = some r := hk2
                  rw [List.getElem?_set_ne e] at hk3
                  rw [List.getElem?_set_ne e]
                  exact v5 _ _ hk3
              · by_cases e : i.toInt.toNat = k
                · subst e
                  have hk3 : (ob.2.2.set i.toInt.toNat (some (List.replicate n.toInt.toNat 0)))[i.toInt.toNat]? = some (some l') := hk2
                  rw [List.getElem?_set_self (by omega)] at hk3
                  injection hk3 with hk3
                  injection hk3 with hk3
                  subst hk3
                  have hq2 := (List.getElem?_eq_some_iff.mp hq).1
                  rw [List.length_replicate] at hq2
                  rw [List.getElem?_replicate, if_pos hq2] at hq
                  injection hq with hq
                  rw [s8 _ (by omega) (by omega), hq]
                · have hk3 : (ob.2.2.set i.toInt.toNat (some (List.replicate n.toInt.toNat 0)))[k]? = some (some l') := hk2
                  rw [List.getElem?_set_ne e] at hk3
                  have h6 := hr6.2.2 l' (List.mem_of_getElem? hk3)
                  have hq6 := (List.getElem?_eq_some_iff.mp hq).1
                  rw [s9 _ (by omega)]
                  exact v6 _ _ _ _ hk3 hq
            · rw [s4]
              show zI S 5 = _
              rw [flW0]
theorem mD_line1 {X : List Int32} {D0 : List xE} {b ia ra ca : Nat} (hv : thV S ob) (hk : yOk En ob) (k2 : ((b, .inl (13, 2, .ref ia)) : xE) ∈ D0) (k3 : ((b, .inl (13, 3, .ref ra)) : xE) ∈ D0) (k4 : ((b, .inl (13, 4, .ref ca)) : xE) ∈ D0) (kd : ((209, .inl (14, 23, .ref b)) : xE) ∈ D0) : yK X 4 100 263 [.ref 209, .int i, .int n] (zD zTd (zad b ia ra ca) S D0) 0 0 (fun w D => ∃ S', w = some (.int (liV (some ob) (zI S 5) i n)) ∧ D = zD zTd (zad b ia ra ca) S' D0 ∧ thV S' (liO ob (liV (some ob) (zI S 5) i n) i n) ∧ zI S' 5 = flW (zI S 5) (liV (some ob) (zI S 5) i n)) := by
  obtain ⟨S', h1, h2, h3⟩ := r_lineD (N := 8) (i := i) (n := n) (by omega) hv hk
  refine (trD_line (X := X) (D0 := D0) (fr := 4) (lo := 100) k2 k3 k4 kd (by omega) (by omega) h1).mono (Nat.le_refl _) (Nat.le_refl _) ?_
  rintro w D ⟨rfl, rfl⟩
  exact ⟨S', rfl, rfl, h2, h3⟩
end DESKM4
