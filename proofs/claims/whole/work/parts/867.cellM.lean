/-! THE DESK: a cell written; the reference -/
section DESKM3
variable {N : Nat} {S : zS} {En : List (Int64 × Int32)} {ob : yO} {i j v : Int32}
theorem rd_in {a b : Int64} : rD_in N a 0 b S = some (if 0 ≤ a.toInt ∧ a.toInt ≤ b.toInt then 1 else 0, S) := by
  rw [rD_in, show (0 : Int64).toInt = 0 from rfl]
  by_cases h1 : a.toInt < 0
  · rw [if_pos h1, if_neg (by omega)]
  · rw [if_neg h1]
    by_cases h2 : b.toInt < a.toInt
    · rw [if_pos h2, if_neg (by omega)]
    · rw [if_neg h2, if_pos (by omega)]
theorem rd_spent : rD_isSpent N S = some (if 10000 ≤ (zI S 5).toInt then 1 else 0, S) := by
  rw [rD_isSpent]
  by_cases h : (zI S 5).toInt < 10000
  · rw [if_pos h, if_neg (by omega)]
  · rw [if_neg h, if_pos (by omega)]
theorem flWn {fl w : Int32} (h : w.toInt ≤ -11) (h2 : -20 < w.toInt) : flW fl w = fl + 1 := if_pos ⟨h, h2⟩
theorem r_cellD (hv : thV S ob) (hk : yOk En ob) : ∃ S', rD_cell N i j v S = some (ceV (some ob) (zI S 5) i j, S') ∧ thV S' (ceO ob (ceV (some ob) (zI S 5) i j) i j v) ∧ zI S' 5 = flW (zI S 5) (ceV (some ob) (zI S 5) i j) := by
  obtain ⟨v0, v1, v2, v3, v4, v5, v6⟩ := id hv
  have bad : ∀ {w : Int32} {S' : zS}, rD_cell N i j v S = some (w, S') → ceV (some ob) (zI S 5) i j = w → w ≠ 0 → thV S' ob → zI S' 5 = flW (zI S 5) w → ∃ S', rD_cell N i j v S = some (ceV (some ob) (zI S 5) i j, S') ∧ thV S' (ceO ob (ceV (some ob) (zI S 5) i j) i j v) ∧ zI S' 5 = flW (zI S 5) (ceV (some ob) (zI S 5) i j) := by
    intro w S' h1 h2 h3 h4 h5
    rw [h2]
    exact ⟨S', h1, by rw [ceO, if_neg h3]; exact h4, h5⟩
  have hF : ∀ k : Int32, thV (zsI S 5 k) ob := fun k => hv
  by_cases hs : 10000 ≤ (zI S 5).toInt
  · exact bad (by rw [rD_cell, rd_spent, if_pos hs, zb_s, if_neg (by decide)]) (by rw [ceV, if_pos hs]) (by decide) hv (by rw [flW, if_neg (by decide)])
  · by_cases e4 : ob.1 = 4
    rotate_left
    · have k4 : zI S 0 ≠ 4 := by
        rw [v0]
        exact fun h => e4 (yi_inj (b := 4) (by have := hk.1; omega) (by omega) h)
      exact bad (w := -12) (by rw [rD_cell, rd_spent, if_neg hs, zb_s, if_pos rfl, if_neg k4, rD_failed, zb_s]; rfl) (by rw [ceV, if_neg hs]; show (if ¬ ob.1 = 4 then _ else _) = _; rw [if_pos e4]) (by decide) (hF _) (by rw [flWn (by decide) (by decide)]; rfl)
    · have k4 : zI S 0 = 4 := by rw [v0, e4]; rfl
      have hr6 := hk.2.1 e4
      have hsz : osz ob = ob.2.2.length := osz4 e4
      have tsz : ((zI S 1 - 1).toInt64).toInt = (osz ob : Int) - 1 := by rw [y6432, v1, la_int (by omega)]
      have st : rD_cell N i j v S = (if (if 0 ≤ i.toInt64.toInt ∧ i.toInt64.toInt ≤ ((zI S 1 - 1).toInt64).toInt then (1 : Int32) else 0) ≠ (0 : Int32) then (zg (gI (zA S 3) i) fun x7 => (if 0 ≤ x7.toInt then (zg (gI (zA S 3) i) fun x8 => (zb (rD_in N j.toInt64 0 ((x8 - 1).toInt64) S) fun x9 S10 => (if x9 ≠ (0 : Int32) then (if zok (zA S10 4) ((6 * i) + j) then some (0, (zsA S10 4 (zs (zA S10 4) ((6 * i) + j) v))) else none) else (zb (rD_failed N 3 S10) fun x12 S13 => some (x12, S13))))) else (zb (rD_failed N 1 S) fun x15 S16 => some (x15, S16)))) else (zb (rD_failed N 3 S) fun x18 S19 => some (x18, S19))) := by
        rw [rD_cell, rd_spent, if_neg hs, zb_s, if_pos rfl, if_pos k4, rd_in, zb_s]
      by_cases hi : 0 ≤ i.toInt ∧ i.toInt < osz ob
      rotate_left
      · exact bad (w := -13) (by rw [st, y6432, tsz, if_neg (show ¬ (0 ≤ i.toInt ∧ i.toInt ≤ (osz ob : Int) - 1) by omega), if_neg (fun h => h rfl), rD_failed, zb_s]; rfl) (by rw [ceV, if_neg hs]; show (if ¬ ob.1 = 4 then _ else _) = _; rw [if_neg (fun h => h e4), if_pos hi]) (by decide) (hF _) (by rw [flWn (by decide) (by decide)]; rfl)
      · obtain ⟨r, hr⟩ : ∃ r, ob.2.2[i.toInt.toNat]? = some r := ⟨_, List.getElem?_eq_getElem (by omega)⟩
        have gi : gI ob.2.2 i = some r := by rw [← yi_id hi.1, gI_nat (by omega)]; exact hr
        have g3 : gI (zA S 3) i = some (rsz r) := by rw [← yi_id hi.1, gI_nat (by omega)]; exact v5 _ _ hr
        have hrw : rwO ob i = r := by rw [rwO, gi]; rfl
        have st2 : rD_cell N i j v S = (if 0 ≤ (rsz r).toInt then (zb (rD_in N j.toInt64 0 ((rsz r - 1).toInt64) S) fun x9 S10 => (if x9 ≠ (0 : Int32) then (if zok (zA S10 4) ((6 * i) + j) then some (0, (zsA S10 4 (zs (zA S10 4) ((6 * i) + j) v))) else none) else (zb (rD_failed N 3 S10) fun x12 S13 => some (x12, S13)))) else (zb (rD_failed N 1 S) fun x15 S16 => some (x15, S16))) := by
          rw [st, y6432, tsz, if_pos (show 0 ≤ i.toInt ∧ i.toInt ≤ (osz ob : Int) - 1 by omega), if_pos (by decide), g3, zg_s, zg_s]
        have cv0 : ceV (some ob) (zI S 5) i j = (match rwO ob i with
            | none => -11
            | some l => if ¬ (0 ≤ j.toInt ∧ j.toInt < l.length) then -13 else 0) := by
          rw [ceV, if_neg hs]
          show (if ¬ ob.1 = 4 then _ else _) = _
          rw [if_neg (fun h => h e4), if_neg (fun h => h hi)]
          rfl
        cases r with
        | none =>
          exact bad (w := -11) (by rw [st2, if_neg (by decide), rD_failed, zb_s]; rfl) (by rw [cv0, hrw]) (by decide) (hF _) (by rw [flWn (by decide) (by decide)]; rfl)
        | some l =>
          have hl6 := hr6.2.2 l (List.mem_of_getElem? hr)
          have erz : rsz (some l) = Int32.ofNat l.length := rfl
          have tl : ((rsz (some l) - 1).toInt64).toInt = (l.length : Int) - 1 := by rw [y6432, erz, la_int (by omega)]
          have cvl : ceV (some ob) (zI S 5) i j = if ¬ (0 ≤ j.toInt ∧ j.toInt < l.length) then -13 else 0 := by rw [cv0, hrw]
          have hge : 0 ≤ (rsz (some l)).toInt := by rw [erz, yi_nat (by omega)]; omega
          by_cases hj : 0 ≤ j.toInt ∧ j.toInt < l.length
          rotate_left
          · exact bad (w := -13) (by rw [st2, if_pos hge, rd_in, zb_s, y6432, tl, if_neg (show ¬ (0 ≤ j.toInt ∧ j.toInt ≤ (l.length : Int) - 1) by omega), if_neg (fun h => h rfl), rD_failed, zb_s]; rfl) (by rw [cvl, if_pos hj]) (by decide) (hF _) (by rw [flWn (by decide) (by decide)]; rfl)
          · have t6 : 6 * i + j = Int32.ofNat (6 * i.toInt.toNat + j.toInt.toNat) := by
              rw [show (6 : Int32) = Int32.ofNat 6 from rfl, Int32.ofNat_add, Int32.ofNat_mul, yi_id hi.1, yi_id hj.1]
            have cvs : ceV (some ob) (zI S 5) i j = 0 := by rw [cvl, if_neg (fun h => h hj)]
            rw [cvs]
            refine ⟨zsA S 4 ((zA S 4).set (6 * i.toInt.toNat + j.toInt.toNat) v), ?_, ?_, ?_⟩
            · rw [st2, if_pos hge, rd_in, zb_s, y6432, tl, if_pos (show 0 ≤ j.toInt ∧ j.toInt ≤ (l.length : Int) - 1 by omega), if_pos (by decide), t6, if_pos ⟨by rw [yi_nat (by omega)]; omega, by rw [yi_nat (by omega), v4]; omega⟩, zs, yi_toNat (by omega)]
            · rw [ceO, if_pos rfl, hrw]
              show thV _ (ob.1, ob.2.1, ob.2.2.set i.toInt.toNat (some (l.set j.toInt.toNat v)))
              refine ⟨v0, ?_, v2, v3, by show ((zA S 4).set _ _).length = 36; rw [List.length_set]; exact v4, fun k r hk2 => ?_, fun k l' q x hk2 hq => ?_⟩
              · show zI S 1 = _
                rw [v1, hsz, osz4 (o := (ob.1, ob.2.1, ob.2.2.set i.toInt.toNat (some (l.set j.toInt.toNat v)))) e4]
                show _ = Int32.ofNat (ob.2.2.set _ _).length
                rw [List.length_set]
              · show (zA S 3)[k]? = some (rsz r)
                by_cases e : i.toInt.toNat = k
                · subst e
                  have hk3 : (ob.2.2.set i.toInt.toNat (some (l.set j.toInt.toNat v)))[i.toInt.toNat]? = some r := hk2
                  rw [List.getElem?_set_self (by omega)] at hk3
                  injection hk3 with hk3
                  rw [← hk3, v5 _ _ hr, erz]
                  show _ = some (Int32.ofNat (l.set _ _).length)
                  rw [List.length_set]
                · have hk3 : (ob.2.2.set i.toInt.toNat (some (l.set j.toInt.toNat v)))[k]? = some r := hk2
                  rw [List.getElem?_set_ne e] at hk3
                  exact v5 _ _ hk3
              · show ((zA S 4).set _ v)[6 * k + q]? = some x
                by_cases e : i.toInt.toNat = k
                · subst e
                  have hk3 : (ob.2.2.set i.toInt.toNat (some (l.set j.toInt.toNat v)))[i.toInt.toNat]? = some (some l') := hk2
                  rw [List.getElem?_set_self (by omega)] at hk3
                  injection hk3 with hk3
                  injection hk3 with hk3
                  rw [← hk3] at hq
                  by_cases eq : j.toInt.toNat = q
                  · subst eq
                    rw [List.getElem?_set_self (by omega)] at hq
                    rw [List.getElem?_set_self (by omega)]
                    exact hq
                  · rw [List.getElem?_set_ne eq] at hq
                    rw [List.getElem?_set_ne (by omega)]
                    exact v6 _ _ _ _ hr hq
                · have hk3 : (ob.2.2.set i.toInt.toNat (some (l.set j.toInt.toNat v)))[k]? = some (some l') := hk2
                  rw [List.getElem?_set_ne e] at hk3
                  have h6 := hr6.2.2 l' (List.mem_of_getElem? hk3)
                  have hq6 := (List.getElem?_eq_some_iff.mp hq).1
                  rw [List.getElem?_set_ne (by omega)]
                  exact v6 _ _ _ _ hk3 hq
            · show zI S 5 = _
              rw [flW0]
end DESKM3
