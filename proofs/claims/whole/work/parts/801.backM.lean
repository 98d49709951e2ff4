/-! TAKING BACK: the reference -/
/-- the last of the log's first that stands for a draft -/
def lsC (gd gu : List Int32) (x : Int32) : Nat → Option Nat
  | 0 => none
  | i + 1 => if gd[i]? = some x ∧ gu[i]? = some 0 then some i else lsC gd gu x i
def lsV (gd gu : List Int32) (x : Int32) (i : Nat) : Int32 := match lsC gd gu x i with
  | none => -1
  | some k => Int32.ofNat k
theorem lsC_lt {gd gu : List Int32} {x : Int32} : ∀ {i k : Nat}, lsC gd gu x i = some k → k < i
  | 0, _, h => by cases h
  | i + 1, k, h => by
    rw [lsC] at h
    split at h
    · cases h; omega
    · have := lsC_lt h
      omega
theorem lsV_yes {gd gu : List Int32} {x : Int32} {i : Nat} (h : gd[i]? = some x ∧ gu[i]? = some 0) : lsV gd gu x (i + 1) = Int32.ofNat i := by
  unfold lsV; rw [lsC, if_pos h]
theorem lsV_no {gd gu : List Int32} {x : Int32} {i : Nat} (h : ¬ (gd[i]? = some x ∧ gu[i]? = some 0)) : lsV gd gu x (i + 1) = lsV gd gu x i := by
  unfold lsV; rw [lsC, if_neg h]
theorem yi_m1 (x : Int32) : x + (-1) = x - 1 := (Int32.sub_eq_add_neg x 1).symm
section BACKM
variable {X : List Int32} {D0 : List xE} {Fs : List yF} {Dr : List yD} {x : Int32} {n : Nat}
theorem back_loop {fr lo : Nat} {gd gu : List Int32} {Q : Option Value → List xE → Prop} (e0 : ((243, .inr (0, gd.map Value.int)) : xE) ∈ D0) (e1 : ((246, .inr (3, gu.map Value.int)) : xE) ∈ D0) (l0 : gd.length = 400) (l1 : gu.length = 400) : ∀ (i : Nat), i ≤ 400 → yT X fr lo 274 26 [some (.ref 209), some (.int x), some (.int (lsV gd gu x i))] [] D0 0 0 Q → yT X fr lo 274 11 [some (.ref 209), some (.int x), some (.int (Int32.ofNat i - 1))] [] D0 0 0 Q
  | 0, _, hK => by
    refine xt_pure rfl rfl rfl rfl ?_
    refine yt_if rfl rfl ?_ ?_
    · intro _
      exact hK
    · intro (h : (0 : Int) ≤ Int32.toInt _)
      exact absurd h (by decide)
  | i + 1, hi, hK => by
    have ti := yi_nat (i := i) (by omega)
    have tt : (Int32.ofNat i).toInt.toNat = i := yi_toNat (by omega)
    have t4 := yjn (j := Int32.ofNat i) (by rw [ti]; omega)
    obtain ⟨a, ha⟩ : ∃ a, gd[i]? = some a := ⟨_, List.getElem?_eq_getElem (by omega)⟩
    obtain ⟨b, hb⟩ : ∃ b, gu[i]? = some b := ⟨_, List.getElem?_eq_getElem (by omega)⟩
    rw [yi_s1]
    have next : ¬ (gd[i]? = some x ∧ gu[i]? = some 0) → yT X fr lo 274 24 [some (.ref 209), some (.int x), some (.int (Int32.ofNat i))] [] D0 0 0 Q := by
      intro hno
      rw [lsV_no hno] at hK
      refine xt_pure rfl rfl rfl (L1 := [_, _, some (.int (_ + (-1)))]) rfl ?_
      refine xt_pure rfl rfl rfl rfl ?_
      rw [yi_m1]
      exact back_loop e0 e1 l0 l1 i (by omega) hK
    refine xt_pure rfl rfl rfl rfl ?_
    refine yt_if rfl rfl ?_ ?_
    · intro (h : Int32.toInt _ < (0 : Int))
      rw [ti] at h
      omega
    · intro _
      refine xt_pure rfl rfl rfl rfl ?_
      refine xt_getf rfl rfl (xmC 192 rfl) ?_
      refine xt_pure rfl rfl rfl rfl ?_
      refine xt_iald rfl rfl (xmS 0 rfl e0) t4.1 (v := .int a) (by rw [t4.2, tt, List.getElem?_map, ha]; rfl) ?_
      refine xt_pure rfl rfl rfl rfl ?_
      refine yt_ic rfl rfl ?_ ?_
      · intro (h1 : a ≠ x)
        exact next (by rw [ha]; rintro ⟨h, _⟩; injection h with h; exact h1 h)
      · intro (h1 : a = x)
        refine xt_pure rfl rfl rfl rfl ?_
        refine xt_getf rfl rfl (xmC 195 rfl) ?_
        refine xt_pure rfl rfl rfl rfl ?_
        refine xt_bald rfl rfl (by decide) (xmS 0 rfl e1) t4.1 (v := .int b) (by rw [t4.2, tt, List.getElem?_map, hb]; rfl) ?_
        refine yt_if rfl rfl ?_ ?_
        · intro (h2 : b = 0)
          rw [lsV_yes ⟨by rw [ha, h1], by rw [hb, h2]⟩] at hK
          exact hK
        · intro (h2 : b ≠ 0)
          exact next (by rw [hb]; rintro ⟨_, h⟩; injection h with h; exact h2 h)
theorem mK_takeBack (hDl : Dr.length ≤ 30) (hDn : ((209, .inl (14, 26, .int (Int32.ofNat Dr.length))) : xE) ∈ D0) {fi : List Int32} (hfi : ((240, .inr (3, fi.map Value.int)) : xE) ∈ D0) (hfd : ∀ (i : Nat) d, Dr[i]? = some d → fi[i]? = some (if d.2.2.2.1 = -9 then 0 else 1)) (hn : n ≤ 400) {ku km : Nat} {gd gp gu : List Int32} {gw mr : List Value} (e0 : ((243, .inr (0, gd.map Value.int)) : xE) ∈ D0) (e1 : ((244, .inr (0, gp.map Value.int)) : xE) ∈ D0) (e2 : ((245, .inr (10, gw)) : xE) ∈ D0) (f3 : D0[ku]? = some (246, .inr (3, gu.map Value.int))) (e4 : ((209, .inl (14, 32, .int (Int32.ofNat n))) : xE) ∈ D0) (f5 : D0[km]? = some (239, .inr (10, mr))) (l0 : gd.length = 400) (l3 : gu.length = 400) (l5 : mr.length = 620) (hlog : ∀ k, k < n → ∃ p v, gp[k]? = some (Int32.ofNat p) ∧ p < 20 ∧ gw[k]? = some v ∧ obM D0 v) : yK X 2 60 274 [.ref 209, .int x] D0 0 0 (fun a D => (gI Dr x = none ∧ a = some (.int (-1)) ∧ D = D0) ∨ (∃ d, gI Dr x = some d ∧ (d.2.2.2.1 ≠ -9 ∨ lsC gd gu x n = none) ∧ a = some (.int (-2)) ∧ D = D0) ∨ ∃ d k p v, gI Dr x = some d ∧ d.2.2.2.1 = -9 ∧ lsC gd gu x n = some k ∧ gp[k]? = some (Int32.ofNat p) ∧ p < 20 ∧ gw[k]? = some v ∧ a = some (.int (Int32.ofNat p)) ∧ D = (D0.set ku (246, .inr (3, (gu.set k 1).map Value.int))).set km (239, .inr (10, mr.set (20 * x.toInt.toNat + p) v))) := by
  refine yK.of rfl (yle rfl) (L := [_, _, _]) rfl ?_
  refine xt_pure rfl rfl rfl rfl ?_
  refine xt_pure rfl rfl rfl rfl ?_
  refine xt_callV rfl rfl rfl rfl (xmC 176 rfl) ⟨rfl, rfl, yle rfl, yle rfl, yle rfl, yle rfl⟩ (mk_isDraft (n := Dr.length) (by omega) hDn) (c2 := 0) (s2 := 0) ⟨yle rfl, yle rfl⟩ ?_
  rintro _ _ (⟨rfl, hd, rfl⟩ | ⟨rfl, hd, rfl⟩)
  rotate_left
  · skip
    refine xt_pure rfl rfl rfl rfl ?_
    refine xt_pure rfl rfl rfl (st1 := .int (-1) :: _) rfl ?_
    exact xt_iret rfl rfl rfl rfl (Or.inl ⟨gI_out (by omega), rfl, rfl⟩)
  · obtain ⟨d, hgD⟩ := gI_iff.mpr (show 0 ≤ x.toInt ∧ x.toInt < Dr.length from hd)
    obtain ⟨g1, g2, g3, g4, g5⟩ := gI_some hgD
    have hf := hfd _ d g3
    refine xt_pure rfl rfl rfl rfl ?_
    refine xt_pure rfl rfl rfl rfl ?_
    refine xt_getf rfl rfl (xmS 0 rfl e4) ?_
    refine xt_pure rfl rfl rfl (st1 := .int 1 :: _) rfl ?_
    refine xt_pure rfl rfl rfl rfl ?_
    refine xt_pure rfl rfl rfl (L1 := [_, _, _]) rfl ?_
    refine back_loop e0 (List.mem_of_getElem? f3) l0 l3 n hn ?_
    refine xt_pure rfl rfl rfl rfl ?_
    refine xt_getf rfl rfl (xmC 189 rfl) ?_
    refine xt_pure rfl rfl rfl rfl ?_
    refine xt_bald rfl rfl (by decide) (xmS 0 rfl hfi) g5 (v := .int (if d.2.2.2.1 = -9 then 0 else 1)) (by rw [g4, List.getElem?_map, hf]; rfl) ?_
    by_cases h8 : d.2.2.2.1 = -9
    rotate_left
    · rw [if_neg h8]
      refine xt_pure rfl rfl rfl rfl ?_
      refine xt_pure rfl rfl rfl (st1 := .int (-2) :: _) rfl ?_
      exact xt_iret rfl rfl rfl rfl (Or.inr (Or.inl ⟨d, hgD, Or.inl h8, rfl, rfl⟩))
    · rw [if_pos h8]
      refine xt_pure rfl rfl rfl rfl ?_
      rcases hc : lsC gd gu x n with _ | k
      · have hv : lsV gd gu x n = -1 := by unfold lsV; rw [hc]
        rw [hv]
        refine xt_pure rfl rfl rfl rfl ?_
        refine xt_pure rfl rfl rfl rfl ?_
        refine xt_pure rfl rfl rfl (st1 := .int (-2) :: _) rfl ?_
        exact xt_iret rfl rfl rfl rfl (Or.inr (Or.inl ⟨d, hgD, Or.inr rfl, rfl, rfl⟩))
      · have hv : lsV gd gu x n = Int32.ofNat k := by unfold lsV; rw [hc]
        have hkn := lsC_lt hc
        rw [hv]
        have tk := yi_nat (i := k) (by omega)
        have tt : (Int32.ofNat k).toInt.toNat = k := yi_toNat (by omega)
        have t4 := yjn (j := Int32.ofNat k) (by rw [tk]; omega)
        obtain ⟨p, v, hp, hp20, hw, ob⟩ := hlog k hkn
        have tx : (20 : Int32) * x + Int32.ofNat p = Int32.ofNat (20 * x.toInt.toNat + p) := by
          have hx : x = Int32.ofNat x.toInt.toNat := (yi_id g1).symm
          rw [Int32.ofNat_add, Int32.ofNat_mul, ← hx]; rfl
        have t2 := yi_nat (i := 20 * x.toInt.toNat + p) (by omega)
        have t3 : (Int32.ofNat (20 * x.toInt.toNat + p)).toInt.toNat = 20 * x.toInt.toNat + p := yi_toNat (by omega)
        have f6 := ot_set (n := (246, .inr (3, (gu.set k 1).map Value.int))) f3 f5 (by simp)
        have m1 := kp_set (n := (246, .inr (3, (gu.set k 1).map Value.int))) f3 e1 (by simp)
        have m2 := kp_set (n := (246, .inr (3, (gu.set k 1).map Value.int))) f3 e2 (by simp)
        have m3 := kp_set (n := (239, .inr (10, mr.set (20 * x.toInt.toNat + p) v))) f6 m1 (by simp)
        have ob2 := ob.set (n := (246, .inr (3, (gu.set k 1).map Value.int))) f3 (fun a w => by simp)
        refine xt_pure rfl rfl rfl rfl ?_
        refine yt_if rfl rfl ?_ ?_
        rotate_left
        · intro (h : Int32.toInt _ < (0 : Int))
          rw [tk] at h
          omega
        · intro _
          refine xt_pure rfl rfl rfl rfl ?_
          refine xt_getf rfl rfl (xmC 195 rfl) ?_
          refine xt_pure rfl rfl rfl rfl ?_
          refine xt_pure rfl rfl rfl (st1 := .int 1 :: _) rfl ?_
          refine yt_bst rfl rfl ku f3 (by decide) ⟨by rw [tk]; omega, by rw [tk]; omega⟩ (D1 := D0.set ku (246, .inr (3, (gu.set k 1).map Value.int))) (by rw [tt]) ?_
          refine xt_pure rfl rfl rfl rfl ?_
          refine xt_getf rfl rfl (xmC 188 rfl) ?_
          refine xt_pure rfl rfl rfl (st1 := .int 20 :: _) rfl ?_
          refine xt_pure rfl rfl rfl rfl ?_
          refine xt_pure rfl rfl rfl rfl ?_
          refine xt_pure rfl rfl rfl rfl ?_
          refine xt_getf rfl rfl (xmC 193 rfl) ?_
          refine xt_pure rfl rfl rfl rfl ?_
          refine xt_iald rfl rfl (xmS 0 rfl m1) t4.1 (v := .int (Int32.ofNat p)) (by rw [t4.2, tt, List.getElem?_map, hp]; rfl) ?_
          refine xt_pure rfl rfl rfl rfl ?_
          refine xt_pure rfl rfl rfl rfl ?_
          refine xt_getf rfl rfl (xmC 194 rfl) ?_
          refine xt_pure rfl rfl rfl rfl ?_
          rw [tx]
          refine xt_aald rfl rfl ⟨by decide, rfl⟩ (xmS 0 rfl m2) t4.1 (v := v) (by rw [t4.2, tt]; exact hw) ?_
          refine yt_ast rfl rfl km f6 rfl (by decide) (asM ob2) ⟨by rw [t2]; omega, by rw [t2]; omega⟩ (D1 := (D0.set ku (246, .inr (3, (gu.set k 1).map Value.int))).set km (239, .inr (10, mr.set (20 * x.toInt.toNat + p) v))) (by rw [t3]) ?_
          refine xt_pure rfl rfl rfl rfl ?_
          refine xt_getf rfl rfl (xmC 193 rfl) ?_
          refine xt_pure rfl rfl rfl rfl ?_
          refine xt_iald rfl rfl (xmS 0 rfl m3) t4.1 (v := .int (Int32.ofNat p)) (by rw [t4.2, tt, List.getElem?_map, hp]; rfl) ?_
          exact xt_iret rfl rfl rfl rfl (Or.inr (Or.inr ⟨d, k, p, v, hgD, h8, rfl, hp, hp20, hw, rfl, rfl⟩))
end BACKM
