/-! GIVE: the reference -/
section GIVEM
variable {X : List Int32} {D0 : List xE} {Fs : List yF} {Dr : List yD} {x y : Int32} {n : Nat}
def obM (D : List xE) (v : Value) : Prop := v = .null ∨ ∃ a w, v = .ref a ∧ ((a, .inl (13, 0, w)) : xE) ∈ D
theorem asM {D : List xE} {v : Value} (h : obM D v) : xasE X D (.object "FormMillModel$Thing") v := by
  rcases h with rfl | ⟨a, w, rfl, ha⟩
  · rfl
  · exact Or.inl ⟨_, 13, 0, w, rfl, rfl, List.mem_append_left _ ha⟩
theorem obM.set {D : List xE} {v : Value} {k : Nat} {o n : xE} (h : obM D v) (hk : D[k]? = some o) (hne : ∀ a w, ((a, .inl (13, 0, w)) : xE) ≠ o) : obM (D.set k n) v := by
  rcases h with h | ⟨a, w, h, ha⟩
  · exact Or.inl h
  · exact Or.inr ⟨a, w, h, kp_set hk ha (hne a w)⟩
theorem mk_given {d p : Nat} {v0 ov : Value} (hd : d < 31) (hp : p < 20) (hn : n < 400) {kd kp kw ku jn km : Nat} {gd gp gu : List Int32} {gw mr : List Value} (f0_0 : D0[kd]? = some (243, .inr (0, gd.map Value.int))) (f0_1 : D0[kp]? = some (244, .inr (0, gp.map Value.int))) (f0_2 : D0[kw]? = some (245, .inr (10, gw))) (f0_3 : D0[ku]? = some (246, .inr (3, gu.map Value.int))) (f0_4 : D0[jn]? = some (209, .inl (14, 32, .int (Int32.ofNat n)))) (f0_5 : D0[km]? = some (239, .inr (10, mr))) (l0 : gd.length = 400) (l1 : gp.length = 400) (l2 : gw.length = 400) (l3 : gu.length = 400) (l5 : mr.length = 620) (hv : mr[20 * d + p]? = some v0) (ob0 : obM D0 v0) (ob1 : obM D0 ov) : yK X 0 0 272 [.ref 209, .int (Int32.ofNat d), .int (Int32.ofNat p), ov] D0 0 0 (fun a D => a = none ∧ D = ((((((D0.set kd (243, .inr (0, (gd.set n (Int32.ofNat d)).map Value.int))).set kp (244, .inr (0, (gp.set n (Int32.ofNat p)).map Value.int))).set kw (245, .inr (10, gw.set n v0))).set ku (246, .inr (3, (gu.set n 0).map Value.int))).set jn (209, .inl (14, 32, .int (Int32.ofNat (n + 1))))).set km (239, .inr (10, mr.set (20 * d + p) ov)))) := by
  have ti := yi_nat (i := n) (by omega)
  have tn : (Int32.ofNat n).toInt.toNat = n := yi_toNat (by omega)
  have tx : (20 : Int32) * Int32.ofNat d + Int32.ofNat p = Int32.ofNat (20 * d + p) := by rw [Int32.ofNat_add, Int32.ofNat_mul]; rfl
  have t2 := yi_nat (i := 20 * d + p) (by omega)
  have t3 : (Int32.ofNat (20 * d + p)).toInt.toNat = 20 * d + p := yi_toNat (by omega)
  have t4 := yjn (j := Int32.ofNat (20 * d + p)) (by rw [t2]; omega)
  have f1_1 := ot_set (n := (243, .inr (0, (gd.set n (Int32.ofNat d)).map Value.int))) f0_0 f0_1 (by simp)
  have f1_2 := ot_set (n := (243, .inr (0, (gd.set n (Int32.ofNat d)).map Value.int))) f0_0 f0_2 (by simp)
  have f1_3 := ot_set (n := (243, .inr (0, (gd.set n (Int32.ofNat d)).map Value.int))) f0_0 f0_3 (by simp)
  have f1_4 := ot_set (n := (243, .inr (0, (gd.set n (Int32.ofNat d)).map Value.int))) f0_0 f0_4 (by simp)
  have f1_5 := ot_set (n := (243, .inr (0, (gd.set n (Int32.ofNat d)).map Value.int))) f0_0 f0_5 (by simp)
  have ob0_1 := ob0.set (n := (243, .inr (0, (gd.set n (Int32.ofNat d)).map Value.int))) f0_0 (fun a w => by simp)
  have ob1_1 := ob1.set (n := (243, .inr (0, (gd.set n (Int32.ofNat d)).map Value.int))) f0_0 (fun a w => by simp)
  have f2_2 := ot_set (n := (244, .inr (0, (gp.set n (Int32.ofNat p)).map Value.int))) f1_1 f1_2 (by simp)
  have f2_3 := ot_set (n := (244, .inr (0, (gp.set n (Int32.ofNat p)).map Value.int))) f1_1 f1_3 (by simp)
  have f2_4 := ot_set (n := (244, .inr (0, (gp.set n (Int32.ofNat p)).map Value.int))) f1_1 f1_4 (by simp)
  have f2_5 := ot_set (n := (244, .inr (0, (gp.set n (Int32.ofNat p)).map Value.int))) f1_1 f1_5 (by simp)
  have ob0_2 := ob0_1.set (n := (244, .inr (0, (gp.set n (Int32.ofNat p)).map Value.int))) f1_1 (fun a w => by simp)
  have ob1_2 := ob1_1.set (n := (244, .inr (0, (gp.set n (Int32.ofNat p)).map Value.int))) f1_1 (fun a w => by simp)
  have f3_3 := ot_set (n := (245, .inr (10, gw.set n v0))) f2_2 f2_3 (by simp)
  have f3_4 := ot_set (n := (245, .inr (10, gw.set n v0))) f2_2 f2_4 (by simp)
  have f3_5 := ot_set (n := (245, .inr (10, gw.set n v0))) f2_2 f2_5 (by simp)
  have ob0_3 := ob0_2.set (n := (245, .inr (10, gw.set n v0))) f2_2 (fun a w => by simp)
  have ob1_3 := ob1_2.set (n := (245, .inr (10, gw.set n v0))) f2_2 (fun a w => by simp)
  have f4_4 := ot_set (n := (246, .inr (3, (gu.set n 0).map Value.int))) f3_3 f3_4 (by simp)
  have f4_5 := ot_set (n := (246, .inr (3, (gu.set n 0).map Value.int))) f3_3 f3_5 (by simp)
  have ob0_4 := ob0_3.set (n := (246, .inr (3, (gu.set n 0).map Value.int))) f3_3 (fun a w => by simp)
  have ob1_4 := ob1_3.set (n := (246, .inr (3, (gu.set n 0).map Value.int))) f3_3 (fun a w => by simp)
  have f5_5 := ot_set (n := (209, .inl (14, 32, .int (Int32.ofNat (n + 1))))) f4_4 f4_5 (by simp)
  have ob0_5 := ob0_4.set (n := (209, .inl (14, 32, .int (Int32.ofNat (n + 1))))) f4_4 (fun a w => by simp)
  have ob1_5 := ob1_4.set (n := (209, .inl (14, 32, .int (Int32.ofNat (n + 1))))) f4_4 (fun a w => by simp)
  have ob0_6 := ob0_5.set (n := (239, .inr (10, mr.set (20 * d + p) ov))) f5_5 (fun a w => by simp)
  have ob1_6 := ob1_5.set (n := (239, .inr (10, mr.set (20 * d + p) ov))) f5_5 (fun a w => by simp)
  rcases ob1 with rfl | ⟨a, w, rfl, _⟩
  all_goals
    refine yK.of rfl (yle rfl) (L := [_, _, _, _]) rfl ?_
    refine xt_pure rfl rfl rfl rfl ?_
    refine xt_getf rfl rfl (xmC 192 rfl) ?_
    refine xt_pure rfl rfl rfl rfl ?_
    refine xt_getf rfl rfl (xmS 0 rfl (List.mem_of_getElem? f0_4)) ?_
    refine xt_pure rfl rfl rfl rfl ?_
    refine yt_ist rfl rfl kd f0_0 ⟨by rw [ti]; omega, by rw [ti]; omega⟩ (D1 := (D0.set kd (243, .inr (0, (gd.set n (Int32.ofNat d)).map Value.int)))) (by rw [tn]) ?_
    refine xt_pure rfl rfl rfl rfl ?_
    refine xt_getf rfl rfl (xmC 193 rfl) ?_
    refine xt_pure rfl rfl rfl rfl ?_
    refine xt_getf rfl rfl (xmS 0 rfl (List.mem_of_getElem? f1_4)) ?_
    refine xt_pure rfl rfl rfl rfl ?_
    refine yt_ist rfl rfl kp f1_1 ⟨by rw [ti]; omega, by rw [ti]; omega⟩ (D1 := ((D0.set kd (243, .inr (0, (gd.set n (Int32.ofNat d)).map Value.int))).set kp (244, .inr (0, (gp.set n (Int32.ofNat p)).map Value.int)))) (by rw [tn]) ?_
    refine xt_pure rfl rfl rfl rfl ?_
    refine xt_getf rfl rfl (xmC 194 rfl) ?_
    refine xt_pure rfl rfl rfl rfl ?_
    refine xt_getf rfl rfl (xmS 0 rfl (List.mem_of_getElem? f2_4)) ?_
    refine xt_pure rfl rfl rfl rfl ?_
    refine xt_getf rfl rfl (xmC 188 rfl) ?_
    refine xt_pure rfl rfl rfl (st1 := .int 20 :: _) rfl ?_
    refine xt_pure rfl rfl rfl rfl ?_
    refine xt_pure rfl rfl rfl rfl ?_
    refine xt_pure rfl rfl rfl rfl ?_
    refine xt_pure rfl rfl rfl rfl ?_
    rw [tx]
    refine xt_aald rfl rfl ⟨by decide, rfl⟩ (xmS 0 rfl (List.mem_of_getElem? f2_5)) t4.1 (v := v0) (by rw [t4.2, t3]; exact hv) ?_
    refine yt_ast rfl rfl kw f2_2 rfl (by decide) (asM ob0_2) ⟨by rw [ti]; omega, by rw [ti]; omega⟩ (D1 := (((D0.set kd (243, .inr (0, (gd.set n (Int32.ofNat d)).map Value.int))).set kp (244, .inr (0, (gp.set n (Int32.ofNat p)).map Value.int))).set kw (245, .inr (10, gw.set n v0)))) (by rw [tn]) ?_
    refine xt_pure rfl rfl rfl rfl ?_
    refine xt_getf rfl rfl (xmC 195 rfl) ?_
    refine xt_pure rfl rfl rfl rfl ?_
    refine xt_getf rfl rfl (xmS 0 rfl (List.mem_of_getElem? f3_4)) ?_
    refine xt_pure rfl rfl rfl (st1 := .int 0 :: _) rfl ?_
    refine yt_bst rfl rfl ku f3_3 (by decide) ⟨by rw [ti]; omega, by rw [ti]; omega⟩ (D1 := ((((D0.set kd (243, .inr (0, (gd.set n (Int32.ofNat d)).map Value.int))).set kp (244, .inr (0, (gp.set n (Int32.ofNat p)).map Value.int))).set kw (245, .inr (10, gw.set n v0))).set ku (246, .inr (3, (gu.set n 0).map Value.int)))) (by rw [tn]) ?_
    refine xt_pure rfl rfl rfl rfl ?_
    refine xt_pure rfl rfl rfl rfl ?_
    refine xt_getf rfl rfl (xmS 0 rfl (List.mem_of_getElem? f4_4)) ?_
    refine xt_pure rfl rfl rfl (st1 := .int 1 :: _) rfl ?_
    refine xt_pure rfl rfl rfl rfl ?_
    rw [yi_add1]
    refine xt_putf rfl rfl rfl rfl jn f4_4 (D1 := (((((D0.set kd (243, .inr (0, (gd.set n (Int32.ofNat d)).map Value.int))).set kp (244, .inr (0, (gp.set n (Int32.ofNat p)).map Value.int))).set kw (245, .inr (10, gw.set n v0))).set ku (246, .inr (3, (gu.set n 0).map Value.int))).set jn (209, .inl (14, 32, .int (Int32.ofNat (n + 1)))))) rfl ?_
    refine xt_pure rfl rfl rfl rfl ?_
    refine xt_getf rfl rfl (xmC 188 rfl) ?_
    refine xt_pure rfl rfl rfl (st1 := .int 20 :: _) rfl ?_
    refine xt_pure rfl rfl rfl rfl ?_
    refine xt_pure rfl rfl rfl rfl ?_
    refine xt_pure rfl rfl rfl rfl ?_
    refine xt_pure rfl rfl rfl rfl ?_
    refine xt_pure rfl rfl rfl rfl ?_
    rw [tx]
    refine yt_ast rfl rfl km f5_5 rfl (by decide) (asM ob1_5) ⟨by rw [t2]; omega, by rw [t2]; omega⟩ (by rw [t3]) ?_
    exact xt_vret rfl rfl rfl ⟨rfl, rfl⟩
/-- how many of the log's first stand for a draft -/
def opC (gd gu : List Int32) (x : Int32) : Nat → Nat
  | 0 => 0
  | i + 1 => opC gd gu x i + (if gd[i]? = some x ∧ gu[i]? = some 0 then 1 else 0)
theorem open_loop {fr lo : Nat} {gd gu : List Int32} {Q : Option Value → List xE → Prop} (hn : n ≤ 400) (e0 : ((243, .inr (0, gd.map Value.int)) : xE) ∈ D0) (e1 : ((246, .inr (3, gu.map Value.int)) : xE) ∈ D0) (e2 : ((209, .inl (14, 32, .int (Int32.ofNat n))) : xE) ∈ D0) (l0 : gd.length = 400) (l1 : gu.length = 400) (hQ : Q (some (.int (Int32.ofNat (opC gd gu x n)))) D0) : ∀ (m i : Nat), i + m = n → yT X fr lo 273 4 [some (.ref 209), some (.int x), some (.int (Int32.ofNat (opC gd gu x i))), some (.int (Int32.ofNat i))] [] D0 0 0 Q
  | 0, i, hi => by
    have e : i = n := by omega
    subst e
    refine xt_pure rfl rfl rfl rfl ?_
    refine xt_pure rfl rfl rfl rfl ?_
    refine xt_getf rfl rfl (xmS 0 rfl e2) ?_
    refine yt_ic rfl rfl ?_ ?_
    · intro _
      refine xt_pure rfl rfl rfl rfl ?_
      exact xt_iret rfl rfl rfl rfl hQ
    · intro (h : Int32.toInt _ < Int32.toInt _)
      omega
  | m + 1, i, hi => by
    have ti := yi_nat (i := i) (by omega)
    have tn := yi_nat (i := n) (by omega)
    have tt : (Int32.ofNat i).toInt.toNat = i := yi_toNat (by omega)
    have t4 := yjn (j := Int32.ofNat i) (by rw [ti]; omega)
    obtain ⟨a, ha⟩ : ∃ a, gd[i]? = some a := ⟨_, List.getElem?_eq_getElem (by omega)⟩
    obtain ⟨b, hb⟩ : ∃ b, gu[i]? = some b := ⟨_, List.getElem?_eq_getElem (by omega)⟩
    have next : ∀ z : Nat, z = (if gd[i]? = some x ∧ gu[i]? = some 0 then 1 else 0) → yT X fr lo 273 23 [some (.ref 209), some (.int x), some (.int (Int32.ofNat (opC gd gu x i))), some (.int (Int32.ofNat i))] [.int (Int32.ofNat z), .int (Int32.ofNat (opC gd gu x i))] D0 0 0 Q := by
      intro z hz
      refine xt_pure rfl rfl rfl rfl ?_
      refine xt_pure rfl rfl rfl (L1 := [_, _, _, _]) rfl ?_
      refine xt_pure rfl rfl rfl (L1 := [_, _, _, some (.int (_ + 1))]) rfl ?_
      refine xt_pure rfl rfl rfl rfl ?_
      rw [yi_add1, yi_add, hz]
      exact open_loop hn e0 e1 e2 l0 l1 hQ m (i + 1) (by omega)
    refine xt_pure rfl rfl rfl rfl ?_
    refine xt_pure rfl rfl rfl rfl ?_
    refine xt_getf rfl rfl (xmS 0 rfl e2) ?_
    refine yt_ic rfl rfl ?_ ?_
    · intro (h : Int32.toInt _ ≤ Int32.toInt _)
      rw [ti, tn] at h
      omega
    · intro _
      refine xt_pure rfl rfl rfl rfl ?_
      refine xt_pure rfl rfl rfl rfl ?_
      refine xt_getf rfl rfl (xmC 192 rfl) ?_
      refine xt_pure rfl rfl rfl rfl ?_
      refine xt_iald rfl rfl (xmS 0 rfl e0) t4.1 (v := .int a) (by rw [t4.2, tt, List.getElem?_map, ha]; rfl) ?_
      refine xt_pure rfl rfl rfl rfl ?_
      refine yt_ic rfl rfl ?_ ?_
      · intro (h1 : a ≠ x)
        refine xt_pure rfl rfl rfl (st1 := .int 0 :: _) rfl ?_
        exact next 0 (by rw [if_neg (by rw [ha]; rintro ⟨h, _⟩; injection h with h; exact h1 h)])
      · intro (h1 : a = x)
        refine xt_pure rfl rfl rfl rfl ?_
        refine xt_getf rfl rfl (xmC 195 rfl) ?_
        refine xt_pure rfl rfl rfl rfl ?_
        refine xt_bald rfl rfl (by decide) (xmS 0 rfl e1) t4.1 (v := .int b) (by rw [t4.2, tt, List.getElem?_map, hb]; rfl) ?_
        refine yt_if rfl rfl ?_ ?_
        · intro (h2 : b ≠ 0)
          refine xt_pure rfl rfl rfl (st1 := .int 0 :: _) rfl ?_
          exact next 0 (by rw [if_neg (by rw [hb]; rintro ⟨_, h⟩; injection h with h; exact h2 h)])
        · intro (h2 : b = 0)
          refine xt_pure rfl rfl rfl (st1 := .int 1 :: _) rfl ?_
          refine xt_pure rfl rfl rfl rfl ?_
          exact next 1 (by rw [if_pos ⟨by rw [ha, h1], by rw [hb, h2]⟩])
theorem mk_open {gd gu : List Int32} (hn : n ≤ 400) (e0 : ((243, .inr (0, gd.map Value.int)) : xE) ∈ D0) (e1 : ((246, .inr (3, gu.map Value.int)) : xE) ∈ D0) (e2 : ((209, .inl (14, 32, .int (Int32.ofNat n))) : xE) ∈ D0) (l0 : gd.length = 400) (l1 : gu.length = 400) : yK X 0 0 273 [.ref 209, .int x] D0 0 0 (fun a D => a = some (.int (Int32.ofNat (opC gd gu x n))) ∧ D = D0) := by
  refine yK.of rfl (yle rfl) (L := [_, _, _, _]) rfl ?_
  refine xt_pure rfl rfl rfl (st1 := .int 0 :: _) rfl ?_
  refine xt_pure rfl rfl rfl (L1 := [_, _, _, _]) rfl ?_
  refine xt_pure rfl rfl rfl (st1 := .int 0 :: _) rfl ?_
  refine xt_pure rfl rfl rfl (L1 := [_, _, _, _]) rfl ?_
  exact open_loop hn e0 e1 e2 l0 l1 ⟨rfl, rfl⟩ n 0 (by omega)
end GIVEM
