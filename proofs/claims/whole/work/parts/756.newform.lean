/-! NEW FORMS -/
theorem yt_newB {X : List Int32} {fr lo mi ip : Nat} {L : xL} {r : List Value} {D : List xE} {c s : Nat} {Q : Option Value → List xE → Prop} {M : xM} {pc b q : Nat} {n : Int32} {at' : ArrayType} {c1 s1 : Nat} (hM : xpr.1[mi]? = some M) (hc : M.2.2.2.2.2.2[ip]? = some (.newarray at', pc, 3, b, q)) (e2 : 0 ≤ n.toInt ∧ n.toInt ≤ 65536) (hc1 : c1 + 1 ≤ c) (hs1 : s1 + n.toInt.toNat ≤ s) (kk : ∀ m, yT X fr lo mi (ip + 1) L (.ref m :: r) ((m, .inr (3, (List.replicate n.toInt.toNat (0 : Int32)).map Value.int)) :: D) c1 s1 Q) : yT X fr lo mi ip L (.int n :: r) D c s Q := by
  refine xt_newa hM hc rfl ?_ hc1 hs1 ?_
  · rintro (h | h)
    · exact (yjn e2.1).1 h
    · rw [(yjn e2.1).2] at h; omega
  · intro m
    have h := kk m
    rw [List.map_replicate] at h
    exact h
def fcN (a : Nat) (m : Nat → Nat) : List xE := [((m 17), .inr (0, (List.replicate 560 (0 : Int32)).map Value.int)), ((m 16), .inr (0, (List.replicate 560 (0 : Int32)).map Value.int)), ((m 12), .inr (0, (List.replicate 12 (0 : Int32)).map Value.int)), ((m 11), .inr (0, (List.replicate 12 (0 : Int32)).map Value.int)), ((m 9), .inr (0, (List.replicate 12 (0 : Int32)).map Value.int)), ((m 7), .inr (0, (List.replicate 20 (0 : Int32)).map Value.int)), ((m 6), .inr (0, (List.replicate 20 (0 : Int32)).map Value.int)), ((m 5), .inr (0, (List.replicate 20 (0 : Int32)).map Value.int)), ((m 4), .inr (0, (List.replicate 20 (0 : Int32)).map Value.int)), ((m 3), .inr (0, (List.replicate 20 (0 : Int32)).map Value.int)), ((m 2), .inr (0, (List.replicate 20 (0 : Int32)).map Value.int)), ((m 1), .inr (0, (List.replicate 20 (0 : Int32)).map Value.int)), (a, .inl (2, 0, .int 0)), (a, .inl (2, 1, .ref (m 1))), (a, .inl (2, 2, .ref (m 2))), (a, .inl (2, 3, .ref (m 3))), (a, .inl (2, 4, .ref (m 4))), (a, .inl (2, 5, .ref (m 5))), (a, .inl (2, 6, .ref (m 6))), (a, .inl (2, 7, .ref (m 7))), (a, .inl (2, 8, .int 0)), (a, .inl (2, 9, .ref (m 9))), (a, .inl (2, 10, .int 0)), (a, .inl (2, 11, .ref (m 11))), (a, .inl (2, 12, .ref (m 12))), (a, .inl (2, 13, .int 0)), (a, .inl (2, 14, .int 0)), (a, .inl (2, 15, .int 0)), (a, .inl (2, 16, .ref (m 16))), (a, .inl (2, 17, .ref (m 17))), (a, .inl (2, 18, .int 0))]
theorem yFormC {X : List Int32} {D0 : List xE} {a : Nat} : yK X 1 100 14 [.ref a] ((a, .inl (2, 0, .int 0)) :: (a, .inl (2, 1, .null)) :: (a, .inl (2, 2, .null)) :: (a, .inl (2, 3, .null)) :: (a, .inl (2, 4, .null)) :: (a, .inl (2, 5, .null)) :: (a, .inl (2, 6, .null)) :: (a, .inl (2, 7, .null)) :: (a, .inl (2, 8, .int 0)) :: (a, .inl (2, 9, .null)) :: (a, .inl (2, 10, .int 0)) :: (a, .inl (2, 11, .null)) :: (a, .inl (2, 12, .null)) :: (a, .inl (2, 13, .int 0)) :: (a, .inl (2, 14, .int 0)) :: (a, .inl (2, 15, .int 0)) :: (a, .inl (2, 16, .null)) :: (a, .inl (2, 17, .null)) :: (a, .inl (2, 18, .int 0)) :: D0) 12 1296 (fun w D => ∃ m, w = none ∧ D = fcN a m ++ D0) := by
  refine yK.of rfl (yle rfl) (L := [_]) rfl ?_
  refine xt_pure rfl rfl rfl rfl ?_
  refine xt_obji rfl rfl rfl ⟨yle rfl, yle rfl, yle rfl⟩ ?_
  refine xt_pure rfl rfl rfl rfl ?_
  refine xt_pure rfl rfl rfl (st1 := .int 20 :: _) rfl ?_
  refine yt_newI rfl rfl ⟨by decide, by decide⟩ (c1 := 11) (s1 := 1276) (yle rfl) (yle rfl) ?_
  intro m0
  refine xt_putf rfl rfl rfl rfl 2 rfl (D1 := _ :: _ :: _ :: _ :: _ :: _ :: _ :: _ :: _ :: _ :: _ :: _ :: _ :: _ :: _ :: _ :: _ :: _ :: _ :: _ :: _) rfl ?_
  refine xt_pure rfl rfl rfl rfl ?_
  refine xt_pure rfl rfl rfl (st1 := .int 20 :: _) rfl ?_
  refine yt_newI rfl rfl ⟨by decide, by decide⟩ (c1 := 10) (s1 := 1256) (yle rfl) (yle rfl) ?_
  intro m1
  refine xt_putf rfl rfl rfl rfl 4 rfl (D1 := _ :: _ :: _ :: _ :: _ :: _ :: _ :: _ :: _ :: _ :: _ :: _ :: _ :: _ :: _ :: _ :: _ :: _ :: _ :: _ :: _ :: _) rfl ?_
  refine xt_pure rfl rfl rfl rfl ?_
  refine xt_pure rfl rfl rfl (st1 := .int 20 :: _) rfl ?_
  refine yt_newI rfl rfl ⟨by decide, by decide⟩ (c1 := 9) (s1 := 1236) (yle rfl) (yle rfl) ?_
  intro m2
  refine xt_putf rfl rfl rfl rfl 6 rfl (D1 := _ :: _ :: _ :: _ :: _ :: _ :: _ :: _ :: _ :: _ :: _ :: _ :: _ :: _ :: _ :: _ :: _ :: _ :: _ :: _ :: _ :: _ :: _) rfl ?_
  refine xt_pure rfl rfl rfl rfl ?_
  refine xt_pure rfl rfl rfl (st1 := .int 20 :: _) rfl ?_
  refine yt_newI rfl rfl ⟨by decide, by decide⟩ (c1 := 8) (s1 := 1216) (yle rfl) (yle rfl) ?_
  intro m3
  refine xt_putf rfl rfl rfl rfl 8 rfl (D1 := _ :: _ :: _ :: _ :: _ :: _ :: _ :: _ :: _ :: _ :: _ :: _ :: _ :: _ :: _ :: _ :: _ :: _ :: _ :: _ :: _ :: _ :: _ :: _) rfl ?_
  refine xt_pure rfl rfl rfl rfl ?_
  refine xt_pure rfl rfl rfl (st1 := .int 20 :: _) rfl ?_
  refine yt_newI rfl rfl ⟨by decide, by decide⟩ (c1 := 7) (s1 := 1196) (yle rfl) (yle rfl) ?_
  intro m4
  refine xt_putf rfl rfl rfl rfl 10 rfl (D1 := _ :: _ :: _ :: _ :: _ :: _ :: _ :: _ :: _ :: _ :: _ :: _ :: _ :: _ :: _ :: _ :: _ :: _ :: _ :: _ :: _ :: _ :: _ :: _ :: _) rfl ?_
  refine xt_pure rfl rfl rfl rfl ?_
  refine xt_pure rfl rfl rfl (st1 := .int 20 :: _) rfl ?_
  refine yt_newI rfl rfl ⟨by decide, by decide⟩ (c1 := 6) (s1 := 1176) (yle rfl) (yle rfl) ?_
  intro m5
  refine xt_putf rfl rfl rfl rfl 12 rfl (D1 := _ :: _ :: _ :: _ :: _ :: _ :: _ :: _ :: _ :: _ :: _ :: _ :: _ :: _ :: _ :: _ :: _ :: _ :: _ :: _ :: _ :: _ :: _ :: _ :: _ :: _) rfl ?_
  refine xt_pure rfl rfl rfl rfl ?_
  refine xt_pure rfl rfl rfl (st1 := .int 20 :: _) rfl ?_
  refine yt_newI rfl rfl ⟨by decide, by decide⟩ (c1 := 5) (s1 := 1156) (yle rfl) (yle rfl) ?_
  intro m6
  refine xt_putf rfl rfl rfl rfl 14 rfl (D1 := _ :: _ :: _ :: _ :: _ :: _ :: _ :: _ :: _ :: _ :: _ :: _ :: _ :: _ :: _ :: _ :: _ :: _ :: _ :: _ :: _ :: _ :: _ :: _ :: _ :: _ :: _) rfl ?_
  refine xt_pure rfl rfl rfl rfl ?_
  refine xt_pure rfl rfl rfl (st1 := .int 12 :: _) rfl ?_
  refine yt_newI rfl rfl ⟨by decide, by decide⟩ (c1 := 4) (s1 := 1144) (yle rfl) (yle rfl) ?_
  intro m7
  refine xt_putf rfl rfl rfl rfl 17 rfl (D1 := _ :: _ :: _ :: _ :: _ :: _ :: _ :: _ :: _ :: _ :: _ :: _ :: _ :: _ :: _ :: _ :: _ :: _ :: _ :: _ :: _ :: _ :: _ :: _ :: _ :: _ :: _ :: _) rfl ?_
  refine xt_pure rfl rfl rfl rfl ?_
  refine xt_pure rfl rfl rfl (st1 := .int 12 :: _) rfl ?_
  refine yt_newI rfl rfl ⟨by decide, by decide⟩ (c1 := 3) (s1 := 1132) (yle rfl) (yle rfl) ?_
  intro m8
  refine xt_putf rfl rfl rfl rfl 20 rfl (D1 := _ :: _ :: _ :: _ :: _ :: _ :: _ :: _ :: _ :: _ :: _ :: _ :: _ :: _ :: _ :: _ :: _ :: _ :: _ :: _ :: _ :: _ :: _ :: _ :: _ :: _ :: _ :: _ :: _) rfl ?_
  refine xt_pure rfl rfl rfl rfl ?_
  refine xt_pure rfl rfl rfl (st1 := .int 12 :: _) rfl ?_
  refine yt_newI rfl rfl ⟨by decide, by decide⟩ (c1 := 2) (s1 := 1120) (yle rfl) (yle rfl) ?_
  intro m9
  refine xt_putf rfl rfl rfl rfl 22 rfl (D1 := _ :: _ :: _ :: _ :: _ :: _ :: _ :: _ :: _ :: _ :: _ :: _ :: _ :: _ :: _ :: _ :: _ :: _ :: _ :: _ :: _ :: _ :: _ :: _ :: _ :: _ :: _ :: _ :: _ :: _) rfl ?_
  refine xt_pure rfl rfl rfl rfl ?_
  refine xt_pure rfl rfl rfl (st1 := .int 560 :: _) rfl ?_
  refine yt_newI rfl rfl ⟨by decide, by decide⟩ (c1 := 1) (s1 := 560) (yle rfl) (yle rfl) ?_
  intro m10
  refine xt_putf rfl rfl rfl rfl 27 rfl (D1 := _ :: _ :: _ :: _ :: _ :: _ :: _ :: _ :: _ :: _ :: _ :: _ :: _ :: _ :: _ :: _ :: _ :: _ :: _ :: _ :: _ :: _ :: _ :: _ :: _ :: _ :: _ :: _ :: _ :: _ :: _) rfl ?_
  refine xt_pure rfl rfl rfl rfl ?_
  refine xt_pure rfl rfl rfl (st1 := .int 560 :: _) rfl ?_
  refine yt_newI rfl rfl ⟨by decide, by decide⟩ (c1 := 0) (s1 := 0) (yle rfl) (yle rfl) ?_
  intro m11
  refine xt_putf rfl rfl rfl rfl 29 rfl (D1 := _ :: _ :: _ :: _ :: _ :: _ :: _ :: _ :: _ :: _ :: _ :: _ :: _ :: _ :: _ :: _ :: _ :: _ :: _ :: _ :: _ :: _ :: _ :: _ :: _ :: _ :: _ :: _ :: _ :: _ :: _ :: _) rfl ?_
  exact xt_vret rfl rfl rfl ⟨fun j => if j = 1 then m0 else if j = 2 then m1 else if j = 3 then m2 else if j = 4 then m3 else if j = 5 then m4 else if j = 6 then m5 else if j = 7 then m6 else if j = 9 then m7 else if j = 11 then m8 else if j = 12 then m9 else if j = 16 then m10 else if j = 17 then m11 else 0, rfl, rfl⟩
def fmN (a : Nat) (m : Nat → Nat) : List xE := [((m 22), .inr (0, (List.replicate 300 (0 : Int32)).map Value.int)), ((m 21), .inr (0, (List.replicate 300 (0 : Int32)).map Value.int)), ((m 20), .inr (1, (List.replicate 300 (0 : Int64)).map Value.long)), ((m 19), .inr (0, (List.replicate 300 (0 : Int32)).map Value.int)), ((m 14), .inr (0, (List.replicate 12 (0 : Int32)).map Value.int)), ((m 13), .inr (0, (List.replicate 12 (0 : Int32)).map Value.int)), ((m 11), .inr (0, (List.replicate 12 (0 : Int32)).map Value.int)), ((m 10), .inr (1, (List.replicate 12 (0 : Int64)).map Value.long)), ((m 8), .inr (0, (List.replicate 20 (0 : Int32)).map Value.int)), ((m 7), .inr (0, (List.replicate 20 (0 : Int32)).map Value.int)), ((m 6), .inr (0, (List.replicate 20 (0 : Int32)).map Value.int)), ((m 5), .inr (0, (List.replicate 20 (0 : Int32)).map Value.int)), ((m 4), .inr (3, (List.replicate 20 (0 : Int32)).map Value.int)), ((m 3), .inr (0, (List.replicate 20 (0 : Int32)).map Value.int)), ((m 2), .inr (0, (List.replicate 20 (0 : Int32)).map Value.int)), ((m 1), .inr (1, (List.replicate 20 (0 : Int64)).map Value.long)), (a, .inl (12, 0, .int 0)), (a, .inl (12, 1, .ref (m 1))), (a, .inl (12, 2, .ref (m 2))), (a, .inl (12, 3, .ref (m 3))), (a, .inl (12, 4, .ref (m 4))), (a, .inl (12, 5, .ref (m 5))), (a, .inl (12, 6, .ref (m 6))), (a, .inl (12, 7, .ref (m 7))), (a, .inl (12, 8, .ref (m 8))), (a, .inl (12, 9, .int 0)), (a, .inl (12, 10, .ref (m 10))), (a, .inl (12, 11, .ref (m 11))), (a, .inl (12, 12, .int 0)), (a, .inl (12, 13, .ref (m 13))), (a, .inl (12, 14, .ref (m 14))), (a, .inl (12, 15, .int 0)), (a, .inl (12, 16, .int 0)), (a, .inl (12, 17, .int 0)), (a, .inl (12, 18, .int 0)), (a, .inl (12, 19, .ref (m 19))), (a, .inl (12, 20, .ref (m 20))), (a, .inl (12, 21, .ref (m 21))), (a, .inl (12, 22, .ref (m 22)))]
theorem yFormM {X : List Int32} {D0 : List xE} {a : Nat} : yK X 1 100 208 [.ref a] ((a, .inl (12, 0, .int 0)) :: (a, .inl (12, 1, .null)) :: (a, .inl (12, 2, .null)) :: (a, .inl (12, 3, .null)) :: (a, .inl (12, 4, .null)) :: (a, .inl (12, 5, .null)) :: (a, .inl (12, 6, .null)) :: (a, .inl (12, 7, .null)) :: (a, .inl (12, 8, .null)) :: (a, .inl (12, 9, .int 0)) :: (a, .inl (12, 10, .null)) :: (a, .inl (12, 11, .null)) :: (a, .inl (12, 12, .int 0)) :: (a, .inl (12, 13, .null)) :: (a, .inl (12, 14, .null)) :: (a, .inl (12, 15, .int 0)) :: (a, .inl (12, 16, .int 0)) :: (a, .inl (12, 17, .int 0)) :: (a, .inl (12, 18, .int 0)) :: (a, .inl (12, 19, .null)) :: (a, .inl (12, 20, .null)) :: (a, .inl (12, 21, .null)) :: (a, .inl (12, 22, .null)) :: D0) 16 1408 (fun w D => ∃ m, w = none ∧ D = fmN a m ++ D0) := by
  refine yK.of rfl (yle rfl) (L := [_]) rfl ?_
  refine xt_pure rfl rfl rfl rfl ?_
  refine xt_obji rfl rfl rfl ⟨yle rfl, yle rfl, yle rfl⟩ ?_
  refine xt_pure rfl rfl rfl rfl ?_
  refine xt_pure rfl rfl rfl (st1 := .int 20 :: _) rfl ?_
  refine yt_newJ rfl rfl ⟨by decide, by decide⟩ (c1 := 15) (s1 := 1388) (yle rfl) (yle rfl) ?_
  intro m0
  refine xt_putf rfl rfl rfl rfl 2 rfl (D1 := _ :: _ :: _ :: _ :: _ :: _ :: _ :: _ :: _ :: _ :: _ :: _ :: _ :: _ :: _ :: _ :: _ :: _ :: _ :: _ :: _ :: _ :: _ :: _ :: _) rfl ?_
  refine xt_pure rfl rfl rfl rfl ?_
  refine xt_pure rfl rfl rfl (st1 := .int 20 :: _) rfl ?_
  refine yt_newI rfl rfl ⟨by decide, by decide⟩ (c1 := 14) (s1 := 1368) (yle rfl) (yle rfl) ?_
  intro m1
  refine xt_putf rfl rfl rfl rfl 4 rfl (D1 := _ :: _ :: _ :: _ :: _ :: _ :: _ :: _ :: _ :: _ :: _ :: _ :: _ :: _ :: _ :: _ :: _ :: _ :: _ :: _ :: _ :: _ :: _ :: _ :: _ :: _) rfl ?_
  refine xt_pure rfl rfl rfl rfl ?_
  refine xt_pure rfl rfl rfl (st1 := .int 20 :: _) rfl ?_
  refine yt_newI rfl rfl ⟨by decide, by decide⟩ (c1 := 13) (s1 := 1348) (yle rfl) (yle rfl) ?_
  intro m2
  refine xt_putf rfl rfl rfl rfl 6 rfl (D1 := _ :: _ :: _ :: _ :: _ :: _ :: _ :: _ :: _ :: _ :: _ :: _ :: _ :: _ :: _ :: _ :: _ :: _ :: _ :: _ :: _ :: _ :: _ :: _ :: _ :: _ :: _) rfl ?_
  refine xt_pure rfl rfl rfl rfl ?_
  refine xt_pure rfl rfl rfl (st1 := .int 20 :: _) rfl ?_
  refine yt_newB rfl rfl ⟨by decide, by decide⟩ (c1 := 12) (s1 := 1328) (yle rfl) (yle rfl) ?_
  intro m3
  refine xt_putf rfl rfl rfl rfl 8 rfl (D1 := _ :: _ :: _ :: _ :: _ :: _ :: _ :: _ :: _ :: _ :: _ :: _ :: _ :: _ :: _ :: _ :: _ :: _ :: _ :: _ :: _ :: _ :: _ :: _ :: _ :: _ :: _ :: _) rfl ?_
  refine xt_pure rfl rfl rfl rfl ?_
  refine xt_pure rfl rfl rfl (st1 := .int 20 :: _) rfl ?_
  refine yt_newI rfl rfl ⟨by decide, by decide⟩ (c1 := 11) (s1 := 1308) (yle rfl) (yle rfl) ?_
  intro m4
  refine xt_putf rfl rfl rfl rfl 10 rfl (D1 := _ :: _ :: _ :: _ :: _ :: _ :: _ :: _ :: _ :: _ :: _ :: _ :: _ :: _ :: _ :: _ :: _ :: _ :: _ :: _ :: _ :: _ :: _ :: _ :: _ :: _ :: _ :: _ :: _) rfl ?_
  refine xt_pure rfl rfl rfl rfl ?_
  refine xt_pure rfl rfl rfl (st1 := .int 20 :: _) rfl ?_
  refine yt_newI rfl rfl ⟨by decide, by decide⟩ (c1 := 10) (s1 := 1288) (yle rfl) (yle rfl) ?_
  intro m5
  refine xt_putf rfl rfl rfl rfl 12 rfl (D1 := _ :: _ :: _ :: _ :: _ :: _ :: _ :: _ :: _ :: _ :: _ :: _ :: _ :: _ :: _ :: _ :: _ :: _ :: _ :: _ :: _ :: _ :: _ :: _ :: _ :: _ :: _ :: _ :: _ :: _) rfl ?_
  refine xt_pure rfl rfl rfl rfl ?_
  refine xt_pure rfl rfl rfl (st1 := .int 20 :: _) rfl ?_
  refine yt_newI rfl rfl ⟨by decide, by decide⟩ (c1 := 9) (s1 := 1268) (yle rfl) (yle rfl) ?_
  intro m6
  refine xt_putf rfl rfl rfl rfl 14 rfl (D1 := _ :: _ :: _ :: _ :: _ :: _ :: _ :: _ :: _ :: _ :: _ :: _ :: _ :: _ :: _ :: _ :: _ :: _ :: _ :: _ :: _ :: _ :: _ :: _ :: _ :: _ :: _ :: _ :: _ :: _ :: _) rfl ?_
  refine xt_pure rfl rfl rfl rfl ?_
  refine xt_pure rfl rfl rfl (st1 := .int 20 :: _) rfl ?_
  refine yt_newI rfl rfl ⟨by decide, by decide⟩ (c1 := 8) (s1 := 1248) (yle rfl) (yle rfl) ?_
  intro m7
  refine xt_putf rfl rfl rfl rfl 16 rfl (D1 := _ :: _ :: _ :: _ :: _ :: _ :: _ :: _ :: _ :: _ :: _ :: _ :: _ :: _ :: _ :: _ :: _ :: _ :: _ :: _ :: _ :: _ :: _ :: _ :: _ :: _ :: _ :: _ :: _ :: _ :: _ :: _) rfl ?_
  refine xt_pure rfl rfl rfl rfl ?_
  refine xt_pure rfl rfl rfl (st1 := .int 12 :: _) rfl ?_
  refine yt_newJ rfl rfl ⟨by decide, by decide⟩ (c1 := 7) (s1 := 1236) (yle rfl) (yle rfl) ?_
  intro m8
  refine xt_putf rfl rfl rfl rfl 19 rfl (D1 := _ :: _ :: _ :: _ :: _ :: _ :: _ :: _ :: _ :: _ :: _ :: _ :: _ :: _ :: _ :: _ :: _ :: _ :: _ :: _ :: _ :: _ :: _ :: _ :: _ :: _ :: _ :: _ :: _ :: _ :: _ :: _ :: _) rfl ?_
  refine xt_pure rfl rfl rfl rfl ?_
  refine xt_pure rfl rfl rfl (st1 := .int 12 :: _) rfl ?_
  refine yt_newI rfl rfl ⟨by decide, by decide⟩ (c1 := 6) (s1 := 1224) (yle rfl) (yle rfl) ?_
  intro m9
  refine xt_putf rfl rfl rfl rfl 21 rfl (D1 := _ :: _ :: _ :: _ :: _ :: _ :: _ :: _ :: _ :: _ :: _ :: _ :: _ :: _ :: _ :: _ :: _ :: _ :: _ :: _ :: _ :: _ :: _ :: _ :: _ :: _ :: _ :: _ :: _ :: _ :: _ :: _ :: _ :: _) rfl ?_
  refine xt_pure rfl rfl rfl rfl ?_
  refine xt_pure rfl rfl rfl (st1 := .int 12 :: _) rfl ?_
  refine yt_newI rfl rfl ⟨by decide, by decide⟩ (c1 := 5) (s1 := 1212) (yle rfl) (yle rfl) ?_
  intro m10
  refine xt_putf rfl rfl rfl rfl 24 rfl (D1 := _ :: _ :: _ :: _ :: _ :: _ :: _ :: _ :: _ :: _ :: _ :: _ :: _ :: _ :: _ :: _ :: _ :: _ :: _ :: _ :: _ :: _ :: _ :: _ :: _ :: _ :: _ :: _ :: _ :: _ :: _ :: _ :: _ :: _ :: _) rfl ?_
  refine xt_pure rfl rfl rfl rfl ?_
  refine xt_pure rfl rfl rfl (st1 := .int 12 :: _) rfl ?_
  refine yt_newI rfl rfl ⟨by decide, by decide⟩ (c1 := 4) (s1 := 1200) (yle rfl) (yle rfl) ?_
  intro m11
  refine xt_putf rfl rfl rfl rfl 26 rfl (D1 := _ :: _ :: _ :: _ :: _ :: _ :: _ :: _ :: _ :: _ :: _ :: _ :: _ :: _ :: _ :: _ :: _ :: _ :: _ :: _ :: _ :: _ :: _ :: _ :: _ :: _ :: _ :: _ :: _ :: _ :: _ :: _ :: _ :: _ :: _ :: _) rfl ?_
  refine xt_pure rfl rfl rfl rfl ?_
  refine xt_pure rfl rfl rfl (st1 := .int 300 :: _) rfl ?_
  refine yt_newI rfl rfl ⟨by decide, by decide⟩ (c1 := 3) (s1 := 900) (yle rfl) (yle rfl) ?_
  intro m12
  refine xt_putf rfl rfl rfl rfl 32 rfl (D1 := _ :: _ :: _ :: _ :: _ :: _ :: _ :: _ :: _ :: _ :: _ :: _ :: _ :: _ :: _ :: _ :: _ :: _ :: _ :: _ :: _ :: _ :: _ :: _ :: _ :: _ :: _ :: _ :: _ :: _ :: _ :: _ :: _ :: _ :: _ :: _ :: _) rfl ?_
  refine xt_pure rfl rfl rfl rfl ?_
  refine xt_pure rfl rfl rfl (st1 := .int 300 :: _) rfl ?_
  refine yt_newJ rfl rfl ⟨by decide, by decide⟩ (c1 := 2) (s1 := 600) (yle rfl) (yle rfl) ?_
  intro m13
  refine xt_putf rfl rfl rfl rfl 34 rfl (D1 := _ :: _ :: _ :: _ :: _ :: _ :: _ :: _ :: _ :: _ :: _ :: _ :: _ :: _ :: _ :: _ :: _ :: _ :: _ :: _ :: _ :: _ :: _ :: _ :: _ :: _ :: _ :: _ :: _ :: _ :: _ :: _ :: _ :: _ :: _ :: _ :: _ :: _) rfl ?_
  refine xt_pure rfl rfl rfl rfl ?_
  refine xt_pure rfl rfl rfl (st1 := .int 300 :: _) rfl ?_
  refine yt_newI rfl rfl ⟨by decide, by decide⟩ (c1 := 1) (s1 := 300) (yle rfl) (yle rfl) ?_
  intro m14
  refine xt_putf rfl rfl rfl rfl 36 rfl (D1 := _ :: _ :: _ :: _ :: _ :: _ :: _ :: _ :: _ :: _ :: _ :: _ :: _ :: _ :: _ :: _ :: _ :: _ :: _ :: _ :: _ :: _ :: _ :: _ :: _ :: _ :: _ :: _ :: _ :: _ :: _ :: _ :: _ :: _ :: _ :: _ :: _ :: _ :: _) rfl ?_
  refine xt_pure rfl rfl rfl rfl ?_
  refine xt_pure rfl rfl rfl (st1 := .int 300 :: _) rfl ?_
  refine yt_newI rfl rfl ⟨by decide, by decide⟩ (c1 := 0) (s1 := 0) (yle rfl) (yle rfl) ?_
  intro m15
  refine xt_putf rfl rfl rfl rfl 38 rfl (D1 := _ :: _ :: _ :: _ :: _ :: _ :: _ :: _ :: _ :: _ :: _ :: _ :: _ :: _ :: _ :: _ :: _ :: _ :: _ :: _ :: _ :: _ :: _ :: _ :: _ :: _ :: _ :: _ :: _ :: _ :: _ :: _ :: _ :: _ :: _ :: _ :: _ :: _ :: _ :: _) rfl ?_
  exact xt_vret rfl rfl rfl ⟨fun j => if j = 1 then m0 else if j = 2 then m1 else if j = 3 then m2 else if j = 4 then m3 else if j = 5 then m4 else if j = 6 then m5 else if j = 7 then m6 else if j = 8 then m7 else if j = 10 then m8 else if j = 11 then m9 else if j = 13 then m10 else if j = 14 then m11 else if j = 19 then m12 else if j = 20 then m13 else if j = 21 then m14 else if j = 22 then m15 else 0, rfl, rfl⟩
