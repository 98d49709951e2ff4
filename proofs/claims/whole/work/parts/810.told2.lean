/-! THE DISK: small numbers told -/
set_option maxRecDepth 20000 in
theorem byt_small : ∀ k, k < 256 → byt (Int32.ofNat k).toInt64 0 = Int32.ofNat k := by decide
set_option maxRecDepth 20000 in
theorem byt_small64 : ∀ k, k < 256 → byt (Int64.ofNat k) 0 = Int32.ofNat k := by decide
section TOLD2
variable {N : Nat} {Q : zS}
theorem r_tell1 {k : Nat} {S : zS} {bs : List Int32} {c h : Int32} (hk : k < 256) (hl : bs.length < 100000) (hK : KM Q S bs c h) : ∃ S', rK_tell N (Int32.ofNat k) S = some ((), S') ∧ KM Q S' (bs ++ bts (Int32.ofNat k).toInt64 1) (smB c (bts (Int32.ofNat k).toInt64 1)) (hsB h (bts (Int32.ofNat k).toInt64 1)) := by
  have e : bts (Int32.ofNat k).toInt64 1 = [Int32.ofNat k] := by
    rw [bts, bts, byt_small k hk]
  rw [e]
  exact r_tell hl hK
/-- a seat told -/
theorem r_seat {En : List (Int64 × Int32)} {v : Int64} {S : zS} {bs : List Int32} {c h : Int32} (hE : En.length ≤ 100) (hv : v = -1 ∨ ∃ n, n < En.length ∧ v = Int64.ofNat n) (hl : bs.length < 100000) (hK : KM Q S bs c h) : ∃ S', rK_tell N (v.toInt32 + 1) S = some ((), S') ∧ KM Q S' (bs ++ bts (if v = -1 then 0 else v + 1) 1) (smB c (bts (if v = -1 then 0 else v + 1) 1)) (hsB h (bts (if v = -1 then 0 else v + 1) 1)) := by
  have e : bts (if v = -1 then 0 else v + 1) 1 = [v.toInt32 + 1] := by
    rcases hv with rfl | ⟨n, hn, rfl⟩
    · rw [if_pos rfl]; decide
    · have hne : Int64.ofNat n ≠ -1 := by
        intro hh
        have := congrArg Int64.toInt hh
        rw [y64_m1, Int64.toInt_ofNat_of_lt (by omega)] at this
        omega
      have e1 : Int64.ofNat n + 1 = Int64.ofNat (n + 1) := (Int64.ofNat_add n 1).symm
      have e2 : (Int64.ofNat n).toInt32 = Int32.ofNat n := by simp
      rw [if_neg hne, e1, bts, bts, byt_small64 (n + 1) (by omega), e2, yi_add1]
  rw [e]
  exact r_tell hl hK
end TOLD2
