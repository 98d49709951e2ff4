/-! MIRRORS: the reference, words -/
def zTQ : List (Nat × Nat × Nat) := [(0, 14, 1), (3, 2, 0), (0, 14, 2), (0, 14, 3), (0, 14, 4), (0, 14, 5), (0, 14, 6), (0, 14, 12), (0, 14, 13), (0, 14, 14), (4, 1, 0), (3, 0, 0), (3, 0, 0), (3, 0, 0), (0, 12, 0), (4, 1, 0), (3, 0, 0), (3, 0, 0), (3, 3, 0), (3, 0, 0), (3, 0, 0), (3, 0, 0), (3, 0, 0), (0, 12, 9), (4, 1, 0), (3, 0, 0), (0, 12, 12), (3, 0, 0), (3, 0, 0), (0, 12, 15), (0, 12, 16), (0, 12, 17), (0, 12, 18), (3, 0, 0), (4, 1, 0), (3, 0, 0), (3, 0, 0)]
def zaQ (a : Nat) (p : Nat → Nat) (i : Nat) : Nat := ([209, 210, 209, 209, 209, 209, 209, 209, 209, 209, 230, 231, 232, 233, a, p 1, p 2, p 3, p 4, p 5, p 6, p 7, p 8, a, p 10, p 11, a, p 13, p 14, a, a, a, a, p 19, p 20, p 21, p 22] : List Nat).getD i 0
def zgQ (a : Nat) (p : Nat → Nat) : List xE := [(a, .inl (12, 1, .ref (p 1))), (a, .inl (12, 2, .ref (p 2))), (a, .inl (12, 3, .ref (p 3))), (a, .inl (12, 4, .ref (p 4))), (a, .inl (12, 5, .ref (p 5))), (a, .inl (12, 6, .ref (p 6))), (a, .inl (12, 7, .ref (p 7))), (a, .inl (12, 8, .ref (p 8))), (a, .inl (12, 10, .ref (p 10))), (a, .inl (12, 11, .ref (p 11))), (a, .inl (12, 13, .ref (p 13))), (a, .inl (12, 14, .ref (p 14))), (a, .inl (12, 19, .ref (p 19))), (a, .inl (12, 20, .ref (p 20))), (a, .inl (12, 21, .ref (p 21))), (a, .inl (12, 22, .ref (p 22)))]
def zs_2 : List Int32 := [102, 111, 114, 109, 32, 117, 110, 116, 105, 108, 32, 115, 105, 103, 110, 101, 114, 115, 32, 109, 117, 115, 116, 32, 119, 104, 101, 110, 32, 103, 114, 111, 117, 112, 32, 121, 101, 115, 32, 119, 104, 111, 108, 101, 32, 109, 111, 110, 101, 121, 32, 100, 97, 116, 101, 32, 99, 104, 111, 105, 99, 101, 32, 109, 97, 110, 121, 32, 116, 101, 120, 116, 32, 116, 97, 98, 108, 101, 32, 108, 105, 115, 116, 32, 115, 105, 103, 110, 101, 100, 32, 101, 110, 116, 114, 121, 32, 102, 105, 103, 117, 114, 101, 32, 99, 104, 101, 99, 107, 32, 111, 114, 32, 97, 110, 100, 32, 110, 111, 116, 32, 108, 101, 110, 32, 104, 97, 115, 32, 105, 115, 32, 116, 111, 116, 97, 108, 32, 116, 114, 121, 32, 101, 108, 115, 101, 32, 116, 114, 117, 116, 104, 115, 32, 119, 104, 111, 108, 101, 115, 32, 109, 111, 110, 101, 121, 115, 32, 108, 101, 116, 116, 101, 114, 115, 32, 114, 111, 119, 115, 32, 101, 110, 116, 114, 105, 101, 115, 32, 115, 105, 103, 110, 101, 100, 115, 32, 111, 110, 101, 32]
def zs_4 : List Int32 := [59, 123, 125, 40, 41, 91, 93, 44, 61, 60, 62, 43, 45, 42, 47, 37]
def zs_6 : List Int32 := [102, 111, 114, 109]
def zs_8 : List Int32 := [117, 110, 116, 105, 108]
def zs_10 : List Int32 := [115, 105, 103, 110, 101, 114, 115]
def zs_12 : List Int32 := [109, 117, 115, 116]
def zs_14 : List Int32 := [119, 104, 101, 110]
def zs_16 : List Int32 := [103, 114, 111, 117, 112]
def zs_18 : List Int32 := [121, 101, 115]
def zs_20 : List Int32 := [119, 104, 111, 108, 101]
def zs_22 : List Int32 := [109, 111, 110, 101, 121]
def zs_24 : List Int32 := [100, 97, 116, 101]
def zs_26 : List Int32 := [99, 104, 111, 105, 99, 101]
def zs_28 : List Int32 := [109, 97, 110, 121]
def zs_30 : List Int32 := [116, 101, 120, 116]
def zs_32 : List Int32 := [116, 97, 98, 108, 101]
def zs_34 : List Int32 := [108, 105, 115, 116]
def zs_36 : List Int32 := [115, 105, 103, 110, 101, 100]
def zs_38 : List Int32 := [101, 110, 116, 114, 121]
def zs_40 : List Int32 := [102, 105, 103, 117, 114, 101]
def zs_42 : List Int32 := [99, 104, 101, 99, 107]
def zs_44 : List Int32 := [111, 114]
def zs_46 : List Int32 := [97, 110, 100]
def zs_48 : List Int32 := [110, 111, 116]
def zs_50 : List Int32 := [108, 101, 110]
def zs_52 : List Int32 := [104, 97, 115]
def zs_54 : List Int32 := [105, 115]
def zs_56 : List Int32 := [116, 111, 116, 97, 108]
def zs_58 : List Int32 := [116, 114, 121]
def zs_60 : List Int32 := [101, 108, 115, 101]
def zs_62 : List Int32 := [116, 114, 117, 116, 104, 115]
def zs_64 : List Int32 := [119, 104, 111, 108, 101, 115]
def zs_66 : List Int32 := [109, 111, 110, 101, 121, 115]
def zs_68 : List Int32 := [108, 101, 116, 116, 101, 114, 115]
def zs_70 : List Int32 := [114, 111, 119, 115]
def zs_72 : List Int32 := [101, 110, 116, 114, 105, 101, 115]
def zs_74 : List Int32 := [115, 105, 103, 110, 101, 100, 115]
def zs_76 : List Int32 := [111, 110, 101]
def zwords : List (List Int32) := [zs_6, zs_8, zs_10, zs_12, zs_14, zs_16, zs_18, zs_20, zs_22, zs_24, zs_26, zs_28, zs_30, zs_32, zs_34, zs_36, zs_38, zs_40, zs_42, zs_44, zs_46, zs_48, zs_50, zs_52, zs_54, zs_56, zs_58, zs_60, zs_62, zs_64, zs_66, zs_68, zs_70, zs_72, zs_74, zs_76]
def zw229 : List Value := [.ref 6, .ref 8, .ref 10, .ref 12, .ref 14, .ref 16, .ref 18, .ref 20, .ref 22, .ref 24, .ref 26, .ref 28, .ref 30, .ref 32, .ref 34, .ref 36, .ref 38, .ref 40, .ref 42, .ref 44, .ref 46, .ref 48, .ref 50, .ref 52, .ref 54, .ref 56, .ref 58, .ref 60, .ref 62, .ref 64, .ref 66, .ref 68, .ref 70, .ref 72, .ref 74, .ref 76]
theorem zwd0 {X : List Int32} : ∀ {i : Nat} {bs : List Int32}, zwords[i]? = some bs → ∃ sk sa, zw229[i]? = some (.ref sk) ∧ ((sk, .inl (15, 0, .ref sa)) : xE) ∈ xcon X ∧ ((sk, .inl (15, 1, .int 0)) : xE) ∈ xcon X ∧ ((sa, .inr (2, bs.map Value.int)) : xE) ∈ xcon X
  | 0, _, rfl => ⟨6, 7, rfl, (List.mem_cons_of_mem _ (List.mem_of_getElem? (i := 7) rfl)), (List.mem_cons_of_mem _ (List.mem_of_getElem? (i := 8) rfl)), (List.mem_cons_of_mem _ (List.mem_of_getElem? (i := 9) rfl))⟩
  | 1, _, rfl => ⟨8, 9, rfl, (List.mem_cons_of_mem _ (List.mem_of_getElem? (i := 10) rfl)), (List.mem_cons_of_mem _ (List.mem_of_getElem? (i := 11) rfl)), (List.mem_cons_of_mem _ (List.mem_of_getElem? (i := 12) rfl))⟩
  | 2, _, rfl => ⟨10, 11, rfl, (List.mem_cons_of_mem _ (List.mem_of_getElem? (i := 13) rfl)), (List.mem_cons_of_mem _ (List.mem_of_getElem? (i := 14) rfl)), (List.mem_cons_of_mem _ (List.mem_of_getElem? (i := 15) rfl))⟩
  | 3, _, rfl => ⟨12, 13, rfl, (List.mem_cons_of_mem _ (List.mem_of_getElem? (i := 16) rfl)), (List.mem_cons_of_mem _ (List.mem_of_getElem? (i := 17) rfl)), (List.mem_cons_of_mem _ (List.mem_of_getElem? (i := 18) rfl))⟩
  | 4, _, rfl => ⟨14, 15, rfl, (List.mem_cons_of_mem _ (List.mem_of_getElem? (i := 19) rfl)), (List.mem_cons_of_mem _ (List.mem_of_getElem? (i := 20) rfl)), (List.mem_cons_of_mem _ (List.mem_of_getElem? (i := 21) rfl))⟩
  | 5, _, rfl => ⟨16, 17, rfl, (List.mem_cons_of_mem _ (List.mem_of_getElem? (i := 22) rfl)), (List.mem_cons_of_mem _ (List.mem_of_getElem? (i := 23) rfl)), (List.mem_cons_of_mem _ (List.mem_of_getElem? (i := 24) rfl))⟩
  | 6, _, rfl => ⟨18, 19, rfl, (List.mem_cons_of_mem _ (List.mem_of_getElem? (i := 25) rfl)), (List.mem_cons_of_mem _ (List.mem_of_getElem? (i := 26) rfl)), (List.mem_cons_of_mem _ (List.mem_of_getElem? (i := 27) rfl))⟩
  | 7, _, rfl => ⟨20, 21, rfl, (List.mem_cons_of_mem _ (List.mem_of_getElem? (i := 28) rfl)), (List.mem_cons_of_mem _ (List.mem_of_getElem? (i := 29) rfl)), (List.mem_cons_of_mem _ (List.mem_of_getElem? (i := 30) rfl))⟩
  | 8, _, rfl => ⟨22, 23, rfl, (List.mem_cons_of_mem _ (List.mem_of_getElem? (i := 31) rfl)), (List.mem_cons_of_mem _ (List.mem_of_getElem? (i := 32) rfl)), (List.mem_cons_of_mem _ (List.mem_of_getElem? (i := 33) rfl))⟩
  | 9, _, rfl => ⟨24, 25, rfl, (List.mem_cons_of_mem _ (List.mem_of_getElem? (i := 34) rfl)), (List.mem_cons_of_mem _ (List.mem_of_getElem? (i := 35) rfl)), (List.mem_cons_of_mem _ (List.mem_of_getElem? (i := 36) rfl))⟩
  | 10, _, rfl => ⟨26, 27, rfl, (List.mem_cons_of_mem _ (List.mem_of_getElem? (i := 37) rfl)), (List.mem_cons_of_mem _ (List.mem_of_getElem? (i := 38) rfl)), (List.mem_cons_of_mem _ (List.mem_of_getElem? (i := 39) rfl))⟩
  | 11, _, rfl => ⟨28, 29, rfl, (List.mem_cons_of_mem _ (List.mem_of_getElem? (i := 40) rfl)), (List.mem_cons_of_mem _ (List.mem_of_getElem? (i := 41) rfl)), (List.mem_cons_of_mem _ (List.mem_of_getElem? (i := 42) rfl))⟩
  | 12, _, rfl => ⟨30, 31, rfl, (List.mem_cons_of_mem _ (List.mem_of_getElem? (i := 43) rfl)), (List.mem_cons_of_mem _ (List.mem_of_getElem? (i := 44) rfl)), (List.mem_cons_of_mem _ (List.mem_of_getElem? (i := 45) rfl))⟩
  | 13, _, rfl => ⟨32, 33, rfl, (List.mem_cons_of_mem _ (List.mem_of_getElem? (i := 46) rfl)), (List.mem_cons_of_mem _ (List.mem_of_getElem? (i := 47) rfl)), (List.mem_cons_of_mem _ (List.mem_of_getElem? (i := 48) rfl))⟩
  | 14, _, rfl => ⟨34, 35, rfl, (List.mem_cons_of_mem _ (List.mem_of_getElem? (i := 49) rfl)), (List.mem_cons_of_mem _ (List.mem_of_getElem? (i := 50) rfl)), (List.mem_cons_of_mem _ (List.mem_of_getElem? (i := 51) rfl))⟩
  | 15, _, rfl => ⟨36, 37, rfl, (List.mem_cons_of_mem _ (List.mem_of_getElem? (i := 52) rfl)), (List.mem_cons_of_mem _ (List.mem_of_getElem? (i := 53) rfl)), (List.mem_cons_of_mem _ (List.mem_of_getElem? (i := 54) rfl))⟩
  | 16, _, rfl => ⟨38, 39, rfl, (List.mem_cons_of_mem _ (List.mem_of_getElem? (i := 55) rfl)), (List.mem_cons_of_mem _ (List.mem_of_getElem? (i := 56) rfl)), (List.mem_cons_of_mem _ (List.mem_of_getElem? (i := 57) rfl))⟩
  | 17, _, rfl => ⟨40, 41, rfl, (List.mem_cons_of_mem _ (List.mem_of_getElem? (i := 58) rfl)), (List.mem_cons_of_mem _ (List.mem_of_getElem? (i := 59) rfl)), (List.mem_cons_of_mem _ (List.mem_of_getElem? (i := 60) rfl))⟩
  | 18, _, rfl => ⟨42, 43, rfl, (List.mem_cons_of_mem _ (List.mem_of_getElem? (i := 61) rfl)), (List.mem_cons_of_mem _ (List.mem_of_getElem? (i := 62) rfl)), (List.mem_cons_of_mem _ (List.mem_of_getElem? (i := 63) rfl))⟩
  | 19, _, rfl => ⟨44, 45, rfl, (List.mem_cons_of_mem _ (List.mem_of_getElem? (i := 64) rfl)), (List.mem_cons_of_mem _ (List.mem_of_getElem? (i := 65) rfl)), (List.mem_cons_of_mem _ (List.mem_of_getElem? (i := 66) rfl))⟩
  | 20, _, rfl => ⟨46, 47, rfl, (List.mem_cons_of_mem _ (List.mem_of_getElem? (i := 67) rfl)), (List.mem_cons_of_mem _ (List.mem_of_getElem? (i := 68) rfl)), (List.mem_cons_of_mem _ (List.mem_of_getElem? (i := 69) rfl))⟩
  | 21, _, rfl => ⟨48, 49, rfl, (List.mem_cons_of_mem _ (List.mem_of_getElem? (i := 70) rfl)), (List.mem_cons_of_mem _ (List.mem_of_getElem? (i := 71) rfl)), (List.mem_cons_of_mem _ (List.mem_of_getElem? (i := 72) rfl))⟩
  | 22, _, rfl => ⟨50, 51, rfl, (List.mem_cons_of_mem _ (List.mem_of_getElem? (i := 73) rfl)), (List.mem_cons_of_mem _ (List.mem_of_getElem? (i := 74) rfl)), (List.mem_cons_of_mem _ (List.mem_of_getElem? (i := 75) rfl))⟩
  | 23, _, rfl => ⟨52, 53, rfl, (List.mem_cons_of_mem _ (List.mem_of_getElem? (i := 76) rfl)), (List.mem_cons_of_mem _ (List.mem_of_getElem? (i := 77) rfl)), (List.mem_cons_of_mem _ (List.mem_of_getElem? (i := 78) rfl))⟩
  | 24, _, rfl => ⟨54, 55, rfl, (List.mem_cons_of_mem _ (List.mem_of_getElem? (i := 79) rfl)), (List.mem_cons_of_mem _ (List.mem_of_getElem? (i := 80) rfl)), (List.mem_cons_of_mem _ (List.mem_of_getElem? (i := 81) rfl))⟩
  | 25, _, rfl => ⟨56, 57, rfl, (List.mem_cons_of_mem _ (List.mem_of_getElem? (i := 82) rfl)), (List.mem_cons_of_mem _ (List.mem_of_getElem? (i := 83) rfl)), (List.mem_cons_of_mem _ (List.mem_of_getElem? (i := 84) rfl))⟩
  | 26, _, rfl => ⟨58, 59, rfl, (List.mem_cons_of_mem _ (List.mem_of_getElem? (i := 85) rfl)), (List.mem_cons_of_mem _ (List.mem_of_getElem? (i := 86) rfl)), (List.mem_cons_of_mem _ (List.mem_of_getElem? (i := 87) rfl))⟩
  | 27, _, rfl => ⟨60, 61, rfl, (List.mem_cons_of_mem _ (List.mem_of_getElem? (i := 88) rfl)), (List.mem_cons_of_mem _ (List.mem_of_getElem? (i := 89) rfl)), (List.mem_cons_of_mem _ (List.mem_of_getElem? (i := 90) rfl))⟩
  | 28, _, rfl => ⟨62, 63, rfl, (List.mem_cons_of_mem _ (List.mem_of_getElem? (i := 91) rfl)), (List.mem_cons_of_mem _ (List.mem_of_getElem? (i := 92) rfl)), (List.mem_cons_of_mem _ (List.mem_of_getElem? (i := 93) rfl))⟩
  | 29, _, rfl => ⟨64, 65, rfl, (List.mem_cons_of_mem _ (List.mem_of_getElem? (i := 94) rfl)), (List.mem_cons_of_mem _ (List.mem_of_getElem? (i := 95) rfl)), (List.mem_cons_of_mem _ (List.mem_of_getElem? (i := 96) rfl))⟩
  | 30, _, rfl => ⟨66, 67, rfl, (List.mem_cons_of_mem _ (List.mem_of_getElem? (i := 97) rfl)), (List.mem_cons_of_mem _ (List.mem_of_getElem? (i := 98) rfl)), (List.mem_cons_of_mem _ (List.mem_of_getElem? (i := 99) rfl))⟩
  | 31, _, rfl => ⟨68, 69, rfl, (List.mem_cons_of_mem _ (List.mem_of_getElem? (i := 100) rfl)), (List.mem_cons_of_mem _ (List.mem_of_getElem? (i := 101) rfl)), (List.mem_cons_of_mem _ (List.mem_of_getElem? (i := 102) rfl))⟩
  | 32, _, rfl => ⟨70, 71, rfl, (List.mem_cons_of_mem _ (List.mem_of_getElem? (i := 103) rfl)), (List.mem_cons_of_mem _ (List.mem_of_getElem? (i := 104) rfl)), (List.mem_cons_of_mem _ (List.mem_of_getElem? (i := 105) rfl))⟩
  | 33, _, rfl => ⟨72, 73, rfl, (List.mem_cons_of_mem _ (List.mem_of_getElem? (i := 106) rfl)), (List.mem_cons_of_mem _ (List.mem_of_getElem? (i := 107) rfl)), (List.mem_cons_of_mem _ (List.mem_of_getElem? (i := 108) rfl))⟩
  | 34, _, rfl => ⟨74, 75, rfl, (List.mem_cons_of_mem _ (List.mem_of_getElem? (i := 109) rfl)), (List.mem_cons_of_mem _ (List.mem_of_getElem? (i := 110) rfl)), (List.mem_cons_of_mem _ (List.mem_of_getElem? (i := 111) rfl))⟩
  | 35, _, rfl => ⟨76, 77, rfl, (List.mem_cons_of_mem _ (List.mem_of_getElem? (i := 112) rfl)), (List.mem_cons_of_mem _ (List.mem_of_getElem? (i := 113) rfl)), (List.mem_cons_of_mem _ (List.mem_of_getElem? (i := 114) rfl))⟩
  | n + 36, bs, h => by cases h
theorem zwd {X : List Int32} {j : Int32} {bs : List Int32} (h : gI zwords j = some bs) : ∃ sk sa, gI zw229 j = some (.ref sk) ∧ ((sk, .inl (15, 0, .ref sa)) : xE) ∈ xcon X ∧ ((sk, .inl (15, 1, .int 0)) : xE) ∈ xcon X ∧ ((sa, .inr (2, bs.map Value.int)) : xE) ∈ xcon X := by
  obtain ⟨g1, g2, g3, g4, g5⟩ := gI_some h
  obtain ⟨sk, sa, q1, q2⟩ := zwd0 (X := X) g3
  exact ⟨sk, sa, gI_in g1 q1, q2⟩
theorem zfitc (y : Int32) : xfit .char (.int (y.toUInt32 % 65536).toInt32) = true := by
  show (((y.toUInt32 % 65536).toInt32.toUInt32 % 65536).toInt32 == (y.toUInt32 % 65536).toInt32) = true
  rw [beq_iff_eq]
  congr 1
  rw [UInt32.toUInt32_toInt32]
  apply UInt32.toNat_inj.mp
  simp
def rS_isLatin1 (bs : List Int32)  (N : Nat)  (S : zS) : Option (Int32 × zS) := some (1, S)
theorem trS_isLatin1 {X : List Int32} {D0 : List xE} {a : Nat} {p : Nat → Nat} (hG0 : ((209, .inl (14, 9, .ref a)) : xE) ∈ D0) (hG : ∀ e ∈ zgQ a p, e ∈ D0) {sk sa : Nat} {bs : List Int32} (hs0 : ((sk, .inl (15, 0, .ref sa)) : xE) ∈ xcon X) (hs1 : ((sk, .inl (15, 1, .int 0)) : xE) ∈ xcon X) (hs2 : ((sa, .inr (2, bs.map Value.int)) : xE) ∈ xcon X)  {N fr lo : Nat} (hf : 0 ≤ fr) (hl : 0 ≤ lo)  {S S2 : zS} {r : Int32}  (h : rS_isLatin1 bs N  S = some (r, S2)) : yK X fr lo 5 [.ref sk] (zD zTQ (zaQ a p) S D0) 0 0 (zQi zTQ (zaQ a p) D0 r S2) := by
  unfold rS_isLatin1 at h
  refine yK.of rfl (yle rfl) (L := [_]) rfl ?_
  refine xt_gets rfl rfl rfl ?_
  refine xt_pure rfl rfl rfl rfl ?_
  refine xt_pure rfl rfl rfl rfl ?_
  refine xt_getf rfl rfl (List.mem_append_right _ hs1) ?_
  refine xt_pure rfl rfl rfl rfl ?_
  refine xt_pure rfl rfl rfl (st1 := .int 1 :: _) rfl ?_
  refine xt_pure rfl rfl rfl rfl ?_
  cases h
  exact xt_iret rfl rfl rfl rfl ⟨rfl, rfl⟩
def rS_coder (bs : List Int32)  (N : Nat)  (S : zS) : Option (Int32 × zS) := some (0, S)
theorem trS_coder {X : List Int32} {D0 : List xE} {a : Nat} {p : Nat → Nat} (hG0 : ((209, .inl (14, 9, .ref a)) : xE) ∈ D0) (hG : ∀ e ∈ zgQ a p, e ∈ D0) {sk sa : Nat} {bs : List Int32} (hs0 : ((sk, .inl (15, 0, .ref sa)) : xE) ∈ xcon X) (hs1 : ((sk, .inl (15, 1, .int 0)) : xE) ∈ xcon X) (hs2 : ((sa, .inr (2, bs.map Value.int)) : xE) ∈ xcon X)  {N fr lo : Nat} (hf : 0 ≤ fr) (hl : 0 ≤ lo)  {S S2 : zS} {r : Int32}  (h : rS_coder bs N  S = some (r, S2)) : yK X fr lo 3 [.ref sk] (zD zTQ (zaQ a p) S D0) 0 0 (zQi zTQ (zaQ a p) D0 r S2) := by
  unfold rS_coder at h
  refine yK.of rfl (yle rfl) (L := [_]) rfl ?_
  refine xt_gets rfl rfl rfl ?_
  refine xt_pure rfl rfl rfl rfl ?_
  refine xt_pure rfl rfl rfl rfl ?_
  refine xt_getf rfl rfl (List.mem_append_right _ hs1) ?_
  refine xt_pure rfl rfl rfl rfl ?_
  cases h
  exact xt_iret rfl rfl rfl rfl ⟨rfl, rfl⟩
def rS_length (bs : List Int32)  (N : Nat)  (S : zS) : Option (Int32 × zS) := some (((Int32.ofNat bs.length) >>> ((0 : Int32) &&& 31)), S)
theorem trS_length {X : List Int32} {D0 : List xE} {a : Nat} {p : Nat → Nat} (hG0 : ((209, .inl (14, 9, .ref a)) : xE) ∈ D0) (hG : ∀ e ∈ zgQ a p, e ∈ D0) {sk sa : Nat} {bs : List Int32} (hs0 : ((sk, .inl (15, 0, .ref sa)) : xE) ∈ xcon X) (hs1 : ((sk, .inl (15, 1, .int 0)) : xE) ∈ xcon X) (hs2 : ((sa, .inr (2, bs.map Value.int)) : xE) ∈ xcon X)  {N fr lo : Nat} (hf : 1 ≤ fr) (hl : 20 ≤ lo)  {S S2 : zS} {r : Int32}  (h : rS_length bs N  S = some (r, S2)) : yK X fr lo 2 [.ref sk] (zD zTQ (zaQ a p) S D0) 0 0 (zQi zTQ (zaQ a p) D0 r S2) := by
  unfold rS_length at h
  refine yK.of rfl (yle rfl) (L := [_]) rfl ?_
  refine xt_pure rfl rfl rfl rfl ?_
  refine xt_getf rfl rfl (List.mem_append_right _ hs0) ?_
  refine zr_lenI (l := bs) rfl rfl (List.mem_append_right _ hs2) rfl ?_
  refine xt_pure rfl rfl rfl rfl ?_
  refine zt_Vi (x := 0) rfl rfl rfl rfl (List.mem_append_right _ hs0) ⟨rfl, rfl, yle rfl, yle rfl⟩ (m := 1) rfl ⟨by omega, by omega⟩ (trS_coder hG0 hG hs0 hs1 hs2 (by omega) (by omega) (N := N) rfl) (fr1 := fr - 1) (lo1 := lo - 20) ?_
  refine xt_pure rfl rfl rfl rfl ?_
  cases h
  exact xt_iret rfl rfl rfl rfl ⟨rfl, rfl⟩
def rS_charAt (bs : List Int32)  (N : Nat) (v1 : Int32) (S : zS) : Option (Int32 × zS) := (if 0 ≤ v1.toInt ∧ v1.toInt < (Int32.ofNat bs.length).toInt then (zg (gI bs v1) fun x1 => some (((x1 &&& 255).toUInt32 % 65536).toInt32, S)) else none)
theorem trS_charAt {X : List Int32} {D0 : List xE} {a : Nat} {p : Nat → Nat} (hG0 : ((209, .inl (14, 9, .ref a)) : xE) ∈ D0) (hG : ∀ e ∈ zgQ a p, e ∈ D0) {sk sa : Nat} {bs : List Int32} (hs0 : ((sk, .inl (15, 0, .ref sa)) : xE) ∈ xcon X) (hs1 : ((sk, .inl (15, 1, .int 0)) : xE) ∈ xcon X) (hs2 : ((sa, .inr (2, bs.map Value.int)) : xE) ∈ xcon X)  {N fr lo : Nat} (hf : 2 ≤ fr) (hl : 100 ≤ lo) {v1 : Int32} {S S2 : zS} {r : Int32}  (h : rS_charAt bs N v1 S = some (r, S2)) : yK X fr lo 6 [.ref sa, .int v1] (zD zTQ (zaQ a p) S D0) 0 0 (zQi zTQ (zaQ a p) D0 r S2) := by
  unfold rS_charAt at h
  refine yK.of rfl (yle rfl) (L := [_, _]) rfl ?_
  refine xt_pure rfl rfl rfl rfl ?_
  refine xt_pure rfl rfl rfl rfl ?_
  refine zr_lenI (l := bs) rfl rfl (List.mem_append_right _ hs2) rfl ?_
  obtain ⟨hg, h⟩ := zgd h
  refine xt_ci rfl rfl rfl ⟨zci1 hg, zci2 hg, yle rfl, by omega, by omega⟩ ?_
  refine xt_pure rfl rfl rfl rfl ?_
  refine xt_pure rfl rfl rfl rfl ?_
  obtain ⟨x1, hx1, h⟩ := zgi h
  refine zr_bld (l := bs) rfl rfl (by decide) (List.mem_append_right _ hs2) hx1 ?_
  refine xt_pure rfl rfl rfl (st1 := .int 255 :: _) rfl ?_
  refine xt_pure rfl rfl rfl rfl ?_
  refine xt_pure rfl rfl rfl rfl ?_
  cases h
  exact xt_iret rfl rfl rfl (zfitc _) ⟨rfl, rfl⟩
def rS_charAt_4_sk (bs : List Int32)  (N : Nat) (v1 : Int32) (S : zS) : Option (Int32 × zS) := (zb (rS_charAt bs N v1 S) fun x1 S2 => (if (x1.toUInt32 % 65536).toInt32 = x1 then some (x1, S2) else none))
theorem trS_charAt_4_sk {X : List Int32} {D0 : List xE} {a : Nat} {p : Nat → Nat} (hG0 : ((209, .inl (14, 9, .ref a)) : xE) ∈ D0) (hG : ∀ e ∈ zgQ a p, e ∈ D0) {sk sa : Nat} {bs : List Int32} (hs0 : ((sk, .inl (15, 0, .ref sa)) : xE) ∈ xcon X) (hs1 : ((sk, .inl (15, 1, .int 0)) : xE) ∈ xcon X) (hs2 : ((sa, .inr (2, bs.map Value.int)) : xE) ∈ xcon X)  {N fr lo : Nat} (hf : 3 ≤ fr) (hl : 121 ≤ lo) {v1 : Int32} {S S2 : zS} {r : Int32}  (h : rS_charAt_4_sk bs N v1 S = some (r, S2)) : yK X fr lo 4 [.ref sk, .int v1] (zD zTQ (zaQ a p) S D0) 0 0 (zQi zTQ (zaQ a p) D0 r S2) := by
  unfold rS_charAt_4_sk at h
  refine yK.of rfl (yle rfl) (L := [_, _]) rfl ?_
  refine xt_pure rfl rfl rfl rfl ?_
  refine zt_Vi (x := 1) rfl rfl rfl rfl (List.mem_append_right _ hs0) ⟨rfl, rfl, yle rfl, yle rfl⟩ (m := 1) rfl ⟨by omega, by omega⟩ (trS_isLatin1 hG0 hG hs0 hs1 hs2 (by omega) (by omega) (N := N) rfl) (fr1 := fr - 1) (lo1 := lo - 20) ?_
  refine xt_pure rfl rfl rfl rfl ?_
  refine xt_pure rfl rfl rfl rfl ?_
  refine xt_getf rfl rfl (List.mem_append_right _ hs0) ?_
  refine xt_pure rfl rfl rfl rfl ?_
  obtain ⟨x1, S2, hc3, h⟩ := zbi h
  refine zt_Si rfl rfl (by decide) rfl rfl ⟨rfl, yle rfl, yle rfl⟩ (m := 2) rfl ⟨by omega, by omega⟩ (trS_charAt hG0 hG hs0 hs1 hs2 (by omega) (by omega) hc3) (fr1 := fr - 1) (lo1 := lo - 21) ?_
  obtain ⟨hg, h⟩ := zgd h
  cases h
  exact xt_iret rfl rfl rfl (beq_iff_eq.mpr hg) ⟨rfl, rfl⟩
def rS_isWord_16 (bs : List Int32)  (N : Nat)  : Nat → Int32 → zS → Option (Int32 × zS)
  | 0, _, _ => none
  | n + 1, l2, S => (zb (rS_length bs N  S) fun x4 S5 => (if x4.toInt ≤ l2.toInt then some (1, S5) else (zg (gI (zA S5 1) ((zI S5 3) + l2)) fun x7 => (zb (rS_charAt_4_sk bs N l2 S5) fun x8 S9 => (if x7 = x8 then (rS_isWord_16 bs N n) (l2 + 1) S9 else some (0, S9))))))
theorem trS_isWord_16 {X : List Int32} {D0 : List xE} {a : Nat} {p : Nat → Nat} (hG0 : ((209, .inl (14, 9, .ref a)) : xE) ∈ D0) (hG : ∀ e ∈ zgQ a p, e ∈ D0) {sk sa : Nat} {bs : List Int32} (hs0 : ((sk, .inl (15, 0, .ref sa)) : xE) ∈ xcon X) (hs1 : ((sk, .inl (15, 1, .int 0)) : xE) ∈ xcon X) (hs2 : ((sa, .inr (2, bs.map Value.int)) : xE) ∈ xcon X)  {N fr lo : Nat}   (hf : 4 ≤ fr) (hl : 142 ≤ lo)  : ∀ {n : Nat} {l2 : Int32}  {S S2 : zS} {r : Int32} , rS_isWord_16 bs N n l2 S = some (r, S2) → yT X fr lo 217 16 [some (.ref 209), some (.ref sk), some (.int l2)] [] (zD zTQ (zaQ a p) S D0) 0 0 (zQi zTQ (zaQ a p) D0 r S2) := by
  intro n
  induction n with
  | zero =>
    intro l2  S S2 r  h
    have h : (none : Option (Int32 × zS)) = some (r, S2) := h
    cases h
  | succ n ih =>
    intro l2  S S2 r  h
    rw [rS_isWord_16] at h
    refine xt_pure rfl rfl rfl rfl ?_
    refine xt_pure rfl rfl rfl rfl ?_
    obtain ⟨x4, S5, hc6, h⟩ := zbi h
    refine zt_Vi rfl rfl rfl rfl (List.mem_append_right _ hs0) ⟨rfl, rfl, yle rfl, yle rfl⟩ (m := 1) rfl ⟨by omega, by omega⟩ (trS_length hG0 hG hs0 hs1 hs2 (by omega) (by omega) hc6) (fr1 := fr - 1) (lo1 := lo - 20) ?_
    refine xt_ic rfl rfl (fun hb => ?_) (fun hb => ?_)
    · replace h := zif_t (p := x4.toInt ≤ l2.toInt) hb h
      refine xt_pure rfl rfl rfl (st1 := .int 1 :: _) rfl ?_
      cases h
      exact xt_iret rfl rfl rfl rfl ⟨rfl, rfl⟩
    · replace h := zif_f (p := x4.toInt ≤ l2.toInt) hb h
      refine xt_pure rfl rfl rfl rfl ?_
      refine xt_getf rfl rfl (xmC 176 rfl) ?_
      refine xt_pure rfl rfl rfl rfl ?_
      refine zt_gI 3 rfl rfl rfl rfl (x := (zI S5 3)) rfl ?_
      refine xt_pure rfl rfl rfl rfl ?_
      refine xt_pure rfl rfl rfl rfl ?_
      obtain ⟨x7, hx7, h⟩ := zgi h
      refine zr_bld (l := (zA S5 1)) rfl rfl (by decide) (zmA 1 rfl rfl (l := (zA S5 1)) rfl) hx7 ?_
      refine xt_pure rfl rfl rfl rfl ?_
      refine xt_pure rfl rfl rfl rfl ?_
      obtain ⟨x8, S9, hc10, h⟩ := zbi h
      refine zt_Vi rfl rfl rfl rfl (List.mem_append_right _ hs0) ⟨rfl, rfl, yle rfl, yle rfl⟩ (m := 2) rfl ⟨by omega, by omega⟩ (trS_charAt_4_sk hG0 hG hs0 hs1 hs2 (by omega) (by omega) hc10) (fr1 := fr - 1) (lo1 := lo - 21) ?_
      refine xt_ic rfl rfl (fun hb => ?_) (fun hb => ?_)
      · replace h := zif_t (p := x7 = x8) hb h
        refine xt_pure rfl rfl rfl (L1 := [_, _, some (.int (_ + 1))]) rfl ?_
        refine xt_pure rfl rfl rfl rfl ?_
        exact ih h
      · replace h := zif_f (p := x7 = x8) hb h
        refine xt_pure rfl rfl rfl (st1 := .int 0 :: _) rfl ?_
        cases h
        exact xt_iret rfl rfl rfl rfl ⟨rfl, rfl⟩
def rS_isWord (bs : List Int32)  (N : Nat)  (S : zS) : Option (Int32 × zS) := (if (zI S 2) ≠ (1 : Int32) then some (0, S) else (zb (rS_length bs N  S) fun x1 S2 => (if ((zI S 4) - (zI S 3)) = x1 then rS_isWord_16 bs N N 0 S2 else some (0, S2))))
theorem trS_isWord {X : List Int32} {D0 : List xE} {a : Nat} {p : Nat → Nat} (hG0 : ((209, .inl (14, 9, .ref a)) : xE) ∈ D0) (hG : ∀ e ∈ zgQ a p, e ∈ D0) {sk sa : Nat} {bs : List Int32} (hs0 : ((sk, .inl (15, 0, .ref sa)) : xE) ∈ xcon X) (hs1 : ((sk, .inl (15, 1, .int 0)) : xE) ∈ xcon X) (hs2 : ((sa, .inr (2, bs.map Value.int)) : xE) ∈ xcon X)  {N fr lo : Nat} (hf : 4 ≤ fr) (hl : 142 ≤ lo)  {S S2 : zS} {r : Int32}  (h : rS_isWord bs N  S = some (r, S2)) : yK X fr lo 217 [.ref 209, .ref sk] (zD zTQ (zaQ a p) S D0) 0 0 (zQi zTQ (zaQ a p) D0 r S2) := by
  unfold rS_isWord at h
  refine yK.of rfl (yle rfl) (L := [_, _, _]) rfl ?_
  refine xt_pure rfl rfl rfl rfl ?_
  refine zt_gI 2 rfl rfl rfl rfl (x := (zI S 2)) rfl ?_
  refine xt_pure rfl rfl rfl (st1 := .int 1 :: _) rfl ?_
  refine xt_ic rfl rfl (fun hb => ?_) (fun hb => ?_)
  · replace h := zif_t (p := (zI S 2) ≠ (1 : Int32)) hb h
    refine xt_pure rfl rfl rfl (st1 := .int 0 :: _) rfl ?_
    cases h
    exact xt_iret rfl rfl rfl rfl ⟨rfl, rfl⟩
  · replace h := zif_f (p := (zI S 2) ≠ (1 : Int32)) hb h
    refine xt_pure rfl rfl rfl rfl ?_
    refine zt_gI 4 rfl rfl rfl rfl (x := (zI S 4)) rfl ?_
    refine xt_pure rfl rfl rfl rfl ?_
    refine zt_gI 3 rfl rfl rfl rfl (x := (zI S 3)) rfl ?_
    refine xt_pure rfl rfl rfl rfl ?_
    refine xt_pure rfl rfl rfl rfl ?_
    obtain ⟨x1, S2, hc3, h⟩ := zbi h
    refine zt_Vi rfl rfl rfl rfl (List.mem_append_right _ hs0) ⟨rfl, rfl, yle rfl, yle rfl⟩ (m := 1) rfl ⟨by omega, by omega⟩ (trS_length hG0 hG hs0 hs1 hs2 (by omega) (by omega) hc3) (fr1 := fr - 1) (lo1 := lo - 20) ?_
    refine xt_ic rfl rfl (fun hb => ?_) (fun hb => ?_)
    · replace h := zif_t (p := ((zI S 4) - (zI S 3)) = x1) hb h
      refine xt_pure rfl rfl rfl (st1 := .int 0 :: _) rfl ?_
      refine xt_pure rfl rfl rfl (L1 := [_, _, _]) rfl ?_
      exact trS_isWord_16 hG0 hG hs0 hs1 hs2 hf hl h
    · replace h := zif_f (p := ((zI S 4) - (zI S 3)) = x1) hb h
      refine xt_pure rfl rfl rfl (st1 := .int 0 :: _) rfl ?_
      cases h
      exact xt_iret rfl rfl rfl rfl ⟨rfl, rfl⟩
