/-! CALLS OVER BLOCKS: form, the class -/
section FORMC
variable {X : List Int32} {N B B2 B3 Rm : List xE} {Fs : List yF} {t : List Int32} {a : Nat} {p : Nat → Nat} {G : zG} {s : zP} {S : zS} {tk : List zK}
theorem yFC_of (hc : CP tk s S) (hg : GC G S) (hw : WG S) (hG : ∀ e ∈ zgP a p, e ∈ N) : yFC (zE (zaP a p) S 14 (zTP.drop 14) ++ N) a (fF G s) := by
  obtain ⟨⟨-, -, ⟨w30, w31⟩, -⟩, -, -, -, ⟨c27, -⟩, ⟨c32, -, c30⟩, -⟩ := hc
  obtain ⟨⟨g14, -, -, gp⟩, ⟨g22, -, gf⟩, ⟨g24, -, gk⟩, g28, g29⟩ := hg
  obtain ⟨⟨-, w15, w16, w17, w18, w19, w20, w21⟩, ⟨-, w23, w25, w26⟩, -⟩ := hw
  have e0 : Int32.ofNat (fF G s).1.length = zI S 14 := by
    rw [g14]
    show Int32.ofNat (G.1.map Prod.snd).length = _
    rw [List.length_map]
  have e8 : Int32.ofNat (fF G s).2.1.length = zI S 22 := by
    rw [g22]
    show Int32.ofNat (G.2.1.map Prod.snd).length = _
    rw [List.length_map]
  refine ⟨p, fun k => zA S (14 + k), fun e he => ?_, ⟨w15, w16, w17, w18, w19, w20, w21, w23, w25, w26, w30, w31⟩, fun i P hi => ?_, fun i n w hi => ?_, fun i m n w hi => ?_, fun i d w hi => c30 i (d, w) hi⟩
  · have m : ∀ (i : Nat) (e : xE), (zE (zaP a p) S 14 (zTP.drop 14))[i]? = some e → e ∈ zE (zaP a p) S 14 (zTP.drop 14) ++ N := fun i e h => List.mem_append_left _ (List.mem_of_getElem? h)
    have g : ∀ (i : Nat) (e : xE), (zgP a p)[i]? = some e → e ∈ zE (zaP a p) S 14 (zTP.drop 14) ++ N := fun i e h => List.mem_append_right _ (hG e (List.mem_of_getElem? h))
    rw [fcE, e0, e8, show Int32.ofNat (fF G s).2.2.1.length = zI S 24 from g24.symm, show (fF G s).2.2.2.1.1 = zI S 27 from c27.symm, show (fF G s).2.2.2.1.2.1 = zI S 28 from g28.symm, show (fF G s).2.2.2.1.2.2 = zI S 29 from g29.symm, show Int32.ofNat (fF G s).2.2.2.2.2.length = zI S 32 from c32.symm] at he
    simp only [List.mem_cons, List.not_mem_nil, or_false] at he
    rcases he with rfl | rfl | rfl | rfl | rfl | rfl | rfl | rfl | rfl | rfl | rfl | rfl | rfl | rfl | rfl | rfl | rfl | rfl | rfl | rfl | rfl | rfl | rfl | rfl | rfl | rfl | rfl | rfl | rfl | rfl | rfl
    · exact m 0 _ rfl
    · exact g 0 _ rfl
    · exact g 1 _ rfl
    · exact g 2 _ rfl
    · exact g 3 _ rfl
    · exact g 4 _ rfl
    · exact g 5 _ rfl
    · exact g 6 _ rfl
    · exact m 8 _ rfl
    · exact g 7 _ rfl
    · exact m 10 _ rfl
    · exact g 8 _ rfl
    · exact g 9 _ rfl
    · exact m 13 _ rfl
    · exact m 14 _ rfl
    · exact m 15 _ rfl
    · exact g 10 _ rfl
    · exact g 11 _ rfl
    · exact m 18 _ rfl
    · exact m 1 _ rfl
    · exact m 2 _ rfl
    · exact m 3 _ rfl
    · exact m 4 _ rfl
    · exact m 5 _ rfl
    · exact m 6 _ rfl
    · exact m 7 _ rfl
    · exact m 9 _ rfl
    · exact m 11 _ rfl
    · exact m 12 _ rfl
    · exact m 16 _ rfl
    · exact m 17 _ rfl
  · have hi2 : (G.1.map Prod.snd)[i]? = some P := hi
    rw [List.getElem?_map] at hi2
    obtain ⟨q, h1, rfl⟩ := Option.map_eq_some_iff.mp hi2
    obtain ⟨-, k1, k2, k3, k4, k5⟩ := gp i q h1
    exact ⟨k1, k2, k3, k4, k5⟩
  · have hi2 : (G.2.1.map Prod.snd)[i]? = some (n, w) := hi
    rw [List.getElem?_map] at hi2
    obtain ⟨q, h1, h2⟩ := Option.map_eq_some_iff.mp hi2
    have := (gf i q h1).2
    rw [h2] at this
    exact this
  · exact gk i (m, n, w) hi
/-- the class's parser with a new blank form -/
def zNwC (S : zS) : zS := (fun i => if i < 14 then zI S i else 0, S.2.1, S.2.2.1, fun i => if i < 14 then zA S i else if i ≤ 21 then List.replicate 20 0 else if i ≤ 26 then List.replicate 12 0 else List.replicate 560 0, fun i => zB S i, S.2.2.2.2.2)
theorem fcN_cn {φ : xE → Nat} {n : Nat} {m : Nat → Nat} : cn φ (fcN n m) = cn φ (zE (zaP n m) (zNwC S) 14 (zTP.drop 14)) + cn φ (zgP n m) := by
  have e : zE (zaP n m) (zNwC S) 14 (zTP.drop 14) = [(n, .inl (2, 0, .int 0)), (m 1, .inr (0, (List.replicate 20 (0 : Int32)).map Value.int)), (m 2, .inr (0, (List.replicate 20 (0 : Int32)).map Value.int)), (m 3, .inr (0, (List.replicate 20 (0 : Int32)).map Value.int)), (m 4, .inr (0, (List.replicate 20 (0 : Int32)).map Value.int)), (m 5, .inr (0, (List.replicate 20 (0 : Int32)).map Value.int)), (m 6, .inr (0, (List.replicate 20 (0 : Int32)).map Value.int)), (m 7, .inr (0, (List.replicate 20 (0 : Int32)).map Value.int)), (n, .inl (2, 8, .int 0)), (m 9, .inr (0, (List.replicate 12 (0 : Int32)).map Value.int)), (n, .inl (2, 10, .int 0)), (m 11, .inr (0, (List.replicate 12 (0 : Int32)).map Value.int)), (m 12, .inr (0, (List.replicate 12 (0 : Int32)).map Value.int)), (n, .inl (2, 13, .int 0)), (n, .inl (2, 14, .int 0)), (n, .inl (2, 15, .int 0)), (m 16, .inr (0, (List.replicate 560 (0 : Int32)).map Value.int)), (m 17, .inr (0, (List.replicate 560 (0 : Int32)).map Value.int)), (n, .inl (2, 18, .int 0))] := rfl
  rw [e, ← cn_a]
  exact cn_p (permI (n := 31) [12, 11, 10, 9, 8, 7, 6, 5, 20, 4, 22, 3, 2, 25, 26, 27, 1, 0, 30, 13, 14, 15, 16, 17, 18, 19, 21, 23, 24, 28, 29] rfl (by decide +kernel) rfl)
end FORMC
