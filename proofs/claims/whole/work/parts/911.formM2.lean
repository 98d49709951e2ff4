/-! CALLS OVER BLOCKS: form, the reference -/
section FORMM
variable {X : List Int32} {N B B2 B3 Rm : List xE} {Fs : List yF} {t : List Int32} {a : Nat} {p : Nat → Nat} {G : zG} {s : zP} {S : zS} {tk : List zK}
theorem yFM_of {i0 : Nat} (hc : RQ t tk i0 s S) (hg : GM G S) (hw : WM S) (hG : ∀ e ∈ zgQ a p, e ∈ N) : yFM (zE (zaQ a p) S 14 (zTQ.drop 14) ++ N) a (fF G s) := by
  obtain ⟨-, -, -, -, -, ⟨c31, -⟩, ⟨c32, -, c33⟩, -⟩ := hc
  obtain ⟨⟨g14, -, -, gp⟩, ⟨g23, -, gf⟩, ⟨g26, -, gk⟩, g29, g30⟩ := hg
  obtain ⟨⟨w33, w35, w36, w34⟩, -, ⟨w15, w16, w17, w18, w19, w20, w21, w22⟩, w24, w25, w27, w28⟩ := hw
  have e0 : Int32.ofNat (fF G s).1.length = zI S 14 := by
    rw [g14]
    show Int32.ofNat (G.1.map Prod.snd).length = _
    rw [List.length_map]
  have e9 : Int32.ofNat (fF G s).2.1.length = zI S 23 := by
    rw [g23]
    show Int32.ofNat (G.2.1.map Prod.snd).length = _
    rw [List.length_map]
  refine ⟨p, fun k => zA S (14 + k), zB S 15, zB S 24, zB S 34, fun e he => ?_, ⟨w15, w16, w17, w18, w19, w20, w21, w22, w24, w25, w27, w28, w33, w34, w35, w36⟩, fun i P hi => ?_, fun i n w hi => ?_, fun i m n w hi => gk i (m, n, w) hi, fun i o1 o2 o3 o4 hi => ?_⟩
  · have m : ∀ (i : Nat) (e : xE), (zE (zaQ a p) S 14 (zTQ.drop 14))[i]? = some e → e ∈ zE (zaQ a p) S 14 (zTQ.drop 14) ++ N := fun i e h => List.mem_append_left _ (List.mem_of_getElem? h)
    have g : ∀ (i : Nat) (e : xE), (zgQ a p)[i]? = some e → e ∈ zE (zaQ a p) S 14 (zTQ.drop 14) ++ N := fun i e h => List.mem_append_right _ (hG e (List.mem_of_getElem? h))
    rw [fmE, e0, e9, show Int32.ofNat (fF G s).2.2.1.length = zI S 26 from g26.symm, show (fF G s).2.2.2.1.1 = zI S 31 from c31.symm, show (fF G s).2.2.2.1.2.1 = zI S 29 from g29.symm, show (fF G s).2.2.2.1.2.2 = zI S 30 from g30.symm, show Int32.ofNat (fF G s).2.2.2.2.1.length = zI S 32 from c32.symm] at he
    simp only [List.mem_cons, List.not_mem_nil, or_false] at he
    rcases he with rfl | rfl | rfl | rfl | rfl | rfl | rfl | rfl | rfl | rfl | rfl | rfl | rfl | rfl | rfl | rfl | rfl | rfl | rfl | rfl | rfl | rfl | rfl | rfl | rfl | rfl | rfl | rfl | rfl | rfl | rfl | rfl | rfl | rfl | rfl | rfl | rfl | rfl | rfl
    · exact m 0 _ rfl
    · exact g 0 _ rfl
    · exact g 1 _ rfl
    · exact g 2 _ rfl
    · exact g 3 _ rfl
    · exact g 4 _ rfl
    · exact g 5 _ rfl
    · exact g 6 _ rfl
    · exact g 7 _ rfl
    · exact m 9 _ rfl
    · exact g 8 _ rfl
    · exact g 9 _ rfl
    · exact m 12 _ rfl
    · exact g 10 _ rfl
    · exact g 11 _ rfl
    · exact m 15 _ rfl
    · exact m 16 _ rfl
    · exact m 17 _ rfl
    · exact m 18 _ rfl
    · exact g 12 _ rfl
    · exact g 13 _ rfl
    · exact g 14 _ rfl
    · exact g 15 _ rfl
    · exact m 1 _ rfl
    · exact m 2 _ rfl
    · exact m 3 _ rfl
    · exact m 4 _ rfl
    · exact m 5 _ rfl
    · exact m 6 _ rfl
    · exact m 7 _ rfl
    · exact m 8 _ rfl
    · exact m 10 _ rfl
    · exact m 11 _ rfl
    · exact m 13 _ rfl
    · exact m 14 _ rfl
    · exact m 19 _ rfl
    · exact m 20 _ rfl
    · exact m 21 _ rfl
    · exact m 22 _ rfl
  · have hi2 : (G.1.map Prod.snd)[i]? = some P := hi
    rw [List.getElem?_map] at hi2
    obtain ⟨q, h1, rfl⟩ := Option.map_eq_some_iff.mp hi2
    obtain ⟨-, k1, k2, k3, k4, k5⟩ := gp i q h1
    exact ⟨k1, k2, k3, k4, k5⟩
  · have hi2 : (G.2.1.map Prod.snd)[i]? = some (n, w) := hi
    rw [List.getElem?_map] at hi2
    obtain ⟨q, h1, h2⟩ := Option.map_eq_some_iff.mp hi2
    have := (gf i q h1).2
    rw [h2] at this
    exact this
  · obtain ⟨k1, k2, k3, k4⟩ := c33 i (o1, o2, o3, o4) hi
    exact ⟨k1, k2, k3, k4⟩
theorem WM_len {S S' : zS} {L L' : List xE} (h : xln (zD zTQ (zaQ a p) S L) (zD zTQ (zaQ a p) S' L')) (hw : WM S) : WM S' := by
  have A : ∀ i, zTQ[i]? = some (3, 0, 0) → (zA S' i).length = (zA S i).length := fun i hi => (zv_len h).1 hi
  have A3 : ∀ i, zTQ[i]? = some (3, 3, 0) → (zA S' i).length = (zA S i).length := fun i hi => (zv_len h).1 hi
  have Bb : ∀ i, zTQ[i]? = some (4, 1, 0) → (zB S' i).length = (zB S i).length := fun i hi => (zv_len h).2 hi
  obtain ⟨⟨a1, a2, a3, a4⟩, ⟨b1, b2, b3, b4⟩, ⟨d1, d2, d3, d4, d5, d6, d7, d8⟩, e1, e2, e3, e4⟩ := hw
  exact ⟨⟨(A 33 rfl).trans a1, (A 35 rfl).trans a2, (A 36 rfl).trans a3, (Bb 34 rfl).trans a4⟩, ⟨(Bb 10 rfl).trans b1, (A 11 rfl).trans b2, (A 12 rfl).trans b3, (A 13 rfl).trans b4⟩, ⟨(Bb 15 rfl).trans d1, (A 16 rfl).trans d2, (A 17 rfl).trans d3, (A3 18 rfl).trans d4, (A 19 rfl).trans d5, (A 20 rfl).trans d6, (A 21 rfl).trans d7, (A 22 rfl).trans d8⟩, (Bb 24 rfl).trans e1, (A 25 rfl).trans e2, (A 27 rfl).trans e3, (A 28 rfl).trans e4⟩
theorem mPs_in {r : List Int32} {x k : Int32} {fs : List Value} {b : Nat} : ([(209, .inl (14, 1, .int (Int32.ofNat t.length))), (210, .inr (2, (t.map sb ++ r).map Value.int))] ++ (((209, .inl (14, 9, .ref b)) :: (209, .inl (14, 10, .int x)) :: zE (zaQ a p) S 2 (zTQ.drop 2)) ++ ([(209, .inl (14, 7, .int k)), (211, .inr (8, fs))] ++ Rm)) : List xE).Perm (zD zTQ (zaQ a p) (zsA (zsI S 0 (Int32.ofNat t.length)) 1 (t.map sb ++ r)) ((209, .inl (14, 9, .ref b)) :: (209, .inl (14, 10, .int x)) :: (209, .inl (14, 7, .int k)) :: (211, .inr (8, fs)) :: Rm)) := by
  have e3 : zE (zaQ a p) (zsA (zsI S 0 (Int32.ofNat t.length)) 1 (t.map sb ++ r)) 2 (zTQ.drop 2) = zE (zaQ a p) S 2 (zTQ.drop 2) := zE_same fun j t hj => by rw [zo_A j t (by omega), zo_I j t (by omega)]
  have e4 : zD zTQ (zaQ a p) (zsA (zsI S 0 (Int32.ofNat t.length)) 1 (t.map sb ++ r)) ((209, .inl (14, 9, .ref b)) :: (209, .inl (14, 10, .int x)) :: (209, .inl (14, 7, .int k)) :: (211, .inr (8, fs)) :: Rm) = (209, .inl (14, 1, .int (Int32.ofNat t.length))) :: (210, .inr (2, (t.map sb ++ r).map Value.int)) :: (zE (zaQ a p) S 2 (zTQ.drop 2) ++ ((209, .inl (14, 9, .ref b)) :: (209, .inl (14, 10, .int x)) :: (209, .inl (14, 7, .int k)) :: (211, .inr (8, fs)) :: Rm)) := by
    rw [← e3]
    rfl
  rw [e4]
  exact pq fun φ => by simp only [cn_c, cn_a, cn_n]; omega
theorem mPs_out {φ : xE → Nat} {L : List xE} (h0 : zI S 0 = 0) : cn φ (zD zTQ (zaQ a p) S L) = φ (209, .inl (14, 1, .int 0)) + φ (210, .inr (2, (zA S 1).map Value.int)) + cn φ (zE (zaQ a p) S 2 (zTQ.drop 2)) + cn φ L := by
  have e4 : zD zTQ (zaQ a p) S L = (209, .inl (14, 1, .int (zI S 0))) :: (210, .inr (2, (zA S 1).map Value.int)) :: (zE (zaQ a p) S 2 (zTQ.drop 2) ++ L) := rfl
  rw [e4, h0]
  simp only [cn_c, cn_a]
  omega
end FORMM
