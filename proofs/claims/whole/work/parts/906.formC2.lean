/-! CALLS OVER BLOCKS: form, the class (2) -/
def foV (Fs : List yF) (t : List Int32) : Int32 := if 10 ≤ Fs.length then -3 else match rdForm t with
  | .inl p => -10 - Int32.ofNat p
  | .inr _ => Int32.ofNat Fs.length
def foT (Fs : List yF) (t : List Int32) : List yF := if 10 ≤ Fs.length then Fs else match rdForm t with
  | .inl _ => Fs
  | .inr (G, s) => Fs ++ [fF G s]
section FORMC2
variable {X : List Int32} {N B B2 B3 Rm : List xE} {Fs : List yF} {t : List Int32}
theorem cPs_in {S : zS} {a : Nat} {p : Nat → Nat} {r : List Int32} {uu : Value} {fs : List Value} {k : Int32} : ([(79, .inl (9, 1, .int (Int32.ofNat t.length))), (80, .inr (0, (t ++ r).map Value.int))] ++ (((85, .inl (7, 1, uu)) :: (78, .inl (11, 4, .ref a)) :: zE (zaP a p) S 2 (zTP.drop 2)) ++ ([(78, .inl (11, 3, .int k)), (92, .inr (5, fs))] ++ Rm)) : List xE).Perm (zD zTP (zaP a p) (zsA (zsI S 0 (Int32.ofNat t.length)) 1 (t ++ r)) ((85, .inl (7, 1, uu)) :: (78, .inl (11, 3, .int k)) :: (78, .inl (11, 4, .ref a)) :: (92, .inr (5, fs)) :: Rm)) := by
  have e3 : zE (zaP a p) (zsA (zsI S 0 (Int32.ofNat t.length)) 1 (t ++ r)) 2 (zTP.drop 2) = zE (zaP a p) S 2 (zTP.drop 2) := zE_same fun j t hj => by rw [zo_A j t (by omega), zo_I j t (by omega)]
  have e4 : zD zTP (zaP a p) (zsA (zsI S 0 (Int32.ofNat t.length)) 1 (t ++ r)) ((85, .inl (7, 1, uu)) :: (78, .inl (11, 3, .int k)) :: (78, .inl (11, 4, .ref a)) :: (92, .inr (5, fs)) :: Rm) = (79, .inl (9, 1, .int (Int32.ofNat t.length))) :: (80, .inr (0, (t ++ r).map Value.int)) :: (zE (zaP a p) S 2 (zTP.drop 2) ++ ((85, .inl (7, 1, uu)) :: (78, .inl (11, 3, .int k)) :: (78, .inl (11, 4, .ref a)) :: (92, .inr (5, fs)) :: Rm)) := by
    rw [← e3]
    rfl
  rw [e4]
  exact pq fun φ => by simp only [cn_c, cn_a, cn_n]; omega
/-- the parser's block out of its view -/
theorem cPs_out {S : zS} {a : Nat} {p : Nat → Nat} {φ : xE → Nat} {L : List xE} : cn φ (zD zTP (zaP a p) (zsI S 0 0) L) = φ (79, .inl (9, 1, .int 0)) + φ (80, .inr (0, (zA S 1).map Value.int)) + cn φ (zE (zaP a p) S 2 (zTP.drop 2)) + cn φ L := by
  have e3 : zE (zaP a p) (zsI S 0 0) 2 (zTP.drop 2) = zE (zaP a p) S 2 (zTP.drop 2) := zE_same fun j t hj => by rw [zo_I j t (by omega)]
  have e4 : zD zTP (zaP a p) (zsI S 0 0) L = (79, .inl (9, 1, .int 0)) :: (80, .inr (0, (zA S 1).map Value.int)) :: (zE (zaP a p) S 2 (zTP.drop 2) ++ L) := by
    rw [← e3]
    rfl
  rw [e4]
  simp only [cn_c, cn_a]
  omega
theorem zv_len {T : List (Nat × Nat × Nat)} {ad : Nat → Nat} {S S' : zS} {L L' : List xE} (h : xln (zD T ad S L) (zD T ad S' L')) {i k : Nat} : (T[i]? = some (3, k, 0) → (zA S' i).length = (zA S i).length) ∧ (T[i]? = some (4, k, 0) → (zB S' i).length = (zB S i).length) := by
  constructor
  · intro hT
    have a1 := zD_at (ad := ad) (S := S) (D0 := L) hT
    have a2 := zD_at (ad := ad) (S := S') (D0 := L') hT
    have := (h _ _ _ _ _ (List.mem_of_getElem? a1) (List.mem_of_getElem? a2)).1
    rwa [List.length_map, List.length_map] at this
  · intro hT
    have a1 := zD_at (ad := ad) (S := S) (D0 := L) hT
    have a2 := zD_at (ad := ad) (S := S') (D0 := L') hT
    have := (h _ _ _ _ _ (List.mem_of_getElem? a1) (List.mem_of_getElem? a2)).1
    rwa [List.length_map, List.length_map] at this
theorem WL_len {a : Nat} {p : Nat → Nat} {S S' : zS} {L L' : List xE} (h : xln (zD zTP (zaP a p) S L) (zD zTP (zaP a p) S' L')) (hw : WL S) : WL S' := by
  have A : ∀ i, zTP[i]? = some (3, 0, 0) → (zA S' i).length = (zA S i).length := fun i hi => (zv_len h).1 hi
  have Bb : ∀ i, zTP[i]? = some (4, 1, 0) → (zB S' i).length = (zB S i).length := fun i hi => (zv_len h).2 hi
  obtain ⟨⟨a1, a2, a3⟩, ⟨b1, b2, b3, b4⟩, ⟨c1, c2⟩, ⟨d1, d2, d3, d4, d5, d6, d7, d8⟩, e1, e2, e3, e4⟩ := hw
  exact ⟨⟨(A 2 rfl).trans a1, (A 3 rfl).trans a2, (Bb 4 rfl).trans a3⟩, ⟨(A 10 rfl).trans b1, (Bb 11 rfl).trans b2, (A 12 rfl).trans b3, (A 13 rfl).trans b4⟩, ⟨(A 30 rfl).trans c1, (A 31 rfl).trans c2⟩, ⟨(Bb 8 rfl).trans d1, (A 15 rfl).trans d2, (A 16 rfl).trans d3, (A 17 rfl).trans d4, (A 18 rfl).trans d5, (A 19 rfl).trans d6, (A 20 rfl).trans d7, (A 21 rfl).trans d8⟩, (Bb 9 rfl).trans e1, (A 23 rfl).trans e2, (A 25 rfl).trans e3, (A 26 rfl).trans e4⟩
end FORMC2
