/-! CALLS OVER BLOCKS: the reference's desk -/
section DESKSM
variable {X : List Int32} {N B B2 B3 Rm : List xE} {En : List (Int64 × Int32)} {z : Option yO} {ev x y i j n e v : Int32} {fd : List yFd} {to : Int32 × Int32 × Int32} {va : Int64}
theorem th_items {S : zS} {ob ob2 : yO} {jk : List Int64} (h : thV S ob) (h1 : ob2.1 = ob.1) (h2 : osz ob2 = osz ob) (h3 : ob2.2.2 = ob.2.2) (h4 : ob2.2.1.length = ob.2.1.length) (h5 : ob.2.1.length + jk.length = 12) : thV (zsB S 2 (ob2.2.1 ++ jk)) ob2 := by
  obtain ⟨v0, v1, v2, v3, v4, v5, v6⟩ := h
  exact ⟨by rw [h1]; exact v0, by rw [h2]; exact v1, ⟨jk, rfl, by omega⟩, v3, v4, by rw [h3]; exact v5, by rw [h3]; exact v6⟩
theorem wr_len {v : Int64} {ob : yO} {w : Int32} : (wrO ob w i v).2.1.length = ob.2.1.length := by
  rw [wrO]
  by_cases h : w = 0
  · rw [if_pos h]
    exact List.length_set
  · rw [if_neg h]
theorem se_len {ob : yO} {w : Int32} : (seO ob w i e).2.1.length = ob.2.1.length := by
  rw [seO]
  by_cases h : w = 0
  · rw [if_pos h]
    exact List.length_set
  · rw [if_neg h]
theorem oM_write {v : Int64} (hk : pDk En z) (h : mDk z N B) (h2 : mWk ev fd to va B2) (sN : N ⊆ Rm) : yK X 1 25 262 [.ref 209, .int i, .long v] (B ++ (B2 ++ Rm)) 0 0 (fun w D => w = some (.int (wrV z ev i)) ∧ ∃ B' B2', D.Perm (B' ++ (B2' ++ Rm)) ∧ mDk (z.map fun o => wrO o (wrV z ev i) i v) N B' ∧ mWk (flW ev (wrV z ev i)) fd to va B2') := by
  obtain ⟨T, rfl, hW⟩ := h2.fl
  cases z with
  | none =>
    obtain rfl : B = _ := h
    refine yK.perm (D2 := (209, .inl (14, 24, .int ev)) :: ((209, .inl (14, 23, .null)) :: (T ++ Rm))) (pq fun φ => by simp only [cn_c, cn_a, cn_n]; omega) ?_
    refine (mD_write0 (by simp)).mono (Nat.le_refl _) (Nat.le_refl _) ?_
    rintro w D ⟨rfl, rfl⟩
    exact ⟨rfl, [_], _ :: T, pq fun φ => by simp only [cn_c, cn_a, cn_n]; omega, rfl, hW _⟩
  | some ob =>
    have k := hk ob rfl
    obtain ⟨b, ia, ra, ca, S, rfl, hv, h3, h4, h5⟩ := h
    obtain ⟨q1, q2, q3, q4⟩ := wr_ok (fl := ev) (i := i) (v := v) k
    obtain ⟨v0, v1, ⟨jk, v2, v2'⟩, v3⟩ := id hv
    have eB : zE (zad b ia ra ca) S 0 (zTd.take 5) = [(b, .inl (13, 0, .int (Int32.ofNat ob.1))), (b, .inl (13, 1, .int (Int32.ofNat (osz ob)))), (ia, .inr (1, (ob.2.1 ++ jk).map Value.long)), (ra, .inr (0, (zA S 3).map Value.int)), (ca, .inr (0, (zA S 4).map Value.int))] := by
      rw [← v0, ← v1, ← v2]
      rfl
    refine yK.perm (D2 := (209, .inl (14, 24, .int ev)) :: (ia, .inr (1, (ob.2.1 ++ jk).map Value.long)) :: ((b, .inl (13, 0, .int (Int32.ofNat ob.1))) :: (b, .inl (13, 1, .int (Int32.ofNat (osz ob)))) :: (209, .inl (14, 23, .ref b)) :: (ra, .inr (0, (zA S 3).map Value.int)) :: (ca, .inr (0, (zA S 4).map Value.int)) :: (T ++ Rm))) (pq fun φ => by rw [eB]; simp only [cn_c, cn_a, cn_n]; omega) ?_
    refine (mD_write1 (b := b) (ia := ia) (ra := ra) (ca := ca) (ob := ob) k.1 (osz_le k.1 k.2.1 k.2.2.1) (by simp) (by simp) (by simp) (by simp [sN h3]) (by simp [sN h4]) (by simp [sN h5])).mono (Nat.le_refl _) (Nat.le_refl _) ?_
    rintro w D ⟨rfl, rfl⟩
    have hv2 := th_items (jk := jk) (ob2 := wrO ob (wrV (some ob) ev i) i v) hv q2 q3 q4 wr_len v2'
    refine ⟨rfl, (209, .inl (14, 23, .ref b)) :: zE (zad b ia ra ca) (zsB S 2 ((wrO ob (wrV (some ob) ev i) i v).2.1 ++ jk)) 0 (zTd.take 5), _ :: T, pq fun φ => ?_, ⟨b, ia, ra, ca, _, rfl, hv2, h3, h4, h5⟩, hW _⟩
    have eB2 : zE (zad b ia ra ca) (zsB S 2 ((wrO ob (wrV (some ob) ev i) i v).2.1 ++ jk)) 0 (zTd.take 5) = [(b, .inl (13, 0, .int (Int32.ofNat ob.1))), (b, .inl (13, 1, .int (Int32.ofNat (osz ob)))), (ia, .inr (1, ((wrO ob (wrV (some ob) ev i) i v).2.1 ++ jk).map Value.long)), (ra, .inr (0, (zA S 3).map Value.int)), (ca, .inr (0, (zA S 4).map Value.int))] := by
      rw [← v0, ← v1]
      rfl
    rw [eB2]
    simp only [cn_c, cn_a, cn_n]
    omega
theorem oM_seat (hE : mLe En B3) (hk : pDk En z) (h : mDk z N B) (h2 : mWk ev fd to va B2) (s3 : B3 ⊆ Rm) (sN : N ⊆ Rm) : yK X 1 25 265 [.ref 209, .int i, .int e] (B ++ (B2 ++ Rm)) 0 0 (fun w D => w = some (.int (seV z En ev i e)) ∧ ∃ B' B2', D.Perm (B' ++ (B2' ++ Rm)) ∧ mDk (z.map fun o => seO o (seV z En ev i e) i e) N B' ∧ mWk (flW ev (seV z En ev i e)) fd to va B2') := by
  obtain ⟨T, rfl, hW⟩ := h2.fl
  obtain ⟨lb, ja, jb, e0, e1, e2, rfl⟩ := hE
  have m0 : ((209, .inl (14, 19, .int (Int32.ofNat En.length))) : xE) ∈ Rm := s3 (by simp)
  have m1 : ((236, .inr (0, (En.map Prod.snd ++ jb).map Value.int)) : xE) ∈ Rm := s3 (by simp)
  cases z with
  | none =>
    obtain rfl : B = _ := h
    refine yK.perm (D2 := (209, .inl (14, 24, .int ev)) :: ((209, .inl (14, 23, .null)) :: (T ++ Rm))) (pq fun φ => by simp only [cn_c, cn_a, cn_n]; omega) ?_
    refine (mD_seat0 (by simp) (by omega) (List.mem_cons_of_mem _ (List.mem_append_right _ m0)) (List.mem_cons_of_mem _ (List.mem_append_right _ m1))).mono (Nat.le_refl _) (Nat.le_refl _) ?_
    rintro w D ⟨rfl, rfl⟩
    exact ⟨rfl, [_], _ :: T, pq fun φ => by simp only [cn_c, cn_a, cn_n]; omega, rfl, hW _⟩
  | some ob =>
    have k := hk ob rfl
    obtain ⟨b, ia, ra, ca, S, rfl, hv, h3, h4, h5⟩ := h
    obtain ⟨q1, q2, q3, q4⟩ := se_ok (fl := ev) (i := i) (e := e) (by omega) k
    obtain ⟨v0, v1, ⟨jk, v2, v2'⟩, v3⟩ := id hv
    have eB : zE (zad b ia ra ca) S 0 (zTd.take 5) = [(b, .inl (13, 0, .int (Int32.ofNat ob.1))), (b, .inl (13, 1, .int (Int32.ofNat (osz ob)))), (ia, .inr (1, (ob.2.1 ++ jk).map Value.long)), (ra, .inr (0, (zA S 3).map Value.int)), (ca, .inr (0, (zA S 4).map Value.int))] := by
      rw [← v0, ← v1, ← v2]
      rfl
    have up : ∀ q : xE, q ∈ Rm → q ∈ (b, .inl (13, 0, .int (Int32.ofNat ob.1))) :: (b, .inl (13, 1, .int (Int32.ofNat (osz ob)))) :: (209, .inl (14, 23, .ref b)) :: (ra, .inr (0, (zA S 3).map Value.int)) :: (ca, .inr (0, (zA S 4).map Value.int)) :: (T ++ Rm) := fun q hq => List.mem_cons_of_mem _ (List.mem_cons_of_mem _ (List.mem_cons_of_mem _ (List.mem_cons_of_mem _ (List.mem_cons_of_mem _ (List.mem_append_right _ hq)))))
    refine yK.perm (D2 := (209, .inl (14, 24, .int ev)) :: (ia, .inr (1, (ob.2.1 ++ jk).map Value.long)) :: ((b, .inl (13, 0, .int (Int32.ofNat ob.1))) :: (b, .inl (13, 1, .int (Int32.ofNat (osz ob)))) :: (209, .inl (14, 23, .ref b)) :: (ra, .inr (0, (zA S 3).map Value.int)) :: (ca, .inr (0, (zA S 4).map Value.int)) :: (T ++ Rm))) (pq fun φ => by rw [eB]; simp only [cn_c, cn_a, cn_n]; omega) ?_
    refine (mD_seat1 (b := b) (ia := ia) (ra := ra) (ca := ca) (ob := ob) k.1 (osz_le k.1 k.2.1 k.2.2.1) (by simp) (by simp) (by simp) (up _ (sN h3)) (up _ (sN h4)) (up _ (sN h5)) (by omega) (up _ m0) (up _ m1)).mono (Nat.le_refl _) (Nat.le_refl _) ?_
    rintro w D ⟨rfl, rfl⟩
    have hv2 := th_items (jk := jk) (ob2 := seO ob (seV (some ob) En ev i e) i e) hv q2 q3 q4 se_len v2'
    refine ⟨rfl, (209, .inl (14, 23, .ref b)) :: zE (zad b ia ra ca) (zsB S 2 ((seO ob (seV (some ob) En ev i e) i e).2.1 ++ jk)) 0 (zTd.take 5), _ :: T, pq fun φ => ?_, ⟨b, ia, ra, ca, _, rfl, hv2, h3, h4, h5⟩, hW _⟩
    have eB2 : zE (zad b ia ra ca) (zsB S 2 ((seO ob (seV (some ob) En ev i e) i e).2.1 ++ jk)) 0 (zTd.take 5) = [(b, .inl (13, 0, .int (Int32.ofNat ob.1))), (b, .inl (13, 1, .int (Int32.ofNat (osz ob)))), (ia, .inr (1, ((seO ob (seV (some ob) En ev i e) i e).2.1 ++ jk).map Value.long)), (ra, .inr (0, (zA S 3).map Value.int)), (ca, .inr (0, (zA S 4).map Value.int))] := by
      rw [← v0, ← v1]
      rfl
    rw [eB2]
    simp only [cn_c, cn_a, cn_n]
    omega
theorem zd_fl {S : zS} {b ia ra ca : Nat} {φ : xE → Nat} {D : List xE} : cn φ (zD zTd (zad b ia ra ca) S D) = cn φ (zE (zad b ia ra ca) S 0 (zTd.take 5)) + φ (209, .inl (14, 24, .int (zI S 5))) + cn φ D := by
  have : zD zTd (zad b ia ra ca) S D = zE (zad b ia ra ca) S 0 (zTd.take 5) ++ ((209, .inl (14, 24, .int (zI S 5))) :: D) := rfl
  rw [this, cn_a, cn_c]
  omega
theorem zd_5 {S : zS} {b ia ra ca : Nat} {k : Int32} : zE (zad b ia ra ca) (zsI S 5 k) 0 (zTd.take 5) = zE (zad b ia ra ca) S 0 (zTd.take 5) := rfl
theorem oM_line (hk : pDk En z) (h : mDk z N B) (h2 : mWk ev fd to va B2) (sN : N ⊆ Rm) : yK X 4 100 263 [.ref 209, .int i, .int n] (B ++ (B2 ++ Rm)) 0 0 (fun w D => w = some (.int (liV z ev i n)) ∧ ∃ B' B2', D.Perm (B' ++ (B2' ++ Rm)) ∧ mDk (z.map fun o => liO o (liV z ev i n) i n) N B' ∧ mWk (flW ev (liV z ev i n)) fd to va B2') := by
  obtain ⟨T, rfl, hW⟩ := h2.fl
  cases z with
  | none =>
    obtain rfl : B = _ := h
    refine yK.perm (D2 := (209, .inl (14, 24, .int ev)) :: ((209, .inl (14, 23, .null)) :: (T ++ Rm))) (pq fun φ => by simp only [cn_c, cn_a, cn_n]; omega) ?_
    refine ((mD_line0 (by simp)).up (fr2 := 4) (lo2 := 100) (by omega) (by omega)).mono (Nat.le_refl _) (Nat.le_refl _) ?_
    rintro w D ⟨rfl, rfl⟩
    exact ⟨rfl, [_], _ :: T, pq fun φ => by simp only [cn_c, cn_a, cn_n]; omega, rfl, hW _⟩
  | some ob =>
    have k := hk ob rfl
    obtain ⟨b, ia, ra, ca, S, rfl, hv, h3, h4, h5⟩ := h
    refine yK.perm (D2 := zD zTd (zad b ia ra ca) (zsI S 5 ev) ((209, .inl (14, 23, .ref b)) :: (T ++ Rm))) (pq fun φ => by rw [zd_fl, zd_5, show zI (zsI S 5 ev) 5 = ev from rfl]; simp only [cn_c, cn_a, cn_n]; omega) ?_
    refine (mD_line1 (S := zsI S 5 ev) (ob := ob) (En := En) hv k (by simp [sN h3]) (by simp [sN h4]) (by simp [sN h5]) (by simp)).mono (Nat.le_refl _) (Nat.le_refl _) ?_
    rintro w D ⟨S', rfl, rfl, h7, h8⟩
    refine ⟨rfl, (209, .inl (14, 23, .ref b)) :: zE (zad b ia ra ca) S' 0 (zTd.take 5), _ :: T, pq fun φ => ?_, ⟨b, ia, ra, ca, S', rfl, h7, h3, h4, h5⟩, hW _⟩
    rw [zd_fl, h8]
    simp only [cn_c, cn_a, cn_n]
    show _ + φ (209, .inl (14, 24, .int (flW ev (liV (some ob) ev i n)))) + _ = _
    omega
theorem oM_cell (hk : pDk En z) (h : mDk z N B) (h2 : mWk ev fd to va B2) (sN : N ⊆ Rm) : yK X 4 100 264 [.ref 209, .int i, .int j, .int v] (B ++ (B2 ++ Rm)) 0 0 (fun w D => w = some (.int (ceV z ev i j)) ∧ ∃ B' B2', D.Perm (B' ++ (B2' ++ Rm)) ∧ mDk (z.map fun o => ceO o (ceV z ev i j) i j v) N B' ∧ mWk (flW ev (ceV z ev i j)) fd to va B2') := by
  obtain ⟨T, rfl, hW⟩ := h2.fl
  cases z with
  | none =>
    obtain rfl : B = _ := h
    refine yK.perm (D2 := (209, .inl (14, 24, .int ev)) :: ((209, .inl (14, 23, .null)) :: (T ++ Rm))) (pq fun φ => by simp only [cn_c, cn_a, cn_n]; omega) ?_
    refine ((mD_cell0 (by simp)).up (fr2 := 4) (lo2 := 100) (by omega) (by omega)).mono (Nat.le_refl _) (Nat.le_refl _) ?_
    rintro w D ⟨rfl, rfl⟩
    exact ⟨rfl, [_], _ :: T, pq fun φ => by simp only [cn_c, cn_a, cn_n]; omega, rfl, hW _⟩
  | some ob =>
    have k := hk ob rfl
    obtain ⟨b, ia, ra, ca, S, rfl, hv, h3, h4, h5⟩ := h
    refine yK.perm (D2 := zD zTd (zad b ia ra ca) (zsI S 5 ev) ((209, .inl (14, 23, .ref b)) :: (T ++ Rm))) (pq fun φ => by rw [zd_fl, zd_5, show zI (zsI S 5 ev) 5 = ev from rfl]; simp only [cn_c, cn_a, cn_n]; omega) ?_
    refine (mD_cell1 (S := zsI S 5 ev) (ob := ob) (En := En) (v := v) hv k (by simp [sN h3]) (by simp [sN h4]) (by simp [sN h5]) (by simp)).mono (Nat.le_refl _) (Nat.le_refl _) ?_
    rintro w D ⟨S', rfl, rfl, h7, h8⟩
    refine ⟨rfl, (209, .inl (14, 23, .ref b)) :: zE (zad b ia ra ca) S' 0 (zTd.take 5), _ :: T, pq fun φ => ?_, ⟨b, ia, ra, ca, S', rfl, h7, h3, h4, h5⟩, hW _⟩
    rw [zd_fl, h8]
    simp only [cn_c, cn_a, cn_n]
    show _ + φ (209, .inl (14, 24, .int (flW ev (ceV (some ob) ev i j)))) + _ = _
    omega
theorem oM_desk (hE : mLe En B3) (h : mDk z N B) (h2 : mWk ev fd to va B2) (s3 : B3 ⊆ Rm) : yK X 4 200 255 [.ref 209, .int x, .int y] (B ++ (B2 ++ Rm)) 4 59 (fun w D => w = some (.int (deV En ev x y)) ∧ ∃ B' B2' G, D.Perm (B' ++ (B2' ++ (G ++ Rm))) ∧ mDk (if deV En ev x y = 0 then some (deO x y) else z) (G ++ N) B' ∧ mWk (flW ev (deV En ev x y)) fd to va B2') := by
  obtain ⟨T, rfl, hW⟩ := h2.fl
  obtain ⟨lb, ja, jb, e0, e1, e2, rfl⟩ := hE
  have m0 : ((209, .inl (14, 19, .int (Int32.ofNat En.length))) : xE) ∈ Rm := s3 (by simp)
  have hB : ∃ u E, B = (209, .inl (14, 23, u)) :: E := by
    cases z with
    | none =>
      obtain rfl : B = _ := h
      exact ⟨_, [], rfl⟩
    | some ob =>
      obtain ⟨b, ia, ra, ca, S, rfl, -⟩ := id h
      exact ⟨_, _, rfl⟩
  obtain ⟨u, E, rfl⟩ := hB
  refine yK.perm (D2 := (209, .inl (14, 24, .int ev)) :: (209, .inl (14, 23, u)) :: (E ++ (T ++ Rm))) (pq fun φ => by simp only [cn_c, cn_a, cn_n]; omega) ?_
  refine (mD_desk (by omega) (List.mem_append_right _ (List.mem_append_right _ m0))).mono (Nat.le_refl _) (Nat.le_refl _) ?_
  rintro w D ⟨rfl, ⟨hne, rfl⟩ | ⟨h0, b, ia, ra, ca, S, hv, rfl⟩⟩
  · refine ⟨rfl, (209, .inl (14, 23, u)) :: E, _ :: T, [], pq fun φ => by simp only [cn_c, cn_a, cn_n]; omega, ?_, hW _⟩
    rw [if_neg hne]
    exact h
  · refine ⟨rfl, (209, .inl (14, 23, .ref b)) :: zE (zad b ia ra ca) S 0 (zTd.take 5), (209, .inl (14, 24, .int ev)) :: T, (b, .inl (13, 2, .ref ia)) :: (b, .inl (13, 3, .ref ra)) :: (b, .inl (13, 4, .ref ca)) :: E, pq fun φ => by simp only [cn_c, cn_a, cn_n]; omega, ?_, ?_⟩
    · rw [if_pos h0]
      exact ⟨b, ia, ra, ca, S, rfl, hv, by simp, by simp, by simp⟩
    · rw [h0, flW0]
      exact hW _
end DESKSM
