/-! CALLS OVER BLOCKS: tape, ledger, desk -/
section DESKS
variable {X : List Int32} {N B B2 B3 Rm : List xE} {En : List (Int64 × Int32)} {z : Option yO} {ev x y i j n e v : Int32} {fd : List yFd} {to : Int32 × Int32 × Int32} {va : Int64} {t : List Int32}
theorem cWk.fl (h : cWk ev fd B) : ∃ (x1 x2 : Int32) (T : List xE), B = (110, .inl (10, 1, .int ev)) :: (110, .inl (10, 4, .int x1)) :: (110, .inl (10, 5, .int x2)) :: T ∧ ((110, .inl (10, 6, .int (-9))) : xE) ∈ T ∧ ∀ e' y1 y2 : Int32, cWk e' fd ((110, .inl (10, 1, .int e')) :: (110, .inl (10, 4, .int y1)) :: (110, .inl (10, 5, .int y2)) :: T) := by
  obtain ⟨S, w, u, v, sh, sh2, fd2, rfl, ⟨R, ⟨w0, w1, w2, w3, w4, w5⟩, w6, w7, w8⟩, rfl, h3, h4⟩ := h
  refine ⟨zI S 1, zI S 2, zE zaE S 3 (zTE.drop 3) ++ [(110, .inl (10, 2, u)), (110, .inl (10, 3, v))], ?_, ?_, fun e' y1 y2 => ⟨zsI (zsI (zsI S 0 e') 1 y1) 2 y2, (e', w.2), u, v, sh, sh2, fd2, ?_, ⟨R, ⟨rfl, w1, w2, w3, w4, w5⟩, w6, w7, w8⟩, rfl, h3, h4⟩⟩
  · rw [← w0]
    rfl
  · rw [← w4]
    exact List.mem_append_left _ (List.mem_of_getElem? (i := 0) rfl)
  · have e3 : zE zaE (zsI (zsI (zsI S 0 e') 1 y1) 2 y2) 3 (zTE.drop 3) = zE zaE S 3 (zTE.drop 3) := zE_same fun j t hj => by
      rw [zo_I j t (by omega), zo_I j t (by omega), zo_I j t (by omega)]
    rw [← e3]
    rfl
theorem mWk.fl (h : mWk ev fd to va B) : ∃ T : List xE, B = (209, .inl (14, 24, .int ev)) :: T ∧ ∀ e' : Int32, mWk e' fd to va ((209, .inl (14, 24, .int e')) :: T) := by
  obtain ⟨S, w, u, d0, sh, fd2, rfl, ⟨R, ⟨w0, w1, w2, w3, w4, w5⟩, w6, w7, w8⟩, rfl, h3, h4, h5, h6⟩ := h
  refine ⟨zE zaF S 1 (zTF.drop 1) ++ [(209, .inl (14, 46, u))], ?_, fun e' => ⟨zsI S 0 e', (e', w.2), u, d0, sh, fd2, ?_, ⟨R, ⟨rfl, w1, w2, w3, w4, w5⟩, w6, w7, w8⟩, rfl, h3, h4, h5, h6⟩⟩
  · rw [← w0]
    rfl
  · have e3 : zE zaF (zsI S 0 e') 1 (zTF.drop 1) = zE zaF S 1 (zTF.drop 1) := zE_same fun j t hj => by
      rw [zo_I j t (by omega)]
    rw [← e3]
    rfl
theorem oC_feed {fed : Int64} (h : cTp t B) : yK X 1 24 23 [.ref 78, .int n, .long fed] (B ++ Rm) 0 0 (fun w D => w = some (.int (feedV t n)) ∧ ∃ B', D.Perm (B' ++ Rm) ∧ cTp (feedT t n fed) B') := by
  obtain ⟨r, hl, rfl⟩ := h
  refine (cF_feed hl).mono (Nat.le_refl _) (Nat.le_refl _) ?_
  rintro w D ⟨r2, rfl, rfl, h2⟩
  exact ⟨rfl, [_, _], .refl _, r2, h2, rfl⟩
theorem oM_feed {fed : Int64} (h : mTp t B) : yK X 0 0 209 [.ref 209, .int n, .long fed] (B ++ Rm) 0 0 (fun w D => w = some (.int (feedV t n)) ∧ ∃ B', D.Perm (B' ++ Rm) ∧ mTp (feedT t n fed) B') := by
  obtain ⟨r, hl, rfl⟩ := h
  refine (mF_feed hl).mono (Nat.le_refl _) (Nat.le_refl _) ?_
  rintro w D ⟨r2, rfl, rfl, h2⟩
  exact ⟨rfl, [_, _], .refl _, r2, h2, rfl⟩
theorem oC_entry {am : Int64} (h : cLe En B) : yK X 1 23 89 [.ref 78, .int x, .long am, .int y] (B ++ Rm) 0 0 (fun w D => w = some (.int (entV En x y)) ∧ ∃ B', D.Perm (B' ++ Rm) ∧ cLe (entT En x am y) B') := by
  obtain ⟨ja, jb, h1, h2, rfl⟩ := h
  refine (cE_entry h1 h2).mono (Nat.le_refl _) (Nat.le_refl _) ?_
  rintro w D ⟨ja2, jb2, rfl, rfl, q1, q2⟩
  exact ⟨rfl, [_, _, _], .refl _, ja2, jb2, q1, q2, rfl⟩
theorem oM_entry {am : Int64} (h : mLe En B) : yK X 1 25 254 [.ref 209, .int x, .long am, .int y] (B ++ Rm) 0 0 (fun w D => w = some (.int (entV En x y)) ∧ ∃ B', D.Perm (B' ++ Rm) ∧ mLe (entT En x am y) B') := by
  obtain ⟨lb, ja, jb, h0, h1, h2, rfl⟩ := h
  refine (mE_entry h1 h2 h0).mono (Nat.le_refl _) (Nat.le_refl _) ?_
  rintro w D ⟨lb2, ja2, jb2, rfl, rfl, q1, q2, q0⟩
  exact ⟨rfl, [_, _, _, _], .refl _, lb2, ja2, jb2, q0, q1, q2, rfl⟩
theorem oC_clear (h : cDk z N B) : yK X 0 0 97 [.ref 78] (B ++ Rm) 0 0 (fun w D => w = some (.int 0) ∧ ∃ B' G, D.Perm (B' ++ (G ++ Rm)) ∧ cDk none (G ++ N) B') := by
  cases z with
  | none =>
    obtain rfl : B = _ := h
    refine cD_clear.mono (Nat.le_refl _) (Nat.le_refl _) ?_
    rintro w D ⟨rfl, rfl⟩
    exact ⟨rfl, [_], [], .refl _, rfl⟩
  | some ob =>
    obtain ⟨a, ia, ra, ks, h1, rfl, -⟩ := h
    refine cD_clear.mono (Nat.le_refl _) (Nat.le_refl _) ?_
    rintro w D ⟨rfl, rfl⟩
    exact ⟨rfl, [_], _ :: _ :: krE ks, .refl _, rfl⟩
theorem oM_clear (h : mDk z N B) : yK X 0 0 261 [.ref 209] (B ++ Rm) 0 0 (fun w D => w = some (.int 0) ∧ ∃ B' G, D.Perm (B' ++ (G ++ Rm)) ∧ mDk none (G ++ N) B') := by
  cases z with
  | none =>
    obtain rfl : B = _ := h
    refine mD_clear.mono (Nat.le_refl _) (Nat.le_refl _) ?_
    rintro w D ⟨rfl, rfl⟩
    exact ⟨rfl, [_], [], .refl _, rfl⟩
  | some ob =>
    obtain ⟨b, ia, ra, ca, S, rfl, -⟩ := h
    refine mD_clear.mono (Nat.le_refl _) (Nat.le_refl _) ?_
    rintro w D ⟨rfl, rfl⟩
    exact ⟨rfl, [_], zE (zad b ia ra ca) S 0 (zTd.take 5), .refl _, rfl⟩
theorem oC_write {v : Int64} (hk : pDk En z) (h : cDk z N B) (h2 : cWk ev fd B2) (sN : N ⊆ Rm) : yK X 2 42 98 [.ref 78, .int i, .long v] (B ++ (B2 ++ Rm)) 0 0 (fun w D => w = some (.int (wrV z ev i)) ∧ ∃ B' B2', D.Perm (B' ++ (B2' ++ Rm)) ∧ cDk (z.map fun o => wrO o (wrV z ev i) i v) N B' ∧ cWk (flW ev (wrV z ev i)) fd B2') := by
  obtain ⟨x1, x2, T, rfl, hT, hW⟩ := h2.fl
  cases z with
  | none =>
    obtain rfl : B = _ := h
    refine yK.perm (D2 := (110, .inl (10, 1, .int ev)) :: (110, .inl (10, 4, .int x1)) :: (110, .inl (10, 5, .int x2)) :: ((78, .inl (11, 6, .null)) :: (T ++ Rm))) (pq fun φ => by simp only [cn_c, cn_a, cn_n]; omega) ?_
    refine (cD_write0 (by simp [hT]) (by simp)).mono (Nat.le_refl _) (Nat.le_refl _) ?_
    rintro w D ⟨y1, y2, rfl, rfl⟩
    exact ⟨rfl, [_], _ :: _ :: _ :: T, pq fun φ => by simp only [cn_c, cn_a, cn_n]; omega, rfl, hW _ y1 y2⟩
  | some ob =>
    have k := hk ob rfl
    obtain ⟨a, ia, ra, ks, h1, rfl, h3, h4, h5, h6⟩ := h
    obtain ⟨q1, q2, q3, q4⟩ := wr_ok (fl := ev) (i := i) (v := v) k
    refine yK.perm (D2 := (110, .inl (10, 1, .int ev)) :: (110, .inl (10, 4, .int x1)) :: (110, .inl (10, 5, .int x2)) :: (ia, .inr (1, (cit ob).map Value.long)) :: ((78, .inl (11, 6, .ref a)) :: (ra, .inr (4, ks.map krV)) :: (krE ks ++ (T ++ Rm)))) (pq fun φ => by simp only [cn_c, cn_a, cn_n]; omega) ?_
    refine (cD_write1 (a := a) (ia := ia) (ra := ra) (ob := ob) (by simp [hT]) k.1 (osz_le k.1 k.2.1 k.2.2.1) (by simp) (by simp [sN h3]) (by simp [sN h4]) (by simp [sN h5]) (by simp [sN h6])).mono (Nat.le_refl _) (Nat.le_refl _) ?_
    rintro w D ⟨y1, y2, rfl, rfl⟩
    refine ⟨rfl, _ :: _ :: _ :: krE ks, _ :: _ :: _ :: T, pq fun φ => by simp only [cn_c, cn_a, cn_n]; omega, ⟨a, ia, ra, ks, q4.trans h1, rfl, by rw [q2]; exact h3, by rw [q3]; exact h4, h5, h6⟩, hW _ y1 y2⟩
theorem oC_seat (hE : cLe En B3) (hk : pDk En z) (h : cDk z N B) (h2 : cWk ev fd B2) (s3 : B3 ⊆ Rm) (sN : N ⊆ Rm) : yK X 2 44 104 [.ref 78, .int i, .int e] (B ++ (B2 ++ Rm)) 0 0 (fun w D => w = some (.int (seV z En ev i e)) ∧ ∃ B' B2', D.Perm (B' ++ (B2' ++ Rm)) ∧ cDk (z.map fun o => seO o (seV z En ev i e) i e) N B' ∧ cWk (flW ev (seV z En ev i e)) fd B2') := by
  obtain ⟨x1, x2, T, rfl, hT, hW⟩ := h2.fl
  obtain ⟨ja, jb, e1, e2, rfl⟩ := hE
  have m0 : ((106, .inl (5, 2, .int (Int32.ofNat En.length))) : xE) ∈ Rm := s3 (by simp)
  have m1 : ((108, .inr (0, (En.map Prod.snd ++ jb).map Value.int)) : xE) ∈ Rm := s3 (by simp)
  cases z with
  | none =>
    obtain rfl : B = _ := h
    refine yK.perm (D2 := (110, .inl (10, 1, .int ev)) :: (110, .inl (10, 4, .int x1)) :: (110, .inl (10, 5, .int x2)) :: ((78, .inl (11, 6, .null)) :: (T ++ Rm))) (pq fun φ => by simp only [cn_c, cn_a, cn_n]; omega) ?_
    refine (cD_seat0 (by simp [hT]) (by omega) (List.mem_cons_of_mem _ (List.mem_append_right _ m0)) (List.mem_cons_of_mem _ (List.mem_append_right _ m1)) (by simp)).mono (Nat.le_refl _) (Nat.le_refl _) ?_
    rintro w D ⟨y1, y2, rfl, rfl⟩
    exact ⟨rfl, [_], _ :: _ :: _ :: T, pq fun φ => by simp only [cn_c, cn_a, cn_n]; omega, rfl, hW _ y1 y2⟩
  | some ob =>
    have k := hk ob rfl
    obtain ⟨a, ia, ra, ks, h1, rfl, h3, h4, h5, h6⟩ := h
    obtain ⟨q1, q2, q3, q4⟩ := se_ok (fl := ev) (i := i) (e := e) (by omega) k
    have up : ∀ e : xE, e ∈ Rm → e ∈ (78, .inl (11, 6, .ref a)) :: (ra, .inr (4, ks.map krV)) :: (krE ks ++ (T ++ Rm)) := fun e he => List.mem_cons_of_mem _ (List.mem_cons_of_mem _ (List.mem_append_right _ (List.mem_append_right _ he)))
    refine yK.perm (D2 := (110, .inl (10, 1, .int ev)) :: (110, .inl (10, 4, .int x1)) :: (110, .inl (10, 5, .int x2)) :: (ia, .inr (1, (cit ob).map Value.long)) :: ((78, .inl (11, 6, .ref a)) :: (ra, .inr (4, ks.map krV)) :: (krE ks ++ (T ++ Rm)))) (pq fun φ => by simp only [cn_c, cn_a, cn_n]; omega) ?_
    refine (cD_seat1 (a := a) (ia := ia) (ra := ra) (ob := ob) (by simp [hT]) (by omega) (up _ m0) (up _ m1) k.1 (osz_le k.1 k.2.1 k.2.2.1) (by simp) (up _ (sN h3)) (up _ (sN h4)) (up _ (sN h5)) (up _ (sN h6))).mono (Nat.le_refl _) (Nat.le_refl _) ?_
    rintro w D ⟨y1, y2, rfl, rfl⟩
    refine ⟨rfl, _ :: _ :: _ :: krE ks, _ :: _ :: _ :: T, pq fun φ => by simp only [cn_c, cn_a, cn_n]; omega, ⟨a, ia, ra, ks, q4.trans h1, rfl, by rw [q2]; exact h3, by rw [q3]; exact h4, h5, h6⟩, hW _ y1 y2⟩
/-- rows of the desk's object -/
theorem kr_set {φ : xE → Nat} {o o2 : yKr} : ∀ {ks : List yKr} {i : Nat}, ks[i]? = some o → cn φ (krE (ks.set i o2)) + cn φ (krE [o]) = cn φ (krE ks) + cn φ (krE [o2])
  | [], _, h => by cases h
  | a :: r, 0, h => by
    injection h with h
    subst h
    have e : ∀ q : yKr, krE (q :: r) = krE [q] ++ krE r := fun q => by
      rw [← List.singleton_append, krE, List.filterMap_append]
      rfl
    rw [List.set_cons_zero, e, e, cn_a, cn_a]
    omega
  | a :: r, i + 1, h => by
    have := kr_set (φ := φ) (o2 := o2) (ks := r) (i := i) h
    have e : ∀ q : List yKr, krE (a :: q) = krE [a] ++ krE q := fun q => by
      rw [← List.singleton_append, krE, List.filterMap_append]
      rfl
    rw [List.set_cons_succ, e (r.set i o2), e r, cn_a, cn_a]
    omega
theorem oC_line (hk : pDk En z) (h : cDk z N B) (h2 : cWk ev fd B2) (sN : N ⊆ Rm) : yK X 2 43 100 [.ref 78, .int i, .int n] (B ++ (B2 ++ Rm)) 1 6 (fun w D => w = some (.int (liV z ev i n)) ∧ ∃ B' B2' G, D.Perm (B' ++ (B2' ++ (G ++ Rm))) ∧ cDk (z.map fun o => liO o (liV z ev i n) i n) (G ++ N) B' ∧ cWk (flW ev (liV z ev i n)) fd B2') := by
  obtain ⟨x1, x2, T, rfl, hT, hW⟩ := h2.fl
  cases z with
  | none =>
    obtain rfl : B = _ := h
    refine yK.perm (D2 := (110, .inl (10, 1, .int ev)) :: (110, .inl (10, 4, .int x1)) :: (110, .inl (10, 5, .int x2)) :: ((78, .inl (11, 6, .null)) :: (T ++ Rm))) (pq fun φ => by simp only [cn_c, cn_a, cn_n]; omega) ?_
    refine (cD_line0 (by simp [hT]) (by simp)).mono (Nat.le_refl _) (Nat.le_refl _) ?_
    rintro w D ⟨y1, y2, rfl, rfl⟩
    exact ⟨rfl, [_], _ :: _ :: _ :: T, [], pq fun φ => by simp only [cn_c, cn_a, cn_n]; omega, rfl, hW _ y1 y2⟩
  | some ob =>
    have k := hk ob rfl
    obtain ⟨a, ia, ra, ks, h1, rfl, h3, h4, h5, h6⟩ := h
    obtain ⟨q1, q2, q3, q4⟩ := li_ok (fl := ev) (i := i) (n := n) k
    have hlen : (ks.map krV).length = ob.2.2.length := by rw [h1, List.length_map, List.length_map]
    refine yK.perm (D2 := (110, .inl (10, 1, .int ev)) :: (110, .inl (10, 4, .int x1)) :: (110, .inl (10, 5, .int x2)) :: (ra, .inr (4, ks.map krV)) :: ((78, .inl (11, 6, .ref a)) :: (ia, .inr (1, (cit ob).map Value.long)) :: (krE ks ++ (T ++ Rm)))) (pq fun φ => by simp only [cn_c, cn_a, cn_n]; omega) ?_
    refine (cD_line1 (a := a) (ia := ia) (ra := ra) (ob := ob) (by simp [hT]) k.1 (osz_le k.1 k.2.1 k.2.2.1) (by simp) (by simp [sN h3]) (by simp [sN h4]) (by simp [sN h5]) (by simp [sN h6]) (fun _ => hlen)).mono (Nat.le_refl _) (Nat.le_refl _) ?_
    rintro w D ⟨y1, y2, rfl, ⟨hne, rfl⟩ | ⟨h0, k1, rfl⟩⟩
    · refine ⟨rfl, (78, .inl (11, 6, .ref a)) :: (ia, .inr (1, (cit ob).map Value.long)) :: (ra, .inr (4, ks.map krV)) :: krE ks, _ :: _ :: _ :: T, [], pq fun φ => by simp only [cn_c, cn_a, cn_n]; omega, ?_, hW _ y1 y2⟩
      have e : liO ob (liV (some ob) ev i n) i n = ob := by rw [liO, if_neg hne]
      show cDk (some (liO ob (liV (some ob) ev i n) i n)) _ _
      rw [e]
      exact ⟨a, ia, ra, ks, h1, rfl, h3, h4, h5, h6⟩
    · have hin : i.toInt.toNat < ks.length := by
        have e4 := h0
        rw [liV] at e4
        by_cases a1 : 6 < n.toInt
        · rw [if_pos a1] at e4; exact absurd e4 (by decide)
        rw [if_neg a1] at e4
        by_cases a2 : 10000 ≤ ev.toInt
        · rw [if_pos a2] at e4; exact absurd e4 (by decide)
        rw [if_neg a2] at e4
        by_cases a3 : n.toInt < 0
        · rw [if_pos a3] at e4; exact absurd e4 (by decide)
        rw [if_neg a3] at e4
        have e5 : (if ¬ ob.1 = 4 then (-12 : Int32) else if ¬ (0 ≤ i.toInt ∧ i.toInt < osz ob) then -13 else 0) = 0 := e4
        by_cases a4 : ob.1 = 4
        rotate_left
        · rw [if_pos a4] at e5; exact absurd e5 (by decide)
        rw [if_neg (fun h => h a4)] at e5
        by_cases a5 : 0 ≤ i.toInt ∧ i.toInt < osz ob
        rotate_left
        · rw [if_pos a5] at e5; exact absurd e5 (by decide)
        have := osz4 a4
        rw [h1, List.length_map] at this
        omega
      obtain ⟨o, ho⟩ : ∃ o, ks[i.toInt.toNat]? = some o := ⟨_, List.getElem?_eq_getElem hin⟩
      have eo : liO ob (liV (some ob) ev i n) i n = (ob.1, ob.2.1, ob.2.2.set i.toInt.toNat (some (List.replicate n.toInt.toNat 0))) := by rw [liO, if_pos h0]
      refine ⟨rfl, (78, .inl (11, 6, .ref a)) :: (ia, .inr (1, (cit ob).map Value.long)) :: (ra, .inr (4, (ks.map krV).set i.toInt.toNat (.ref k1))) :: krE (ks.set i.toInt.toNat (some (k1, List.replicate n.toInt.toNat 0))), _ :: _ :: _ :: T, krE [o], pq fun φ => ?_, ?_, hW _ y1 y2⟩
      · have := kr_set (φ := φ) (o2 := some (k1, List.replicate n.toInt.toNat 0)) ho
        have e1 : cn φ (krE [some (k1, List.replicate n.toInt.toNat 0)]) = φ (k1, .inr (0, (List.replicate n.toInt.toNat (0 : Int32)).map Value.int)) := rfl
        simp only [cn_c, cn_a, cn_n]
        omega
      · show cDk (some (liO ob (liV (some ob) ev i n) i n)) _ _
        rw [eo]
        refine ⟨a, ia, ra, ks.set i.toInt.toNat (some (k1, List.replicate n.toInt.toNat 0)), ?_, ?_, List.mem_append_right _ h3, ?_, List.mem_append_right _ h5, List.mem_append_right _ h6⟩
        · show ob.2.2.set _ _ = _
          rw [h1, List.map_set]
          rfl
        · rw [List.map_set]
          rfl
        · rw [eo] at q3
          rw [q3]
          exact List.mem_append_right _ h4
theorem oC_cell (hk : pDk En z) (h : cDk z N B) (h2 : cWk ev fd B2) (sN : N ⊆ Rm) : yK X 2 43 103 [.ref 78, .int i, .int j, .int v] (B ++ (B2 ++ Rm)) 0 0 (fun w D => w = some (.int (ceV z ev i j)) ∧ ∃ B' B2', D.Perm (B' ++ (B2' ++ Rm)) ∧ cDk (z.map fun o => ceO o (ceV z ev i j) i j v) N B' ∧ cWk (flW ev (ceV z ev i j)) fd B2') := by
  obtain ⟨x1, x2, T, rfl, hT, hW⟩ := h2.fl
  cases z with
  | none =>
    obtain rfl : B = _ := h
    refine yK.perm (D2 := (110, .inl (10, 1, .int ev)) :: (110, .inl (10, 4, .int x1)) :: (110, .inl (10, 5, .int x2)) :: ((78, .inl (11, 6, .null)) :: (T ++ Rm))) (pq fun φ => by simp only [cn_c, cn_a, cn_n]; omega) ?_
    refine (cD_cell0 (by simp [hT]) (by simp)).mono (Nat.le_refl _) (Nat.le_refl _) ?_
    rintro w D ⟨y1, y2, rfl, rfl⟩
    exact ⟨rfl, [_], _ :: _ :: _ :: T, pq fun φ => by simp only [cn_c, cn_a, cn_n]; omega, rfl, hW _ y1 y2⟩
  | some ob =>
    have k := hk ob rfl
    obtain ⟨a, ia, ra, ks, h1, rfl, h3, h4, h5, h6⟩ := h
    obtain ⟨q1, q2, q3, q4⟩ := ce_ok (fl := ev) (i := i) (j := j) (v := v) k
    have hlen : (ks.map krV).length = ob.2.2.length := by rw [h1, List.length_map, List.length_map]
    have up : ∀ {E : List xE} (e : xE), e ∈ Rm → e ∈ (ra, .inr (4, ks.map krV)) :: (78, .inl (11, 6, .ref a)) :: (ia, .inr (1, (cit ob).map Value.long)) :: (E ++ (T ++ Rm)) := fun e he => List.mem_cons_of_mem _ (List.mem_cons_of_mem _ (List.mem_cons_of_mem _ (List.mem_append_right _ (List.mem_append_right _ he))))
    have no : ceV (some ob) ev i j ≠ 0 → (∀ (y1 y2 : Int32), ∃ B' B2', ((110, .inl (10, 1, .int (flW ev (ceV (some ob) ev i j)))) :: (110, .inl (10, 4, .int y1)) :: (110, .inl (10, 5, .int y2)) :: ((ra, .inr (4, ks.map krV)) :: (78, .inl (11, 6, .ref a)) :: (ia, .inr (1, (cit ob).map Value.long)) :: (krE ks ++ (T ++ Rm)))).Perm (B' ++ (B2' ++ Rm)) ∧ cDk (some (ceO ob (ceV (some ob) ev i j) i j v)) N B' ∧ cWk (flW ev (ceV (some ob) ev i j)) fd B2') := by
      intro hne y1 y2
      refine ⟨(78, .inl (11, 6, .ref a)) :: (ia, .inr (1, (cit ob).map Value.long)) :: (ra, .inr (4, ks.map krV)) :: krE ks, _ :: _ :: _ :: T, ?_, ?_, hW _ y1 y2⟩
      rotate_left
      · rw [ceO, if_neg hne]
        exact ⟨a, ia, ra, ks, h1, rfl, h3, h4, h5, h6⟩
      · exact pq fun φ => by simp only [cn_c, cn_a, cn_n]; omega
    by_cases hin : 0 ≤ i.toInt ∧ i.toInt < osz ob
    rotate_left
    · have hno : rwO ob i = none := by
        rw [rwO]
        rcases hg : gI ob.2.2 i with _ | r
        · rfl
        · exfalso
          obtain ⟨g1, g2, g3, -, -⟩ := gI_some hg
          apply hin
          by_cases e4 : ob.1 = 4
          · rw [osz4 e4]; omega
          · have := (k.2.2.1 e4).1
            rw [this] at g3
            cases g3
      have hne : ceV (some ob) ev i j ≠ 0 := by
        intro h0
        rw [ceV] at h0
        by_cases a2 : 10000 ≤ ev.toInt
        · rw [if_pos a2] at h0; exact absurd h0 (by decide)
        rw [if_neg a2] at h0
        by_cases a4 : ob.1 = 4
        · have e5 : (if ¬ ob.1 = 4 then (-12 : Int32) else if ¬ (0 ≤ i.toInt ∧ i.toInt < osz ob) then -13 else _) = 0 := h0
          rw [if_neg (fun h => h a4), if_pos hin] at e5
          exact absurd e5 (by decide)
        · have e5 : (if ¬ ob.1 = 4 then (-12 : Int32) else _) = 0 := h0
          rw [if_pos a4] at e5
          exact absurd e5 (by decide)
      refine yK.perm (D2 := (110, .inl (10, 1, .int ev)) :: (110, .inl (10, 4, .int x1)) :: (110, .inl (10, 5, .int x2)) :: ((ra, .inr (4, ks.map krV)) :: (78, .inl (11, 6, .ref a)) :: (ia, .inr (1, (cit ob).map Value.long)) :: (krE ks ++ (T ++ Rm)))) (pq fun φ => by simp only [cn_c, cn_a, cn_n]; omega) ?_
      refine (cD_cellX (a := a) (ia := ia) (ra := ra) (ob := ob) (rr := ks.map krV) (by simp [hT]) k.1 (osz_le k.1 k.2.1 k.2.2.1) (by simp) (up _ (sN h3)) (up _ (sN h4)) (up _ (sN h5)) (up _ (sN h6)) (by simp) (fun _ => hlen) hno hin).mono (Nat.le_refl _) (Nat.le_refl _) ?_
      rintro w D ⟨y1, y2, rfl, rfl⟩
      exact ⟨rfl, no hne y1 y2⟩
    · by_cases e4 : ob.1 = 4
      rotate_left
      · have hno : rwO ob i = none := by
          rw [rwO, (k.2.2.1 e4).1]
          rcases hg : gI ([] : List (Option (List Int32))) i with _ | r
          · rfl
          · have := (gI_some hg).2.2.1
            cases this
        have hks : ks = [] := by
          have := (k.2.2.1 e4).1
          rw [h1] at this
          exact List.map_eq_nil_iff.mp this
        have hne : ceV (some ob) ev i j ≠ 0 := by
          intro h0
          rw [ceV] at h0
          by_cases a2 : 10000 ≤ ev.toInt
          · rw [if_pos a2] at h0; exact absurd h0 (by decide)
          rw [if_neg a2] at h0
          have e5 : (if ¬ ob.1 = 4 then (-12 : Int32) else _) = 0 := h0
          rw [if_pos e4] at e5
          exact absurd e5 (by decide)
        refine yK.perm (D2 := (110, .inl (10, 1, .int ev)) :: (110, .inl (10, 4, .int x1)) :: (110, .inl (10, 5, .int x2)) :: ((ra, .inr (4, ks.map krV)) :: (78, .inl (11, 6, .ref a)) :: (ia, .inr (1, (cit ob).map Value.long)) :: (krE ks ++ (T ++ Rm)))) (pq fun φ => by simp only [cn_c, cn_a, cn_n]; omega) ?_
        refine (cD_cellN (a := a) (ia := ia) (ra := ra) (ob := ob) (rr := ks.map krV) (by simp [hT]) k.1 (osz_le k.1 k.2.1 k.2.2.1) (by simp) (up _ (sN h3)) (up _ (sN h4)) (up _ (sN h5)) (up _ (sN h6)) (by simp) (fun _ => hlen) hno (fun x hx => by rw [hks] at hx; cases hx)).mono (Nat.le_refl _) (Nat.le_refl _) ?_
        rintro w D ⟨y1, y2, rfl, rfl⟩
        exact ⟨rfl, no hne y1 y2⟩
      · have hsz : osz ob = ks.length := by rw [osz4 e4, h1, List.length_map]
        obtain ⟨o, ho⟩ : ∃ o, ks[i.toInt.toNat]? = some o := ⟨_, List.getElem?_eq_getElem (by omega)⟩
        have hrw : rwO ob i = krO o := by
          have : gI ob.2.2 i = some (krO o) := by
            rw [← yi_id hin.1, gI_nat (by have := (k.2.1 e4).2.1; rw [osz4 e4] at hin; omega), h1, List.getElem?_map, ho]
            rfl
          rw [rwO, this]
          rfl
        have hrr : (ks.map krV)[i.toInt.toNat]? = some (krV o) := by
          rw [List.getElem?_map, ho]
          rfl
        cases o with
        | none =>
          have hne : ceV (some ob) ev i j ≠ 0 := by
            intro h0
            rw [ceV] at h0
            by_cases a2 : 10000 ≤ ev.toInt
            · rw [if_pos a2] at h0; exact absurd h0 (by decide)
            rw [if_neg a2] at h0
            have e5 : (if ¬ ob.1 = 4 then (-12 : Int32) else if ¬ (0 ≤ i.toInt ∧ i.toInt < osz ob) then -13 else match rwO ob i with
              | none => -11
              | some l => if ¬ (0 ≤ j.toInt ∧ j.toInt < l.length) then -13 else 0) = 0 := h0
            rw [if_neg (fun h => h e4), if_neg (fun h => h hin), hrw] at e5
            exact absurd e5 (by show ¬ ((-11 : Int32) = 0); decide)
          refine yK.perm (D2 := (110, .inl (10, 1, .int ev)) :: (110, .inl (10, 4, .int x1)) :: (110, .inl (10, 5, .int x2)) :: ((ra, .inr (4, ks.map krV)) :: (78, .inl (11, 6, .ref a)) :: (ia, .inr (1, (cit ob).map Value.long)) :: (krE ks ++ (T ++ Rm)))) (pq fun φ => by simp only [cn_c, cn_a, cn_n]; omega) ?_
          refine (cD_cellN (a := a) (ia := ia) (ra := ra) (ob := ob) (rr := ks.map krV) (by simp [hT]) k.1 (osz_le k.1 k.2.1 k.2.2.1) (by simp) (up _ (sN h3)) (up _ (sN h4)) (up _ (sN h5)) (up _ (sN h6)) (by simp) (fun _ => hlen) hrw (fun x hx => by rw [hrr] at hx; injection hx with hx; exact hx.symm)).mono (Nat.le_refl _) (Nat.le_refl _) ?_
          rintro w D ⟨y1, y2, rfl, rfl⟩
          exact ⟨rfl, no hne y1 y2⟩
        | some p =>
          obtain ⟨k1, l⟩ := p
          have hmem : some l ∈ ob.2.2 := by
            rw [h1]
            exact List.mem_map.mpr ⟨some (k1, l), List.mem_of_getElem? ho, rfl⟩
          have hl6 := (k.2.1 e4).2.2 l hmem
          refine yK.perm (D2 := (110, .inl (10, 1, .int ev)) :: (110, .inl (10, 4, .int x1)) :: (110, .inl (10, 5, .int x2)) :: (k1, .inr (0, l.map Value.int)) :: ((ra, .inr (4, ks.map krV)) :: (78, .inl (11, 6, .ref a)) :: (ia, .inr (1, (cit ob).map Value.long)) :: (krE (ks.set i.toInt.toNat none) ++ (T ++ Rm)))) (pq fun φ => ?_) ?_
          · have := kr_set (φ := φ) (o2 := none) ho
            have e1 : cn φ (krE [some (k1, l)]) = φ (k1, .inr (0, l.map Value.int)) := rfl
            have e2 : cn φ (krE [none]) = 0 := rfl
            simp only [cn_c, cn_a, cn_n]
            omega
          refine (cD_cellR (a := a) (ia := ia) (ra := ra) (ob := ob) (rr := ks.map krV) (by simp [hT]) k.1 (osz_le k.1 k.2.1 k.2.2.1) (by simp) (up _ (sN h3)) (up _ (sN h4)) (up _ (sN h5)) (up _ (sN h6)) (by simp) (fun _ => hlen) hl6 hrw hrr).mono (Nat.le_refl _) (Nat.le_refl _) ?_
          rintro w D ⟨y1, y2, rfl, rfl⟩
          refine ⟨rfl, (78, .inl (11, 6, .ref a)) :: (ia, .inr (1, (cit ob).map Value.long)) :: (ra, .inr (4, ks.map krV)) :: krE (ks.set i.toInt.toNat (some (k1, if ceV (some ob) ev i j = 0 then l.set j.toInt.toNat v else l))), _ :: _ :: _ :: T, pq fun φ => ?_, ?_, hW _ y1 y2⟩
          · have h8 := kr_set (φ := φ) (o2 := none) ho
            have h9 := kr_set (φ := φ) (o2 := some (k1, if ceV (some ob) ev i j = 0 then l.set j.toInt.toNat v else l)) ho
            have e1 : cn φ (krE [some (k1, if ceV (some ob) ev i j = 0 then l.set j.toInt.toNat v else l)]) = φ (k1, .inr (0, (if ceV (some ob) ev i j = 0 then l.set j.toInt.toNat v else l).map Value.int)) := rfl
            have e2 : cn φ (krE [none]) = 0 := rfl
            simp only [cn_c, cn_a, cn_n]
            omega
          · have hV : (ks.set i.toInt.toNat (some (k1, if ceV (some ob) ev i j = 0 then l.set j.toInt.toNat v else l))).map krV = ks.map krV := by
              rw [List.map_set]
              refine List.ext_getElem? fun m => ?_
              by_cases em : i.toInt.toNat = m
              · rw [← em, List.getElem?_set_self (by rw [List.length_map]; omega), hrr]
                rfl
              · rw [List.getElem?_set_ne em]
            have hO : (ceO ob (ceV (some ob) ev i j) i j v).2.2 = (ks.set i.toInt.toNat (some (k1, if ceV (some ob) ev i j = 0 then l.set j.toInt.toNat v else l))).map krO := by
              rw [List.map_set, ← h1]
              by_cases h0 : ceV (some ob) ev i j = 0
              · rw [if_pos h0, ceO, if_pos h0, hrw]
                rfl
              · rw [if_neg h0, ceO, if_neg h0]
                refine List.ext_getElem? fun m => ?_
                by_cases em : i.toInt.toNat = m
                · rw [← em, List.getElem?_set_self (by rw [h1, List.length_map]; omega), h1, List.getElem?_map, ho]
                  rfl
                · rw [List.getElem?_set_ne em]
            show cDk (some (ceO ob (ceV (some ob) ev i j) i j v)) _ _
            refine ⟨a, ia, ra, ks.set i.toInt.toNat (some (k1, if ceV (some ob) ev i j = 0 then l.set j.toInt.toNat v else l)), hO, ?_, by rw [q2]; exact h3, by rw [q3]; exact h4, h5, h6⟩
            rw [hV]
            have ec : cit (ceO ob (ceV (some ob) ev i j) i j v) = cit ob := by
              rw [cit, cit, q2, q4]
            rw [ec]
theorem oC_desk (hE : cLe En B3) (h : cDk z N B) (h2 : cWk ev fd B2) (s3 : B3 ⊆ Rm) (sN : N ⊆ Rm) : yK X 2 123 91 [.ref 78, .int x, .int y] (B ++ (B2 ++ Rm)) 3 28 (fun w D => w = some (.int (deV En ev x y)) ∧ ∃ B' B2' G, D.Perm (B' ++ (B2' ++ (G ++ Rm))) ∧ cDk (if deV En ev x y = 0 then some (deO x y) else z) (G ++ N) B' ∧ cWk (flW ev (deV En ev x y)) fd B2') := by
  obtain ⟨x1, x2, T, rfl, hT, hW⟩ := h2.fl
  obtain ⟨ja, jb, e1, e2, rfl⟩ := hE
  have m0 : ((106, .inl (5, 2, .int (Int32.ofNat En.length))) : xE) ∈ Rm := s3 (by simp)
  have hB : ∃ u E, B = (78, .inl (11, 6, u)) :: E := by
    cases z with
    | none =>
      obtain rfl : B = _ := h
      exact ⟨_, [], rfl⟩
    | some ob =>
      obtain ⟨a, ia, ra, ks, h1, rfl, h3⟩ := id h
      exact ⟨_, _, rfl⟩
  obtain ⟨u, E, rfl⟩ := hB
  refine yK.perm (D2 := (110, .inl (10, 1, .int ev)) :: (110, .inl (10, 4, .int x1)) :: (110, .inl (10, 5, .int x2)) :: (78, .inl (11, 6, u)) :: (E ++ (T ++ Rm))) (pq fun φ => by simp only [cn_c, cn_a, cn_n]; omega) ?_
  refine (cD_desk (by simp [hT]) (by omega) (List.mem_append_right _ (List.mem_append_right _ m0))).mono (Nat.le_refl _) (Nat.le_refl _) ?_
  rintro w D ⟨y1, y2, rfl, ⟨hne, rfl⟩ | ⟨h0, a, ia, ra, rfl⟩⟩
  · refine ⟨rfl, (78, .inl (11, 6, u)) :: E, _ :: _ :: _ :: T, [], pq fun φ => by simp only [cn_c, cn_a, cn_n]; omega, ?_, hW _ y1 y2⟩
    rw [if_neg hne]
    exact h
  · refine ⟨rfl, [(78, .inl (11, 6, .ref a)), (ia, .inr (1, (cit (deO x y)).map Value.long)), (ra, .inr (4, List.replicate (deO x y).2.2.length .null))], _ :: _ :: _ :: T, (a, .inl (6, 0, .int x)) :: (a, .inl (6, 1, .int (Int32.ofNat (osz (deO x y))))) :: (a, .inl (6, 2, .ref ia)) :: (a, .inl (6, 3, .ref ra)) :: E, pq fun φ => by simp only [cn_c, cn_a, cn_n]; omega, ?_, hW _ y1 y2⟩
    rw [if_pos h0]
    have hx : 0 ≤ x.toInt := by
      rw [deV] at h0
      by_cases h7 : 0 ≤ x.toInt ∧ x.toInt ≤ 7
      · exact h7.1
      · rw [if_pos h7] at h0
        exact absurd h0 (by decide)
    have hrep : (deO x y).2.2 = List.replicate (deO x y).2.2.length none := by
      have i3 : (deO x y).2.2 = if x.toInt = 4 then List.replicate y.toInt.toNat none else [] := rfl
      rw [i3]
      by_cases e4 : x.toInt = 4
      · rw [if_pos e4, List.length_replicate]
      · rw [if_neg e4]
        rfl
    refine ⟨a, ia, ra, List.replicate (deO x y).2.2.length none, ?_, ?_, ?_, by simp, by simp, by simp⟩
    · rw [List.map_replicate]
      exact hrep
    · rw [List.map_replicate]
      have : krE (List.replicate (deO x y).2.2.length none) = [] := by
        rw [krE, List.filterMap_replicate_of_none rfl]
      rw [this]
      rfl
    · have : Int32.ofNat (deO x y).1 = x := yi_id hx
      rw [this]
      simp
end DESKS
