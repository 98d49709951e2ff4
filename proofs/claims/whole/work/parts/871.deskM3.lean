/-! DESK: the reference -/
theorem la_in2 {n : Nat} (h : n ≤ 1000) : (Int32.ofNat n - 1).toInt = (n : Int) - 1 := by
  cases n with
  | zero => decide
  | succ q =>
    rw [yi_s1, yi_nat (by omega)]
    omega
def QdM (fl s n : Int32) (u : Value) (V : Int32) (D0 : List xE) (w : Option Value) (D : List xE) : Prop := w = some (.int V) ∧ ((V ≠ 0 ∧ D = (209, .inl (14, 24, .int (flW fl V))) :: (209, .inl (14, 23, u)) :: D0) ∨ (V = 0 ∧ ∃ b ia ra ca S, thV S (deO s n) ∧ D = zE (zad b ia ra ca) S 0 (zTd.take 5) ++ ((b, .inl (13, 2, .ref ia)) :: (b, .inl (13, 3, .ref ra)) :: (b, .inl (13, 4, .ref ca)) :: (209, .inl (14, 24, .int fl)) :: (209, .inl (14, 23, .ref b)) :: D0)))
theorem de_rows {s n : Int32} {l : List Int32} (h4 : s.toInt = 4 → n.toInt ≤ 6) : (∀ (i : Nat) r, (deO s n).2.2[i]? = some r → (List.replicate 6 (-1 : Int32))[i]? = some (rsz r)) ∧ ∀ (i : Nat) l (j : Nat) x, (deO s n).2.2[i]? = some (some l) → l[j]? = some x → (List.replicate 36 (0 : Int32))[6 * i + j]? = some x := by
  have key : ∀ (i : Nat) r, (deO s n).2.2[i]? = some r → r = none ∧ i < 6 := by
    intro i r h
    have h2 : (if s.toInt = 4 then List.replicate n.toInt.toNat (none : Option (List Int32)) else [])[i]? = some r := h
    by_cases e : s.toInt = 4
    · rw [if_pos e, List.getElem?_replicate] at h2
      by_cases hi : i < n.toInt.toNat
      · rw [if_pos hi] at h2
        injection h2 with h2
        exact ⟨h2.symm, by have := h4 e; omega⟩
      · rw [if_neg hi] at h2
        cases h2
    · rw [if_neg e] at h2
      cases h2
  refine ⟨fun i r h => ?_, fun i l j x h => ?_⟩
  · obtain ⟨rfl, hi⟩ := key i r h
    rw [List.getElem?_replicate, if_pos hi]
    rfl
  · obtain ⟨h2, -⟩ := key i _ h
    cases h2
theorem de_thA {s n fl : Int32} (h7 : 0 ≤ s.toInt ∧ s.toInt ≤ 7) (hs : s.toInt ≠ 7) (h0 : 0 ≤ n.toInt) (hn : n.toInt ≤ 12) (h4 : s.toInt = 4 → n.toInt ≤ 6) : thV (sC s n (List.replicate 12 (newv s)) (List.replicate 6 (-1)) (List.replicate 36 0) fl) (deO s n) := by
  refine ⟨(yi_id h7.1).symm, ?_, ?_, by simp [sC, zA], by simp [sC, zA], (de_rows (l := []) h4).1, (de_rows (l := []) h4).2⟩
  · show n = Int32.ofNat (osz (deO s n))
    by_cases e : s.toInt = 4
    · rw [osz4 (o := deO s n) (by show s.toInt.toNat = 4; omega)]
      show n = Int32.ofNat (if s.toInt = 4 then List.replicate n.toInt.toNat (none : Option (List Int32)) else []).length
      rw [if_pos e, List.length_replicate, yi_id h0]
    · rw [osz_n4 (o := deO s n) (by show s.toInt.toNat ≠ 4; omega)]
      show n = Int32.ofNat (if s.toInt = 7 then [n.toInt64] else if s.toInt = 4 then [] else List.replicate n.toInt.toNat (if s.toInt = 5 ∨ s.toInt = 6 then -1 else 0)).length
      rw [if_neg hs, if_neg e, List.length_replicate, yi_id h0]
  · show ∃ jk, List.replicate 12 (newv s) = (if s.toInt = 7 then [n.toInt64] else if s.toInt = 4 then [] else List.replicate n.toInt.toNat (if s.toInt = 5 ∨ s.toInt = 6 then -1 else 0)) ++ jk ∧ (if s.toInt = 7 then [n.toInt64] else if s.toInt = 4 then [] else List.replicate n.toInt.toNat (if s.toInt = 5 ∨ s.toInt = 6 then -1 else 0)).length + jk.length = 12
    rw [if_neg hs]
    by_cases e : s.toInt = 4
    · rw [if_pos e]
      exact ⟨List.replicate 12 (newv s), rfl, rfl⟩
    · rw [if_neg e]
      refine ⟨List.replicate (12 - n.toInt.toNat) (newv s), ?_, ?_⟩
      · show _ = List.replicate n.toInt.toNat (newv s) ++ _
        rw [List.replicate_append_replicate, show n.toInt.toNat + (12 - n.toInt.toNat) = 12 by omega]
      · rw [List.length_replicate, List.length_replicate]
        omega
theorem de_thB {n fl : Int32} : thV (sC 7 1 ([n.toInt64] ++ List.replicate 11 (newv 7)) (List.replicate 6 (-1)) (List.replicate 36 0) fl) (deO 7 n) := ⟨rfl, rfl, ⟨List.replicate 11 (newv 7), rfl, rfl⟩, by simp [sC, zA], by simp [sC, zA], (de_rows (l := []) (fun h => absurd h (by decide))).1, (de_rows (l := []) (fun h => absurd h (by decide))).2⟩
theorem md_tail {X : List Int32} {D0 : List xE} {fl s n V : Int32} {u : Value} (h7 : 0 ≤ s.toInt ∧ s.toInt ≤ 7) (hV : V = if 10000 ≤ fl.toInt then -3 else if n.toInt < 0 then -16 else 0) (hn : s.toInt ≠ 7 → n.toInt ≤ 12) (h4 : s.toInt = 4 → n.toInt ≤ 6) : yT X 4 200 255 32 [some (.ref 209), some (.int s), some (.int n)] [] ((209, .inl (14, 24, .int fl)) :: (209, .inl (14, 23, u)) :: D0) 4 59 (QdM fl s n u V D0) := by
  have t0 : (0 : Int32).toInt = 0 := rfl
  refine xt_pure rfl rfl rfl rfl ?_
  refine xt_callV rfl rfl rfl rfl (xmC 176 rfl) ⟨rfl, rfl, yle rfl, yle rfl, yle rfl, yle rfl⟩ (mk_isSpent (fl := fl) List.mem_cons_self) (c2 := 4) (s2 := 59) ⟨yle rfl, yle rfl⟩ ?_
  rintro _ _ (⟨rfl, hs, rfl⟩ | ⟨rfl, hs, rfl⟩)
  · rw [hV, if_pos hs]
    refine xt_pure rfl rfl rfl rfl ?_
    refine xt_pure rfl rfl rfl (st1 := .int (-3) :: _) rfl ?_
    exact xt_iret rfl rfl rfl rfl ⟨rfl, .inl ⟨by decide, by rw [flW, if_neg (by decide)]⟩⟩
  · rw [if_neg hs] at hV
    refine xt_pure rfl rfl rfl rfl ?_
    refine xt_pure rfl rfl rfl rfl ?_
    refine yt_if rfl rfl (fun (h : (0 : Int32).toInt ≤ n.toInt) => ?_) (fun (h : n.toInt < (0 : Int32).toInt) => ?_)
    rotate_left
    · rw [hV, if_pos (show n.toInt < 0 by omega)]
      refine xt_pure rfl rfl rfl rfl ?_
      refine xt_pure rfl rfl rfl (st1 := .int 6 :: _) rfl ?_
      refine xt_callV rfl rfl rfl rfl (xmC 176 rfl) ⟨rfl, rfl, yle rfl, yle rfl, yle rfl, yle rfl⟩ mk_failed (c2 := 4) (s2 := 59) ⟨yle rfl, yle rfl⟩ ?_
      rintro _ _ ⟨rfl, rfl⟩
      exact xt_iret rfl rfl rfl rfl ⟨rfl, .inl ⟨by decide, by rw [flWn (by decide) (by decide)]⟩⟩
    · rw [hV, if_neg (show ¬ n.toInt < 0 by omega)]
      refine xt_pure rfl rfl rfl rfl ?_
      refine xt_pure rfl rfl rfl rfl ?_
      refine xt_pure rfl rfl rfl rfl ?_
      refine xt_pure rfl rfl rfl (st1 := .int 7 :: _) rfl ?_
      by_cases e7 : s = 7
      · subst e7
        refine xt_pure rfl rfl rfl rfl ?_
        refine xt_pure rfl rfl rfl (st1 := .int 1 :: _) rfl ?_
        refine xt_pure rfl rfl rfl rfl ?_
        refine xt_callS rfl rfl (by decide) rfl ⟨rfl, yle rfl, yle rfl, yle rfl, yle rfl⟩ mk_thing (c2 := 0) (s2 := 0) ⟨yle rfl, yle rfl⟩ ?_
        rintro _ _ ⟨b, ia, ra, ca, rfl, rfl⟩
        refine xt_putf rfl rfl rfl rfl 9 rfl (D1 := _ :: _ :: _ :: _ :: _ :: _ :: _ :: _ :: _ :: _ :: _) rfl ?_
        refine xt_pure rfl rfl rfl rfl ?_
        refine xt_pure rfl rfl rfl (st1 := .int 7 :: _) rfl ?_
        refine xt_pure rfl rfl rfl rfl ?_
        refine xt_pure rfl rfl rfl rfl ?_
        refine xt_getf rfl rfl (xmD 9 rfl) ?_
        refine xt_getf rfl rfl (xmD 5 rfl) ?_
        refine xt_pure rfl rfl rfl (st1 := .int 0 :: _) rfl ?_
        refine xt_pure rfl rfl rfl rfl ?_
        refine xt_pure rfl rfl rfl rfl ?_
        refine xt_last rfl rfl 2 rfl ⟨by decide, by simp⟩ (D1 := _ :: _ :: (ia, .inr (1, ([n.toInt64] ++ List.replicate 11 (newv 7)).map Value.long)) :: _) rfl ?_
        refine xt_pure rfl rfl rfl (st1 := .int 0 :: _) rfl ?_
        exact xt_iret rfl rfl rfl rfl ⟨rfl, .inr ⟨rfl, b, ia, ra, ca, _, de_thB (fl := fl), rfl⟩⟩
      · have e7i : s.toInt ≠ 7 := fun h => e7 (Int32.toInt_inj.mp h)
        refine yt_ic rfl rfl (fun _ => ?_) (fun (h : s = 7) => absurd h e7)
        refine xt_pure rfl rfl rfl rfl ?_
        refine xt_callS rfl rfl (by decide) rfl ⟨rfl, yle rfl, yle rfl, yle rfl, yle rfl⟩ mk_thing (c2 := 0) (s2 := 0) ⟨yle rfl, yle rfl⟩ ?_
        rintro _ _ ⟨b, ia, ra, ca, rfl, rfl⟩
        refine xt_putf rfl rfl rfl rfl 9 rfl (D1 := _ :: _ :: _ :: _ :: _ :: _ :: _ :: _ :: _ :: _ :: _) rfl ?_
        refine xt_pure rfl rfl rfl rfl ?_
        refine xt_pure rfl rfl rfl (st1 := .int 7 :: _) rfl ?_
        refine yt_ic rfl rfl (fun _ => ?_) (fun (h : s = 7) => absurd h e7)
        refine xt_pure rfl rfl rfl (st1 := .int 0 :: _) rfl ?_
        exact xt_iret rfl rfl rfl rfl ⟨rfl, .inr ⟨rfl, b, ia, ra, ca, _, de_thA (fl := fl) h7 e7i (by omega) (hn e7i) h4, rfl⟩⟩
theorem mD_desk {X : List Int32} {D0 : List xE} {fl s n : Int32} {u : Value} {En : List (Int64 × Int32)} (hE : En.length ≤ 100) (hc0 : ((209, .inl (14, 19, .int (Int32.ofNat En.length))) : xE) ∈ D0) : yK X 4 200 255 [.ref 209, .int s, .int n] ((209, .inl (14, 24, .int fl)) :: (209, .inl (14, 23, u)) :: D0) 4 59 (QdM fl s n u (deV En fl s n) D0) := by
  have bad : deV En fl s n = -1 → yT X 4 200 255 30 [some (.ref 209), some (.int s), some (.int n)] [] ((209, .inl (14, 24, .int fl)) :: (209, .inl (14, 23, u)) :: D0) 4 59 (QdM fl s n u (deV En fl s n) D0) := by
    intro h
    rw [h]
    refine xt_pure rfl rfl rfl (st1 := .int (-1) :: _) rfl ?_
    exact xt_iret rfl rfl rfl rfl ⟨rfl, .inl ⟨by decide, by rw [flW, if_neg (by decide)]⟩⟩
  refine yK.of rfl (yle rfl) (L := [_, _, _]) rfl ?_
  refine xt_pure rfl rfl rfl rfl ?_
  refine xt_pure rfl rfl rfl rfl ?_
  refine xt_pure rfl rfl rfl (st1 := .long 0 :: _) rfl ?_
  refine xt_pure rfl rfl rfl (st1 := .long 7 :: _) rfl ?_
  refine xt_callS rfl rfl (by decide) rfl ⟨rfl, yle rfl, yle rfl, yle rfl, yle rfl⟩ mk_in (c2 := 4) (s2 := 59) ⟨yle rfl, yle rfl⟩ ?_
  rw [y6432, show (0 : Int64).toInt = 0 from rfl, show (7 : Int64).toInt = 7 from rfl]
  rintro _ _ (⟨rfl, h7, rfl⟩ | ⟨rfl, h7, rfl⟩)
  rotate_left
  · refine xt_pure rfl rfl rfl rfl ?_
    exact bad (by rw [deV, if_pos h7])
  · refine xt_pure rfl rfl rfl rfl ?_
    by_cases e7 : s = 7
    · subst e7
      have at17 : yT X 4 200 255 17 [some (.ref 209), some (.int 7), some (.int n)] [] ((209, .inl (14, 24, .int fl)) :: (209, .inl (14, 23, u)) :: D0) 4 59 (QdM fl 7 n u (deV En fl 7 n) D0) := by
        refine xt_pure rfl rfl rfl rfl ?_
        refine xt_pure rfl rfl rfl (st1 := .int 7 :: _) rfl ?_
        refine xt_pure rfl rfl rfl rfl ?_
        refine xt_pure rfl rfl rfl rfl ?_
        refine xt_pure rfl rfl rfl rfl ?_
        refine xt_pure rfl rfl rfl (st1 := .long 0 :: _) rfl ?_
        refine xt_pure rfl rfl rfl rfl ?_
        refine xt_getf rfl rfl (xmS 2 rfl hc0) ?_
        refine xt_pure rfl rfl rfl (st1 := .int 1 :: _) rfl ?_
        refine xt_pure rfl rfl rfl rfl ?_
        refine xt_pure rfl rfl rfl rfl ?_
        refine xt_callS rfl rfl (by decide) rfl ⟨rfl, yle rfl, yle rfl, yle rfl, yle rfl⟩ mk_in (c2 := 4) (s2 := 59) ⟨yle rfl, yle rfl⟩ ?_
        rw [y6432, y6432, show (0 : Int64).toInt = 0 from rfl, la_in2 (by omega)]
        rintro _ _ (⟨rfl, hi, rfl⟩ | ⟨rfl, hi, rfl⟩)
        rotate_left
        · refine xt_pure rfl rfl rfl rfl ?_
          exact bad (by rw [deV, if_neg (by decide), if_pos ⟨by decide, by omega⟩])
        · refine xt_pure rfl rfl rfl rfl ?_
          exact md_tail (by decide) (by rw [deV, if_neg (by decide), if_neg (fun h => h.2 (by omega)), if_neg (fun h => absurd h.1 (by decide)), if_neg (fun h => h.1 (by decide))]) (fun h => absurd rfl h) (fun h => absurd h (by decide))
      refine xt_pure rfl rfl rfl rfl ?_
      refine xt_pure rfl rfl rfl rfl ?_
      refine xt_pure rfl rfl rfl (st1 := .int 4 :: _) rfl ?_
      refine xt_pure rfl rfl rfl rfl ?_
      refine xt_pure rfl rfl rfl (st1 := .int 12 :: _) rfl ?_
      refine yt_ic rfl rfl (fun _ => at17) (fun _ => ?_)
      refine xt_pure rfl rfl rfl rfl ?_
      refine xt_pure rfl rfl rfl (st1 := .int 7 :: _) rfl ?_
      refine xt_pure rfl rfl rfl rfl ?_
      exact at17
    · have e7i : s.toInt ≠ 7 := fun h => e7 (Int32.toInt_inj.mp h)
      have at17 : n.toInt ≤ 12 → (s.toInt = 4 → n.toInt ≤ 6) → yT X 4 200 255 17 [some (.ref 209), some (.int s), some (.int n)] [] ((209, .inl (14, 24, .int fl)) :: (209, .inl (14, 23, u)) :: D0) 4 59 (QdM fl s n u (deV En fl s n) D0) := by
        intro h12 h6
        refine xt_pure rfl rfl rfl rfl ?_
        refine xt_pure rfl rfl rfl (st1 := .int 7 :: _) rfl ?_
        refine yt_ic rfl rfl (fun _ => ?_) (fun (h : s = 7) => absurd h e7)
        exact md_tail h7 (by rw [deV, if_neg (fun h => h h7), if_neg (fun h => e7i h.1), if_neg (fun h => absurd (h6 h.1) (by omega)), if_neg (fun h => absurd h.2.2 (by omega))]) (fun _ => h12) h6
      refine xt_pure rfl rfl rfl rfl ?_
      refine xt_pure rfl rfl rfl rfl ?_
      refine xt_pure rfl rfl rfl (st1 := .int 4 :: _) rfl ?_
      by_cases e4 : s = 4
      · subst e4
        refine xt_pure rfl rfl rfl rfl ?_
        refine xt_pure rfl rfl rfl (st1 := .int 6 :: _) rfl ?_
        refine xt_pure rfl rfl rfl rfl ?_
        refine yt_ic rfl rfl (fun (h : n.toInt ≤ (6 : Int32).toInt) => at17 (by have : (6 : Int32).toInt = 6 := rfl; omega) (fun _ => by have : (6 : Int32).toInt = 6 := rfl; omega)) (fun (h : (6 : Int32).toInt < n.toInt) => ?_)
        refine xt_pure rfl rfl rfl rfl ?_
        refine xt_pure rfl rfl rfl (st1 := .int 7 :: _) rfl ?_
        refine xt_pure rfl rfl rfl rfl ?_
        exact bad (by rw [deV, if_neg (by decide), if_neg (fun h => absurd h.1 (by decide)), if_pos ⟨by decide, by have : (6 : Int32).toInt = 6 := rfl; omega⟩])
      · have e4i : s.toInt ≠ 4 := fun h => e4 (Int32.toInt_inj.mp h)
        refine yt_ic rfl rfl (fun _ => ?_) (fun (h : s = 4) => absurd h e4)
        refine xt_pure rfl rfl rfl (st1 := .int 12 :: _) rfl ?_
        refine yt_ic rfl rfl (fun (h : n.toInt ≤ (12 : Int32).toInt) => at17 (by have : (12 : Int32).toInt = 12 := rfl; omega) (fun h => absurd h e4i)) (fun (h : (12 : Int32).toInt < n.toInt) => ?_)
        refine xt_pure rfl rfl rfl rfl ?_
        refine xt_pure rfl rfl rfl (st1 := .int 7 :: _) rfl ?_
        refine yt_ic rfl rfl (fun _ => ?_) (fun (h : (7 : Int32).toInt ≤ s.toInt) => absurd h (by have : (7 : Int32).toInt = 7 := rfl; omega))
        exact bad (by rw [deV, if_neg (fun h => h h7), if_neg (fun h => e7i h.1), if_neg (fun h => e4i h.1), if_pos ⟨e7i, e4i, by have : (12 : Int32).toInt = 12 := rfl; omega⟩])
