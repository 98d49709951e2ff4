/-! THE BEGINNING: these entries hold behind the constructors -/
def xsatB (h : xH) (e : xE) : Bool := match e with
  | (k, .inl (c, j, v)) => match h[k]? with
    | some (.inl (c2, fs)) => decide (c2 = c) && decide (fs[j]? = some v)
    | _ => false
  | (k, .inr (t, vs)) => match h[k]? with
    | some (.inr (t2, ws)) => decide (t2 = t) && decide (ws = vs)
    | _ => false
theorem xsatB_ok {h : xH} {e : xE} (q : xsatB h e = true) : xsat h e := by
  obtain ⟨k, ⟨c, j, v⟩ | ⟨t, vs⟩⟩ := e
  · unfold xsatB at q
    dsimp only at q
    split at q
    · rename_i c2 fs hk
      rw [Bool.and_eq_true, decide_eq_true_eq, decide_eq_true_eq] at q
      exact ⟨fs, by rw [hk, q.1], q.2⟩
    · cases q
  · unfold xsatB at q
    dsimp only at q
    split at q
    · rename_i t2 ws hk
      rw [Bool.and_eq_true, decide_eq_true_eq, decide_eq_true_eq] at q
      show h[k]? = some (.inr (t, vs))
      rw [hk, q.1, q.2]
    · cases q
def xsatT (h : xH) (e : xE) : Bool := decide (1 ≤ e.1) && xsatB h (e.1 - 1, e.2)
theorem xsatT_ok {h : xH} {e : xE} {c : xC} (q : xsatT h e = true) : xsat (c :: h) e := by
  unfold xsatT at q
  rw [Bool.and_eq_true, decide_eq_true_eq] at q
  have s := xsatB_ok q.2
  obtain ⟨k, r⟩ := e
  obtain ⟨k1, rfl⟩ : ∃ k1, k = k1 + 1 := ⟨k - 1, by have h1 : 1 ≤ k := q.1; omega⟩
  rcases r with ⟨c1, j, v⟩ | ⟨t, vs⟩
  · obtain ⟨fs, s1, s2⟩ := s
    exact ⟨fs, s1, s2⟩
  · exact s
def hT0 : xH := xold1 ++ (xnewF ++ xnewM)
theorem xh1_cons (xs : List Int32) : xh1 xs = .inr (0, xs.map Value.int) :: hT0 := rfl
set_option maxRecDepth 1000000 in
theorem sat0 : (dAll ++ xcon1).all (xsatT hT0) = true := by decide +kernel
set_option maxRecDepth 1000000 in
theorem ge0 : dAll.all (fun e => decide (78 ≤ e.1)) = true := by decide +kernel
/-- keys as numbers, all different -/
def ndB : List (Nat × Nat) → Bool
  | [] => true
  | a :: l => l.all (fun b => !(Nat.beq a.1 b.1 && Nat.beq a.2 b.2)) && ndB l
theorem ndB_ok : ∀ {l : List (Nat × Nat)}, ndB l = true → l.Nodup
  | [], _ => List.nodup_nil
  | a :: l, h => by
    unfold ndB at h
    rw [Bool.and_eq_true] at h
    refine List.nodup_cons.mpr ⟨fun hm => ?_, ndB_ok h.2⟩
    have := List.all_eq_true.mp h.1 a hm
    simp at this
set_option maxRecDepth 1000000 in
theorem nd0 : ndB (dAll.map xkey ++ (0, 0) :: xcon1.map xkey) = true := by decide +kernel
theorem xho0 (X : List Int32) : xHo X dAll (xh1 X) := by
  refine ⟨?_, fun e he => ?_, fun e he => of_decide_eq_true (List.all_eq_true.mp ge0 e he)⟩
  · have e1 : (dAll ++ xcon X).map xkey = dAll.map xkey ++ (0, 0) :: xcon1.map xkey := by
      rw [List.map_append]
      rfl
    rw [e1]
    exact ndB_ok nd0
  · rcases List.mem_append.mp he with he | he
    · rw [xh1_cons]
      exact xsatT_ok (List.all_eq_true.mp sat0 e (List.mem_append_left _ he))
    · rcases List.mem_cons.mp he with rfl | he
      · rfl
      · rw [xh1_cons]
        exact xsatT_ok (List.all_eq_true.mp sat0 e (List.mem_append_right _ he))
set_option maxRecDepth 1000000 in
theorem sl_new : xsl (xnewF ++ xnewM) ≤ 60000 := by decide +kernel
theorem len_new : (xnewF ++ xnewM).length = 189 := by decide +kernel
theorem xsl_1 (xs : List Int32) : xsl (xh1 xs) ≤ xsl (xh0 xs) + 60000 := by
  have e : xh1 xs = xh0 xs ++ (xnewF ++ xnewM) := rfl
  rw [e, xsl_app]
  have := sl_new
  omega
theorem len_1 (xs : List Int32) : (xh1 xs).length = 267 := by
  have e : xh1 xs = xh0 xs ++ (xnewF ++ xnewM) := rfl
  rw [e, List.length_append, len_new, xh0_n]
