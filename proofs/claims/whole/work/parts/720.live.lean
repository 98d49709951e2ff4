/-! READING EXPS: what never comes, does not come -/
def Bd (c m u : Int) (s : zP) : Prop := s.2.1 ≤ 250 ∧ (s.2.2.1.length : Int) ≤ 2 * s.2.1 + c ∧ (s.2.2.2.1.length : Int) ≤ s.2.1 + m ∧ (s.2.2.2.2.length : Int) ≤ s.2.1 + u
def Ok {β : Type} (c m u : Int) (n : Nat) (r : zF β) : Prop := match r with
  | .inl (s, _) => Bd c m u s ∧ n ≤ s.2.1
  | .inr none => False
  | .inr (some _) => True
section LIVE
variable {α β : Type} {c m u c' m' u' : Int} {n n' : Nat} {s : zP} {tk : List zK} {fg : Nat} {rl : Nat → Nat → zP → zF Nat} {ro : Nat → zP → zF Nat}
theorem Ok.bind {r : zF α} {f : zP → α → zF β} (h : Ok c m u n r) (g : ∀ s a, Bd c m u s → n ≤ s.2.1 → Ok c' m' u' n' (f s a)) : Ok c' m' u' n' (pb r f) := by
  rcases r with ⟨s, b⟩ | _ | k
  · exact g s b h.1 h.2
  · exact h
  · trivial
theorem Ok.mono {r : zF α} (h : Ok c m u n r) (hc : c ≤ c') (hm : m ≤ m') (hu : u ≤ u') (hn : n' ≤ n) : Ok c' m' u' n' r := by
  rcases r with ⟨s, b⟩ | _ | k
  · obtain ⟨⟨h1, h2, h3, h4⟩, h5⟩ := h
    exact ⟨⟨h1, by omega, by omega, by omega⟩, by omega⟩
  · exact h
  · trivial
theorem no_ok (h : Bd c m u s) : Ok (c - 2) (m - 1) (u - 1) (s.2.1 + 1) (sNo s) := by
  obtain ⟨h1, h2, h3, h4⟩ := h
  unfold sNo
  split
  · exact ⟨⟨by show s.2.1 + 1 ≤ 250; omega, by show (s.2.2.1.length : Int) ≤ 2 * ((s.2.1 + 1 : Nat) : Int) + (c - 2); omega, by show (s.2.2.2.1.length : Int) ≤ ((s.2.1 + 1 : Nat) : Int) + (m - 1); omega, by show (s.2.2.2.2.length : Int) ≤ ((s.2.1 + 1 : Nat) : Int) + (u - 1); omega⟩, Nat.le_refl _⟩
  · trivial
theorem em_ok {d w : Int32} (hc : c ≤ 58) (h : Bd c m u s) : Ok (c + 1) m u s.2.1 (sEm s d w) := by
  obtain ⟨h1, h2, h3, h4⟩ := h
  unfold sEm
  rw [if_pos (by omega)]
  exact ⟨⟨h1, by show ((s.2.2.1 ++ [(d, w)]).length : Int) ≤ 2 * (s.2.1 : Int) + (c + 1); rw [List.length_append]; simp; omega, h3, h4⟩, Nat.le_refl _⟩
theorem nd_ok {x : yNd} (hm : m ≤ 48) (h : Bd c m u s) : Ok c (m + 1) u s.2.1 (sNd s x) := by
  obtain ⟨h1, h2, h3, h4⟩ := h
  unfold sNd
  rw [if_pos (by omega)]
  exact ⟨⟨h1, h2, by show ((s.2.2.2.1 ++ [x]).length : Int) ≤ (s.2.1 : Int) + (m + 1); rw [List.length_append]; simp; omega, h4⟩, Nat.le_refl _⟩
theorem us_ok {x : zU} (hu : u ≤ -1) (h : Bd c m u s) : Ok c m (u + 1) s.2.1 (sUs s x) := by
  obtain ⟨h1, h2, h3, h4⟩ := h
  unfold sUs
  rw [if_pos (by omega)]
  exact ⟨⟨h1, h2, h3, by show ((s.2.2.2.2 ++ [x]).length : Int) ≤ (s.2.1 : Int) + (u + 1); rw [List.length_append]; simp; omega⟩, Nat.le_refl _⟩
theorem Bd.nx (h : Bd c m u s) : Bd c m u (sNx s) := h
theorem Bd.cd {i : Nat} {x : Int32 × Int32} (h : Bd c m u s) : Bd c m u (sCd s i x) := by
  obtain ⟨h1, h2, h3, h4⟩ := h
  exact ⟨h1, by show ((s.2.2.1.set i x).length : Int) ≤ _; rw [List.length_set]; exact h2, h3, h4⟩
theorem Bd.sn {i : Nat} {x : yNd} (h : Bd c m u s) : Bd c m u (sSn s i x) := by
  obtain ⟨h1, h2, h3, h4⟩ := h
  exact ⟨h1, h2, by show ((s.2.2.2.1.set i x).length : Int) ≤ _; rw [List.length_set]; exact h3, h4⟩
theorem Bd.su {i : Nat} {x : zU} (h : Bd c m u s) : Bd c m u (sSu s i x) := by
  obtain ⟨h1, h2, h3, h4⟩ := h
  exact ⟨h1, h2, h3, by show ((s.2.2.2.2.set i x).length : Int) ≤ _; rw [List.length_set]; exact h4⟩
theorem want_ok {k : Int32} (h : Bd c m u s) : Ok c m u s.2.1 (pWant tk k s) := by
  unfold pWant
  split
  · exact ⟨h.nx, Nat.le_refl _⟩
  · trivial
def OkL (rl : Nat → Nat → zP → zF Nat) (l i : Nat) : Prop := ∀ c m u s, c ≤ 58 → m ≤ 48 → u ≤ 0 → Bd c m u s → Ok c m u s.2.1 (rl l i s)
def OkO (ro : Nat → zP → zF Nat) (i : Nat) : Prop := ∀ c m u s, c ≤ 58 → m ≤ 48 → u ≤ 0 → Bd c m u s → Ok c m u s.2.1 (ro i s)
variable {i : Nat}
theorem between_ok (hl : i < 10 → OkL rl 0 (i + 1)) (hc : c ≤ 58) (hm : m ≤ 48) (hu : u ≤ 0) (h : Bd c m u s) : Ok c m u s.2.1 (pBetween rl i s) := by
  unfold pBetween pEnter
  split
  · rename_i h10
    exact hl h10 c m u (sNx s) hc hm hu h.nx
  · trivial
theorem try_ok (ho : i < 10 → OkO ro (i + 1)) (hc : c ≤ 58) (hm : m ≤ 48) (hu : u ≤ 0) (h : Bd c m u s) : Ok c m u s.2.1 (pTry tk ro i s) := by
  unfold pTry pEnter
  split
  · rename_i h10
    show Ok c m u s.2.1 (pb (sNo s) _)
    refine Ok.bind (no_ok h) fun s1 _ b1 n1 => Ok.bind (em_ok (by omega) b1.nx) fun s2 _ b2 n2 => Ok.bind (ho h10 _ _ _ _ (by omega) (by omega) (by omega) b2) fun s3 _ b3 n3 => Ok.bind (em_ok (by omega) b3) fun s4 _ b4 n4 => Ok.bind (want_ok b4.cd) fun s5 _ b5 n5 => Ok.bind (ho h10 _ _ _ _ (by omega) (by omega) (by omega) b5) fun s6 _ b6 n6 => (nd_ok (by omega) b6.cd).mono (by omega) (by omega) (by omega) ?_
    have n2 : s1.2.1 ≤ s2.2.1 := n2
    have n5 : s4.2.1 ≤ s5.2.1 := n5
    show s.2.1 ≤ s6.2.1
    omega
  · trivial
theorem use_ok {told x : Nat} (hu : u ≤ -1) (h : Bd c m u s) : Ok c m (u + 1) s.2.1 (pUse tk told x s) := by
  unfold pUse
  split
  · exact Ok.bind (us_ok hu h) fun s1 _ b1 n1 => ⟨b1.nx, n1⟩
  · trivial
theorem end_ok {d w : Int32} {v : Nat} {us : zU} {x : Nat} (hc : c ≤ 58) (h : Bd c m u s) : Ok (c + 1) m u s.2.1 (pEnd d w v us x s) := by
  unfold pEnd
  exact Ok.bind (em_ok hc h) fun s1 _ b1 n1 => ⟨b1.su, n1⟩
theorem named_ok (hl : i < 10 → OkL rl 0 (i + 1)) (hc : c ≤ 58) (hm : m ≤ 48) (hu : u ≤ 0) (h : Bd c m u s) : Ok c m u s.2.1 (pNamed tk fg rl i s) := by
  unfold pNamed
  refine Ok.bind (nd_ok hm h) fun s1 x b1 n1 => Ok.bind (no_ok b1) fun s2 _ b2 n2 => Ok.bind (use_ok (by omega) b2) fun s3 v b3 n3 => ?_
  split
  · by_cases hi : i < 10
    case neg =>
      unfold pBetween pEnter
      rw [if_neg hi]; trivial
    refine Ok.bind (between_ok hl (by omega) (by omega) (by omega) b3.su.sn) fun s4 a b4 n4 => ?_
    have n4 : s3.2.1 ≤ s4.2.1 := n4
    split
    · · refine Ok.bind (hl hi _ _ _ _ (by omega) (by omega) (by omega) b4.sn.nx) fun s5 _ b5 n5 => Ok.bind (want_ok b5.sn) fun s6 _ b6 n6 => (end_ok (by omega) b6).mono (by omega) (by omega) (by omega) ?_
        have n5 : s4.2.1 ≤ s5.2.1 := n5
        have n6 : s5.2.1 ≤ s6.2.1 := n6
        omega
    · refine Ok.bind (want_ok b4.sn) fun s6 _ b6 n6 => (end_ok (by omega) b6).mono (by omega) (by omega) (by omega) ?_
      have n6 : s4.2.1 ≤ s6.2.1 := n6
      omega
  · exact (end_ok (by omega) b3).mono (by omega) (by omega) (by omega) (by omega)
theorem asked2_ok {d so x : Nat} (hl : i < 10 → OkL rl 0 (i + 1)) (hc : c ≤ 58) (hm : m ≤ 48) (hu : u ≤ 0) (h : Bd c m u s) : Ok c m u s.2.1 (pAsked2 tk rl d i so x s) := by
  unfold pAsked2
  refine Ok.bind (no_ok h) fun s2 _ b2 n2 => Ok.bind (use_ok (by omega) b2) fun s3 v b3 n3 => ?_
  split
  · refine Ok.bind (between_ok hl (by omega) (by omega) (by omega) b3) fun s4 a b4 n4 => Ok.bind (want_ok b4.sn) fun s6 _ b6 n6 => (end_ok (by omega) b6).mono (by omega) (by omega) (by omega) ?_
    have n6 : s4.2.1 ≤ s6.2.1 := n6
    omega
  · exact (end_ok (by omega) b3).mono (by omega) (by omega) (by omega) (by omega)
theorem asked_ok {d : Nat} (hl : i < 10 → OkL rl 0 (i + 1)) (hc : c ≤ 58) (hm : m ≤ 48) (hu : u ≤ 0) (h : Bd c m u s) : Ok c m u s.2.1 (pAsked tk rl d i s) := by
  unfold pAsked
  refine Ok.bind (nd_ok hm h) fun s1 x b1 n1 => Ok.bind (no_ok b1) fun s2 _ b2 n2 => ?_
  have hS : Ok (c - 2) m (u - 1) s2.2.1 (if d = 10 then pSort tk (sNx s2) else .inl (sNx s2, 0)) := by
    split
    · unfold pSort
      split
      · exact ⟨by have := b2.nx.nx; rw [show m = m + 1 - 1 by omega]; exact this, Nat.le_refl _⟩
      · trivial
    · exact ⟨by have := b2.nx; rw [show m = m + 1 - 1 by omega]; exact this, Nat.le_refl _⟩
  refine Ok.bind hS fun s3 so b3 n3 => (asked2_ok hl (by omega) (by omega) (by omega) b3.sn).mono (by omega) (by omega) (by omega) ?_
  show s.2.1 ≤ s3.2.1
  omega
theorem base_ok (hl : i < 10 → OkL rl 0 (i + 1)) (ho : i < 10 → OkO ro (i + 1)) (hc : c ≤ 58) (hm : m ≤ 48) (hu : u ≤ 0) (h : Bd c m u s) : Ok c m u s.2.1 (pBase tk fg rl ro i s) := by
  unfold pBase
  split
  · refine Ok.bind (no_ok h) fun s1 _ b1 n1 => Ok.bind (em_ok (by omega) b1) fun s2 _ b2 n2 => Ok.bind (nd_ok (by omega) b2) fun s3 _ b3 n3 => ?_
    have : Ok (c - 2 + 1) (m - 1 + 1) (u - 1) s3.2.1 (.inl (sNx s3, (0 : Nat))) := ⟨b3.nx, Nat.le_refl _⟩
    obtain ⟨⟨h1, h2, h3, h4⟩, h5⟩ := this
    exact ⟨⟨h1, by omega, by omega, by omega⟩, by show s.2.1 ≤ s3.2.1; omega⟩
  split
  · exact named_ok hl hc hm hu h
  split
  · refine Ok.bind (between_ok hl hc hm hu h) fun s1 x b1 n1 => Ok.bind (want_ok b1) fun s2 _ b2 n2 => ⟨b2, by omega⟩
  split
  · exact asked_ok hl hc hm hu h
  split
  · exact asked_ok hl hc hm hu h
  split
  · exact asked_ok hl hc hm hu h
  split
  · exact asked_ok hl hc hm hu h
  split
  · exact try_ok ho hc hm hu h
  · trivial
theorem one_ok (hl : i < 10 → OkL rl 0 (i + 1)) (ho : i < 10 → OkO ro (i + 1)) : OkO (pOne tk fg rl ro) i := by
  intro c m u s hc hm hu h
  unfold pOne
  split
  · unfold pEnter
    split
    · rename_i h10
      show Ok c m u s.2.1 (pb (sNo s) _)
      refine Ok.bind (no_ok h) fun s1 _ b1 n1 => Ok.bind (ho h10 _ _ _ _ (by omega) (by omega) (by omega) b1.nx) fun s3 _ b3 n3 => Ok.bind (em_ok (by omega) b3) fun s4 _ b4 n4 => (nd_ok (by omega) b4).mono (by omega) (by omega) (by omega) ?_
      have n3 : s1.2.1 ≤ s3.2.1 := n3
      omega
    · trivial
  · exact base_ok hl ho hc hm hu h
theorem loop_ok {l : Nat} (hl : OkL rl (l + 1) i) : ∀ (f x : Nat) (s : zP) (c m u : Int), c ≤ 58 → m ≤ 48 → u ≤ 0 → 251 ≤ f + s.2.1 → Bd c m u s → Ok c m u s.2.1 (pLoop tk rl f l i x s)
  | 0, x, s, c, m, u, _, _, _, hf, h => by have := h.1; omega
  | f + 1, x, s, c, m, u, hc, hm, hu, hf, h => by
    rw [pLoop]
    split
    · refine Ok.bind (no_ok h) fun s1 _ b1 n1 => ?_
      have hS : Ok (c - 1) (m - 1) (u - 1) s1.2.1 (if l < 2 then sEm (sNx s1) (if kd tk s.1 = 219 then 3 else 4) 0 else .inl (sNx s1, 0)) := by
        split
        · exact (em_ok (by omega) b1.nx).mono (by omega) (by omega) (by omega) (Nat.le_refl _)
        · obtain ⟨h1, h2, h3, h4⟩ := b1.nx
          exact ⟨⟨h1, by omega, by omega, by omega⟩, Nat.le_refl _⟩
      refine Ok.bind hS fun s2 sk b2 n2 => Ok.bind (hl _ _ _ _ (by omega) (by omega) (by omega) b2) fun s3 x3 b3 n3 => Ok.bind (em_ok (by omega) b3) fun s4 _ b4 n4 => ?_
      have b5 : Bd (c - 1 + 1) (m - 1) (u - 1) (if l < 2 then sCd s4 sk (if kd tk s.1 = 219 then 3 else 4, Int32.ofNat s4.2.2.1.length) else s4) ∧ (if l < 2 then sCd s4 sk (if kd tk s.1 = 219 then 3 else 4, Int32.ofNat s4.2.2.1.length) else s4).2.1 = s4.2.1 := by
        split
        · exact ⟨b4.cd, rfl⟩
        · exact ⟨b4, rfl⟩
      refine Ok.bind (nd_ok (by omega) b5.1) fun s6 x6 b6 n6 => ?_
      rw [b5.2] at n6
      obtain ⟨h1, h2, h3, h4⟩ := b6
      have b7 : Bd c m u s6 := ⟨h1, by omega, by omega, by omega⟩
      split
      · exact ⟨b7, by omega⟩
      · exact (loop_ok hl f x6 s6 c m u hc hm hu (by omega) b7).mono (Int.le_refl _) (Int.le_refl _) (Int.le_refl _) (by omega)
    · exact ⟨h, Nat.le_refl _⟩
theorem level_ok {l : Nat} (h4 : l ≤ 4) (hl : OkL rl (l + 1) i) : OkL (pLevel tk rl ro) l i := by
  intro c m u s hc hm hu h
  unfold pLevel
  rw [if_pos h4]
  exact Ok.bind (hl c m u s hc hm hu h) fun s1 x b1 n1 => (loop_ok hl 251 x s1 c m u hc hm hu (by omega) b1).mono (Int.le_refl _) (Int.le_refl _) (Int.le_refl _) n1
end LIVE
theorem ok_fix {tk : List zK} {fg : Nat} : ∀ n : Nat, (∀ l i, l ≤ 5 → i ≤ 10 → 77 ≤ n + l + 7 * i → OkL (pFix tk fg n).1 l i) ∧ (∀ i, i ≤ 10 → 71 ≤ n + 7 * i → OkO (pFix tk fg n).2 i)
  | 0 => ⟨fun l i h1 h2 h3 => by omega, fun i h1 h2 => by omega⟩
  | n + 1 => by
    obtain ⟨h1, h2⟩ := ok_fix (tk := tk) (fg := fg) n
    refine ⟨?_, ?_⟩
    · intro l i hl hi hn
      show OkL (pLevel tk (pFix tk fg n).1 (pFix tk fg n).2) l i
      by_cases h4 : l ≤ 4
      · exact level_ok h4 (h1 (l + 1) i (by omega) hi (by omega))
      · intro c m u s hc hm hu h
        unfold pLevel
        rw [if_neg h4]
        exact h2 i hi (by omega) c m u s hc hm hu h
    · intro i hi hn
      exact one_ok (fun h10 => h1 0 (i + 1) (by omega) (by omega) (by omega)) (fun h10 => h2 (i + 1) (by omega) (by omega))
