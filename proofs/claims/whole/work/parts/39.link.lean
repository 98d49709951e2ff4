/-! THE CLAIM OUT OF A STATEMENT ABOUT THE ABSTRACT MACHINE ALONE -/
theorem xframed {s t : State} {o : Outcome} {L : List Loc} {mc ms : Nat} (h : FrameEnd s o t L mc ms) (hf : ∀ q ∈ L, s.heap.size ≤ q.base) : Framed s o t [] mc ms :=
  ⟨h.1, h.2.1, h.2.2.weaken (fun y hy hlt => absurd hlt (Nat.not_lt.mpr (hf y hy))) (Nat.le_refl _) (Nat.le_refl _)⟩
/-- on a script the abstract machine's law answers 1, in the claim's room -/
def xRuns (xs : List Int32) : Prop := ∃ (f : Nat) (h' : xH), xex xcns xpr f 2000 80000 345 0 [some (.ref 0), none, none, none] [] (xh0 xs) = some (some (.int 1), h') ∧ h'.length ≤ 78 + 600000 ∧ xsl h' ≤ xsl (xh0 xs) + 7302250
theorem xwhole {p : Program} {e : Env} {s : State} {m : MethodId} {below : List Frame} {meth : Method} {c : Code} (l : Launch) {b L : Nat} {xs : Nat → Int32} (hp : xRuns ((List.range L).map xs)) (C0 : lw_At p s m meth c b L xs) : W p l e room_1 s m #[Value.ref b] below meth c s.heap [] 0 0 (lw_Z below #[Value.ref b] s) (entryFrame m ([Value.ref b] : List Value).toArray 4) := by
  obtain ⟨ad, D, hAd, hCx, hHR, had0⟩ := xstart C0
  obtain ⟨hx, hb, hr, hml, hown, hts, hX, hbl, hlocks, hgv⟩ := C0
  obtain ⟨f, h', hex, hc, hs⟩ := hp
  have hlen : (xh0 ((List.range L).map xs)).length = 78 := by
    show xoldS.length + 1 + 1 = 78
    rw [xold_n]
  have hmo := xmono _ _ _ _ _ _ _ _ _ _ hex
  have m1 := hmo.1
  have m2 := hmo.2
  rw [hlen] at m1
  have hE := xLR.entry ad [.ref 0] (n := 4) (by decide)
  have hsound := xsound (D := D) (ad := ad) (b0 := s.heap.size) (H0 := s.heap) xkk xok_all hAd l f
  have hW := hsound 2000 80000 345 0 [some (.ref 0), none, none, none] [] _ _ _ hex xm_345 (.new 7, 0, 11, 0, 0) rfl rfl (p := p) (e := e) (R := room_1) (s := s) (m := m) (args := #[Value.ref b]) (below := below) (meth := meth) (c := c) (H := s.heap) (locs := []) (cells := 600000 - (h'.length - 78)) (slots := 7302250 - (xsl h' - xsl (xh0 ((List.range L).map xs)))) hx hb hml hr hlocks hown (fun h => absurd h (by decide)) hCx hE (by rw [hE.1]; rfl) hHR (fun q hq => by cases hq) (by rw [hlen]; show _ = 600000; omega) (by show _ = 7302250; omega) (by decide) (by decide)
  refine W.widen (k := 600000 - (h'.length - 78)) (n := 7302250 - (xsl h' - xsl (xh0 ((List.range L).map xs)))) (Nat.zero_le _) (Nat.zero_le _) ?_
  rw [lg_entry_eq]
  intro T hT X
  have hl : (lg_sl (([.ref 0] : List Value).map (xcn ad)) ++ List.replicate (4 - (lg_sl (([.ref 0] : List Value).map (xcn ad))).length) Slot.unset).toArray = (lg_sl [Value.ref b] ++ List.replicate (4 - (lg_sl [Value.ref b]).length) Slot.unset).toArray := by
    show (lg_sl [Value.ref (ad 0)] ++ _).toArray = _
    rw [had0]
    rfl
  rw [hl] at hW
  obtain ⟨t, a1, o, b1, b2, b3, L', b4, b5⟩ := hW T hT X
  exact ⟨t, a1, o, b1, b2, b3.1, xframed b4 b5⟩
