/-! EXPORT: the class -/
section EXPORT
variable {X : List Int32} {D0 : List xE} {Fs : List yF} {R : List yDR} {En : List (Int64 × Int32)} {Q S : zS} {bs : List Int32} {x : Int32}
theorem xcpy_I {l k : List Int32} {n : Nat} : xcpy (l.map Value.int) (k.map Value.int) 0 0 n = (l.take n ++ k.drop n).map Value.int := by
  unfold xcpy
  rw [List.take_zero, List.nil_append, List.drop_zero, Nat.zero_add, List.map_append, List.map_take, List.map_drop]
theorem xisI_map {l : List Int32} : ∀ v ∈ l.map Value.int, (if (0 : Nat) = 0 then xisI v else xisJ v) = true := by
  intro v hv
  obtain ⟨x, _, rfl⟩ := List.mem_map.mp hv
  rfl
theorem KC.take {Q S : zS} {bs : List Int32} (h : KC Q S bs) (hl : bs.length ≤ 3200) : (zA S 5).take bs.length = bs := by
  apply List.ext_getElem?
  intro i
  rw [List.getElem?_take]
  split
  · rename_i hi
    rw [h.2.2.1 i bs[i] (List.getElem?_eq_getElem hi), List.getElem?_eq_getElem hi]
  · rename_i hi
    rw [List.getElem?_eq_none (by omega)]
/-- the disk behind an export: what is laid, and what lay behind it -/
def exD (bs dk : List Int32) : List Int32 := bs ++ dk.drop bs.length
theorem exD_len {bs dk : List Int32} (h : bs.length ≤ dk.length) : (exD bs dk).length = dk.length := by
  unfold exD
  rw [List.length_append, List.length_drop]; omega
theorem ck_save (hK : KC Q S bs) (hb : bs.length ≤ 3200) (l4 : (zA S 4).length = 1200) : yK X 1 100 196 [.ref 206] (zD zTK zaK S D0) 0 0 (fun a D => (1200 < bs.length ∧ a = some (.int 0) ∧ D = zD zTK zaK S D0) ∨ (bs.length ≤ 1200 ∧ a = some (.int 1) ∧ D = zD zTK zaK (zsI (zsA S 4 (exD bs (zA S 4))) 0 (Int32.ofNat bs.length)) D0)) := by
  refine yK.of rfl (yle rfl) (L := [_]) rfl ?_
  refine xt_pure rfl rfl rfl rfl ?_
  refine xt_getf rfl rfl (xmD 1 rfl) ?_
  refine xt_pure rfl rfl rfl (st1 := .int 1200 :: _) rfl ?_
  rw [show zI S 1 = Int32.ofNat bs.length from hK.1]
  refine yt_ic rfl rfl (fun hc => ?_) (fun hc => ?_)
  · have hc : (Int32.ofNat bs.length).toInt ≤ 1200 := hc
    rw [yi_nat (by omega)] at hc
    have hn : (Int32.ofNat bs.length).toNatClampNeg = bs.length := by rw [(yjn (by rw [yi_nat (by omega)]; omega)).2, yi_nat (by omega)]; rfl
    have hz : (0 : Int32).toNatClampNeg = 0 := rfl
    refine xt_pure rfl rfl rfl rfl ?_
    refine xt_getf rfl rfl (xmC 175 rfl) ?_
    refine xt_pure rfl rfl rfl (st1 := .int 0 :: _) rfl ?_
    refine xt_pure rfl rfl rfl rfl ?_
    refine xt_getf rfl rfl (xmC 174 rfl) ?_
    refine xt_pure rfl rfl rfl (st1 := .int 0 :: _) rfl ?_
    refine xt_pure rfl rfl rfl rfl ?_
    refine xt_getf rfl rfl (xmD 1 rfl) ?_
    rw [show zI S 1 = Int32.ofNat bs.length from hK.1]
    refine xt_acpy rfl rfl rfl (sk := 208) (t := 0) (vs := (zA S 5).map Value.int) (List.mem_of_getElem? (i := 5) rfl) 4 (ws := (zA S 4).map Value.int) rfl ⟨by decide, by decide, by decide, (yjn (by rw [yi_nat (by omega)]; omega)).1, by rw [hn, hz, List.length_map, hK.2.1]; omega, by rw [hn, hz, List.length_map, l4]; omega⟩ xisI_map ⟨by decide, by decide, by decide⟩ (D1 := zD zTK zaK (zsA S 4 (exD bs (zA S 4))) D0) ?_ ?_
    · rw [hn, hz, xcpy_I, hK.take hb]; rfl
    refine xt_pure rfl rfl rfl rfl ?_
    refine xt_pure rfl rfl rfl rfl ?_
    refine xt_getf rfl rfl (xmD 1 rfl) ?_
    rw [show zI (zsA S 4 (exD bs (zA S 4))) 1 = Int32.ofNat bs.length from hK.1]
    refine xt_putf rfl rfl rfl rfl 0 rfl (D1 := zD zTK zaK (zsI (zsA S 4 (exD bs (zA S 4))) 0 (Int32.ofNat bs.length)) D0) rfl ?_
    refine xt_pure rfl rfl rfl (st1 := .int 1 :: _) rfl ?_
    exact xt_iret rfl rfl rfl rfl (Or.inr ⟨by omega, rfl, rfl⟩)
  · have hc : 1200 < (Int32.ofNat bs.length).toInt := hc
    rw [yi_nat (by omega)] at hc
    refine xt_pure rfl rfl rfl (st1 := .int 0 :: _) rfl ?_
    exact xt_iret rfl rfl rfl rfl (Or.inl ⟨by omega, rfl, rfl⟩)
theorem cK_export (hR : DrC Fs R En D0) (hK : KC Q S bs) (l4 : (zA S 4).length = 1200) : yK X 10 300 195 [.ref 78, .int x] (zD zTK zaK S D0) 0 0 (fun a D => (gI R x = none ∧ a = some (.int (-1)) ∧ D = zD zTK zaK S D0) ∨ (∃ r F S', gI R x = some r ∧ Fs[r.2.2.2.2.2.1]? = some F ∧ 1200 < (drB r.2.2.2.2.2.2.1 F.1.length 0).length ∧ a = some (.int (-3)) ∧ D = zD zTK zaK S' D0 ∧ KC S S' (drB r.2.2.2.2.2.2.1 F.1.length 0)) ∨ ∃ r F S', gI R x = some r ∧ Fs[r.2.2.2.2.2.1]? = some F ∧ (drB r.2.2.2.2.2.2.1 F.1.length 0).length ≤ 1200 ∧ a = some (.int (Int32.ofNat (drB r.2.2.2.2.2.2.1 F.1.length 0).length)) ∧ D = zD zTK zaK S' D0 ∧ KC S' S' (drB r.2.2.2.2.2.2.1 F.1.length 0) ∧ zI S' 0 = Int32.ofNat (drB r.2.2.2.2.2.2.1 F.1.length 0).length ∧ zA S' 4 = exD (drB r.2.2.2.2.2.2.1 F.1.length 0) (zA S 4)) := by
  have hK : KC S S bs := ⟨hK.1, hK.2.1, hK.2.2.1, rfl, rfl, rfl, rfl⟩
  refine yK.of rfl (yle rfl) (L := [_, _, _]) rfl ?_
  refine xt_pure rfl rfl rfl rfl ?_
  refine xt_pure rfl rfl rfl rfl ?_
  refine xt_callV rfl rfl rfl rfl (xmC 115 rfl) ⟨rfl, rfl, yle rfl, yle rfl, yle rfl, yle rfl⟩ (ck_draftAt (hR.1.mono inK)) (c2 := 0) (s2 := 0) ⟨yle rfl, yle rfl⟩ ?_
  rintro _ _ (⟨rfl, hg, rfl⟩ | ⟨rfl, r, hg, rfl⟩)
  · skip
    refine xt_pure rfl rfl rfl (L1 := [_, _, _]) rfl ?_
    refine xt_pure rfl rfl rfl rfl ?_
    refine xt_pure rfl rfl rfl rfl ?_
    refine xt_pure rfl rfl rfl (st1 := .int (-1) :: _) rfl ?_
    exact xt_iret rfl rfl rfl rfl (Or.inl ⟨hg, rfl, rfl⟩)
  · obtain ⟨d1, F, d2, d3⟩ := hR.2 r (dr_mem hg)
    refine xt_pure rfl rfl rfl (L1 := [_, _, _]) rfl ?_
    refine xt_pure rfl rfl rfl rfl ?_
    refine xt_pure rfl rfl rfl rfl ?_
    refine xt_pure rfl rfl rfl rfl ?_
    refine xt_getf rfl rfl (xmC 126 rfl) ?_
    refine xt_pure rfl rfl rfl rfl ?_
    refine xt_callV rfl rfl rfl rfl (xmC 173 rfl) ⟨rfl, rfl, yle rfl, yle rfl, yle rfl, yle rfl⟩ (ck_layDraft d1 d3 hK) (c2 := 0) (s2 := 0) ⟨yle rfl, yle rfl⟩ ?_
    rintro _ _ ⟨S', rfl, rfl, e2⟩
    obtain ⟨q1, hok, ⟨refs, q3, q4⟩, q5, q6, q7, ja, q8⟩ := d3
    obtain ⟨_, _, _, _, _, hl20, _⟩ := hok
    obtain ⟨As, a1, a2⟩ := q4.han hl20 q5
    have hb : (drB r.2.2.2.2.2.2.1 F.1.length 0).length ≤ 3200 := drB_le a2 hl20
    have h4 : zA S' 4 = zA S 4 := e2.2.2.2.2.2.2
    refine xt_pure rfl rfl rfl rfl ?_
    refine xt_getf rfl rfl (xmC 126 rfl) ?_
    refine xt_callV rfl rfl rfl rfl (xmC 173 rfl) ⟨rfl, rfl, yle rfl, yle rfl, yle rfl, yle rfl⟩ (ck_save e2 hb (by rw [h4]; exact l4)) (c2 := 0) (s2 := 0) ⟨yle rfl, yle rfl⟩ ?_
    rintro _ _ (⟨g1, rfl, rfl⟩ | ⟨g1, rfl, rfl⟩)
    · skip
      refine xt_pure rfl rfl rfl rfl ?_
      refine xt_pure rfl rfl rfl (st1 := .int (-3) :: _) rfl ?_
      exact xt_iret rfl rfl rfl rfl (Or.inr (Or.inl ⟨r, F, S', hg, d2, g1, rfl, rfl, e2⟩))
    · skip
      refine xt_pure rfl rfl rfl rfl ?_
      refine xt_pure rfl rfl rfl rfl ?_
      refine xt_getf rfl rfl (xmC 126 rfl) ?_
      refine xt_getf rfl rfl (xmD 0 rfl) ?_
      refine xt_pure rfl rfl rfl rfl ?_
      refine xt_iret rfl rfl rfl rfl (Or.inr (Or.inr ⟨r, F, _, hg, d2, g1, rfl, rfl, ⟨e2.1, e2.2.1, e2.2.2.1, rfl, rfl, rfl, rfl⟩, rfl, ?_⟩))
      show exD _ (zA S' 4) = _
      rw [h4]
end EXPORT
