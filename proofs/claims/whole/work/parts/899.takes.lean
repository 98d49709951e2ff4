/-! CALLS OVER BLOCKS: take -/
def tkAn (Fs : List yF) (Dr : List yD) (En : List (Int64 × Int32)) (dk : List Int32) (x : Int32) : Int32 := match gI Fs x with
  | none => -1
  | some F => if Dr.length = 30 then -3 else match rdAll En F 1200 0 dk (List.replicate 20 none) 0 with
    | (none, j) => -10 - Int32.ofNat j
    | (some _, _) => Int32.ofNat Dr.length
def tkDr (Fs : List yF) (Dr : List yD) (En : List (Int64 × Int32)) (dk : List Int32) (x : Int32) : List yD := match gI Fs x with
  | none => Dr
  | some F => if Dr.length = 30 then Dr else match rdAll En F 1200 0 dk (List.replicate 20 none) 0 with
    | (none, _) => Dr
    | (some A, _) => Dr ++ [(x.toInt.toNat, A, [], -9, 0)]
section TAKB
variable {X : List Int32} {N B B2 B3 B4 B5 B6 D Rm : List xE} {Fs : List yF} {Dr : List yD} {En : List (Int64 × Int32)} {dk : List Int32} {ev x y : Int32} {fd : List yFd} {to : Int32 × Int32 × Int32} {va : Int64} {gv : Nat}
theorem tk_1 (h : gI Fs x = none) : tkAn Fs Dr En dk x = -1 ∧ tkDr Fs Dr En dk x = Dr := by
  rw [tkAn, tkDr, h]
  exact ⟨rfl, rfl⟩
theorem tk_3 {F : yF} (h : gI Fs x = some F) (h2 : Dr.length = 30) : tkAn Fs Dr En dk x = -3 ∧ tkDr Fs Dr En dk x = Dr := by
  rw [tkAn, tkDr, h]
  exact ⟨if_pos h2, if_pos h2⟩
theorem tk_no {F : yF} {j : Nat} (h : gI Fs x = some F) (h2 : Dr.length < 30) (h3 : rdAll En F 1200 0 dk (List.replicate 20 none) 0 = (none, j)) : tkAn Fs Dr En dk x = -10 - Int32.ofNat j ∧ tkDr Fs Dr En dk x = Dr := by
  rw [tkAn, tkDr, h]
  refine ⟨(if_neg (by omega)).trans ?_, (if_neg (by omega)).trans ?_⟩
  · rw [h3]
  · rw [h3]
theorem tk_ok {F : yF} {j : Nat} {A : List (Option yO)} (h : gI Fs x = some F) (h2 : Dr.length < 30) (h3 : rdAll En F 1200 0 dk (List.replicate 20 none) 0 = (some A, j)) : tkAn Fs Dr En dk x = Int32.ofNat Dr.length ∧ tkDr Fs Dr En dk x = Dr ++ [(x.toInt.toNat, A, [], -9, 0)] := by
  rw [tkAn, tkDr, h]
  refine ⟨(if_neg (by omega)).trans ?_, (if_neg (by omega)).trans ?_⟩
  · rw [h3]
  · rw [h3]
/-- the disk, as take sees it -/
def zKZ (S : zS) : zS := (fun i => ([zI S 0, zI S 2, zI S 3] : List Int32).getD i 0, fun _ => 0, fun _ => .null, fun i => if i = 3 then zA S 4 else [], fun _ => [], fun _ => [])
theorem kz_cn {φ : xE → Nat} {S S' : zS} {L : List xE} (h : zI S' 0 = zI S 0 ∧ zA S' 3 = zA S 4) : cn φ (zD zTZ zaZ S' L) + φ (206, .inl (0, 4, .int (zI S 1))) + φ (208, .inr (0, (zA S 5).map Value.int)) = cn φ (zE zaK (zsI (zsI S 2 (zI S' 1)) 3 (zI S' 2)) 0 zTK) + cn φ L := by
  have e1 : zD zTZ zaZ S' L = (206, .inl (0, 2, .int (zI S' 0))) :: (206, .inl (0, 5, .int (zI S' 1))) :: (206, .inl (0, 6, .int (zI S' 2))) :: (207, .inr (0, (zA S' 3).map Value.int)) :: L := rfl
  have e2 : zE zaK (zsI (zsI S 2 (zI S' 1)) 3 (zI S' 2)) 0 zTK = [(206, .inl (0, 2, .int (zI S 0))), (206, .inl (0, 4, .int (zI S 1))), (206, .inl (0, 5, .int (zI S' 1))), (206, .inl (0, 6, .int (zI S' 2))), (207, .inr (0, (zA S 4).map Value.int)), (208, .inr (0, (zA S 5).map Value.int))] := rfl
  rw [e1, e2, h.1, h.2]
  simp only [cn_c, cn_n]
  omega
theorem oC_take (hF : pFs Fs) (hD : pDr Fs En Dr) (hf : cFs Fs N B3) (hE : cLe En B4) (h : cDr Fs Dr N B) (hk : cKd dk B2) (s3 : B3 ⊆ Rm) (s4 : B4 ⊆ Rm) (sN : N ⊆ Rm) : yK X 30 1000 200 [.ref 78, .int x] (B ++ (B2 ++ Rm)) 182 1307 (fun w D => w = some (.int (tkAn Fs Dr En dk x)) ∧ ∃ B' B2' G, D.Perm (B' ++ (B2' ++ (G ++ Rm))) ∧ cDr Fs (tkDr Fs Dr En dk x) (G ++ N) B' ∧ cKd dk B2') := by
  have h0 := h
  have hk0 := hk
  obtain ⟨R, rfl, rfl, h3⟩ := h.R
  obtain ⟨S, jk, bs, rfl, k1, k2, k3, k4, k5, k6, k7, k8⟩ := hk
  obtain ⟨ja, js, e1, e2, rfl⟩ := hE
  have l30 := hD.l30
  have hkz : zI (zKZ S) 0 = zI S 0 ∧ zA (zKZ S) 3 = zA S 4 := ⟨rfl, rfl⟩
  have hself : zE zaK (zsI (zsI S 2 (zI (zKZ S) 1)) 3 (zI (zKZ S) 2)) 0 zTK = zE zaK S 0 zTK := rfl
  have pm : ((109, .inr (6, R.map (fun r => Value.ref r.1) ++ List.replicate (30 - R.length) Value.null)) :: (78, .inl (11, 8, .int (Int32.ofNat R.length))) :: zD zTZ zaZ (zKZ S) ((206, .inl (0, 4, .int (zI S 1))) :: (208, .inr (0, (zA S 5).map Value.int)) :: (R.flatMap dfR ++ Rm)) : List xE).Perm (cRE R ++ (zE zaK S 0 zTK ++ Rm)) := pq fun φ => by
    have := kz_cn (φ := φ) (L := (206, .inl (0, 4, .int (zI S 1))) :: (208, .inr (0, (zA S 5).map Value.int)) :: (R.flatMap dfR ++ Rm)) hkz
    rw [hself] at this
    simp only [cn_c, cn_a, cn_n, cRE] at this ⊢
    omega
  refine yK.perm pm.symm ?_
  refine yK.nd fun nd => ?_
  have u1 : Rm ⊆ (206, .inl (0, 4, .int (zI S 1))) :: (208, .inr (0, (zA S 5).map Value.int)) :: (R.flatMap dfR ++ Rm) := fun e he => List.mem_cons_of_mem _ (List.mem_cons_of_mem _ (List.mem_append_right _ he))
  have nd2 : (((206, .inl (0, 4, .int (zI S 1))) :: (208, .inr (0, (zA S 5).map Value.int)) :: (R.flatMap dfR ++ Rm) : List xE).map xkey).Nodup := by
    refine nd.sublist (List.Sublist.map _ ?_)
    exact ((List.sublist_append_right _ _).trans (List.sublist_cons_self _ _)).trans (List.sublist_cons_self _ _)
  have hdk : (zA (zKZ S) 3).take dk.length = dk := by
    show (zA S 4).take dk.length = dk
    rw [k2, List.take_left]
  refine (cK_take (En := En) (S := zKZ S) (n := R.length) (vs := R.map (fun r => Value.ref r.1) ++ List.replicate (30 - R.length) Value.null) (js := js) (m := dk.length) (hf.use (fun e he => u1 (s3 he)) (fun e he => u1 (sN he))) hF (by omega) (u1 (s4 (by simp))) (u1 (s4 (by simp))) l30 (by rw [List.length_append, List.length_map, List.length_replicate]; omega) k1 (by omega) (by show (zA S 4).length = 1200; rw [k2, List.length_append]; exact k3) (by show byR (zA S 4); rw [k2]; exact k4)).mono (Nat.le_refl _) (Nat.le_refl _) ?_
  rw [hdk]
  rintro a D (⟨g1, rfl, rfl⟩ | ⟨F, g1, g2, rfl, rfl⟩ | ⟨F, j, S', G, g1, g2, g3, g4, rfl, rfl, q1, q2⟩ | ⟨F, j, A', fa, da, aa, refs', S', N', g1, g2, g3, ⟨g4, -⟩, rfl, rfl, ⟨q1, q2⟩, q3⟩)
  · obtain ⟨e1, e2⟩ := tk_1 (Dr := R.map fun r => r.2.2.2.2.2) (En := En) (dk := dk) g1
    rw [e1, e2]
    exact ⟨rfl, _, _, [], pm, h0, hk0⟩
  · obtain ⟨e1, e2⟩ := tk_3 (Dr := R.map fun r => r.2.2.2.2.2) (En := En) (dk := dk) g1 (by rw [List.length_map]; exact g2)
    rw [e1, e2]
    exact ⟨rfl, _, _, [], pm, h0, hk0⟩
  · obtain ⟨e1, e2⟩ := tk_no (Dr := R.map fun r => r.2.2.2.2.2) g1 (by rw [List.length_map]; exact g2) g3
    rw [e1, e2]
    refine ⟨rfl, cRE R, zE zaK (zsI (zsI S 2 (zI S' 1)) 3 (zI S' 2)) 0 zTK, G, pq fun φ => ?_, cDr.mono (List.subset_append_right _ _) h0, zsI (zsI S 2 (zI S' 1)) 3 (zI S' 2), jk, bs, rfl, k1, k2, k3, k4, k5, k6, k7, rfl, rfl, rfl, rfl⟩
    have := kz_cn (φ := φ) (S := S) (S' := S') (L := G ++ ((206, .inl (0, 4, .int (zI S 1))) :: (208, .inr (0, (zA S 5).map Value.int)) :: (R.flatMap dfR ++ Rm))) ⟨q1, q2⟩
    simp only [cn_c, cn_a, cn_n, cRE] at this ⊢
    omega
  · obtain ⟨e1, e2⟩ := tk_ok (Dr := R.map fun r => r.2.2.2.2.2) g1 (by rw [List.length_map]; exact g2) g3
    rw [e1, e2]
    obtain ⟨x1, x2, x3, -, -⟩ := gI_some g1
    have sG : N ⊆ N' ++ N := List.subset_append_right _ _
    refine ⟨by rw [List.length_map], cRE (R ++ [(da, aa, fa, refs', .null, (x.toInt.toNat, A', [], -9, 0))]), zE zaK (zsI (zsI S 2 (zI S' 1)) 3 (zI S' 2)) 0 zTK, N', pq fun φ => ?_, ⟨R ++ [(da, aa, fa, refs', .null, (x.toInt.toNat, A', [], -9, 0))], by rw [List.map_append]; rfl, rfl, fun r2 hr2 => ?_⟩, zsI (zsI S 2 (zI S' 1)) 3 (zI S' 2), jk, bs, rfl, k1, k2, k3, k4, k5, k6, k7, rfl, rfl, rfl, rfl⟩
    · have := kz_cn (φ := φ) (S := S) (S' := S') (L := N' ++ (e5 da aa fa x ++ ((206, .inl (0, 4, .int (zI S 1))) :: (208, .inr (0, (zA S 5).map Value.int)) :: (R.flatMap dfR ++ Rm)))) ⟨q1, q2⟩
      have ey : Int32.ofNat x.toInt.toNat = x := yi_id x1
      have en : cn φ (dfR (da, aa, fa, refs', .null, (x.toInt.toNat, A', [], -9, 0))) = φ (da, .inl (1, 0, .int x)) + (φ (da, .inl (1, 1, .ref fa)) + (φ (da, .inl (1, 2, .ref aa)) + (φ (da, .inl (1, 3, .null)) + (φ (da, .inl (1, 4, .int 0)) + (φ (da, .inl (1, 5, .int (-9))) + (φ (da, .inl (1, 6, .int 0)) + (φ (aa, .inr (7, refs'))))))))) := by
        show φ (da, .inl (1, 0, .int (Int32.ofNat x.toInt.toNat))) + _ = _
        rw [ey]
        rfl
      have ec : cn φ (cRE (R ++ [(da, aa, fa, refs', .null, (x.toInt.toNat, A', [], -9, 0))])) = φ (78, .inl (11, 8, .int (Int32.ofNat (R.length + 1)))) + φ (109, .inr (6, (R.map (fun r => Value.ref r.1) ++ List.replicate (30 - R.length) Value.null).set R.length (.ref da))) + cn φ (R.flatMap dfR) + cn φ (dfR (da, aa, fa, refs', .null, (x.toInt.toNat, A', [], -9, 0))) := cRE_app g2
      simp only [cn_c, cn_a, cn_n, ec, en] at this ⊢
      omega
    · rcases List.mem_append.mp hr2 with hr2 | hr2
      · exact (h3.mono sG) r2 hr2
      · obtain rfl := List.mem_singleton.mp hr2
        exact ⟨⟨F, x3, (hf.fa (fun e he => u1 (s3 he)) nd2 g1 g4).mono sG⟩, q3.mono (List.subset_append_left _ _), rfl⟩
end TAKB
