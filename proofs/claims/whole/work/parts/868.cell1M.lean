/-! THE DESK: cell, a desk is there; the reference -/
theorem mD_cell1 {X : List Int32} {D0 : List xE} {S : zS} {En : List (Int64 × Int32)} {ob : yO} {i j v : Int32} {b ia ra ca : Nat} (hv : thV S ob) (hk : yOk En ob) (k2 : ((b, .inl (13, 2, .ref ia)) : xE) ∈ D0) (k3 : ((b, .inl (13, 3, .ref ra)) : xE) ∈ D0) (k4 : ((b, .inl (13, 4, .ref ca)) : xE) ∈ D0) (kd : ((209, .inl (14, 23, .ref b)) : xE) ∈ D0) : yK X 4 100 264 [.ref 209, .int i, .int j, .int v] (zD zTd (zad b ia ra ca) S D0) 0 0 (fun w D => ∃ S', w = some (.int (ceV (some ob) (zI S 5) i j)) ∧ D = zD zTd (zad b ia ra ca) S' D0 ∧ thV S' (ceO ob (ceV (some ob) (zI S 5) i j) i j v) ∧ zI S' 5 = flW (zI S 5) (ceV (some ob) (zI S 5) i j)) := by
  obtain ⟨S', h1, h2, h3⟩ := r_cellD (N := 0) (i := i) (j := j) (v := v) hv hk
  refine (trD_cell (X := X) (D0 := D0) (fr := 4) (lo := 100) k2 k3 k4 kd (by omega) (by omega) h1).mono (Nat.le_refl _) (Nat.le_refl _) ?_
  rintro w D ⟨rfl, rfl⟩
  exact ⟨S', rfl, rfl, h2, h3⟩
