/-! new T[n][k] -/
section MULTI
variable {p : Program} {l : Launch} {e : Env} {R : Room} {s : State} {m : MethodId} {args : Array Value} {below : List Frame} {meth : Method} {c : Code} {H : Heap} {locs : List Loc} {cells slots : Nat} {Q : State → Prop}
variable {cl : List vw_C} {AT : List FieldType} {D : xD} {ad : Nat → Nat} {n0 b0 nW : Nat} {H0 : Heap} {h : xH} {bytes : ByteArray} {pc idx ta tb : Nat} {ls : Array Slot} {rest : List Value} {own : String} {ty : FieldType} {n k : Int32}
theorem xouter (c : ClassId) (N h0 : Nat) : ∀ i j : Nat, (Jvm.Free.Multi.outerC c N h0 i).slots[j]? = if j < N then (if j < i then some (.ref (h0 + 1 + j)) else some .null) else none
  | 0, j => by
    show (Array.replicate N Value.null)[j]? = _
    by_cases hj : j < N
    · simp [hj]
    · simp [hj]
  | i + 1, j => by
    show ((Jvm.Free.Multi.outerC c N h0 i).slots.setIfInBounds i (.ref (h0 + 1 + i)))[j]? = _
    have hz : (Jvm.Free.Multi.outerC c N h0 i).slots.size = N := (Jvm.Free.Multi.outerC_facts c N h0 i).2.2
    rw [Array.getElem?_setIfInBounds]
    by_cases e1 : i = j
    · subst e1
      rw [if_pos rfl, hz]
      by_cases hj : i < N
      · simp [hj]
      · simp [hj]
    · rw [if_neg e1, xouter c N h0 i j]
      by_cases hj : j < N
      · by_cases h2 : j < i
        · simp [hj, h2, Nat.lt_succ_of_lt h2]
        · simp [hj, h2, show ¬ j < i + 1 by omega]
      · simp [hj]
theorem xW_mna (hx : p.tables.exec = Jvm.exec) (hb : c.code = bytes) (hown : s.vm.findClass own = some m.cls) (hA : xAd ad n0 b0) (hK : xKn cl AT nW D s) (hH : xHR cl D ad n0 b0 H0 h H) (hT1 : AT[ta]? = some (.array ty)) (hT2 : AT[tb]? = some ty) (hr : refKind ty = false) (hclink : (Cond.classLink own idx ("[" ++ (FieldType.array ty).toString)).before args s = true) (hover : (Cond.arrayOver (.array ty)).before args s = true) (harr : (Cond.arrayClass ty).before args s = true) (hd : decode bytes pc = .ok (.multianewarray idx 2, 4)) (hn : ¬ n < 0) (hk : ¬ k < 0) (hn2 : n.toNatClampNeg ≤ 65536) (hk2 : k.toNatClampNeg ≤ 65536) (hcells : cells + (1 + n.toNatClampNeg) ≤ R.cells) (hslots : slots + (n.toNatClampNeg + n.toNatClampNeg * k.toNatClampNeg) ≤ R.slots)
    (kk : ∀ H1 : Heap, xHR cl D ad n0 b0 H0 (h ++ .inr (ta, (List.range n.toNatClampNeg).map (fun i => .ref (h.length + 1 + i))) :: List.replicate n.toNatClampNeg (.inr (tb, List.replicate k.toNatClampNeg (defaultValue ty)))) H1 → W p l e R s m args below meth c H1 locs (cells + 1 + n.toNatClampNeg) (slots + n.toNatClampNeg + n.toNatClampNeg * k.toNatClampNeg) Q (F0 m (pc + 4) ls (.ref (ad h.length) :: rest))) : W p l e R s m args below meth c H locs cells slots Q (F0 m pc ls (.int k :: .int n :: rest)) := by
  have ea : ad h.length = H.size := xad_len hA hH
  have hcb : k.toNatClampNeg * componentBytes ty ≤ 536870912 := by
    have : componentBytes ty ≤ 8 := by cases ty <;> simp [componentBytes]
    have := Nat.mul_le_mul hk2 this
    omega
  intro T hT Xs
  obtain ⟨vm₁, cA, comp, -, fA, fC, hO, hI, X', step⟩ := Xs.multianewarray2F hx hown hclink hover harr (g := F0 m pc ls (.int k :: .int n :: rest)) rfl (by rw [hb]; exact hd) rfl hn hk (by omega) hcb (by omega) (by cases ty <;> first | rfl | cases hr) (by cases ty <;> first | rfl | cases hr) hcells hslots
  generalize hF : Jvm.Free.Multi.fill (T.setVm vm₁) cA comp n.toNatClampNeg k.toNatClampNeg (defaultValue ty) n.toNatClampNeg = F at X' step
  have hTh : (T.setVm vm₁).heap = H := hT
  obtain ⟨f1, f2, -, -⟩ := Jvm.Free.Multi.fill_facts (T.setVm vm₁) cA comp n.toNatClampNeg k.toNatClampNeg (defaultValue ty) n.toNatClampNeg
  rw [hF, hTh] at f1 f2
  have hold : ∀ x : Nat, x < H.size → F.heap[x]? = H[x]? := fun x hx => by
    have := Jvm.Free.Multi.fill_old (T.setVm vm₁) cA comp n.toNatClampNeg k.toNatClampNeg (defaultValue ty) (a := x) (by rw [hTh]; exact hx) n.toNatClampNeg
    rw [hF, hTh] at this
    exact this
  have hrow : ∀ j : Nat, j < n.toNatClampNeg → F.heap[H.size + 1 + j]? = some (Jvm.Free.Multi.innerC comp k.toNatClampNeg (defaultValue ty)) := fun j hj => by
    have := Jvm.Free.Multi.fill_inner (T.setVm vm₁) cA comp n.toNatClampNeg k.toNatClampNeg (defaultValue ty) n.toNatClampNeg j hj
    rw [hF, hTh] at this
    exact this
  have hsA : xAs s (.array ty) cA := by
    obtain ⟨comp', c', k', g1, -, g2, g3, g4⟩ := arrayOverA_spec hover
    have e1 : c' = cA := Option.some.inj (g4.symm.trans fA)
    subst e1
    exact ⟨fA, k', comp', g2, g3, g1⟩
  have hsC : xAs s ty comp := by
    obtain ⟨-, k9, hk9, cm9, hkk9⟩ := (hI 0 .null).1
    exact ⟨fC, k9, cm9, hk9, hkk9, by cases ty <;> first | trivial | cases hr⟩
  have h1 := hH.1
  have h2 := hH.2.1
  have hHR : xHR cl D ad n0 b0 H0 (h ++ .inr (ta, (List.range n.toNatClampNeg).map (fun i => .ref (h.length + 1 + i))) :: List.replicate n.toNatClampNeg (.inr (tb, List.replicate k.toNatClampNeg (defaultValue ty)))) F.heap := by
    refine ⟨by rw [f1]; simp; omega, by simp; omega, fun j d hj => ?_, fun q hq => by rw [hold q (by omega)]; exact hH.2.2.2 q hq⟩
    by_cases e1 : j < h.length
    · rw [List.getElem?_append_left e1] at hj
      obtain ⟨cell, q1, q2⟩ := hH.2.2.1 j d hj
      exact ⟨cell, by rw [hold _ (Array.getElem?_eq_some_iff.mp q1).1]; exact q1, q2⟩
    · rw [List.getElem?_append_right (by omega)] at hj
      by_cases e2 : j = h.length
      · subst e2
        rw [Nat.sub_self] at hj
        cases hj
        refine xCR.arr (cell := Jvm.Free.Multi.outerC cA n.toNatClampNeg H.size n.toNatClampNeg) (by rw [ea]; exact f2) (Jvm.Free.Multi.outerC_facts cA n.toNatClampNeg H.size n.toNatClampNeg).2.1 ?_ ?_ ?_
        · rw [(Jvm.Free.Multi.outerC_facts cA n.toNatClampNeg H.size n.toNatClampNeg).1]; exact (hK.2.1 _ _ _ hT1).mpr (xAw.of hsA)
        · rw [(Jvm.Free.Multi.outerC_facts cA n.toNatClampNeg H.size n.toNatClampNeg).1]; exact (hK.2.2.1 _ _ _ hT1).mpr hsA
        · apply Array.ext_getElem?
          intro i
          rw [xouter, List.getElem?_toArray, List.getElem?_map, List.getElem?_map]
          by_cases hi : i < n.toNatClampNeg
          · rw [if_pos hi, if_pos hi, List.getElem?_range hi]
            show _ = some (Value.ref (ad (h.length + 1 + i)))
            rw [hA.1 _ (by omega), h1, show b0 + (h.length - n0) + 1 + i = b0 + (h.length + 1 + i - n0) by omega]
          · rw [if_neg hi, List.getElem?_eq_none (by rw [List.length_range]; omega)]
            rfl
      · have e3 : j - h.length = (j - h.length - 1) + 1 := by omega
        rw [e3, List.getElem?_cons_succ, List.getElem?_replicate] at hj
        split at hj
        · rename_i hjn
          cases hj
          have eA : ad j = H.size + 1 + (j - h.length - 1) := by rw [hA.1 _ (by omega), h1]; omega
          exact xCR.arr (cell := Jvm.Free.Multi.innerC comp k.toNatClampNeg (defaultValue ty)) (by rw [eA]; exact hrow _ hjn) rfl ((hK.2.1 _ _ _ hT2).mpr (xAw.of hsC)) ((hK.2.2.1 _ _ _ hT2).mpr hsC) (xrep ad _ _ (xcn_def ad ty))
        · cases hj
  obtain ⟨t, a1, b1⟩ := kk F.heap hHR F rfl X'
  refine ⟨t, step t ?_, b1⟩
  have e : T.heap.size = H.size := by rw [hT]
  rw [e, ← ea]
  exact a1
end MULTI
