/-! HANDLES: objects that are only read, as they lie in the heap -/
/-- the class's object: sort, size, items, rows -/
abbrev zO : Type := Int32 × Int32 × List Int64 × List (Option (List Int32))
/-- the reference's: sort, size, items, how long its rows are, cells -/
abbrev zH : Type := Int32 × Int32 × List Int64 × List Int32 × List Int32
def zOC (D : List xE) (a : Nat) (o : zO) : Prop := ∃ (ia ra : Nat) (rr : List Value), ((a, .inl (6, 0, .int o.1)) : xE) ∈ D ∧ ((a, .inl (6, 1, .int o.2.1)) : xE) ∈ D ∧ ((a, .inl (6, 2, .ref ia)) : xE) ∈ D ∧ ((a, .inl (6, 3, .ref ra)) : xE) ∈ D ∧ ((ia, .inr (1, o.2.2.1.map Value.long)) : xE) ∈ D ∧ ((ra, .inr (4, rr)) : xE) ∈ D ∧ ∀ {j : Int32} {r : Option (List Int32)}, gI o.2.2.2 j = some r → ∃ v, gI rr j = some v ∧ yRw D v r
def zOM (D : List xE) (a : Nat) (o : zH) : Prop := ∃ (ia ra ca : Nat), ((a, .inl (13, 0, .int o.1)) : xE) ∈ D ∧ ((a, .inl (13, 1, .int o.2.1)) : xE) ∈ D ∧ ((a, .inl (13, 2, .ref ia)) : xE) ∈ D ∧ ((a, .inl (13, 3, .ref ra)) : xE) ∈ D ∧ ((a, .inl (13, 4, .ref ca)) : xE) ∈ D ∧ ((ia, .inr (1, o.2.2.1.map Value.long)) : xE) ∈ D ∧ ((ra, .inr (0, o.2.2.2.1.map Value.int)) : xE) ∈ D ∧ ((ca, .inr (0, o.2.2.2.2.map Value.int)) : xE) ∈ D
abbrev zOW (D : List xE) (a : Nat) (l : List Int32) : Prop := ((a, .inr (0, l.map Value.int)) : xE) ∈ D
def zVC (D : List xE) (v : Value) (z : Option zO) : Prop := match z with
  | none => v = .null
  | some o => ∃ a, v = .ref a ∧ zOC D a o
def zVM (D : List xE) (v : Value) (z : Option zH) : Prop := match z with
  | none => v = .null
  | some o => ∃ a, v = .ref a ∧ zOM D a o
theorem zisAC {D : List xE} {v : Value} {z : Option zO} (h : zVC D v z) : xisA v = true := by
  cases z with
  | none => obtain rfl : v = .null := h; rfl
  | some o => obtain ⟨a, rfl, _⟩ := h; rfl
theorem zisAM {D : List xE} {v : Value} {z : Option zH} (h : zVM D v z) : xisA v = true := by
  cases z with
  | none => obtain rfl : v = .null := h; rfl
  | some o => obtain ⟨a, rfl, _⟩ := h; rfl
def zo {α β : Type} (z : Option α) (a : β) (f : α → β) : β := match z with
  | none => a
  | some x => f x
theorem zvsC {D : List xE} {a : Nat} {o : zO} (h : zOC D a o) : zVC D (.ref a) (some o) := ⟨a, rfl, h⟩
theorem zvsM {D : List xE} {a : Nat} {o : zH} (h : zOM D a o) : zVM D (.ref a) (some o) := ⟨a, rfl, h⟩
theorem zvsW {D : List xE} {a : Nat} {o : List Int32} (h : zOW D a o) : yRw D (.ref a) (some o) := ⟨a, rfl, h⟩
theorem zvnC {D : List xE} : zVC D .null none := rfl
theorem zvnM {D : List xE} : zVM D .null none := rfl
theorem zvnW {D : List xE} : yRw D .null none := rfl
theorem zon {α β : Type} {a : β} {f : α → β} {r : β} (h : zo none a f = r) : a = r := h
theorem zos {α β : Type} {a : β} {x : α} {f : α → β} {r : β} (h : zo (some x) a f = r) : f x = r := h
def zQzC (T : List (Nat × Nat × Nat)) (ad : Nat → Nat) (D0 : List xE) (r : Option zO) (S : zS) : Option Value → List xE → Prop := fun w D => ∃ v, w = some v ∧ zVC D0 v r ∧ D = zD T ad S D0
def zQzM (T : List (Nat × Nat × Nat)) (ad : Nat → Nat) (D0 : List xE) (r : Option zH) (S : zS) : Option Value → List xE → Prop := fun w D => ∃ v, w = some v ∧ zVM D0 v r ∧ D = zD T ad S D0
section ZROWS2
variable {X : List Int32} {fr lo mi ip pc a b q c s : Nat} {L L1 : xL} {st st1 r : List Value} {D D0 D1 : List xE} {v : Value} {k t : Nat} {idx : Nat} {x y : Int32} {j : Int32} {M : xM} {Q : Option Value → List xE → Prop} {T : List (Nat × Nat × Nat)} {ad : Nat → Nat} {S : zS}
theorem zt_Vz {P : Value → Prop} {M1 : xM} {c0 fr1 lo1 m : Nat} {ck : Nat × Value} {D2 : List xE} (hM : xpr.1[mi]? = some M) (hc : M.2.2.2.2.2.2[ip]? = some (.invokevirtual idx, pc, a, b, q)) (hM1 : xpr.1[a]? = some M1) (e1 : st.drop M1.2.2.2.2.1 = .ref k :: r) (e2 : (k, .inl (c0, ck)) ∈ D ++ xcon X) (e3 : M1.2.2.2.2.2.1 = 1 ∧ xcns[c0]? = some M1.1.cls ∧ M1.2.2.2.2.1 ≤ st.length ∧ xcats r ≤ 8) (hml : M1.2.2.1 = m) (e4 : fr1 + 1 ≤ fr ∧ lo1 + (19 + m) ≤ lo) (hR : yK X fr1 lo1 a (.ref k :: (st.take M1.2.2.2.2.1).reverse) D 0 0 (fun w D' => ∃ v, w = some v ∧ P v ∧ D' = D2)) (kk : ∀ v, P v → yT X fr lo mi (ip + 1) L (v :: r) D2 c s Q) : yT X fr lo mi ip L st D c s Q :=
  xt_callV hM hc hM1 e1 e2 ⟨e3.1, e3.2.1, e3.2.2.1, e3.2.2.2, e4.1, by rw [hml]; exact e4.2⟩ hR (c2 := c) (s2 := s) ⟨by omega, by omega⟩ (by rintro _ _ ⟨v, rfl, h, rfl⟩; exact kk v h)
theorem zD_frame {n : Nat} : n < D0.length → (zD T ad S D0)[T.length + n]? = D0[n]? := by
  intro hn
  have hl : ∀ (T : List (Nat × Nat × Nat)) (i : Nat), (zE ad S i T).length = T.length := by
    intro T
    induction T with
    | nil => intro i; rfl
    | cons t r ih => intro i; show (zE ad S (i + 1) r).length + 1 = r.length + 1; rw [ih]
  unfold zD
  rw [List.getElem?_append_right (by rw [hl]; omega), hl, Nat.add_sub_cancel_left]
theorem zD_fset {n : Nat} {e : xE} : (zD T ad S D0).set (T.length + n) e = zD T ad S (D0.set n e) := by
  have hl : ∀ (T : List (Nat × Nat × Nat)) (i : Nat), (zE ad S i T).length = T.length := by
    intro T
    induction T with
    | nil => intro i; rfl
    | cons t r ih => intro i; show (zE ad S (i + 1) r).length + 1 = r.length + 1; rw [ih]
  unfold zD
  rw [List.set_append_right _ _ (by rw [hl]; omega), hl, Nat.add_sub_cancel_left]
/-- a field that lies in the frame: the first entry, the second -/
theorem zt_f0 {u : Value} {ty : FieldType} (hM : xpr.1[mi]? = some M) (hc : M.2.2.2.2.2.2[ip]? = some (.putfield idx, pc, a, b, q)) (e1 : (xfts[a]?).bind (fun tys => tys[b]?) = some ty) (e2 : xfit ty v = true) (kk : yT X fr lo mi (ip + 1) L r (zD T ad S ((k, .inl (a, b, v)) :: D0)) c s Q) : yT X fr lo mi ip L (v :: .ref k :: r) (zD T ad S ((k, .inl (a, b, u)) :: D0)) c s Q :=
  xt_putf hM hc e1 e2 (T.length + 0) (zD_frame (by simp)) zD_fset kk
theorem zt_f1 {e : xE} {u : Value} {ty : FieldType} (hM : xpr.1[mi]? = some M) (hc : M.2.2.2.2.2.2[ip]? = some (.putfield idx, pc, a, b, q)) (e1 : (xfts[a]?).bind (fun tys => tys[b]?) = some ty) (e2 : xfit ty v = true) (kk : yT X fr lo mi (ip + 1) L r (zD T ad S (e :: (k, .inl (a, b, v)) :: D0)) c s Q) : yT X fr lo mi ip L (v :: .ref k :: r) (zD T ad S (e :: (k, .inl (a, b, u)) :: D0)) c s Q :=
  xt_putf hM hc e1 e2 (T.length + 1) (zD_frame (by simp)) zD_fset kk
end ZROWS2
