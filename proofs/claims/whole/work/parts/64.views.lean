/-! VIEWS: places of the heap by numbers (ints, longs, values, rows of these), and rows that speak of a view; mirrors of methods are functions on views -/
abbrev zS : Type := (Nat → Int32) × (Nat → Int64) × (Nat → Value) × (Nat → List Int32) × (Nat → List Int64) × (Nat → List Value)
def zup {α : Type} (f : Nat → α) (i : Nat) (v : α) : Nat → α := fun j => if j = i then v else f j
def zI (S : zS) (i : Nat) : Int32 := S.1 i
def zJ (S : zS) (i : Nat) : Int64 := S.2.1 i
def zR (S : zS) (i : Nat) : Value := S.2.2.1 i
def zA (S : zS) (i : Nat) : List Int32 := S.2.2.2.1 i
def zB (S : zS) (i : Nat) : List Int64 := S.2.2.2.2.1 i
def zV (S : zS) (i : Nat) : List Value := S.2.2.2.2.2 i
def zsI (S : zS) (i : Nat) (v : Int32) : zS := (zup S.1 i v, S.2)
def zsJ (S : zS) (i : Nat) (v : Int64) : zS := (S.1, zup S.2.1 i v, S.2.2)
def zsR (S : zS) (i : Nat) (v : Value) : zS := (S.1, S.2.1, zup S.2.2.1 i v, S.2.2.2)
def zsA (S : zS) (i : Nat) (v : List Int32) : zS := (S.1, S.2.1, S.2.2.1, zup S.2.2.2.1 i v, S.2.2.2.2)
def zsB (S : zS) (i : Nat) (v : List Int64) : zS := (S.1, S.2.1, S.2.2.1, S.2.2.2.1, zup S.2.2.2.2.1 i v, S.2.2.2.2.2)
def zsV (S : zS) (i : Nat) (v : List Value) : zS := (S.1, S.2.1, S.2.2.1, S.2.2.2.1, S.2.2.2.2.1, zup S.2.2.2.2.2 i v)
/-- the entry of a place: its type (0 int, 1 long, 2 value, 3 row of ints, 4 of longs, 5 of values), class and field, or type of the row -/
def zent (S : zS) (ad : Nat → Nat) (i : Nat) (t : Nat × Nat × Nat) : xE := match t.1 with
  | 0 => (ad i, .inl (t.2.1, t.2.2, .int (zI S i)))
  | 1 => (ad i, .inl (t.2.1, t.2.2, .long (zJ S i)))
  | 2 => (ad i, .inl (t.2.1, t.2.2, zR S i))
  | 3 => (ad i, .inr (t.2.1, (zA S i).map Value.int))
  | 4 => (ad i, .inr (t.2.1, (zB S i).map Value.long))
  | _ => (ad i, .inr (t.2.1, zV S i))
def zE (ad : Nat → Nat) (S : zS) : Nat → List (Nat × Nat × Nat) → List xE
  | _, [] => []
  | i, t :: r => zent S ad i t :: zE ad S (i + 1) r
def zD (T : List (Nat × Nat × Nat)) (ad : Nat → Nat) (S : zS) (D0 : List xE) : List xE := zE ad S 0 T ++ D0
theorem zE_at {ad : Nat → Nat} {S : zS} : ∀ {T : List (Nat × Nat × Nat)} {i k : Nat} {t : Nat × Nat × Nat}, T[k]? = some t → (zE ad S i T)[k]? = some (zent S ad (i + k) t)
  | [], _, _, _, h => by cases h
  | t0 :: r, i, 0, t, h => by cases h; rfl
  | t0 :: r, i, k + 1, t, h => by
    have := zE_at (ad := ad) (S := S) (T := r) (i := i + 1) (k := k) h
    rw [show i + 1 + k = i + (k + 1) by omega] at this
    exact this
theorem zE_same {ad : Nat → Nat} {S S' : zS} : ∀ {T : List (Nat × Nat × Nat)} {i : Nat}, (∀ j t, i ≤ j → zent S' ad j t = zent S ad j t) → zE ad S' i T = zE ad S i T
  | [], _, _ => rfl
  | t0 :: r, i, h => by
    unfold zE
    rw [h i t0 (Nat.le_refl _), zE_same (T := r) (i := i + 1) (fun j t hj => h j t (by omega))]
theorem zE_set {ad : Nat → Nat} {S S' : zS} {n : Nat} (hS : ∀ j t, j ≠ n → zent S' ad j t = zent S ad j t) : ∀ {T : List (Nat × Nat × Nat)} {i k : Nat} {t : Nat × Nat × Nat}, T[k]? = some t → i + k = n → (zE ad S i T).set k (zent S' ad n t) = zE ad S' i T
  | [], _, _, _, h, _ => by cases h
  | t0 :: r, i, 0, t, h, hn => by
    cases h
    have hn : i = n := hn
    subst hn
    show zent S' ad i t0 :: zE ad S (i + 1) r = zent S' ad i t0 :: zE ad S' (i + 1) r
    rw [zE_same (T := r) (i := i + 1) (fun j t hj => hS j t (by omega))]
  | t0 :: r, i, k + 1, t, h, hn => by
    show zent S ad i t0 :: (zE ad S (i + 1) r).set k (zent S' ad n t) = zent S' ad i t0 :: zE ad S' (i + 1) r
    rw [hS i t0 (by omega), zE_set hS (T := r) (i := i + 1) (k := k) h (by omega)]
theorem zD_at {T : List (Nat × Nat × Nat)} {ad : Nat → Nat} {S : zS} {D0 : List xE} {k : Nat} {t : Nat × Nat × Nat} (h : T[k]? = some t) : (zD T ad S D0)[k]? = some (zent S ad k t) := by
  have h1 := zE_at (ad := ad) (S := S) (i := 0) h
  rw [Nat.zero_add] at h1
  unfold zD
  rw [List.getElem?_append_left (List.getElem?_eq_some_iff.mp h1).1, h1]
theorem zD_set {T : List (Nat × Nat × Nat)} {ad : Nat → Nat} {S S' : zS} {D0 : List xE} {k : Nat} {t : Nat × Nat × Nat} (h : T[k]? = some t) (hS : ∀ j t, j ≠ k → zent S' ad j t = zent S ad j t) : (zD T ad S D0).set k (zent S' ad k t) = zD T ad S' D0 := by
  have h1 := zE_at (ad := ad) (S := S) (i := 0) h
  unfold zD
  rw [List.set_append_left _ _ (List.getElem?_eq_some_iff.mp h1).1, zE_set hS h (by omega)]
theorem zup_ne {α : Type} {f : Nat → α} {i j : Nat} {v : α} (h : j ≠ i) : zup f i v j = f j := if_neg h
theorem zup_eq {α : Type} {f : Nat → α} {i : Nat} {v : α} : zup f i v i = v := if_pos rfl
theorem zo_I {ad : Nat → Nat} {S : zS} {k : Nat} {v : Int32} : ∀ j t, j ≠ k → zent (zsI S k v) ad j t = zent S ad j t := by
  intro j t hj
  unfold zent
  split <;> simp [zsI, zI, zJ, zR, zA, zB, zV, zup_ne hj]
theorem zo_J {ad : Nat → Nat} {S : zS} {k : Nat} {v : Int64} : ∀ j t, j ≠ k → zent (zsJ S k v) ad j t = zent S ad j t := by
  intro j t hj
  unfold zent
  split <;> simp [zsJ, zI, zJ, zR, zA, zB, zV, zup_ne hj]
theorem zo_R {ad : Nat → Nat} {S : zS} {k : Nat} {v : Value} : ∀ j t, j ≠ k → zent (zsR S k v) ad j t = zent S ad j t := by
  intro j t hj
  unfold zent
  split <;> simp [zsR, zI, zJ, zR, zA, zB, zV, zup_ne hj]
theorem zo_A {ad : Nat → Nat} {S : zS} {k : Nat} {v : List Int32} : ∀ j t, j ≠ k → zent (zsA S k v) ad j t = zent S ad j t := by
  intro j t hj
  unfold zent
  split <;> simp [zsA, zI, zJ, zR, zA, zB, zV, zup_ne hj]
theorem zo_B {ad : Nat → Nat} {S : zS} {k : Nat} {v : List Int64} : ∀ j t, j ≠ k → zent (zsB S k v) ad j t = zent S ad j t := by
  intro j t hj
  unfold zent
  split <;> simp [zsB, zI, zJ, zR, zA, zB, zV, zup_ne hj]
theorem zo_V {ad : Nat → Nat} {S : zS} {k : Nat} {v : List Value} : ∀ j t, j ≠ k → zent (zsV S k v) ad j t = zent S ad j t := by
  intro j t hj
  unfold zent
  split <;> simp [zsV, zI, zJ, zR, zA, zB, zV, zup_ne hj]
/-! what a mirror is written with -/
abbrev zok {α : Type} (l : List α) (j : Int32) : Prop := 0 ≤ j.toInt ∧ j.toInt < l.length
abbrev zs {α : Type} (l : List α) (j : Int32) (v : α) : List α := l.set j.toInt.toNat v
def zb {α β : Type} (o : Option (α × zS)) (f : α → zS → Option β) : Option β := match o with
  | some (x, S) => f x S
  | none => none
def zg {α β : Type} (o : Option α) (f : α → Option β) : Option β := match o with
  | some x => f x
  | none => none
theorem zbi {α β : Type} {o : Option (α × zS)} {f : α → zS → Option β} {r : β} (h : zb o f = some r) : ∃ x S, o = some (x, S) ∧ f x S = some r := by
  rcases o with _ | ⟨x, S⟩
  · cases h
  · exact ⟨x, S, rfl, h⟩
theorem zgi {α β : Type} {o : Option α} {f : α → Option β} {r : β} (h : zg o f = some r) : ∃ x, o = some x ∧ f x = some r := by
  rcases o with _ | x
  · cases h
  · exact ⟨x, rfl, h⟩
theorem zgd {α : Type} {p : Prop} {inst : Decidable p} {a : Option α} {r : α} (h : (@ite _ p inst a none) = some r) : p ∧ a = some r := by
  by_cases hp : p
  · rw [if_pos hp] at h
    exact ⟨hp, h⟩
  · rw [if_neg hp] at h
    cases h
theorem zif_t {α : Type} {p : Prop} {inst : Decidable p} {a b c : α} (hp : p) (h : (@ite _ p inst a b) = c) : a = c := by rwa [if_pos hp] at h
theorem zif_f {α : Type} {p : Prop} {inst : Decidable p} {a b c : α} (hp : ¬ p) (h : (@ite _ p inst a b) = c) : b = c := by rwa [if_neg hp] at h
def zQi (T : List (Nat × Nat × Nat)) (ad : Nat → Nat) (D0 : List xE) (r : Int32) (S : zS) : Option Value → List xE → Prop := fun w D => w = some (.int r) ∧ D = zD T ad S D0
def zQl (T : List (Nat × Nat × Nat)) (ad : Nat → Nat) (D0 : List xE) (r : Int64) (S : zS) : Option Value → List xE → Prop := fun w D => w = some (.long r) ∧ D = zD T ad S D0
def zQv (T : List (Nat × Nat × Nat)) (ad : Nat → Nat) (D0 : List xE) (_ : Unit) (S : zS) : Option Value → List xE → Prop := fun w D => w = none ∧ D = zD T ad S D0
section ZROWS
variable {X : List Int32} {fr lo mi ip pc a b q c s : Nat} {L L1 : xL} {st st1 r : List Value} {D D0 D1 : List xE} {v : Value} {k t : Nat} {idx : Nat} {x y : Int32} {j : Int32} {M : xM} {Q : Option Value → List xE → Prop} {T : List (Nat × Nat × Nat)} {ad : Nat → Nat} {S : zS}
theorem zmr {e : xE} (h : e ∈ D0) : e ∈ zD T ad S D0 ++ xcon X := List.mem_append_left _ (List.mem_append_right _ h)
theorem zmA {l : List Int32} (i : Nat) (hT : T[i]? = some (3, t, 0)) (hk : ad i = k) (hl : zA S i = l) : ((k, .inr (t, l.map Value.int)) : xE) ∈ zD T ad S D0 ++ xcon X := by
  subst hk hl
  exact List.mem_append_left _ (List.mem_of_getElem? (zD_at hT))
theorem zmB {l : List Int64} (i : Nat) (hT : T[i]? = some (4, t, 0)) (hk : ad i = k) (hl : zB S i = l) : ((k, .inr (t, l.map Value.long)) : xE) ∈ zD T ad S D0 ++ xcon X := by
  subst hk hl
  exact List.mem_append_left _ (List.mem_of_getElem? (zD_at hT))
theorem zmI (i : Nat) (hT : T[i]? = some (0, a, b)) (hk : ad i = k) : ((k, .inl (a, b, .int (zI S i))) : xE) ∈ zD T ad S D0 ++ xcon X := by
  subst hk
  exact List.mem_append_left _ (List.mem_of_getElem? (zD_at hT))
theorem zt_gI (i : Nat) (hM : xpr.1[mi]? = some M) (hc : M.2.2.2.2.2.2[ip]? = some (.getfield idx, pc, a, b, q)) (hT : T[i]? = some (0, a, b)) (hk : ad i = k) (hx : zI S i = x) (kk : yT X fr lo mi (ip + 1) L (.int x :: r) (zD T ad S D0) c s Q) : yT X fr lo mi ip L (.ref k :: r) (zD T ad S D0) c s Q := by
  subst hk hx
  exact xt_getf hM hc (List.mem_append_left _ (List.mem_of_getElem? (zD_at hT))) kk
theorem zt_gJ {x : Int64} (i : Nat) (hM : xpr.1[mi]? = some M) (hc : M.2.2.2.2.2.2[ip]? = some (.getfield idx, pc, a, b, q)) (hT : T[i]? = some (1, a, b)) (hk : ad i = k) (hx : zJ S i = x) (kk : yT X fr lo mi (ip + 1) L (.long x :: r) (zD T ad S D0) c s Q) : yT X fr lo mi ip L (.ref k :: r) (zD T ad S D0) c s Q := by
  subst hk hx
  exact xt_getf hM hc (List.mem_append_left _ (List.mem_of_getElem? (zD_at hT))) kk
theorem zt_gR {x : Value} (i : Nat) (hM : xpr.1[mi]? = some M) (hc : M.2.2.2.2.2.2[ip]? = some (.getfield idx, pc, a, b, q)) (hT : T[i]? = some (2, a, b)) (hk : ad i = k) (hx : zR S i = x) (kk : yT X fr lo mi (ip + 1) L (x :: r) (zD T ad S D0) c s Q) : yT X fr lo mi ip L (.ref k :: r) (zD T ad S D0) c s Q := by
  subst hk hx
  exact xt_getf hM hc (List.mem_append_left _ (List.mem_of_getElem? (zD_at hT))) kk
theorem zt_pI {ty : FieldType} (i : Nat) (hM : xpr.1[mi]? = some M) (hc : M.2.2.2.2.2.2[ip]? = some (.putfield idx, pc, a, b, q)) (e1 : (xfts[a]?).bind (fun tys => tys[b]?) = some ty) (e2 : xfit ty (.int x) = true) (hT : T[i]? = some (0, a, b)) (hk : ad i = k) (kk : yT X fr lo mi (ip + 1) L r (zD T ad (zsI S i x) D0) c s Q) : yT X fr lo mi ip L (.int x :: .ref k :: r) (zD T ad S D0) c s Q := by
  subst hk
  refine xt_putf hM hc e1 e2 i (zD_at hT) ?_ kk
  rw [← zD_set (D0 := D0) hT (zo_I (ad := ad) (S := S) (v := x))]
  congr 1
  show _ = (ad i, Sum.inl (a, b, Value.int (zup S.1 i x i)))
  rw [zup_eq]
theorem zt_pJ {ty : FieldType} {x : Int64} (i : Nat) (hM : xpr.1[mi]? = some M) (hc : M.2.2.2.2.2.2[ip]? = some (.putfield idx, pc, a, b, q)) (e1 : (xfts[a]?).bind (fun tys => tys[b]?) = some ty) (e2 : xfit ty (.long x) = true) (hT : T[i]? = some (1, a, b)) (hk : ad i = k) (kk : yT X fr lo mi (ip + 1) L r (zD T ad (zsJ S i x) D0) c s Q) : yT X fr lo mi ip L (.long x :: .ref k :: r) (zD T ad S D0) c s Q := by
  subst hk
  refine xt_putf hM hc e1 e2 i (zD_at hT) ?_ kk
  rw [← zD_set (D0 := D0) hT (zo_J (ad := ad) (S := S) (v := x))]
  congr 1
  show _ = (ad i, Sum.inl (a, b, Value.long (zup S.2.1 i x i)))
  rw [zup_eq]
theorem zt_pR {ty : FieldType} {x : Value} (i : Nat) (hM : xpr.1[mi]? = some M) (hc : M.2.2.2.2.2.2[ip]? = some (.putfield idx, pc, a, b, q)) (e1 : (xfts[a]?).bind (fun tys => tys[b]?) = some ty) (e2 : xfit ty x = true) (hT : T[i]? = some (2, a, b)) (hk : ad i = k) (kk : yT X fr lo mi (ip + 1) L r (zD T ad (zsR S i x) D0) c s Q) : yT X fr lo mi ip L (x :: .ref k :: r) (zD T ad S D0) c s Q := by
  subst hk
  refine xt_putf hM hc e1 e2 i (zD_at hT) ?_ kk
  rw [← zD_set (D0 := D0) hT (zo_R (ad := ad) (S := S) (v := x))]
  congr 1
  show _ = (ad i, Sum.inl (a, b, zup S.2.2.1 i x i))
  rw [zup_eq]
/-- reading rows: the entry is among those that are known -/
theorem zr_ild {l : List Int32} (hM : xpr.1[mi]? = some M) (hc : M.2.2.2.2.2.2[ip]? = some (.iaload, pc, a, b, q)) (e1 : (k, .inr (0, l.map Value.int)) ∈ D ++ xcon X) (hx : gI l j = some x) (kk : yT X fr lo mi (ip + 1) L (.int x :: r) D c s Q) : yT X fr lo mi ip L (.int j :: .ref k :: r) D c s Q := by
  obtain ⟨g1, g2, g3, g4, g5⟩ := gI_some hx
  exact xt_iald hM hc e1 g5 (gI_int hx) kk
theorem zr_lld {l : List Int64} {x : Int64} (hM : xpr.1[mi]? = some M) (hc : M.2.2.2.2.2.2[ip]? = some (.laload, pc, a, b, q)) (e1 : (k, .inr (1, l.map Value.long)) ∈ D ++ xcon X) (hx : gI l j = some x) (kk : yT X fr lo mi (ip + 1) L (.long x :: r) D c s Q) : yT X fr lo mi ip L (.int j :: .ref k :: r) D c s Q := by
  obtain ⟨g1, g2, g3, g4, g5⟩ := gI_some hx
  exact xt_lald hM hc e1 g5 (gI_long hx) kk
theorem zr_bld {l : List Int32} (hM : xpr.1[mi]? = some M) (hc : M.2.2.2.2.2.2[ip]? = some (.baload, pc, a, b, q)) (e0 : t = 2 ∨ t = 3) (e1 : (k, .inr (t, l.map Value.int)) ∈ D ++ xcon X) (hx : gI l j = some x) (kk : yT X fr lo mi (ip + 1) L (.int x :: r) D c s Q) : yT X fr lo mi ip L (.int j :: .ref k :: r) D c s Q := by
  obtain ⟨g1, g2, g3, g4, g5⟩ := gI_some hx
  exact xt_bald hM hc e0 e1 g5 (gI_int hx) kk
theorem zr_ald {l : List Value} (hM : xpr.1[mi]? = some M) (hc : M.2.2.2.2.2.2[ip]? = some (.aaload, pc, a, b, q)) (e0 : 4 ≤ t ∧ (xats[t]?).isSome = true) (e1 : (k, .inr (t, l)) ∈ D ++ xcon X) (hx : gI l j = some v) (kk : yT X fr lo mi (ip + 1) L (v :: r) D c s Q) : yT X fr lo mi ip L (.int j :: .ref k :: r) D c s Q := by
  obtain ⟨g1, g2, g3, g4, g5⟩ := gI_some hx
  exact xt_aald hM hc e0 e1 g5 (by rw [g4]; exact g3) kk
theorem zr_lenI {l : List Int32} (hM : xpr.1[mi]? = some M) (hc : M.2.2.2.2.2.2[ip]? = some (.arraylength, pc, a, b, q)) (e1 : (k, .inr (t, l.map Value.int)) ∈ D ++ xcon X) (e2 : (xats[t]?).isSome = true) (kk : yT X fr lo mi (ip + 1) L (.int (Int32.ofNat l.length) :: r) D c s Q) : yT X fr lo mi ip L (.ref k :: r) D c s Q := by
  refine xt_alen hM hc e1 e2 ?_
  rw [List.length_map]
  exact kk
theorem zr_lenJ {l : List Int64} (hM : xpr.1[mi]? = some M) (hc : M.2.2.2.2.2.2[ip]? = some (.arraylength, pc, a, b, q)) (e1 : (k, .inr (t, l.map Value.long)) ∈ D ++ xcon X) (e2 : (xats[t]?).isSome = true) (kk : yT X fr lo mi (ip + 1) L (.int (Int32.ofNat l.length) :: r) D c s Q) : yT X fr lo mi ip L (.ref k :: r) D c s Q := by
  refine xt_alen hM hc e1 e2 ?_
  rw [List.length_map]
  exact kk
theorem zr_lenV {l : List Value} (hM : xpr.1[mi]? = some M) (hc : M.2.2.2.2.2.2[ip]? = some (.arraylength, pc, a, b, q)) (e1 : (k, .inr (t, l)) ∈ D ++ xcon X) (e2 : (xats[t]?).isSome = true) (hx : Int32.ofNat l.length = x) (kk : yT X fr lo mi (ip + 1) L (.int x :: r) D c s Q) : yT X fr lo mi ip L (.ref k :: r) D c s Q := by
  subst hx
  exact xt_alen hM hc e1 e2 kk
theorem zt_ist {l : List Int32} (i : Nat) (hM : xpr.1[mi]? = some M) (hc : M.2.2.2.2.2.2[ip]? = some (.iastore, pc, a, b, q)) (hT : T[i]? = some (3, 0, 0)) (hk : ad i = k) (hl : zA S i = l) (e2 : zok l j) (kk : yT X fr lo mi (ip + 1) L r (zD T ad (zsA S i (zs l j y)) D0) c s Q) : yT X fr lo mi ip L (.int y :: .int j :: .ref k :: r) (zD T ad S D0) c s Q := by
  subst hk hl
  refine yt_ist hM hc i (zD_at hT) e2 ?_ kk
  rw [← zD_set (D0 := D0) hT (zo_A (ad := ad) (S := S) (v := zs (zA S i) j y))]
  congr 1
  show _ = (ad i, Sum.inr (0, (zup S.2.2.2.1 i (zs (zA S i) j y) i).map Value.int))
  rw [zup_eq]
theorem zt_bst {l : List Int32} (i : Nat) (hM : xpr.1[mi]? = some M) (hc : M.2.2.2.2.2.2[ip]? = some (.bastore, pc, a, b, q)) (e0 : (t = 2 ∧ xfit .byte (.int y)) ∨ (t = 3 ∧ xfit .boolean (.int y))) (hT : T[i]? = some (3, t, 0)) (hk : ad i = k) (hl : zA S i = l) (e2 : zok l j) (kk : yT X fr lo mi (ip + 1) L r (zD T ad (zsA S i (zs l j y)) D0) c s Q) : yT X fr lo mi ip L (.int y :: .int j :: .ref k :: r) (zD T ad S D0) c s Q := by
  subst hk hl
  refine yt_bst hM hc i (zD_at hT) e0 e2 ?_ kk
  rw [← zD_set (D0 := D0) hT (zo_A (ad := ad) (S := S) (v := zs (zA S i) j y))]
  congr 1
  show _ = (ad i, Sum.inr (t, (zup S.2.2.2.1 i (zs (zA S i) j y) i).map Value.int))
  rw [zup_eq]
theorem zt_lst {l : List Int64} {y : Int64} (i : Nat) (hM : xpr.1[mi]? = some M) (hc : M.2.2.2.2.2.2[ip]? = some (.lastore, pc, a, b, q)) (hT : T[i]? = some (4, 1, 0)) (hk : ad i = k) (hl : zB S i = l) (e2 : zok l j) (kk : yT X fr lo mi (ip + 1) L r (zD T ad (zsB S i (zs l j y)) D0) c s Q) : yT X fr lo mi ip L (.long y :: .int j :: .ref k :: r) (zD T ad S D0) c s Q := by
  subst hk hl
  refine yt_lst hM hc i (zD_at hT) e2 ?_ kk
  rw [← zD_set (D0 := D0) hT (zo_B (ad := ad) (S := S) (v := zs (zB S i) j y))]
  congr 1
  show _ = (ad i, Sum.inr (1, (zup S.2.2.2.2.1 i (zs (zB S i) j y) i).map Value.long))
  rw [zup_eq]
theorem zt_lc {x y : Int64} {cd : Jvm.ClassFile.Cond} {o : Int} {pc2 a2 b2 q2 : Nat} (hM : xpr.1[mi]? = some M) (hc : M.2.2.2.2.2.2[ip]? = some (.lcmp, pc, a, b, q)) (hc2 : M.2.2.2.2.2.2[ip + 1]? = some (.ifCond cd o, pc2, a2, b2, q2)) (kT : xcLP cd x y → yT X fr lo mi a2 L r D c s Q) (kF : ¬ xcLP cd x y → yT X fr lo mi (ip + 1 + 1) L r D c s Q) : yT X fr lo mi ip L (.long y :: .long x :: r) D c s Q :=
  xt_pure hM hc rfl rfl (xt_if hM hc2 (fun h => kT (xlcmp.mp h)) (fun h => kF (fun h2 => h (xlcmp.mpr h2))))
/-- a switch at a value that is known -/
theorem zt_sw {i : Instr} {n : Int32} {tg : Nat} (hM : xpr.1[mi]? = some M) (hc : M.2.2.2.2.2.2[ip]? = some (i, pc, a, b, q)) (hi : xhp i = false) (hx : x = n) (ht : xpure M.2.2.2.2.2.2 xcts i pc a ip L (.int n :: r) = some (tg, L, r)) (kk : yT X fr lo mi tg L r D c s Q) : yT X fr lo mi ip L (.int x :: r) D c s Q := by
  subst hx
  exact xt_pure hM hc hi ht kk
theorem zci1 {j n : Int32} (h : 0 ≤ j.toInt ∧ j.toInt < n.toInt) : ¬ j < 0 := (yjn h.1).1
theorem zci2 {j n : Int32} (h : 0 ≤ j.toInt ∧ j.toInt < n.toInt) : j < n := Int32.lt_iff_toInt_lt.mpr h.2
/-- calls by mirrors -/
theorem zt_Vi {M1 : xM} {c0 fr1 lo1 m : Nat} {ck : Nat × Value} {D2 : List xE} (hM : xpr.1[mi]? = some M) (hc : M.2.2.2.2.2.2[ip]? = some (.invokevirtual idx, pc, a, b, q)) (hM1 : xpr.1[a]? = some M1) (e1 : st.drop M1.2.2.2.2.1 = .ref k :: r) (e2 : (k, .inl (c0, ck)) ∈ D ++ xcon X) (e3 : M1.2.2.2.2.2.1 = 1 ∧ xcns[c0]? = some M1.1.cls ∧ M1.2.2.2.2.1 ≤ st.length ∧ xcats r ≤ 8) (hml : M1.2.2.1 = m) (e4 : fr1 + 1 ≤ fr ∧ lo1 + (19 + m) ≤ lo) (hR : yK X fr1 lo1 a (.ref k :: (st.take M1.2.2.2.2.1).reverse) D 0 0 (fun w D' => w = some (.int x) ∧ D' = D2)) (kk : yT X fr lo mi (ip + 1) L (.int x :: r) D2 c s Q) : yT X fr lo mi ip L st D c s Q :=
  xt_callV hM hc hM1 e1 e2 ⟨e3.1, e3.2.1, e3.2.2.1, e3.2.2.2, e4.1, by rw [hml]; exact e4.2⟩ hR (c2 := c) (s2 := s) ⟨by omega, by omega⟩ (by rintro _ _ ⟨rfl, rfl⟩; exact kk)
theorem zt_Vl {x : Int64} {M1 : xM} {c0 fr1 lo1 m : Nat} {ck : Nat × Value} {D2 : List xE} (hM : xpr.1[mi]? = some M) (hc : M.2.2.2.2.2.2[ip]? = some (.invokevirtual idx, pc, a, b, q)) (hM1 : xpr.1[a]? = some M1) (e1 : st.drop M1.2.2.2.2.1 = .ref k :: r) (e2 : (k, .inl (c0, ck)) ∈ D ++ xcon X) (e3 : M1.2.2.2.2.2.1 = 1 ∧ xcns[c0]? = some M1.1.cls ∧ M1.2.2.2.2.1 ≤ st.length ∧ xcats r ≤ 8) (hml : M1.2.2.1 = m) (e4 : fr1 + 1 ≤ fr ∧ lo1 + (19 + m) ≤ lo) (hR : yK X fr1 lo1 a (.ref k :: (st.take M1.2.2.2.2.1).reverse) D 0 0 (fun w D' => w = some (.long x) ∧ D' = D2)) (kk : yT X fr lo mi (ip + 1) L (.long x :: r) D2 c s Q) : yT X fr lo mi ip L st D c s Q :=
  xt_callV hM hc hM1 e1 e2 ⟨e3.1, e3.2.1, e3.2.2.1, e3.2.2.2, e4.1, by rw [hml]; exact e4.2⟩ hR (c2 := c) (s2 := s) ⟨by omega, by omega⟩ (by rintro _ _ ⟨rfl, rfl⟩; exact kk)
theorem zt_Vv {M1 : xM} {c0 fr1 lo1 m : Nat} {ck : Nat × Value} {D2 : List xE} (hM : xpr.1[mi]? = some M) (hc : M.2.2.2.2.2.2[ip]? = some (.invokevirtual idx, pc, a, b, q)) (hM1 : xpr.1[a]? = some M1) (e1 : st.drop M1.2.2.2.2.1 = .ref k :: r) (e2 : (k, .inl (c0, ck)) ∈ D ++ xcon X) (e3 : M1.2.2.2.2.2.1 = 1 ∧ xcns[c0]? = some M1.1.cls ∧ M1.2.2.2.2.1 ≤ st.length ∧ xcats r ≤ 8) (hml : M1.2.2.1 = m) (e4 : fr1 + 1 ≤ fr ∧ lo1 + (19 + m) ≤ lo) (hR : yK X fr1 lo1 a (.ref k :: (st.take M1.2.2.2.2.1).reverse) D 0 0 (fun w D' => w = none ∧ D' = D2)) (kk : yT X fr lo mi (ip + 1) L r D2 c s Q) : yT X fr lo mi ip L st D c s Q :=
  xt_callV hM hc hM1 e1 e2 ⟨e3.1, e3.2.1, e3.2.2.1, e3.2.2.2, e4.1, by rw [hml]; exact e4.2⟩ hR (c2 := c) (s2 := s) ⟨by omega, by omega⟩ (by rintro _ _ ⟨rfl, rfl⟩; exact kk)
theorem zt_Si {M1 : xM} {fr1 lo1 m : Nat} {D2 : List xE} (hM : xpr.1[mi]? = some M) (hc : M.2.2.2.2.2.2[ip]? = some (.invokestatic idx, pc, a, b, q)) (hb : ¬ b = 1 ∧ ¬ b = 2 ∧ ¬ b = 3 ∧ ¬ b = 4) (hM1 : xpr.1[a]? = some M1) (e1 : st.drop M1.2.2.2.2.1 = r) (e3 : M1.2.2.2.2.2.1 = 0 ∧ M1.2.2.2.2.1 ≤ st.length ∧ xcats r ≤ 8) (hml : M1.2.2.1 = m) (e4 : fr1 + 1 ≤ fr ∧ lo1 + (19 + m) ≤ lo) (hR : yK X fr1 lo1 a (st.take M1.2.2.2.2.1).reverse D 0 0 (fun w D' => w = some (.int x) ∧ D' = D2)) (kk : yT X fr lo mi (ip + 1) L (.int x :: r) D2 c s Q) : yT X fr lo mi ip L st D c s Q := by
  subst e1
  exact xt_callS hM hc hb hM1 ⟨e3.1, e3.2.1, e3.2.2, e4.1, by rw [hml]; exact e4.2⟩ hR (c2 := c) (s2 := s) ⟨by omega, by omega⟩ (by rintro _ _ ⟨rfl, rfl⟩; exact kk)
theorem zt_Sl {x : Int64} {M1 : xM} {fr1 lo1 m : Nat} {D2 : List xE} (hM : xpr.1[mi]? = some M) (hc : M.2.2.2.2.2.2[ip]? = some (.invokestatic idx, pc, a, b, q)) (hb : ¬ b = 1 ∧ ¬ b = 2 ∧ ¬ b = 3 ∧ ¬ b = 4) (hM1 : xpr.1[a]? = some M1) (e1 : st.drop M1.2.2.2.2.1 = r) (e3 : M1.2.2.2.2.2.1 = 0 ∧ M1.2.2.2.2.1 ≤ st.length ∧ xcats r ≤ 8) (hml : M1.2.2.1 = m) (e4 : fr1 + 1 ≤ fr ∧ lo1 + (19 + m) ≤ lo) (hR : yK X fr1 lo1 a (st.take M1.2.2.2.2.1).reverse D 0 0 (fun w D' => w = some (.long x) ∧ D' = D2)) (kk : yT X fr lo mi (ip + 1) L (.long x :: r) D2 c s Q) : yT X fr lo mi ip L st D c s Q := by
  subst e1
  exact xt_callS hM hc hb hM1 ⟨e3.1, e3.2.1, e3.2.2, e4.1, by rw [hml]; exact e4.2⟩ hR (c2 := c) (s2 := s) ⟨by omega, by omega⟩ (by rintro _ _ ⟨rfl, rfl⟩; exact kk)
theorem zt_Sv {M1 : xM} {fr1 lo1 m : Nat} {D2 : List xE} (hM : xpr.1[mi]? = some M) (hc : M.2.2.2.2.2.2[ip]? = some (.invokestatic idx, pc, a, b, q)) (hb : ¬ b = 1 ∧ ¬ b = 2 ∧ ¬ b = 3 ∧ ¬ b = 4) (hM1 : xpr.1[a]? = some M1) (e1 : st.drop M1.2.2.2.2.1 = r) (e3 : M1.2.2.2.2.2.1 = 0 ∧ M1.2.2.2.2.1 ≤ st.length ∧ xcats r ≤ 8) (hml : M1.2.2.1 = m) (e4 : fr1 + 1 ≤ fr ∧ lo1 + (19 + m) ≤ lo) (hR : yK X fr1 lo1 a (st.take M1.2.2.2.2.1).reverse D 0 0 (fun w D' => w = none ∧ D' = D2)) (kk : yT X fr lo mi (ip + 1) L r D2 c s Q) : yT X fr lo mi ip L st D c s Q := by
  subst e1
  exact xt_callS hM hc hb hM1 ⟨e3.1, e3.2.1, e3.2.2, e4.1, by rw [hml]; exact e4.2⟩ hR (c2 := c) (s2 := s) ⟨by omega, by omega⟩ (by rintro _ _ ⟨rfl, rfl⟩; exact kk)
end ZROWS
