/-! the old cells: the script, a static array, the texts (printed by wip/whole/gen.py) -/
def xstr : List (String × Nat × List Int32) := [("FormMill$Tape", 28, [102, 111, 114, 109, 32, 117, 110, 116, 105, 108, 32, 115, 105, 103, 110, 101, 114, 115, 32, 109, 117, 115, 116, 32, 119, 104, 101, 110, 32, 103, 114, 111, 117, 112, 32, 121, 101, 115, 32, 119, 104, 111, 108, 101, 32, 109, 111, 110, 101, 121, 32, 100, 97, 116, 101, 32, 99, 104, 111, 105, 99, 101, 32, 109, 97, 110, 121, 32, 116, 101, 120, 116, 32, 116, 97, 98, 108, 101, 32, 108, 105, 115, 116, 32, 115, 105, 103, 110, 101, 100, 32, 101, 110, 116, 114, 121, 32, 102, 105, 103, 117, 114, 101, 32, 99, 104, 101, 99, 107, 32, 111, 114, 32, 97, 110, 100, 32, 110, 111, 116, 32, 108, 101, 110, 32, 104, 97, 115, 32, 105, 115, 32, 116, 111, 116, 97, 108, 32, 116, 114, 121, 32, 101, 108, 115, 101, 32, 116, 114, 117, 116, 104, 115, 32, 119, 104, 111, 108, 101, 115, 32, 109, 111, 110, 101, 121, 115, 32, 108, 101, 116, 116, 101, 114, 115, 32, 114, 111, 119, 115, 32, 101, 110, 116, 114, 105, 101, 115, 32, 115, 105, 103, 110, 101, 100, 115, 32, 111, 110, 101, 32]), ("FormMill$Tape", 64, [59, 123, 125, 40, 41, 91, 93, 44, 61, 60, 62, 43, 45, 42, 47, 37]), ("FormMillModel", 26, [102, 111, 114, 109]), ("FormMillModel", 28, [117, 110, 116, 105, 108]), ("FormMillModel", 30, [115, 105, 103, 110, 101, 114, 115]), ("FormMillModel", 32, [109, 117, 115, 116]), ("FormMillModel", 34, [119, 104, 101, 110]), ("FormMillModel", 36, [103, 114, 111, 117, 112]), ("FormMillModel", 38, [121, 101, 115]), ("FormMillModel", 40, [119, 104, 111, 108, 101]), ("FormMillModel", 42, [109, 111, 110, 101, 121]), ("FormMillModel", 44, [100, 97, 116, 101]), ("FormMillModel", 46, [99, 104, 111, 105, 99, 101]), ("FormMillModel", 48, [109, 97, 110, 121]), ("FormMillModel", 50, [116, 101, 120, 116]), ("FormMillModel", 52, [116, 97, 98, 108, 101]), ("FormMillModel", 54, [108, 105, 115, 116]), ("FormMillModel", 56, [115, 105, 103, 110, 101, 100]), ("FormMillModel", 58, [101, 110, 116, 114, 121]), ("FormMillModel", 60, [102, 105, 103, 117, 114, 101]), ("FormMillModel", 62, [99, 104, 101, 99, 107]), ("FormMillModel", 64, [111, 114]), ("FormMillModel", 66, [97, 110, 100]), ("FormMillModel", 68, [110, 111, 116]), ("FormMillModel", 70, [108, 101, 110]), ("FormMillModel", 72, [104, 97, 115]), ("FormMillModel", 74, [105, 115]), ("FormMillModel", 76, [116, 111, 116, 97, 108]), ("FormMillModel", 78, [116, 114, 121]), ("FormMillModel", 80, [101, 108, 115, 101]), ("FormMillModel", 82, [116, 114, 117, 116, 104, 115]), ("FormMillModel", 84, [119, 104, 111, 108, 101, 115]), ("FormMillModel", 86, [109, 111, 110, 101, 121, 115]), ("FormMillModel", 88, [108, 101, 116, 116, 101, 114, 115]), ("FormMillModel", 90, [114, 111, 119, 115]), ("FormMillModel", 92, [101, 110, 116, 114, 105, 101, 115]), ("FormMillModel", 94, [115, 105, 103, 110, 101, 100, 115]), ("FormMillModel", 96, [111, 110, 101])]
def xstx : List String := ["form until signers must when group yes whole money date choice many text table list signed entry figure check or and not len has is total try else truths wholes moneys letters rows entries signeds one ", ";{}()[],=<>+-*/%", "form", "until", "signers", "must", "when", "group", "yes", "whole", "money", "date", "choice", "many", "text", "table", "list", "signed", "entry", "figure", "check", "or", "and", "not", "len", "has", "is", "total", "try", "else", "truths", "wholes", "moneys", "letters", "rows", "entries", "signeds", "one"]
def xstp : List Nat := [235, 845, 1715, 1716, 1717, 1718, 1719, 1720, 1721, 1722, 1723, 1724, 1725, 1726, 1727, 1728, 1729, 1730, 1731, 1732, 1733, 1734, 1735, 1736, 1737, 1738, 1739, 1740, 1741, 1742, 1743, 1744, 1745, 1746, 1747, 1748, 1749, 1750]
def xas : List Int32 := [0, 1, 2, 1, 1, 0, 3, 4, 5, 6, 5, -9]
def xoldS : xH := [.inl (15, [.ref 3, .int 0]), .inr (2, ([102, 111, 114, 109, 32, 117, 110, 116, 105, 108, 32, 115, 105, 103, 110, 101, 114, 115, 32, 109, 117, 115, 116, 32, 119, 104, 101, 110, 32, 103, 114, 111, 117, 112, 32, 121, 101, 115, 32, 119, 104, 111, 108, 101, 32, 109, 111, 110, 101, 121, 32, 100, 97, 116, 101, 32, 99, 104, 111, 105, 99, 101, 32, 109, 97, 110, 121, 32, 116, 101, 120, 116, 32, 116, 97, 98, 108, 101, 32, 108, 105, 115, 116, 32, 115, 105, 103, 110, 101, 100, 32, 101, 110, 116, 114, 121, 32, 102, 105, 103, 117, 114, 101, 32, 99, 104, 101, 99, 107, 32, 111, 114, 32, 97, 110, 100, 32, 110, 111, 116, 32, 108, 101, 110, 32, 104, 97, 115, 32, 105, 115, 32, 116, 111, 116, 97, 108, 32, 116, 114, 121, 32, 101, 108, 115, 101, 32, 116, 114, 117, 116, 104, 115, 32, 119, 104, 111, 108, 101, 115, 32, 109, 111, 110, 101, 121, 115, 32, 108, 101, 116, 116, 101, 114, 115, 32, 114, 111, 119, 115, 32, 101, 110, 116, 114, 105, 101, 115, 32, 115, 105, 103, 110, 101, 100, 115, 32, 111, 110, 101, 32] : List Int32).map Value.int), .inl (15, [.ref 5, .int 0]), .inr (2, ([59, 123, 125, 40, 41, 91, 93, 44, 61, 60, 62, 43, 45, 42, 47, 37] : List Int32).map Value.int), .inl (15, [.ref 7, .int 0]), .inr (2, ([102, 111, 114, 109] : List Int32).map Value.int), .inl (15, [.ref 9, .int 0]), .inr (2, ([117, 110, 116, 105, 108] : List Int32).map Value.int), .inl (15, [.ref 11, .int 0]), .inr (2, ([115, 105, 103, 110, 101, 114, 115] : List Int32).map Value.int), .inl (15, [.ref 13, .int 0]), .inr (2, ([109, 117, 115, 116] : List Int32).map Value.int), .inl (15, [.ref 15, .int 0]), .inr (2, ([119, 104, 101, 110] : List Int32).map Value.int), .inl (15, [.ref 17, .int 0]), .inr (2, ([103, 114, 111, 117, 112] : List Int32).map Value.int), .inl (15, [.ref 19, .int 0]), .inr (2, ([121, 101, 115] : List Int32).map Value.int), .inl (15, [.ref 21, .int 0]), .inr (2, ([119, 104, 111, 108, 101] : List Int32).map Value.int), .inl (15, [.ref 23, .int 0]), .inr (2, ([109, 111, 110, 101, 121] : List Int32).map Value.int), .inl (15, [.ref 25, .int 0]), .inr (2, ([100, 97, 116, 101] : List Int32).map Value.int), .inl (15, [.ref 27, .int 0]), .inr (2, ([99, 104, 111, 105, 99, 101] : List Int32).map Value.int), .inl (15, [.ref 29, .int 0]), .inr (2, ([109, 97, 110, 121] : List Int32).map Value.int), .inl (15, [.ref 31, .int 0]), .inr (2, ([116, 101, 120, 116] : List Int32).map Value.int), .inl (15, [.ref 33, .int 0]), .inr (2, ([116, 97, 98, 108, 101] : List Int32).map Value.int), .inl (15, [.ref 35, .int 0]), .inr (2, ([108, 105, 115, 116] : List Int32).map Value.int), .inl (15, [.ref 37, .int 0]), .inr (2, ([115, 105, 103, 110, 101, 100] : List Int32).map Value.int), .inl (15, [.ref 39, .int 0]), .inr (2, ([101, 110, 116, 114, 121] : List Int32).map Value.int), .inl (15, [.ref 41, .int 0]), .inr (2, ([102, 105, 103, 117, 114, 101] : List Int32).map Value.int), .inl (15, [.ref 43, .int 0]), .inr (2, ([99, 104, 101, 99, 107] : List Int32).map Value.int), .inl (15, [.ref 45, .int 0]), .inr (2, ([111, 114] : List Int32).map Value.int), .inl (15, [.ref 47, .int 0]), .inr (2, ([97, 110, 100] : List Int32).map Value.int), .inl (15, [.ref 49, .int 0]), .inr (2, ([110, 111, 116] : List Int32).map Value.int), .inl (15, [.ref 51, .int 0]), .inr (2, ([108, 101, 110] : List Int32).map Value.int), .inl (15, [.ref 53, .int 0]), .inr (2, ([104, 97, 115] : List Int32).map Value.int), .inl (15, [.ref 55, .int 0]), .inr (2, ([105, 115] : List Int32).map Value.int), .inl (15, [.ref 57, .int 0]), .inr (2, ([116, 111, 116, 97, 108] : List Int32).map Value.int), .inl (15, [.ref 59, .int 0]), .inr (2, ([116, 114, 121] : List Int32).map Value.int), .inl (15, [.ref 61, .int 0]), .inr (2, ([101, 108, 115, 101] : List Int32).map Value.int), .inl (15, [.ref 63, .int 0]), .inr (2, ([116, 114, 117, 116, 104, 115] : List Int32).map Value.int), .inl (15, [.ref 65, .int 0]), .inr (2, ([119, 104, 111, 108, 101, 115] : List Int32).map Value.int), .inl (15, [.ref 67, .int 0]), .inr (2, ([109, 111, 110, 101, 121, 115] : List Int32).map Value.int), .inl (15, [.ref 69, .int 0]), .inr (2, ([108, 101, 116, 116, 101, 114, 115] : List Int32).map Value.int), .inl (15, [.ref 71, .int 0]), .inr (2, ([114, 111, 119, 115] : List Int32).map Value.int), .inl (15, [.ref 73, .int 0]), .inr (2, ([101, 110, 116, 114, 105, 101, 115] : List Int32).map Value.int), .inl (15, [.ref 75, .int 0]), .inr (2, ([115, 105, 103, 110, 101, 100, 115] : List Int32).map Value.int), .inl (15, [.ref 77, .int 0]), .inr (2, ([111, 110, 101] : List Int32).map Value.int)]
def xh0 (xs : List Int32) : xH := .inr (0, xs.map Value.int) :: .inr (0, xas.map Value.int) :: xoldS
def xtm (q : String × Nat × List Int32) : Term := .string q.1 q.2.1
def xtv (q : String × Nat × List Int32) : Term := .field (xtm q) "java/lang/String" "value" "[B"
def xsf (q : String × Nat × List Int32) : List Jvm.Cond := [.exactly (xtm q) "java/lang/String", .eq (.field (xtm q) "java/lang/String" "coder" "B") (.int 0), .arrayOf (xtv q) .byte, .eq (.length (xtv q)) (.int (Int32.ofNat q.2.2.length))] ++ q.2.2.zipIdx.map (fun z => .eq (.elem (xtv q) (.int (Int32.ofNat z.2))) (.int z.1))
def xtA : Term := .static "FormMill" "AS" "[I"
def xnar : List Jvm.Cond := [.arrayOf (.arg 0) .int, .le (.length (.arg 0)) (.int 2560), .eq (.static "java/lang/String" "COMPACT_STRINGS" "Z") (.int 1), .isRef (.static "jdk/internal/util/Preconditions" "SIOOBE_FORMATTER" "Ljava/util/function/BiFunction;"), .eq (.static "java/lang/StringUTF16" "$assertionsDisabled" "Z") (.int 1), .eq (.static "java/lang/StringUTF16" "HI_BYTE_SHIFT" "I") (.int 0), .eq (.static "java/lang/StringUTF16" "LO_BYTE_SHIFT" "I") (.int 8), .isRef xtA, .arrayOf xtA .int, .eq (.length xtA) (.int 12)] ++ (xas.zipIdx.map (fun z => .eq (.elem xtA (.int (Int32.ofNat z.2))) (.int z.1)) ++ (xstr.flatMap xsf ++ [.not (.eq (.arg 0) xtA)]))
theorem xnar_ok : flatC narrow_1 = xnar := by decide +kernel
theorem xnar_b {b : Nat} {s : State} (h : (Jvm.Cond.and given_1 narrow_1).before #[Value.ref b] s = true) : ∀ w ∈ xnar, w.before #[Value.ref b] s = true := fun w hw => flat_of_before _ h w (by
  show w ∈ flatC given_1 ++ flatC narrow_1
  rw [xnar_ok]
  exact List.mem_append_right _ hw)
theorem xstr_len : ∀ q ∈ xstr, q.2.2.length < 2 ^ 31 := by decide +kernel
theorem xstr_n : xstr.length = 38 := by decide +kernel
def xcA (c : xC) : Option (Nat × List Value) := match c with
  | .inl o => some o
  | .inr _ => none
def xcB (c : xC) : Option (Nat × List Value) := match c with
  | .inl _ => none
  | .inr o => some o
theorem xcA_ok {o : Option xC} {a : Nat × List Value} (h : o.bind xcA = some a) : o = some (.inl a) := by
  cases o with
  | none => cases h
  | some c => cases c with
    | inl x => cases h; rfl
    | inr x => cases h
theorem xcB_ok {o : Option xC} {a : Nat × List Value} (h : o.bind xcB = some a) : o = some (.inr a) := by
  cases o with
  | none => cases h
  | some c => cases c with
    | inr x => cases h; rfl
    | inl x => cases h
theorem xold_a : ∀ k, k < 38 → (xoldS[2 * k]?).bind xcA = some (15, [Value.ref (3 + 2 * k), Value.int 0]) := by decide +kernel
theorem xold_b : ∀ k, k < 38 → (xoldS[2 * k + 1]?).bind xcB = (xstr[k]?).map (fun q => (2, q.2.2.map Value.int)) := by decide +kernel
theorem xold_n : xoldS.length = 76 := by decide +kernel
theorem xsr_at : ∀ k, k < 38 → (xsr[k]?).map (fun q => (q.1, q.2.1, q.2.2)) = (xstr[k]?).map (fun q => (q.1, q.2.1, 2 + 2 * k)) := by decide +kernel
theorem xsr_n : xsr.length = 38 := by decide +kernel
theorem xstp_at : ∀ k, k < 38 → (xstp[k]?).bind (fun p => lw_tbl[p]?) = (xstr[k]?).bind (fun q => (xstx[k]?).map (fun tx => Jvm.Cond.stringRef q.1 q.2.1 tx)) := by decide +kernel
/-- what is known of a text at the start -/
def xSt (s : State) (b : Nat) (q : String × Nat × List Int32) (aK aV : Nat) : Prop := (xtm q).eval #[Value.ref b] s none [] s = some (.ref aK) ∧ va_O "java/lang/String" aK (fun q => s.heap.size ≤ q) s s.heap ∧ va_OF "java/lang/String" "coder" "B" (.int 0) aK (fun q => s.heap.size ≤ q) s s.heap ∧ va_OF "java/lang/String" "value" "[B" (.ref aV) aK (fun q => s.heap.size ≤ q) s s.heap ∧ va_T .byte aV q.2.2.length (fun j => .int (q.2.2.getD j 0)) (fun q => s.heap.size ≤ q) s s.heap
theorem xSt_of {b : Nat} {s : State} (h : ∀ w ∈ xnar, w.before #[Value.ref b] s = true) {q : String × Nat × List Int32} (hq : q ∈ xstr) : ∃ aK aV, xSt s b q aK aV := by
  have hm : ∀ w ∈ xsf q, w.before #[Value.ref b] s = true := fun w hw => h w (List.mem_append_right _ (List.mem_append_right _ (List.mem_append_left _ (List.mem_flatMap.mpr ⟨q, hq, hw⟩))))
  have hA : ∀ a : Nat, a < s.heap.size → ¬ (fun q => s.heap.size ≤ q) a := fun a ha hb => absurd ha (Nat.not_lt.mpr hb)
  have hex := hm (.exactly (xtm q) "java/lang/String") (List.mem_append_left _ List.mem_cons_self)
  have hco := hm (.eq (.field (xtm q) "java/lang/String" "coder" "B") (.int 0)) (List.mem_append_left _ (List.mem_cons_of_mem _ List.mem_cons_self))
  have har := hm (.arrayOf (xtv q) .byte) (List.mem_append_left _ (List.mem_cons_of_mem _ (List.mem_cons_of_mem _ List.mem_cons_self)))
  have hle := hm (.eq (.length (xtv q)) (.int (Int32.ofNat q.2.2.length))) (List.mem_append_left _ (List.mem_cons_of_mem _ (List.mem_cons_of_mem _ (List.mem_cons_of_mem _ List.mem_cons_self))))
  have hel : ∀ j : Nat, j < q.2.2.length → (Cond.eq (.elem (xtv q) (.int (Int32.ofNat j))) (.int (q.2.2.getD j 0))).before #[Value.ref b] s = true := fun j hj => hm _ (List.mem_append_right _ (List.mem_map.mpr ⟨(q.2.2.getD j 0, j), by
    rw [List.mem_zipIdx_iff_getElem?, List.getD_eq_getElem?_getD, List.getElem?_eq_getElem hj]
    rfl, rfl⟩))
  obtain ⟨a, c, cA, kA, q1, q2, q3, q4, q5, q6, -⟩ := Cond.exactly_spec (args := #[Value.ref b]) (first := s) (o := none) (s := s) (idx := []) (t := xtm q) (cls := "java/lang/String") hex
  obtain ⟨t, ht, hT⟩ := va_Tof (f := fun j => .int (q.2.2.getD j 0)) (A := fun q => s.heap.size ≤ q) (xstr_len q hq) har (va_eqt hle) (fun j hj => va_eqt (hel j hj)) hA
  exact ⟨a, t, q1, ⟨cA, q3, q5, by rw [q6]; exact q2, hA a (Array.getElem?_eq_some_iff.mp q3).1⟩, vk_OFof q1 (va_eqt hco) hA, vk_OFof q1 ht hA, hT⟩
theorem xAS_of {b : Nat} {s : State} (h : ∀ w ∈ xnar, w.before #[Value.ref b] s = true) : ∃ t, xtA.eval #[Value.ref b] s none [] s = some (.ref t) ∧ va_T .int t 12 (fun j => .int (xas.getD j 0)) (fun q => s.heap.size ≤ q) s s.heap := by
  have hA : ∀ a : Nat, a < s.heap.size → ¬ (fun q => s.heap.size ≤ q) a := fun a ha hb => absurd ha (Nat.not_lt.mpr hb)
  refine va_Tof (by decide) (h _ (List.mem_append_left _ (by simp))) (va_eqt (h _ (List.mem_append_left _ (by simp)))) (fun j hj => va_eqt (h _ (List.mem_append_right _ (List.mem_append_left _ (List.mem_map.mpr ⟨(xas.getD j 0, j), ?_, rfl⟩))))) hA
  rw [List.mem_zipIdx_iff_getElem?, List.getD_eq_getElem?_getD, List.getElem?_eq_getElem (show j < xas.length from hj)]
  rfl
/-- where the old cells stand -/
def xad (b tA : Nat) (K V : Nat → Nat) (b0 k : Nat) : Nat := if k < 78 then (if k = 0 then b else if k = 1 then tA else if k % 2 = 0 then K ((k - 2) / 2) else V ((k - 2) / 2)) else b0 + (k - 78)
theorem xisst {v : VmData} (h : ∀ k, v ≠ .statics k) : v.isStatics = false := by cases v <;> first | rfl | exact absurd rfl (h _)
theorem xAw_of {s : State} {cell : Cell} {ty : FieldType} (h : s.isArrayOf cell ty) : xAw s ty cell.cls := by
  obtain ⟨-, k, hk, comp, hkind⟩ := h
  exact ⟨k, comp, hk, hkind⟩
/-- an old array -/
theorem xCR_T {cl : List vw_C} {D : xD} {ad : Nat → Nat} {k t N : Nat} {ty : FieldType} {A : Nat → Prop} {s : State} {vs : List Int32} (hk : k < 78) (hT : va_T ty (ad k) N (fun j => .int (vs.getD j 0)) A s s.heap) (hN : vs.length = N) (hD : ∀ c, xAw s ty c → D.2.2.1 t c) : xCR cl D ad 78 k (.inr (t, vs.map Value.int)) s.heap := by
  obtain ⟨cell, h1, h2, h3, h4, h5, h6, -⟩ := hT
  refine ⟨cell, h1, xisst h2.1, h3, fun q => absurd q (by omega), hD _ (xAw_of h2), fun q => absurd q (by omega), by rw [h5, List.length_map, hN], fun j v hj => ?_⟩
  rw [List.getElem?_map] at hj
  cases hv : vs[j]? with
  | none => rw [hv] at hj; cases hj
  | some w =>
    rw [hv] at hj
    cases hj
    have hjl : j < N := by rw [← hN]; exact (List.getElem?_eq_some_iff.mp hv).1
    rw [h6 j hjl]
    show some (Value.int (vs.getD j 0)) = _
    rw [List.getD_eq_getElem?_getD, hv]
    rfl
