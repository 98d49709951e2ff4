/-! THE BEGINNING: the entries behind the two constructors, in blocks -/
/-- a view of rows of noughts -/
def zZ (ln : List Nat) (iv : List Int32) : zS := (fun i => iv.getD i 0, fun _ => 0, fun _ => .null, fun i => List.replicate (ln.getD i 0) 0, fun i => List.replicate (ln.getD i 0) 0, fun _ => [])
def zentR (ln : List Nat) (iv : List Int32) (ad : Nat → Nat) (i : Nat) (t : Nat × Nat × Nat) : xE := match t.1 with
  | 0 => (ad i, .inl (t.2.1, t.2.2, .int (iv.getD i 0)))
  | 1 => (ad i, .inl (t.2.1, t.2.2, .long 0))
  | 2 => (ad i, .inl (t.2.1, t.2.2, .null))
  | 3 => (ad i, .inr (t.2.1, List.replicate (ln.getD i 0) (.int 0)))
  | 4 => (ad i, .inr (t.2.1, List.replicate (ln.getD i 0) (.long 0)))
  | _ => (ad i, .inr (t.2.1, []))
def zER (ln : List Nat) (iv : List Int32) (ad : Nat → Nat) : Nat → List (Nat × Nat × Nat) → List xE
  | _, [] => []
  | i, t :: r => zentR ln iv ad i t :: zER ln iv ad (i + 1) r
theorem zent_zZ {ln : List Nat} {iv : List Int32} {ad : Nat → Nat} {i : Nat} {t : Nat × Nat × Nat} : zent (zZ ln iv) ad i t = zentR ln iv ad i t := by
  obtain ⟨k, c, j⟩ := t
  match k with
  | 0 => rfl
  | 1 => rfl
  | 2 => rfl
  | 3 =>
    show ((ad i, .inr (c, (List.replicate (ln.getD i 0) (0 : Int32)).map Value.int)) : xE) = (ad i, .inr (c, List.replicate (ln.getD i 0) (.int 0)))
    rw [List.map_replicate]
  | 4 =>
    show ((ad i, .inr (c, (List.replicate (ln.getD i 0) (0 : Int64)).map Value.long)) : xE) = (ad i, .inr (c, List.replicate (ln.getD i 0) (.long 0)))
    rw [List.map_replicate]
  | k + 5 => rfl
theorem zE_zZ {ln : List Nat} {iv : List Int32} {ad : Nat → Nat} : ∀ {T : List (Nat × Nat × Nat)} {i : Nat}, zE ad (zZ ln iv) i T = zER ln iv ad i T
  | [], _ => rfl
  | t :: r, i => by
    show zent (zZ ln iv) ad i t :: zE ad (zZ ln iv) (i + 1) r = zentR ln iv ad i t :: zER ln iv ad (i + 1) r
    rw [zent_zZ, zE_zZ]
def lnP0 : List Nat := [0, 1400, 1401, 1401, 1401, 0, 0, 0, 20, 12, 250, 250, 250, 250, 0, 20, 20, 20, 20, 20, 20, 20, 0, 12, 0, 12, 12, 0, 0, 0, 560, 560, 0]
def pP0 (i : Nat) : Nat := ([0, 94, 95, 96, 97, 98, 99, 100, 0, 101, 0, 102, 103, 0, 0, 0, 104, 105] : List Nat).getD i 0
def lnE0 : List Nat := [0, 0, 0, 0, 0, 0, 0, 0, 0, 560, 250, 250, 12, 12, 12, 12, 0, 32, 32, 32, 32, 32, 20, 0, 32, 32, 32, 32, 32, 20]
def lnS0 : List Nat := [0, 0, 0, 0, 0, 8, 8, 8, 9]
def lnK0 : List Nat := [0, 0, 0, 0, 1200, 3200]
def lnQ0 : List Nat := [0, 1400, 0, 0, 0, 0, 0, 0, 0, 0, 252, 252, 252, 252, 0, 20, 20, 20, 20, 20, 20, 20, 20, 0, 12, 12, 0, 12, 12, 0, 0, 0, 0, 300, 300, 300, 300]
def pQ0 (i : Nat) : Nat := ([0, 213, 214, 215, 216, 217, 218, 219, 220, 0, 221, 222, 0, 223, 224, 0, 0, 0, 0, 225, 226, 227, 228] : List Nat).getD i 0
def lnF0 : List Nat := [0, 0, 0, 0, 0, 0, 0, 0, 0, 0, 0, 0, 0, 12, 12, 12, 12, 200, 200, 20]
def lnT0 : List Nat := [0, 0, 0, 0, 0, 20, 20, 9, 9, 9]
def lnL0 : List Nat := [0, 0, 0, 0, 1200, 1200]
def iv0E : List Int32 := [0, 0, 0, -9]
def iv0S : List Int32 := [-9]
def iv0F : List Int32 := [0, 0, 0, 0, 0, 0, 0, 0, 0, -9]
def sl0 : List ySl := List.replicate 8 (0, 8, List.replicate 8 0)
def sl0E : List xE := (List.range 8).flatMap fun i => [(182 + 3 * i, .inl (6, 0, .int 0)), (182 + 3 * i, .inl (6, 1, .int 8)), (183 + 3 * i, .inr (1, List.replicate 8 (.long 0)))]
def dc_tp : List xE := [(79, .inl (9, 1, .int 0)), (80, .inr (0, List.replicate 1400 (.int 0)))]
def dc_ps : List xE := (85, .inl (7, 1, .null)) :: (78, .inl (11, 4, .ref 93)) :: zER lnP0 [] (zaP 93 pP0) 2 (zTP.drop 2)
def dc_fs : List xE := [(78, .inl (11, 3, .int 0)), (92, .inr (5, List.replicate 10 .null))]
def dc_le : List xE := [(106, .inl (5, 2, .int 0)), (107, .inr (1, List.replicate 100 (.long 0))), (108, .inr (0, List.replicate 100 (.int 0)))]
def dc_dk : List xE := [(78, .inl (11, 6, .null))]
def dc_dr : List xE := [(78, .inl (11, 8, .int 0)), (109, .inr (6, List.replicate 30 .null))]
def dc_gv : List xE := [(78, .inl (11, 10, .int 0))]
def dc_rc : List xE := [(78, .inl (11, 9, .int 0))]
def mv0 : Nat → Nat → List xE
  | _, 0 => []
  | i, n + 1 => (127 + i, .inr (0, [.int 0, .int 0, .int 0, .int 0])) :: mv0 (i + 1) n
def dc_mv : List xE := (78, .inl (11, 16, .int 0)) :: (167, .inr (0, List.replicate 40 (.int (-9)))) :: mv0 0 40
def dc_wk : List xE := zER lnE0 iv0E zaE 0 zTE ++ [(110, .inl (10, 2, .null)), (110, .inl (10, 3, .null))]
def dc_to : List xE := [(125, .inr (0, [.int 0, .int 0, .int 0, .int (-9)]))]
def dc_va : List xE := [(78, .inl (11, 13, .long 0))]
def dc_se : List xE := zER lnS0 iv0S zaS 0 zTS ++ ((173, .inr (7, List.replicate 20 .null)) :: (sl0E ++ [(168, .inl (8, 2, .null))]))
def dc_kd : List xE := zER lnK0 [] zaK 0 zTK
def de_tp : List xE := [(209, .inl (14, 1, .int 0)), (210, .inr (2, List.replicate 1400 (.int 0)))]
def de_ps : List xE := (209, .inl (14, 9, .ref 212)) :: (209, .inl (14, 10, .int 0)) :: zER lnQ0 [] (zaQ 212 pQ0) 2 (zTQ.drop 2)
def de_fs : List xE := [(209, .inl (14, 7, .int 0)), (211, .inr (8, List.replicate 10 .null))]
def de_le : List xE := [(209, .inl (14, 19, .int 0)), (234, .inr (0, List.replicate 100 (.int 0))), (235, .inr (1, List.replicate 100 (.long 0))), (236, .inr (0, List.replicate 100 (.int 0)))]
def de_dk : List xE := [(209, .inl (14, 23, .null))]
def de_dr : List xE := (209, .inl (14, 26, .int 0)) :: (238, .inr (0, List.replicate 31 (.int 0))) :: (240, .inr (3, List.replicate 31 (.int 0))) :: (241, .inr (0, List.replicate 31 (.int 0))) :: (242, .inr (0, List.replicate 31 (.int 0))) :: (239, .inr (10, List.replicate 620 .null)) :: (237, .inr (10, List.replicate 20 .null)) :: []
def de_lg : List xE := [(209, .inl (14, 32, .int 0)), (243, .inr (0, List.replicate 400 (.int 0))), (244, .inr (0, List.replicate 400 (.int 0))), (245, .inr (10, List.replicate 400 .null)), (246, .inr (3, List.replicate 400 (.int 0)))]
def de_rc : List xE := [(209, .inl (14, 65, .int 0))]
def de_mv : List xE := [(209, .inl (14, 66, .int 0)), (256, .inr (0, List.replicate 40 (.int 0))), (257, .inr (0, List.replicate 40 (.int 0))), (258, .inr (0, List.replicate 40 (.int 0))), (259, .inr (0, List.replicate 40 (.int 0))), (260, .inr (0, List.replicate 40 (.int 0)))]
def de_wk : List xE := zER lnF0 iv0F zaF 0 zTF ++ [(209, .inl (14, 46, .null))]
def de_pl : List xE := [(266, .inr (10, List.replicate 9 .null))]
def de_se : List xE := zER lnT0 iv0S zaT 0 zTT
def de_kd : List xE := (209, .inl (14, 43, .int 0)) :: (209, .inl (14, 44, .int 0)) :: zER lnL0 [] zaL 0 zTL
def dN0 : List xE := zgP 93 pP0 ++ (zgQ 212 pQ0 ++ (List.range 8).flatMap slK)
def dC0 : List xE := dc_tp ++ (dc_ps ++ (dc_fs ++ (dc_le ++ (dc_dk ++ (dc_dr ++ (dc_gv ++ (dc_rc ++ (dc_mv ++ (dc_wk ++ (dc_to ++ (dc_va ++ (dc_se ++ dc_kd))))))))))))
def dM0 : List xE := de_tp ++ (de_ps ++ (de_fs ++ (de_le ++ (de_dk ++ (de_dr ++ (de_lg ++ (de_rc ++ (de_mv ++ (de_wk ++ (de_pl ++ (de_se ++ de_kd)))))))))))
def dAll : List xE := dC0 ++ (dM0 ++ dN0)
/-- the search, at the beginning -/
def se0 : ySe := (-9, false, false, [], [], List.replicate 9 0)
theorem rp_len {α β : Type} {n : Nat} {a : β} : ([] : List α).length + (List.replicate n a).length = n := by rw [List.length_replicate, List.length_nil, Nat.zero_add]
theorem i_tp : cTp [] dc_tp := ⟨List.replicate 1400 0, rp_len, by rw [List.nil_append, List.map_replicate]; rfl⟩
theorem i_ps : cPs dN0 dc_ps := ⟨zZ lnP0 [], 93, pP0, .null, by rw [zE_zZ]; rfl, ⟨⟨List.length_replicate, List.length_replicate, List.length_replicate⟩, ⟨List.length_replicate, List.length_replicate, List.length_replicate, List.length_replicate⟩, ⟨List.length_replicate, List.length_replicate⟩, ⟨List.length_replicate, List.length_replicate, List.length_replicate, List.length_replicate, List.length_replicate, List.length_replicate, List.length_replicate, List.length_replicate⟩, List.length_replicate, List.length_replicate, List.length_replicate, List.length_replicate⟩, fun e he => List.mem_append_left _ he⟩
theorem i_fs : cFs [] dN0 dc_fs := ⟨[], rfl, Nat.zero_le _, rfl, fun i F a h => (by cases h)⟩
theorem i_le : cLe [] dc_le := ⟨List.replicate 100 0, List.replicate 100 0, rp_len, rp_len, by rw [List.map_nil, List.map_nil, List.nil_append, List.nil_append, List.map_replicate, List.map_replicate]; rfl⟩
theorem i_dk : cDk none dN0 dc_dk := rfl
theorem i_dr : cDr [] [] dN0 dc_dr := ⟨[], rfl, rfl, fun r hr => (by cases hr)⟩
theorem mv0_eq : ∀ (n i : Nat), mvE i (List.replicate n (0, 0, 0, 0)) = mv0 i n
  | 0, _ => rfl
  | n + 1, i => by
    rw [List.replicate_succ]
    show _ :: mvE (i + 1) (List.replicate n (0, 0, 0, 0)) = _ :: mv0 (i + 1) n
    rw [mv0_eq n (i + 1)]
    rfl
theorem i_mv : cMv [] [] dc_mv := ⟨List.replicate 40 (0, 0, 0, 0), rp_len, rfl, by rw [List.nil_append, List.nil_append, mv0_eq, List.map_replicate]; rfl⟩
theorem i_rep {α : Type} {a : α} {n i : Nat} {x : α} (h : (List.replicate n a)[i]? = some x) : x = a := by
  rw [List.getElem?_replicate] at h
  split at h
  · injection h with h
    exact h.symm
  · cases h
theorem i_wk : cWk 0 [] dc_wk := by
  refine ⟨zZ lnE0 iv0E, (0, 0, 0, List.replicate 12 none), .null, .null, [], [], [], by rw [zE_zZ]; rfl, ⟨zZ lnE0 iv0E, ⟨rfl, rfl, rfl, rfl, rfl, ⟨rfl, rfl⟩, ⟨rfl, rfl, rfl, rfl, rfl, rfl⟩, rfl, rfl, rfl, rfl, rfl, rfl⟩, ⟨rfl, List.length_replicate, fun i x h => (by cases h)⟩, ⟨rfl, ⟨List.length_replicate, List.length_replicate⟩, fun i x h => (by cases h)⟩, ⟨List.length_replicate, List.length_replicate, List.length_replicate, List.length_replicate⟩, List.length_replicate, fun i x h => ?_⟩, rfl, ⟨rfl, ⟨List.length_replicate, List.length_replicate, List.length_replicate, List.length_replicate, List.length_replicate, List.length_replicate⟩, fun i f h => (by cases h), fun i f h => (by cases h), rfl, rfl, rfl, rfl, rfl, rfl, rfl⟩, ⟨rfl, ⟨List.length_replicate, List.length_replicate, List.length_replicate, List.length_replicate, List.length_replicate, List.length_replicate⟩, fun i f h => (by cases h), fun i f h => (by cases h), rfl, rfl, rfl, rfl, rfl, rfl, rfl⟩⟩
  have hi : i < 12 := by
    have := (List.getElem?_eq_some_iff.mp h).1
    rwa [List.length_replicate] at this
  have e := i_rep h
  subst e
  show (List.replicate 12 (0 : Int32))[i]? = some 0
  rw [List.getElem?_replicate, if_pos hi]
theorem i_to : cTo (0, 0, -9) dc_to := rfl
theorem i_va : cVa 0 dc_va := rfl
theorem sl0_eq : slD 0 sl0 = sl0E := by
  show slD 0 [(0, 8, List.replicate 8 0), (0, 8, List.replicate 8 0), (0, 8, List.replicate 8 0), (0, 8, List.replicate 8 0), (0, 8, List.replicate 8 0), (0, 8, List.replicate 8 0), (0, 8, List.replicate 8 0), (0, 8, List.replicate 8 0)] = _
  simp only [slD, sl3, List.map_replicate]
  rfl
theorem i_se : cSe [] se0 dN0 dc_se := by
  refine ⟨zZ lnS0 iv0S, List.replicate 20 .null, sl0, .null, ?_, ⟨List.length_replicate, List.length_replicate, List.length_replicate, List.length_replicate⟩, rfl, rfl, rfl, rfl, fun h => (by cases h), List.length_replicate, List.length_replicate, fun x hx => ?_, fun j hj e he => ?_⟩
  · show _ = zE zaS (zZ lnS0 iv0S) 0 zTS ++ ((173, .inr (7, List.replicate 20 .null)) :: (slD 0 sl0 ++ [(168, .inl (8, 2, .null))]))
    rw [zE_zZ, sl0_eq]
    rfl
  · rw [(List.mem_replicate.mp hx).2]
    exact List.length_replicate
  · exact List.mem_append_right _ (List.mem_append_right _ (List.mem_flatMap.mpr ⟨j, List.mem_range.mpr hj, he⟩))
theorem byR_rep {n : Nat} : byR (List.replicate n 0) := fun b hb => by
  rw [(List.mem_replicate.mp hb).2]
  decide
theorem i_kd : cKd [] dc_kd := ⟨zZ lnK0 [], List.replicate 1200 0, [], by rw [zE_zZ]; rfl, rfl, rfl, rp_len, by rw [List.nil_append]; exact byR_rep, ⟨rfl, List.length_replicate, fun i b h => (by cases h), rfl, rfl, rfl, rfl⟩⟩
theorem j_tp : mTp [] de_tp := ⟨List.replicate 1400 0, rp_len, by rw [List.map_nil, List.nil_append, List.map_replicate]; rfl⟩
theorem j_ps : mPs dN0 de_ps := .inl ⟨zZ lnQ0 [], 212, pQ0, by rw [zE_zZ]; rfl, ⟨⟨List.length_replicate, List.length_replicate, List.length_replicate, List.length_replicate⟩, ⟨List.length_replicate, List.length_replicate, List.length_replicate, List.length_replicate⟩, ⟨List.length_replicate, List.length_replicate, List.length_replicate, List.length_replicate, List.length_replicate, List.length_replicate, List.length_replicate, List.length_replicate⟩, List.length_replicate, List.length_replicate, List.length_replicate, List.length_replicate⟩, fun e he => List.mem_append_right _ (List.mem_append_left _ he)⟩
theorem j_fs : mFs [] dN0 de_fs := ⟨[], rfl, Nat.zero_le _, rfl, fun i F a h => (by cases h)⟩
theorem j_le : mLe [] de_le := ⟨List.replicate 100 0, List.replicate 100 0, List.replicate 100 0, List.length_replicate, rp_len, rp_len, by rw [List.map_nil, List.map_nil, List.nil_append, List.nil_append, List.map_replicate, List.map_replicate]; rfl⟩
theorem j_dk : mDk none dN0 de_dk := rfl
theorem sD_none0 : ∀ n : Nat, sD (List.replicate n none) = []
  | 0 => rfl
  | n + 1 => by
    rw [List.replicate_succ]
    show ([] : List xE) ++ sD (List.replicate n none) = []
    rw [sD_none0 n]
    rfl
theorem j_dr : mDr [] [] dN0 de_dr := ⟨List.replicate 31 0, List.replicate 31 0, List.replicate 31 0, List.replicate 31 0, List.replicate 620 .null, List.replicate 20 none, ⟨List.length_replicate, List.length_replicate, List.length_replicate, List.length_replicate, List.length_replicate⟩, ⟨List.length_replicate, fun x hx => by cases (List.mem_replicate.mp hx).2⟩, by rw [sD_none0, svl, List.map_replicate, List.map_replicate]; rfl, fun i d h => (by cases h), fun q v h1 h2 h3 => .inl (i_rep h3)⟩
theorem j_lg : mLg [] 0 dN0 de_lg := ⟨[], List.replicate 400 0, List.replicate 400 0, List.replicate 400 0, List.replicate 400 .null, rfl, ⟨⟨List.length_replicate, List.length_replicate, List.length_replicate, List.length_replicate⟩, Nat.zero_le _, fun i e h => (by cases h)⟩, by rw [List.map_replicate]; rfl, fun i d h => (by cases h), fun e h => (by cases h)⟩
theorem j_mv : mMv [] [] de_mv := ⟨List.replicate 40 0, List.replicate 40 0, List.replicate 40 0, List.replicate 40 0, List.replicate 40 0, ⟨List.length_replicate, List.length_replicate, List.length_replicate, List.length_replicate⟩, rfl, rp_len, fun i m h => (by cases h), by rw [List.nil_append, List.map_replicate]; rfl⟩
theorem j_wk : mWk 0 [] (0, 0, -9) 0 de_wk := by
  refine ⟨zZ lnF0 iv0F, (0, 0, 0, List.replicate 12 none), .null, 0, [], [], by rw [zE_zZ]; rfl, ⟨zZ lnF0 iv0F, ⟨rfl, rfl, rfl, rfl, rfl, ⟨rfl, rfl, rfl, rfl, rfl, rfl⟩, rfl, rfl, rfl⟩, ⟨List.length_replicate, List.length_replicate, List.length_replicate, List.length_replicate⟩, List.length_replicate, fun i x hi h => ?_⟩, rfl, ⟨rfl, ⟨List.length_replicate, List.length_replicate⟩, fun i f h => (by cases h), fun i f h => (by cases h), rfl, rfl, rfl, rfl, rfl, rfl⟩, ⟨rfl, List.length_replicate, Nat.zero_le _, fun i f h => (by cases h)⟩, ⟨rfl, rfl, rfl⟩, rfl⟩
  have e := i_rep h
  subst e
  show (List.replicate 12 (0 : Int32))[i]? = some 0
  rw [List.getElem?_replicate, if_pos hi]
theorem j_pl : mPl de_pl := ⟨[], rfl, Nat.zero_le _, fun x hx => (by cases hx)⟩
theorem j_se : mSe [] se0 de_se := ⟨zZ lnT0 iv0S, by rw [zE_zZ]; rfl, ⟨⟨List.length_replicate, List.length_replicate, List.length_replicate, List.length_replicate, List.length_replicate⟩, rfl, rfl, rfl, .inl ⟨rfl, rfl, rfl, rfl⟩⟩, fun h => (by cases h)⟩
theorem j_kd : mKd [] de_kd := ⟨zZ lnL0 [], List.replicate 1200 0, 0, 0, by rw [zE_zZ]; rfl, rfl, rfl, rp_len, by rw [List.nil_append]; exact byR_rep, List.length_replicate⟩
theorem inv0 : Inv dAll := by
  refine ⟨[], [], [], [], [], none, [], 0, 0, [], 0, [], (0, 0, -9), 0, se0, dN0, dC0, dM0, .refl _, ⟨fun b hb => (by cases hb), fun i F h => (by cases h), Nat.zero_le _, fun ob h => (by cases h), ⟨Nat.zero_le _, fun d h => (by cases h)⟩, Nat.zero_le _, rfl, ⟨Nat.zero_le _, fun m h => (by cases h)⟩, fun h => (by cases h)⟩, ?_, ?_⟩
  · exact IC.mk i_tp i_ps i_fs i_le i_dk i_dr rfl rfl i_mv i_wk i_to i_va i_se i_kd
  · exact IM.mk j_tp j_ps j_fs j_le j_dk j_dr j_lg rfl j_mv j_wk j_pl j_se j_kd
