/-! CALLS -/
section CALLS
variable {Ts : List Jvm.Cond} {cl : List vw_C} {cn : List String} {P : xP} {SN : List (String × String × String)} {SR : List (String × Nat × Nat)} {nW : Nat} {D : xD} {ad : Nat → Nat} {b0 : Nat} {H0 : Heap}
variable {p : Program} {l : Launch} {e : Env} {R : Room} {s : State} {m : MethodId} {args : Array Value} {below : List Frame} {meth : Method} {c : Code} {H : Heap} {locs : List Loc} {cells slots : Nat} {Q : State → Prop}
variable {f fr lo a k c0 pc idx nL : Nat} {M : xM} {h h1 : xH} {v : Option Value} {st r : List Value} {fs : List Value} {ls : Array Slot} {bytes : ByteArray} {own : String}
theorem xsplit (ad : Nat → Nat) (st : List Value) (n : Nat) : st.map (xcn ad) = ((st.take n).reverse.map (xcn ad)).reverse ++ (st.drop n).map (xcn ad) := by
  rw [← List.map_reverse, List.reverse_reverse, ← List.map_append, List.take_append_drop]
theorem xgoodc (h : Cond.code M.1 M.2.1 M.2.2.1 M.2.2.2.1 ∈ Ts) : GoodIn Ts [Cond.code M.1 M.2.1 M.2.2.1 M.2.2.2.1] := fun w hw => by
  rw [List.mem_singleton.mp hw]
  exact ⟨h, Or.inl rfl⟩
/-- behind a call -/
theorem xW_ran {mc ms : Nat} {st0 rest : List Value} {aa : Array Value} (hr : va_Run p l e R s m args below meth c H locs cells slots mc ms (F0 m pc ls st0) rest (xQc cl P D ad b0 H0 v h1 aa) (fun q => b0 ≤ q)) (hloc : ∀ q ∈ locs, b0 ≤ q.base)
    (kk : ∀ (H1 : Heap) (locs1 : List Loc), xHR cl D ad P.2.2.2.2.2 b0 H0 h1 H1 → (∀ q ∈ locs1, b0 ≤ q.base) → W p l e R s m args below meth c H1 locs1 (cells + mc) (slots + ms) Q (F0 m (pc + 3) ls ((v.map (xcn ad)).toList ++ rest))) : W p l e R s m args below meth c H locs cells slots Q (F0 m pc ls st0) := by
  intro T hT X
  obtain ⟨w, st₀, t, T', L, q0, X', hL, e1, -, ⟨hv, hb⟩, stp⟩ := hr T hT X
  have ew : w = v.map (xcn ad) := Outcome.returned.inj hv
  subst ew
  obtain ⟨t2, a1, b1⟩ := kk t.heap (locs ++ L) hb (fun q hq => by
    rcases List.mem_append.mp hq with hq | hq
    · exact hloc q hq
    · exact hL q hq) T' e1 X'
  exact ⟨t2, stp t2 a1, b1⟩
theorem xW_callV (ih : xGood Ts cl cn P SN SR nW D ad b0 H0 l f) (hkk : xokk Ts cl cn P nW) (hok : xokm Ts cl P SN SR nW M) (hM : P.1[a]? = some M) (hkd : M.2.2.2.2.2.1 = 1) (hlink : xMw Ts own idx M.1) (hx : p.tables.exec = Jvm.exec) (hb : c.code = bytes) (hml : c.maxLocals = nL) (hls : ls.size = nL) (hown : s.vm.findClass own = some m.cls) (hC : xCx Ts cl P SN SR nW D ad b0 H0 s) (hH : xHR cl D ad P.2.2.2.2.2 b0 H0 h H) (hloc : ∀ q ∈ locs, b0 ≤ q.base)
    (hst : st.drop M.2.2.2.2.1 = .ref k :: r) (hn : M.2.2.2.2.1 ≤ st.length) (hcell : h[k]? = some (.inl (c0, fs))) (hcn : cn[c0]? = some M.1.cls) (hlen : (xargs (.ref k :: (st.take M.2.2.2.2.1).reverse)).length ≤ M.2.2.1) (hcat : xcats r ≤ 8) (hfr : 1 ≤ fr) (hlo : 19 + M.2.2.1 ≤ lo) (hfR : fr ≤ R.frames) (hlR : lo ≤ R.locals)
    (hex : xex cn P f (fr - 1) (lo - (19 + M.2.2.1)) a 0 (xargs (.ref k :: (st.take M.2.2.2.2.1).reverse) ++ List.replicate (M.2.2.1 - (xargs (.ref k :: (st.take M.2.2.2.2.1).reverse)).length) none) [] h = some (v, h1)) (hd : decode bytes pc = .ok (.invokevirtual idx, 3)) (hf : cells + (h1.length - h.length) ≤ R.cells ∧ slots + (xsl h1 - xsl h) ≤ R.slots)
    (kk : ∀ (H1 : Heap) (locs1 : List Loc), xHR cl D ad P.2.2.2.2.2 b0 H0 h1 H1 → (∀ q ∈ locs1, b0 ≤ q.base) → W p l e R s m args below meth c H1 locs1 (cells + (h1.length - h.length)) (slots + (xsl h1 - xsl h)) Q (F0 m (pc + 3) ls ((v.map (xcn ad)).toList ++ r.map (xcn ad)))) : W p l e R s m args below meth c H locs cells slots Q (F0 m pc ls (st.map (xcn ad))) := by
  have hmet := xmet ih hM hok (by omega) hlen hex
  obtain ⟨og, o5, o6, o7, o8, o9, o10⟩ := hok
  obtain ⟨o1, o2, o3, o4⟩ := og (by omega)
  obtain ⟨i1, i2⟩ := o6 hkd
  obtain ⟨cellB, g1, g2, -, -, g4, -, -⟩ := hH.2.2.1 k _ hcell
  obtain ⟨q, hq, hqn⟩ := hkk.2.2.1 c0 _ hcn
  have hp : PreV s H M.1.cls (ad k) (xPc Ts cl P SN SR nW D ad b0 H0 (.ref k :: (st.take M.2.2.2.2.1).reverse) h) ((st.take M.2.2.2.2.1).reverse.map (xcn ad)) := ⟨xPc_blind hkk.2.1, ⟨cellB, g1, g2, by rw [← hqn, g4]; exact (hC.2.1.1 c0 q hq).1⟩, fun U hU hW => ⟨rfl, by rw [hU]; exact hH, xCx.warm Ts cl P SN SR nW D ad b0 H0 hkk.2.1 hW hC⟩⟩
  have S : CallFix p m c bytes nL s args Ts own := ⟨hx, hb, hml, hown, fun w hw => hC.1 w hw args⟩
  have hna : ((st.take M.2.2.2.2.1).reverse.map (xcn ad)).length = M.2.2.2.2.1 := by simp; omega
  have hstk : (F0 m pc ls (st.map (xcn ad))).stack = ((st.take M.2.2.2.2.1).reverse.map (xcn ad)).reverse ++ .ref (ad k) :: r.map (xcn ad) := by
    show st.map (xcn ad) = _
    rw [xsplit ad st M.2.2.2.2.1, hst]
    rfl
  have hroom : 2 * (F0 m pc ls (st.map (xcn ad))).monitorRoom + ((r.map (xcn ad)).map fun v => v.category).sum ≤ 8 := lv_room (by rw [xcats_map]; exact hcat)
  have hR : (fr - 1) + 1 ≤ R.frames ∧ 8 + (M.2.2.1 + 11) + (lo - (19 + M.2.2.1)) ≤ R.locals := ⟨by omega, by omega⟩
  rcases hlink with hl | ⟨host, hl⟩
  · exact xW_ran (va_runV S hmet ⟨callB_of M.2.2.2.2.1 (fun w hw => hC.1 w hw args) (xgoodc o1) rfl rfl rfl (hC.1 _ o2 args) (hC.1 _ hl args) o3 hR, hC.1 _ i1 args, hC.1 _ i2 args⟩ hp rfl hna hls hstk hroom hd hf) hloc kk
  · exact xW_ran (va_runVN S hmet ⟨va_cnB M.2.2.2.2.1 (fun w hw => hC.1 w hw args) (xgoodc o1) rfl rfl rfl (hC.1 _ hl #[]) (hC.1 _ o2 args) o3 hR, hC.1 _ i1 args, hC.1 _ i2 args⟩ hp rfl hna hls hstk hroom hd hf) hloc kk
theorem xW_callI (ih : xGood Ts cl cn P SN SR nW D ad b0 H0 l f) (hkk : xokk Ts cl cn P nW) (hok : xokm Ts cl P SN SR nW M) (hM : P.1[a]? = some M) (hkd : M.2.2.2.2.2.1 = 2) (hlink : xMw Ts own idx M.1) (hx : p.tables.exec = Jvm.exec) (hb : c.code = bytes) (hml : c.maxLocals = nL) (hls : ls.size = nL) (hown : s.vm.findClass own = some m.cls) (hC : xCx Ts cl P SN SR nW D ad b0 H0 s) (hH : xHR cl D ad P.2.2.2.2.2 b0 H0 h H) (hloc : ∀ q ∈ locs, b0 ≤ q.base)
    (hst : st.drop M.2.2.2.2.1 = .ref k :: r) (hn : M.2.2.2.2.1 ≤ st.length) (hlen : (xargs (.ref k :: (st.take M.2.2.2.2.1).reverse)).length ≤ M.2.2.1) (hcat : xcats r ≤ 8) (hfr : 1 ≤ fr) (hlo : 19 + M.2.2.1 ≤ lo) (hfR : fr ≤ R.frames) (hlR : lo ≤ R.locals)
    (hex : xex cn P f (fr - 1) (lo - (19 + M.2.2.1)) a 0 (xargs (.ref k :: (st.take M.2.2.2.2.1).reverse) ++ List.replicate (M.2.2.1 - (xargs (.ref k :: (st.take M.2.2.2.2.1).reverse)).length) none) [] h = some (v, h1)) (hd : decode bytes pc = .ok (.invokespecial idx, 3)) (hf : cells + (h1.length - h.length) ≤ R.cells ∧ slots + (xsl h1 - xsl h) ≤ R.slots)
    (kk : ∀ (H1 : Heap) (locs1 : List Loc), xHR cl D ad P.2.2.2.2.2 b0 H0 h1 H1 → (∀ q ∈ locs1, b0 ≤ q.base) → W p l e R s m args below meth c H1 locs1 (cells + (h1.length - h.length)) (slots + (xsl h1 - xsl h)) Q (F0 m (pc + 3) ls ((v.map (xcn ad)).toList ++ r.map (xcn ad)))) : W p l e R s m args below meth c H locs cells slots Q (F0 m pc ls (st.map (xcn ad))) := by
  have hmet := xmet ih hM hok (by omega) hlen hex
  obtain ⟨og, o5, o6, o7, o8, o9, o10⟩ := hok
  obtain ⟨o1, o2, o3, o4⟩ := og (by omega)
  obtain ⟨i1, i2, i3⟩ := o7 hkd
  rw [i3] at o1 hmet
  have hp : PreS s H (xPc Ts cl P SN SR nW D ad b0 H0 (.ref k :: (st.take M.2.2.2.2.1).reverse) h) (.ref (ad k) :: (st.take M.2.2.2.2.1).reverse.map (xcn ad)) := ⟨xPc_blind hkk.2.1, fun U hU hW => ⟨rfl, by rw [hU]; exact hH, xCx.warm Ts cl P SN SR nW D ad b0 H0 hkk.2.1 hW hC⟩⟩
  have S : CallFix p m c bytes nL s args Ts own := ⟨hx, hb, hml, hown, fun w hw => hC.1 w hw args⟩
  have hna : ((st.take M.2.2.2.2.1).reverse.map (xcn ad)).length = M.2.2.2.2.1 := by simp; omega
  have hstk : (F0 m pc ls (st.map (xcn ad))).stack = ((st.take M.2.2.2.2.1).reverse.map (xcn ad)).reverse ++ .ref (ad k) :: r.map (xcn ad) := by
    show st.map (xcn ad) = _
    rw [xsplit ad st M.2.2.2.2.1, hst]
    rfl
  have hroom : 2 * (F0 m pc ls (st.map (xcn ad))).monitorRoom + ((r.map (xcn ad)).map fun v => v.category).sum ≤ 8 := lv_room (by rw [xcats_map]; exact hcat)
  have hR : (fr - 1) + 1 ≤ R.frames ∧ 8 + (M.2.2.1 + 11) + (lo - (19 + M.2.2.1)) ≤ R.locals := ⟨by omega, by omega⟩
  have hG : GoodIn Ts [Cond.code M.1 M.2.1 M.2.2.1 none] := fun w hw => by
    rw [List.mem_singleton.mp hw]
    exact ⟨o1, Or.inl rfl⟩
  rcases hlink with hl | ⟨host, hl⟩
  · exact xW_ran (va_runI S hmet ⟨callB_of M.2.2.2.2.1 (fun w hw => hC.1 w hw args) hG rfl rfl rfl (hC.1 _ o2 args) (hC.1 _ hl args) o3 hR, i2, hC.1 _ i1 args⟩ hp rfl hna hls hstk hroom hd hf) hloc kk
  · exact xW_ran (va_runIN S hmet ⟨va_cnB M.2.2.2.2.1 (fun w hw => hC.1 w hw args) hG rfl rfl rfl (hC.1 _ hl #[]) (hC.1 _ o2 args) o3 hR, i2, hC.1 _ i1 args⟩ hp rfl hna hls hstk hroom hd hf) hloc kk
theorem xW_callS (ih : xGood Ts cl cn P SN SR nW D ad b0 H0 l f) (hkk : xokk Ts cl cn P nW) (hok : xokm Ts cl P SN SR nW M) (hM : P.1[a]? = some M) (hkd : M.2.2.2.2.2.1 = 0) (hlink : xMw Ts own idx M.1) (hx : p.tables.exec = Jvm.exec) (hb : c.code = bytes) (hml : c.maxLocals = nL) (hls : ls.size = nL) (hown : s.vm.findClass own = some m.cls) (hC : xCx Ts cl P SN SR nW D ad b0 H0 s) (hH : xHR cl D ad P.2.2.2.2.2 b0 H0 h H) (hloc : ∀ q ∈ locs, b0 ≤ q.base)
    (hn : M.2.2.2.2.1 ≤ st.length) (hlen : (xargs (st.take M.2.2.2.2.1).reverse).length ≤ M.2.2.1) (hcat : xcats (st.drop M.2.2.2.2.1) ≤ 8) (hfr : 1 ≤ fr) (hlo : 19 + M.2.2.1 ≤ lo) (hfR : fr ≤ R.frames) (hlR : lo ≤ R.locals)
    (hex : xex cn P f (fr - 1) (lo - (19 + M.2.2.1)) a 0 (xargs (st.take M.2.2.2.2.1).reverse ++ List.replicate (M.2.2.1 - (xargs (st.take M.2.2.2.2.1).reverse).length) none) [] h = some (v, h1)) (hd : decode bytes pc = .ok (.invokestatic idx, 3)) (hf : cells + (h1.length - h.length) ≤ R.cells ∧ slots + (xsl h1 - xsl h) ≤ R.slots)
    (kk : ∀ (H1 : Heap) (locs1 : List Loc), xHR cl D ad P.2.2.2.2.2 b0 H0 h1 H1 → (∀ q ∈ locs1, b0 ≤ q.base) → W p l e R s m args below meth c H1 locs1 (cells + (h1.length - h.length)) (slots + (xsl h1 - xsl h)) Q (F0 m (pc + 3) ls ((v.map (xcn ad)).toList ++ (st.drop M.2.2.2.2.1).map (xcn ad)))) : W p l e R s m args below meth c H locs cells slots Q (F0 m pc ls (st.map (xcn ad))) := by
  have hmet := xmet ih hM hok (by omega) hlen hex
  obtain ⟨og, o5, o6, o7, o8, o9, o10⟩ := hok
  obtain ⟨o1, o2, o3, o4⟩ := og (by omega)
  have i1 := o5 hkd
  have hp : PreS s H (xPc Ts cl P SN SR nW D ad b0 H0 (st.take M.2.2.2.2.1).reverse h) ((st.take M.2.2.2.2.1).reverse.map (xcn ad)) := ⟨xPc_blind hkk.2.1, fun U hU hW => ⟨rfl, by rw [hU]; exact hH, xCx.warm Ts cl P SN SR nW D ad b0 H0 hkk.2.1 hW hC⟩⟩
  have S : CallFix p m c bytes nL s args Ts own := ⟨hx, hb, hml, hown, fun w hw => hC.1 w hw args⟩
  have hna : ((st.take M.2.2.2.2.1).reverse.map (xcn ad)).length = M.2.2.2.2.1 := by simp; omega
  have hstk : (F0 m pc ls (st.map (xcn ad))).stack = ((st.take M.2.2.2.2.1).reverse.map (xcn ad)).reverse ++ (st.drop M.2.2.2.2.1).map (xcn ad) := xsplit ad st M.2.2.2.2.1
  have hroom : 2 * (F0 m pc ls (st.map (xcn ad))).monitorRoom + (((st.drop M.2.2.2.2.1).map (xcn ad)).map fun v => v.category).sum ≤ 8 := lv_room (by rw [xcats_map]; exact hcat)
  have hR : (fr - 1) + 1 ≤ R.frames ∧ 8 + (M.2.2.1 + 11) + (lo - (19 + M.2.2.1)) ≤ R.locals := ⟨by omega, by omega⟩
  rcases hlink with hl | ⟨host, hl⟩
  · exact xW_ran (va_runS S hmet ⟨callB_of M.2.2.2.2.1 (fun w hw => hC.1 w hw args) (xgoodc o1) rfl rfl rfl (hC.1 _ o2 args) (hC.1 _ hl args) o3 hR, hC.1 _ i1 args⟩ hp rfl hna hls hstk hroom hd hf) hloc kk
  · exact xW_ran (va_runSN S hmet ⟨va_cnB M.2.2.2.2.1 (fun w hw => hC.1 w hw args) (xgoodc o1) rfl rfl rfl (hC.1 _ hl #[]) (hC.1 _ o2 args) o3 hR, hC.1 _ i1 args, trivial⟩ hp rfl hna hls hstk hroom hd hf) hloc kk
/-- the JDK's check of an index that is in range: by hand, for what it is handed besides is not known -/
theorem xmet_pci {i n : Int32} {w : Value} (h0 : ¬ i < 0) (h1 : i < n) (hw : w = .null ∨ ∃ t, w = .ref t) : Met l xy_pci [Cond.code xy_pci xb_pci 3 (some .int)] { frames := 0, cells := 0, slots := 0, locals := 0 } (fun a U => a = #[.int i, .int n, w] ∧ xHR cl D ad P.2.2.2.2.2 b0 H0 h U.heap) (fun _ _ o t => o = .returned (some (.int i)) ∧ xHR cl D ad P.2.2.2.2.2 b0 H0 h t.heap) 0 0 (fun q => b0 ≤ q) := by
  refine Met.ofW (cc := xb_pci) (maxL := 3) (ret := some .int) (by decide) rfl ?_
  intro p e s m args below meth c s₁ B hml hv
  obtain ⟨rfl, hH⟩ := hv
  have hx := B.exec
  have hb := B.bytes
  have hr := B.returns
  have hlocks := B.notSynchronized
  have hl : ∃ ls : Array Slot, entryFrame m #[.int i, .int n, w] 3 = F0 m 0 ls [] ∧ ls[0]? = some (.val (.int i)) ∧ ls[1]? = some (.val (.int n)) := by
    rcases hw with rfl | ⟨t, rfl⟩
    · exact ⟨_, lg_entry_eq m [.int i, .int n, .null] 3, rfl, rfl⟩
    · exact ⟨_, lg_entry_eq m [.int i, .int n, .ref t] 3, rfl, rfl⟩
  obtain ⟨ls, he, l0, l1⟩ := hl
  rw [he]
  refine lv_iload_n hx hb xd_pci_0 rfl l0 ?_
  refine lv_if_lt (tgt := 9) hx hb xd_pci_1 (by decide) (fun q => absurd q h0) (fun _ => ?_)
  refine lv_iload_n hx hb xd_pci_4 rfl l0 ?_
  refine lv_iload_n hx hb xd_pci_5 rfl l1 ?_
  refine lv_icmp_lt (tgt := 16) hx hb xd_pci_6 (by decide) (fun _ => ?_) (fun q => absurd h1 q)
  refine lv_iload_n hx hb xd_pci_16 rfl l0 ?_
  exact W.iret (v := i) hx hb hr (fun t ht hW => ⟨rfl, by rw [ht]; exact hH⟩) (fun q hq => by cases hq) xd_pci_17
theorem xmet_ci {i n : Int32} (hci : xokci Ts) (hT : ∀ w ∈ Ts, xkeep w = true) (h0 : ¬ i < 0) (h1 : i < n) : Met l xy_ci [Cond.code xy_ci xb_ci 2 none] { frames := 1, cells := 0, slots := 0, locals := 30 } (xPc Ts cl P SN SR nW D ad b0 H0 [.int i, .int n] h) (xQc cl P D ad b0 H0 none h) 0 0 (fun q => b0 ≤ q) := by
  refine Met.ofW (cc := xb_ci) (maxL := 2) (ret := none) (by decide) rfl ?_
  intro p e s m args below meth c s₁ B hml hv
  obtain ⟨rfl, hH, hC⟩ := hv
  have hx := B.exec
  have hb := B.bytes
  have hr := B.returns
  have hlocks := B.notSynchronized
  have hown : s.vm.findClass "java/lang/String" = some m.cls := findClass_of_methodNamed B.named
  obtain ⟨w, cf, kf, fi, f, a, cell, hw, z1, z2, z3, z4, z5, z6, z7, z8⟩ := hC.2.2.2.2
  have he := lg_entry_eq m [.int i, .int n] 2
  show W _ _ _ _ _ _ _ _ _ _ _ _ _ _ _ (entryFrame m ([.int i, .int n] : List Value).toArray 2)
  rw [he]
  generalize hls : (lg_sl [.int i, .int n] ++ List.replicate (2 - (lg_sl [.int i, .int n]).length) Slot.unset).toArray = ls
  have l0 : ls[0]? = some (.val (.int i)) := by rw [← hls]; rfl
  have l1 : ls[1]? = some (.val (.int n)) := by rw [← hls]; rfl
  have lz : ls.size = 2 := by rw [← hls]; rfl
  refine lv_iload_n hx hb xd_ci_0 rfl l0 ?_
  refine lv_iload_n hx hb xd_ci_1 rfl l1 ?_
  refine W.gets (name := xSQ.2.1) (desc := xSQ.2.2) (ref := xSQ.1) hx hb hown (hC.1 _ hci.2.2.1 _) z1 z2 z3 z4 (by rw [hH.2.2.2 a z5]; exact z6) (fun e => by rw [e] at z7; cases z7) z8 rfl xd_ci_2 ?_
  have hmet := xmet_pci (l := l) (cl := cl) (P := P) (D := D) (ad := ad) (b0 := b0) (H0 := H0) (h := h) h0 h1 hw
  have hG : GoodIn Ts [Cond.code xy_pci xb_pci 3 (some .int)] := fun w hw => by
    rw [List.mem_singleton.mp hw]
    exact ⟨hci.2.1.1, Or.inl rfl⟩
  have hp : PreS s s.heap (fun a U => a = #[.int i, .int n, w] ∧ xHR cl D ad P.2.2.2.2.2 b0 H0 h U.heap) [.int i, .int n, w] := ⟨fun a U g mk q => q, fun U hU hW => ⟨rfl, by rw [hU]; exact hH⟩⟩
  have S : CallFix p m c xb_ci 2 s (([.int i, .int n] : List Value).map (xcn ad)).toArray Ts "java/lang/String" := ⟨hx, hb, hml, hown, fun w hw => hC.1 w hw _⟩
  have hrun := va_runS (l := l) (R := { frames := 1, cells := 0, slots := 0, locals := 30 }) (e := e) (below := below) (meth := meth) (locs := []) (cells := 0) (slots := 0) (g := F0 m 5 ls (w :: .int n :: .int i :: [])) (rest := []) S hmet ⟨callB_of 3 (fun w hw => hC.1 w hw _) hG rfl rfl rfl (hC.1 _ hci.2.1.2.2 _) (hC.1 _ hci.2.2.2 _) (by decide +kernel) ⟨Nat.le_refl _, by decide⟩, hC.1 _ hci.2.1.2.1 _⟩ hp rfl rfl lz rfl (lv_room (by decide)) xd_ci_5 ⟨Nat.le_refl _, Nat.le_refl _⟩
  intro T hT X
  obtain ⟨v, st₀, t, T', L, q0, X', hL, e1, -, ⟨hv, hb2⟩, stp⟩ := hrun T hT X
  have ew : v = some (.int i) := Outcome.returned.inj hv
  subst ew
  have hend : W p l e { frames := 1, cells := 0, slots := 0, locals := 30 } s m (([.int i, .int n] : List Value).map (xcn ad)).toArray below meth c t.heap ([] ++ L) (0 + 0) (0 + 0) (MQ below (xQc cl P D ad b0 H0 none h) (([.int i, .int n] : List Value).map (xcn ad)).toArray s 0 0 (fun q => b0 ≤ q)) (F0 m (5 + 3) ls [.int i]) := by
    refine lv_pop hx hb xd_ci_8 rfl ?_
    exact W.vret hx hb hr (fun t ht hW => ⟨rfl, by rw [ht]; exact hb2⟩) (fun q hq => hL q (by simpa using hq)) xd_ci_9
  obtain ⟨t2, a1, b1⟩ := hend T' e1 X'
  exact ⟨t2, stp t2 a1, b1⟩
theorem xW_ci {i n : Int32} (hci : xokci Ts) (hT : ∀ w ∈ Ts, xkeep w = true) (hx : p.tables.exec = Jvm.exec) (hb : c.code = bytes) (hml : c.maxLocals = nL) (hls : ls.size = nL) (hown : s.vm.findClass own = some m.cls) (hC : xCx Ts cl P SN SR nW D ad b0 H0 s) (hH : xHR cl D ad P.2.2.2.2.2 b0 H0 h H) (hloc : ∀ q ∈ locs, b0 ≤ q.base) (hlk : Cond.methodLink own idx xy_ci ∈ Ts)
    (h0 : ¬ i < 0) (h1 : i < n) (hcat : xcats st ≤ 8) (hfr : 2 ≤ fr) (hlo : 100 ≤ lo) (hfR : fr ≤ R.frames) (hlR : lo ≤ R.locals) (hd : decode bytes pc = .ok (.invokestatic idx, 3)) (hc1 : cells ≤ R.cells) (hc2 : slots ≤ R.slots)
    (kk : ∀ (H1 : Heap) (locs1 : List Loc), xHR cl D ad P.2.2.2.2.2 b0 H0 h H1 → (∀ q ∈ locs1, b0 ≤ q.base) → W p l e R s m args below meth c H1 locs1 cells slots Q (F0 m (pc + 3) ls (st.map (xcn ad)))) : W p l e R s m args below meth c H locs cells slots Q (F0 m pc ls ((.int n :: .int i :: st).map (xcn ad))) := by
  have hmet := xmet_ci (l := l) (cl := cl) (P := P) (SN := SN) (SR := SR) (nW := nW) (D := D) (ad := ad) (b0 := b0) (H0 := H0) (h := h) hci hT h0 h1
  have hG : GoodIn Ts [Cond.code xy_ci xb_ci 2 none] := fun w hw => by
    rw [List.mem_singleton.mp hw]
    exact ⟨hci.1.1, Or.inl rfl⟩
  have hp : PreS s H (xPc Ts cl P SN SR nW D ad b0 H0 [.int i, .int n] h) [.int i, .int n] := ⟨xPc_blind hT, fun U hU hW => ⟨rfl, by rw [hU]; exact hH, xCx.warm Ts cl P SN SR nW D ad b0 H0 hT hW hC⟩⟩
  have S : CallFix p m c bytes nL s args Ts own := ⟨hx, hb, hml, hown, fun w hw => hC.1 w hw args⟩
  exact xW_ran (va_runS S hmet ⟨callB_of 2 (fun w hw => hC.1 w hw args) hG rfl rfl rfl (hC.1 _ hci.1.2.2 args) (hC.1 _ hlk args) (by decide +kernel) ⟨by show 1 + 1 ≤ R.frames; omega, by show 8 + (2 + 11) + 30 ≤ R.locals; omega⟩, hC.1 _ hci.1.2.1 args⟩ hp rfl rfl hls rfl (lv_room (by rw [xcats_map]; exact hcat)) hd ⟨hc1, hc2⟩) hloc kk
end CALLS
