/-! CALLS -/
section CALLS
variable {Ts : List Jvm.Cond} {cl : List vw_C} {cn : List String} {P : xP} {SN : List (String × String × String)} {SR : List (String × Nat × Nat)} {nW : Nat} {D : xD} {ad : Nat → Nat} {b0 : Nat} {H0 : Heap}
variable {p : Program} {l : Launch} {e : Env} {R : Room} {s : State} {m : MethodId} {args : Array Value} {below : List Frame} {meth : Method} {c : Code} {H : Heap} {locs : List Loc} {cells slots : Nat} {Q : State → Prop}
variable {f fr lo a k c0 pc idx nL : Nat} {M : xM} {h h1 : xH} {v : Option Value} {st r : List Value} {fs : List Value} {ls : Array Slot} {bytes : ByteArray} {own : String}
theorem xsplit (ad : Nat → Nat) (st : List Value) (n : Nat) : st.map (xcn ad) = ((st.take n).reverse.map (xcn ad)).reverse ++ (st.drop n).map (xcn ad) := by
  rw [← List.map_reverse, List.reverse_reverse, ← List.map_append, List.take_append_drop]
theorem xgoodc (h : Cond.code M.1 M.2.1 M.2.2.1 M.2.2.2.1 ∈ Ts) : GoodIn Ts [Cond.code M.1 M.2.1 M.2.2.1 M.2.2.2.1] := fun w hw => by
  rw [List.mem_singleton.mp hw]
  exact ⟨h, Or.inl rfl⟩
/-- behind a call -/
theorem xW_ran {mc ms : Nat} {st0 rest : List Value} {aa : Array Value} (hr : va_Run p l e R s m args below meth c H locs cells slots mc ms (F0 m pc ls st0) rest (xQc cl P D ad b0 H0 v h1 aa) (fun q => b0 ≤ q)) (hloc : ∀ q ∈ locs, b0 ≤ q.base)
    (kk : ∀ (H1 : Heap) (locs1 : List Loc), xHR cl D ad P.2.2.2.2.2 b0 H0 h1 H1 → (∀ q ∈ locs1, b0 ≤ q.base) → W p l e R s m args below meth c H1 locs1 (cells + mc) (slots + ms) Q (F0 m (pc + 3) ls ((v.map (xcn ad)).toList ++ rest))) : W p l e R s m args below meth c H locs cells slots Q (F0 m pc ls st0) := by
  intro T hT X
  obtain ⟨w, st₀, t, T', L, q0, X', hL, e1, -, ⟨hv, hb⟩, stp⟩ := hr T hT X
  have ew : w = v.map (xcn ad) := Outcome.returned.inj hv
  subst ew
  obtain ⟨t2, a1, b1⟩ := kk t.heap (locs ++ L) hb (fun q hq => by
    rcases List.mem_append.mp hq with hq | hq
    · exact hloc q hq
    · exact hL q hq) T' e1 X'
  exact ⟨t2, stp t2 a1, b1⟩
theorem xW_callV (ih : xGood Ts cl cn P SN SR nW D ad b0 H0 l f) (hkk : xokk Ts cl cn P nW) (hok : xokm Ts cl P SN SR nW M) (hM : P.1[a]? = some M) (hkd : M.2.2.2.2.2.1 = 1) (hlink : xMw Ts own idx M.1) (hx : p.tables.exec = Jvm.exec) (hb : c.code = bytes) (hml : c.maxLocals = nL) (hls : ls.size = nL) (hown : s.vm.findClass own = some m.cls) (hC : xCx Ts cl P SN SR nW D ad b0 H0 s) (hH : xHR cl D ad P.2.2.2.2.2 b0 H0 h H) (hloc : ∀ q ∈ locs, b0 ≤ q.base)
    (hst : st.drop M.2.2.2.2.1 = .ref k :: r) (hn : M.2.2.2.2.1 ≤ st.length) (hcell : h[k]? = some (.inl (c0, fs))) (hcn : cn[c0]? = some M.1.cls) (hlen : (xargs (.ref k :: (st.take M.2.2.2.2.1).reverse)).length ≤ M.2.2.1) (hcat : xcats r ≤ 8) (hfr : 1 ≤ fr) (hlo : 19 + M.2.2.1 ≤ lo) (hfR : fr ≤ R.frames) (hlR : lo ≤ R.locals)
    (hex : xex cn P f (fr - 1) (lo - (19 + M.2.2.1)) a 0 (xargs (.ref k :: (st.take M.2.2.2.2.1).reverse) ++ List.replicate (M.2.2.1 - (xargs (.ref k :: (st.take M.2.2.2.2.1).reverse)).length) none) [] h = some (v, h1)) (hd : decode bytes pc = .ok (.invokevirtual idx, 3)) (hf : cells + (h1.length - h.length) ≤ R.cells ∧ slots + (xsl h1 - xsl h) ≤ R.slots)
    (kk : ∀ (H1 : Heap) (locs1 : List Loc), xHR cl D ad P.2.2.2.2.2 b0 H0 h1 H1 → (∀ q ∈ locs1, b0 ≤ q.base) → W p l e R s m args below meth c H1 locs1 (cells + (h1.length - h.length)) (slots + (xsl h1 - xsl h)) Q (F0 m (pc + 3) ls ((v.map (xcn ad)).toList ++ r.map (xcn ad)))) : W p l e R s m args below meth c H locs cells slots Q (F0 m pc ls (st.map (xcn ad))) := by
  have hmet := xmet ih hM hok (by omega) hlen hex
  obtain ⟨og, o5, o6, o7, o8, o9, o10⟩ := hok
  obtain ⟨o1, o2, o3, o4⟩ := og (by omega)
  obtain ⟨i1, i2⟩ := o6 hkd
  obtain ⟨cellB, g1, g2, -, -, g4, -, -⟩ := hH.2.2.1 k _ hcell
  obtain ⟨q, hq, hqn⟩ := hkk.2.1 c0 _ hcn
  have hp : PreV s H M.1.cls (ad k) (xPc Ts cl P SN SR nW D ad b0 H0 (.ref k :: (st.take M.2.2.2.2.1).reverse) h) ((st.take M.2.2.2.2.1).reverse.map (xcn ad)) := ⟨xPc_blind hkk.1, ⟨cellB, g1, g2, by rw [← hqn, g4]; exact (hC.2.1.1 c0 q hq).1⟩, fun U hU hW => ⟨rfl, by rw [hU]; exact hH, xCx.warm Ts cl P SN SR nW D ad b0 H0 hkk.1 hW hC⟩⟩
  have S : CallFix p m c bytes nL s args Ts own := ⟨hx, hb, hml, hown, fun w hw => hC.1 w hw args⟩
  have hna : ((st.take M.2.2.2.2.1).reverse.map (xcn ad)).length = M.2.2.2.2.1 := by simp; omega
  have hstk : (F0 m pc ls (st.map (xcn ad))).stack = ((st.take M.2.2.2.2.1).reverse.map (xcn ad)).reverse ++ .ref (ad k) :: r.map (xcn ad) := by
    show st.map (xcn ad) = _
    rw [xsplit ad st M.2.2.2.2.1, hst]
    rfl
  have hroom : 2 * (F0 m pc ls (st.map (xcn ad))).monitorRoom + ((r.map (xcn ad)).map fun v => v.category).sum ≤ 8 := lv_room (by rw [xcats_map]; exact hcat)
  have hR : (fr - 1) + 1 ≤ R.frames ∧ 8 + (M.2.2.1 + 11) + (lo - (19 + M.2.2.1)) ≤ R.locals := ⟨by omega, by omega⟩
  rcases hlink with hl | ⟨host, hl⟩
  · exact xW_ran (va_runV S hmet ⟨callB_of M.2.2.2.2.1 (fun w hw => hC.1 w hw args) (xgoodc o1) rfl rfl rfl (hC.1 _ o2 args) (hC.1 _ hl args) o3 hR, hC.1 _ i1 args, hC.1 _ i2 args⟩ hp rfl hna hls hstk hroom hd hf) hloc kk
  · exact xW_ran (va_runVN S hmet ⟨va_cnB M.2.2.2.2.1 (fun w hw => hC.1 w hw args) (xgoodc o1) rfl rfl rfl (hC.1 _ hl #[]) (hC.1 _ o2 args) o3 hR, hC.1 _ i1 args, hC.1 _ i2 args⟩ hp rfl hna hls hstk hroom hd hf) hloc kk
theorem xW_callI (ih : xGood Ts cl cn P SN SR nW D ad b0 H0 l f) (hkk : xokk Ts cl cn P nW) (hok : xokm Ts cl P SN SR nW M) (hM : P.1[a]? = some M) (hkd : M.2.2.2.2.2.1 = 2) (hlink : xMw Ts own idx M.1) (hx : p.tables.exec = Jvm.exec) (hb : c.code = bytes) (hml : c.maxLocals = nL) (hls : ls.size = nL) (hown : s.vm.findClass own = some m.cls) (hC : xCx Ts cl P SN SR nW D ad b0 H0 s) (hH : xHR cl D ad P.2.2.2.2.2 b0 H0 h H) (hloc : ∀ q ∈ locs, b0 ≤ q.base)
    (hst : st.drop M.2.2.2.2.1 = .ref k :: r) (hn : M.2.2.2.2.1 ≤ st.length) (hlen : (xargs (.ref k :: (st.take M.2.2.2.2.1).reverse)).length ≤ M.2.2.1) (hcat : xcats r ≤ 8) (hfr : 1 ≤ fr) (hlo : 19 + M.2.2.1 ≤ lo) (hfR : fr ≤ R.frames) (hlR : lo ≤ R.locals)
    (hex : xex cn P f (fr - 1) (lo - (19 + M.2.2.1)) a 0 (xargs (.ref k :: (st.take M.2.2.2.2.1).reverse) ++ List.replicate (M.2.2.1 - (xargs (.ref k :: (st.take M.2.2.2.2.1).reverse)).length) none) [] h = some (v, h1)) (hd : decode bytes pc = .ok (.invokespecial idx, 3)) (hf : cells + (h1.length - h.length) ≤ R.cells ∧ slots + (xsl h1 - xsl h) ≤ R.slots)
    (kk : ∀ (H1 : Heap) (locs1 : List Loc), xHR cl D ad P.2.2.2.2.2 b0 H0 h1 H1 → (∀ q ∈ locs1, b0 ≤ q.base) → W p l e R s m args below meth c H1 locs1 (cells + (h1.length - h.length)) (slots + (xsl h1 - xsl h)) Q (F0 m (pc + 3) ls ((v.map (xcn ad)).toList ++ r.map (xcn ad)))) : W p l e R s m args below meth c H locs cells slots Q (F0 m pc ls (st.map (xcn ad))) := by
  have hmet := xmet ih hM hok (by omega) hlen hex
  obtain ⟨og, o5, o6, o7, o8, o9, o10⟩ := hok
  obtain ⟨o1, o2, o3, o4⟩ := og (by omega)
  obtain ⟨i1, i2, i3⟩ := o7 hkd
  rw [i3] at o1 hmet
  have hp : PreS s H (xPc Ts cl P SN SR nW D ad b0 H0 (.ref k :: (st.take M.2.2.2.2.1).reverse) h) (.ref (ad k) :: (st.take M.2.2.2.2.1).reverse.map (xcn ad)) := ⟨xPc_blind hkk.1, fun U hU hW => ⟨rfl, by rw [hU]; exact hH, xCx.warm Ts cl P SN SR nW D ad b0 H0 hkk.1 hW hC⟩⟩
  have S : CallFix p m c bytes nL s args Ts own := ⟨hx, hb, hml, hown, fun w hw => hC.1 w hw args⟩
  have hna : ((st.take M.2.2.2.2.1).reverse.map (xcn ad)).length = M.2.2.2.2.1 := by simp; omega
  have hstk : (F0 m pc ls (st.map (xcn ad))).stack = ((st.take M.2.2.2.2.1).reverse.map (xcn ad)).reverse ++ .ref (ad k) :: r.map (xcn ad) := by
    show st.map (xcn ad) = _
    rw [xsplit ad st M.2.2.2.2.1, hst]
    rfl
  have hroom : 2 * (F0 m pc ls (st.map (xcn ad))).monitorRoom + ((r.map (xcn ad)).map fun v => v.category).sum ≤ 8 := lv_room (by rw [xcats_map]; exact hcat)
  have hR : (fr - 1) + 1 ≤ R.frames ∧ 8 + (M.2.2.1 + 11) + (lo - (19 + M.2.2.1)) ≤ R.locals := ⟨by omega, by omega⟩
  have hG : GoodIn Ts [Cond.code M.1 M.2.1 M.2.2.1 none] := fun w hw => by
    rw [List.mem_singleton.mp hw]
    exact ⟨o1, Or.inl rfl⟩
  rcases hlink with hl | ⟨host, hl⟩
  · exact xW_ran (va_runI S hmet ⟨callB_of M.2.2.2.2.1 (fun w hw => hC.1 w hw args) hG rfl rfl rfl (hC.1 _ o2 args) (hC.1 _ hl args) o3 hR, i2, hC.1 _ i1 args⟩ hp rfl hna hls hstk hroom hd hf) hloc kk
  · exact xW_ran (va_runIN S hmet ⟨va_cnB M.2.2.2.2.1 (fun w hw => hC.1 w hw args) hG rfl rfl rfl (hC.1 _ hl #[]) (hC.1 _ o2 args) o3 hR, i2, hC.1 _ i1 args⟩ hp rfl hna hls hstk hroom hd hf) hloc kk
theorem xW_callS (ih : xGood Ts cl cn P SN SR nW D ad b0 H0 l f) (hkk : xokk Ts cl cn P nW) (hok : xokm Ts cl P SN SR nW M) (hM : P.1[a]? = some M) (hkd : M.2.2.2.2.2.1 = 0) (hlink : xMw Ts own idx M.1) (hx : p.tables.exec = Jvm.exec) (hb : c.code = bytes) (hml : c.maxLocals = nL) (hls : ls.size = nL) (hown : s.vm.findClass own = some m.cls) (hC : xCx Ts cl P SN SR nW D ad b0 H0 s) (hH : xHR cl D ad P.2.2.2.2.2 b0 H0 h H) (hloc : ∀ q ∈ locs, b0 ≤ q.base)
    (hn : M.2.2.2.2.1 ≤ st.length) (hlen : (xargs (st.take M.2.2.2.2.1).reverse).length ≤ M.2.2.1) (hcat : xcats (st.drop M.2.2.2.2.1) ≤ 8) (hfr : 1 ≤ fr) (hlo : 19 + M.2.2.1 ≤ lo) (hfR : fr ≤ R.frames) (hlR : lo ≤ R.locals)
    (hex : xex cn P f (fr - 1) (lo - (19 + M.2.2.1)) a 0 (xargs (st.take M.2.2.2.2.1).reverse ++ List.replicate (M.2.2.1 - (xargs (st.take M.2.2.2.2.1).reverse).length) none) [] h = some (v, h1)) (hd : decode bytes pc = .ok (.invokestatic idx, 3)) (hf : cells + (h1.length - h.length) ≤ R.cells ∧ slots + (xsl h1 - xsl h) ≤ R.slots)
    (kk : ∀ (H1 : Heap) (locs1 : List Loc), xHR cl D ad P.2.2.2.2.2 b0 H0 h1 H1 → (∀ q ∈ locs1, b0 ≤ q.base) → W p l e R s m args below meth c H1 locs1 (cells + (h1.length - h.length)) (slots + (xsl h1 - xsl h)) Q (F0 m (pc + 3) ls ((v.map (xcn ad)).toList ++ (st.drop M.2.2.2.2.1).map (xcn ad)))) : W p l e R s m args below meth c H locs cells slots Q (F0 m pc ls (st.map (xcn ad))) := by
  have hmet := xmet ih hM hok (by omega) hlen hex
  obtain ⟨og, o5, o6, o7, o8, o9, o10⟩ := hok
  obtain ⟨o1, o2, o3, o4⟩ := og (by omega)
  have i1 := o5 hkd
  have hp : PreS s H (xPc Ts cl P SN SR nW D ad b0 H0 (st.take M.2.2.2.2.1).reverse h) ((st.take M.2.2.2.2.1).reverse.map (xcn ad)) := ⟨xPc_blind hkk.1, fun U hU hW => ⟨rfl, by rw [hU]; exact hH, xCx.warm Ts cl P SN SR nW D ad b0 H0 hkk.1 hW hC⟩⟩
  have S : CallFix p m c bytes nL s args Ts own := ⟨hx, hb, hml, hown, fun w hw => hC.1 w hw args⟩
  have hna : ((st.take M.2.2.2.2.1).reverse.map (xcn ad)).length = M.2.2.2.2.1 := by simp; omega
  have hstk : (F0 m pc ls (st.map (xcn ad))).stack = ((st.take M.2.2.2.2.1).reverse.map (xcn ad)).reverse ++ (st.drop M.2.2.2.2.1).map (xcn ad) := xsplit ad st M.2.2.2.2.1
  have hroom : 2 * (F0 m pc ls (st.map (xcn ad))).monitorRoom + (((st.drop M.2.2.2.2.1).map (xcn ad)).map fun v => v.category).sum ≤ 8 := lv_room (by rw [xcats_map]; exact hcat)
  have hR : (fr - 1) + 1 ≤ R.frames ∧ 8 + (M.2.2.1 + 11) + (lo - (19 + M.2.2.1)) ≤ R.locals := ⟨by omega, by omega⟩
  rcases hlink with hl | ⟨host, hl⟩
  · exact xW_ran (va_runS S hmet ⟨callB_of M.2.2.2.2.1 (fun w hw => hC.1 w hw args) (xgoodc o1) rfl rfl rfl (hC.1 _ o2 args) (hC.1 _ hl args) o3 hR, hC.1 _ i1 args⟩ hp rfl hna hls hstk hroom hd hf) hloc kk
  · exact xW_ran (va_runSN S hmet ⟨va_cnB M.2.2.2.2.1 (fun w hw => hC.1 w hw args) (xgoodc o1) rfl rfl rfl (hC.1 _ hl #[]) (hC.1 _ o2 args) o3 hR, hC.1 _ i1 args, trivial⟩ hp rfl hna hls hstk hroom hd hf) hloc kk
end CALLS
