/-! SOUNDNESS: what the abstract machine answers, the machine of the claim answers -/
section SOUND
variable {Ts : List Jvm.Cond} {cl : List vw_C} {cn : List String} {P : xP} {SN : List (String × String × String)} {SR : List (String × Nat × Nat)} {nW : Nat} {D : xD} {ad : Nat → Nat} {b0 : Nat} {H0 : Heap}
theorem xpure_len {code : List xI} {ct : List Value} {i : Instr} {pc a ip ip1 : Nat} {L L1 : xL} {st st1 : List Value} (h : xpure code ct i pc a ip L st = some (ip1, L1, st1)) : L1.length = L.length := by
  have e2 : ∀ k v, (xst2 L k v).length = L.length := fun k v => by unfold xst2; rw [List.length_set, xst1_len]
  unfold xpure at h
  split at h
  all_goals first
    | (cases h; done)
    | (cases h; rfl)
    | (simp only [Option.map_eq_some_iff] at h; obtain ⟨v, -, h⟩ := h; cases h; rfl)
    | (split at h
       all_goals first
        | (cases h; done)
        | (cases h; rfl)
        | (cases h; exact xst1_len _ _ _)
        | (simp only [Option.map_eq_some_iff] at h; obtain ⟨v, -, h⟩ := h; cases h; rfl)
        | (split at h
           all_goals first
            | (cases h; done)
            | (cases h; rfl)
            | (cases h; exact xst1_len _ _ _)
            | (cases h; exact e2 _ _)
            | (simp only [Option.map_eq_some_iff] at h; obtain ⟨v, -, h⟩ := h; cases h; rfl)
            | (split at h
               all_goals first
                | (cases h; done)
                | (cases h; rfl)
                | (simp only [Option.map_eq_some_iff] at h; obtain ⟨v, -, h⟩ := h; cases h; rfl)
                | (split at h
                   all_goals first
                    | (cases h; done)
                    | (cases h; rfl)
                    | (simp only [Option.map_eq_some_iff] at h; obtain ⟨v, -, h⟩ := h; cases h; rfl)))))
theorem xtoList (ad : Nat → Nat) (v : Option Value) (r : List Value) : (v.toList ++ r).map (xcn ad) = (v.map (xcn ad)).toList ++ r.map (xcn ad) := by cases v <;> rfl
theorem xnfw : nativeFrameWords "java/lang/System" "arraycopy" 5 + 11 ≤ 92 := by decide +kernel
set_option maxHeartbeats 8000000 in
theorem xsound (hkk : xokk Ts cl cn P nW) (hMs : ∀ (a : Nat) (M : xM), P.1[a]? = some M → xokm Ts cl P SN SR nW M) (hA : xAd ad P.2.2.2.2.2 b0) (l : Launch) : ∀ f, xGood Ts cl cn P SN SR nW D ad b0 H0 l f := by
  intro f
  induction f with
  | zero => intro fr lo mi ip L st h r h' hx; cases hx
  | succ f ih =>
    intro fr lo mi ip L st h r h' hex M x hM hcd p e R s m args below meth c H locs cells slots ls hx hb hml hr hlocks hown hin hC hl hls hH hloc hce hsl hfr hlo
    have hmo := xmono _ _ _ _ _ _ _ _ _ _ hex
    have hokM := hMs _ _ hM
    obtain ⟨og, o5, o6, o7, o8, o9, o10⟩ := id hokM
    have ok1 := o10 ip x hcd
    obtain ⟨y, by', mL, ret, np, kd, code⟩ := M
    obtain ⟨i, pc, a, b, cc⟩ := x
    unfold xex at hex
    rw [hM] at hex
    dsimp only at hcd hex
    rw [hcd] at hex
    dsimp only at hex
    rcases o8 ip (i, pc, a, b, cc) hcd with hat | ⟨hd, hnx, hj, hsw⟩
    · dsimp only at hat
      subst hat
      cases hex
    dsimp only at hb hml hr hown hin hls hd hnx hj hsw ok1 ⊢
    have hK := hC.2.1
    -- going on at the next place
    have nx : ∀ {st2 : List Value} {h2 : xH} {H2 : Heap} {locs2 : List Loc} {cells2 slots2 : Nat}, xex cn P f fr lo mi (ip + 1) L st2 h2 = some (r, h') → xHR cl D ad P.2.2.2.2.2 b0 H0 h2 H2 → (∀ q ∈ locs2, b0 ≤ q.base) → cells2 + (h'.length - h2.length) = R.cells → slots2 + (xsl h' - xsl h2) = R.slots → W p l e R s m args below meth c H2 locs2 cells2 slots2 (MQ below (xQc cl P D ad b0 H0 r h') args s R.cells R.slots (fun q => b0 ≤ q)) (F0 m (pc + xlen i b) ls (st2.map (xcn ad))) := by
      intro st2 h2 H2 locs2 cells2 slots2 hex2 hH2 hloc2 hc2 hs2
      obtain ⟨M', z, hM', hz⟩ := xex_at hex2
      cases hM.symm.trans hM'
      rw [hnx z hz]
      exact ih _ _ _ _ _ _ _ _ _ hex2 _ z hM hz hx hb hml hr hlocks hown hin hC hl hls hH2 hloc2 hc2 hs2 hfr hlo
    split at hex
    -- getfield
    · rename_i idx
      obtain ⟨q, hq, hw⟩ := ok1
      split at hex
      · split at hex
        · rename_i hg
          refine xW_getf hx hb hown hK hH hg (C := q.1) (T := q.2.1) (N := q.2.2) hq ?_ hd (nx hex hH hloc hce hsl)
          rcases hw with hw | ⟨host, hw⟩
          · exact Or.inl (hC.1 _ hw _)
          · exact Or.inr ⟨host, hC.1 _ hw _⟩
        · cases hex
      · cases hex
    -- putfield
    · rename_i idx
      obtain ⟨hnw, q, hq, hw⟩ := ok1
      obtain ⟨k1, k2, tys', k3, k4, k5⟩ := hkk.2.2.2.2.2.2.2.2 a q hnw hq
      split at hex
      · rename_i v k r'
        split at hex
        · rename_i tys ht
          cases k3.symm.trans ht
          split at hex
          · rename_i ty hty
            split at hex
            · rename_i hfit
              split at hex
              · rename_i h1 hg
                have hle := xputf_le hg
                refine xW_putf hx hb hown hA hK hH hg hnw (C := q.1) (T := q.2.1) (N := q.2.2) hq (fun w hw => hC.1 _ (k1 w hw) _) k2 (fun k => tys'.getD k .int) k5 ?_ ?_ hd hloc (fun H1 locs1 hH1 hl1 => nx hex hH1 hl1 (by rw [hle.2.1]; exact hce) (by rw [hle.2.2]; exact hsl))
                · show xfit (tys'.getD b .int) v = true
                  rw [List.getD_eq_getElem?_getD, hty]
                  exact hfit
                · rcases hw with ⟨hf, hw⟩ | ⟨hf, hw, hkd, ho⟩
                  · refine Or.inl ⟨hf, ?_⟩
                    rcases hw with hw | ⟨host, hw⟩
                    · exact Or.inl (hC.1 _ hw _)
                    · exact Or.inr ⟨host, hC.1 _ hw _⟩
                  · exact Or.inr ⟨hf, hC.1 _ hw _, hin hkd, ho⟩
              · cases hex
            · cases hex
          · cases hex
        · cases hex
      · cases hex
    -- getstatic
    · rename_i idx
      obtain ⟨q, hq, hw⟩ := ok1
      split at hex
      · rename_i v hv
        refine xW_gets hx hb hown hH (hC.2.2.1 a q v hq hv) ?_ hd (nx hex hH hloc hce hsl)
        rcases hw with hw | ⟨host, hw⟩
        · exact Or.inl (hC.1 _ hw _)
        · exact Or.inr ⟨host, hC.1 _ hw _⟩
      · cases hex
    -- iaload
    · split at hex
      · split at hex
        · rename_i t v hg
          split at hex
          · rename_i ht
            subst ht
            exact xW_iald hx hb hK hH hg hkk.2.2.2.1 hd (nx hex hH hloc hce hsl)
          · cases hex
        · cases hex
      · cases hex
    -- laload
    · split at hex
      · split at hex
        · rename_i t v hg
          split at hex
          · rename_i ht
            subst ht
            exact xW_lald hx hb hK hH hg hkk.2.2.2.2.1 hd (nx hex hH hloc hce hsl)
          · cases hex
        · cases hex
      · cases hex
    -- baload
    · split at hex
      · split at hex
        · rename_i t v hg
          split at hex
          · rename_i ht
            refine xW_bald hx hb hK hH hg ?_ hd (nx hex hH hloc hce hsl)
            rcases ht with ht | ht
            · subst ht; exact Or.inl hkk.2.2.2.2.2.1
            · subst ht; exact Or.inr hkk.2.2.2.2.2.2.1
          · cases hex
        · cases hex
      · cases hex
    -- aaload
    · split at hex
      · split at hex
        · rename_i t v hg
          split at hex
          · rename_i ht
            obtain ⟨ty, hT⟩ := Option.isSome_iff_exists.mp ht.2
            exact xW_aald hx hb hK hH hg hT (hkk.2.2.2.2.2.2.2.1 _ _ ht.1 hT) hd (nx hex hH hloc hce hsl)
          · cases hex
        · cases hex
      · cases hex
    -- iastore
    · split at hex
      · split at hex
        · rename_i t h1 hg
          have hle := xputi_le hg
          split at hex
          · rename_i ht
            subst ht
            exact xW_iast hx hb hA hK hH hg hkk.2.2.2.1 hloc hd (fun H1 locs1 hH1 hl1 => nx hex hH1 hl1 (by rw [hle.2.1]; exact hce) (by rw [hle.2.2]; exact hsl))
          · cases hex
        · cases hex
      · cases hex
    -- lastore
    · split at hex
      · split at hex
        · rename_i t h1 hg
          have hle := xputi_le hg
          split at hex
          · rename_i ht
            subst ht
            exact xW_last hx hb hA hK hH hg hkk.2.2.2.2.1 hloc hd (fun H1 locs1 hH1 hl1 => nx hex hH1 hl1 (by rw [hle.2.1]; exact hce) (by rw [hle.2.2]; exact hsl))
          · cases hex
        · cases hex
      · cases hex
    -- bastore
    · split at hex
      · split at hex
        · rename_i t h1 hg
          have hle := xputi_le hg
          split at hex
          · rename_i ht
            refine xW_bast hx hb hA hK hH hg ?_ hloc hd (fun H1 locs1 hH1 hl1 => nx hex hH1 hl1 (by rw [hle.2.1]; exact hce) (by rw [hle.2.2]; exact hsl))
            rcases ht with ⟨ht, hf⟩ | ⟨ht, hf⟩
            · subst ht; exact Or.inl ⟨hkk.2.2.2.2.2.1, hf⟩
            · subst ht; exact Or.inr ⟨hkk.2.2.2.2.2.2.1, hf⟩
          · cases hex
        · cases hex
      · cases hex
    -- aastore
    · split at hex
      · split at hex
        · rename_i t h1 hg
          have hle := xputi_le hg
          split at hex
          · rename_i ty hT
            split at hex
            · rename_i ht
              exact xW_aast hx hb hA hK hH hkk.2.2.1 hg hT ht.2 hloc hd (fun H1 locs1 hH1 hl1 => nx hex hH1 hl1 (by rw [hle.2.1]; exact hce) (by rw [hle.2.2]; exact hsl))
            · cases hex
          · cases hex
        · cases hex
      · cases hex
    -- arraylength
    · split at hex
      · split at hex
        · rename_i t vs hg
          split at hex
          · rename_i ht
            obtain ⟨ty, hT⟩ := Option.isSome_iff_exists.mp ht
            exact xW_alen hx hb hK hH hg hT hd (nx hex hH hloc hce hsl)
          · cases hex
        · cases hex
      · cases hex
    -- new
    · rename_i idx
      obtain ⟨hnw, q, hq, w1, w2, w3⟩ := ok1
      obtain ⟨k1, k2, tys', k3, k4, k5⟩ := hkk.2.2.2.2.2.2.2.2 a q hnw hq
      split at hex
      · rename_i tys ht
        cases k3.symm.trans ht
        have hmo2 := xmono _ _ _ _ _ _ _ _ _ _ hex
        have e1 : (h ++ [.inl (a, tys'.map defaultValue)] : xH).length = h.length + 1 := by simp
        have e2 : xsl (h ++ [.inl (a, tys'.map defaultValue)]) = xsl h + q.2.2 := by rw [xsl_app]; simp [xsl, xsz, k4]
        have m1 := hmo2.1
        have m2 := hmo2.2
        rw [e1] at m1
        rw [e2] at m2
        exact xW_new hx hb hown hA hK hH hnw (C := q.1) (T := q.2.1) (N := q.2.2) hq (fun w hw => hC.1 _ (k1 w hw) _) k5 k4 (hC.1 _ w1 _) (hC.1 _ w2 _) (hC.1 _ w3 _) hd (by omega) (by omega) (fun H1 hH1 => nx (st2 := .ref h.length :: st) hex hH1 hloc (by rw [e1]; omega) (by rw [e2]; omega))
      · cases hex
    -- newarray
    · rename_i at'
      obtain ⟨ty', w1, w2, w3, w4⟩ := ok1
      split at hex
      · rename_i n r'
        split at hex
        · rename_i ty ht
          cases w1.symm.trans ht
          split at hex
          · cases hex
          · rename_i hn
            have hmo2 := xmono _ _ _ _ _ _ _ _ _ _ hex
            have e1 : (h ++ [.inr (a, List.replicate n.toNatClampNeg (defaultValue ty'))] : xH).length = h.length + 1 := by simp
            have e2 : xsl (h ++ [.inr (a, List.replicate n.toNatClampNeg (defaultValue ty'))]) = xsl h + n.toNatClampNeg := by rw [xsl_app]; simp [xsl, xsz]
            have m1 := hmo2.1
            have m2 := hmo2.2
            rw [e1] at m1
            rw [e2] at m2
            exact xW_newa hx hb hA hK hH w1 w2 w3 (hC.1 _ w4 _) hd (fun q => hn (Or.inl q)) (Nat.not_lt.mp fun q => hn (Or.inr q)) (by omega) (by omega) (fun H1 hH1 => nx (st2 := .ref h.length :: r') hex hH1 hloc (by rw [e1]; omega) (by rw [e2]; omega))
        · cases hex
      · cases hex
    -- anewarray
    · rename_i idx
      obtain ⟨ty, w1, w2, w3⟩ := ok1
      split at hex
      · rename_i n r'
        split at hex
        · cases hex
        · rename_i hn
          have hmo2 := xmono _ _ _ _ _ _ _ _ _ _ hex
          have e1 : (h ++ [.inr (a, List.replicate n.toNatClampNeg .null)] : xH).length = h.length + 1 := by simp
          have e2 : xsl (h ++ [.inr (a, List.replicate n.toNatClampNeg .null)]) = xsl h + n.toNatClampNeg := by rw [xsl_app]; simp [xsl, xsz]
          have m1 := hmo2.1
          have m2 := hmo2.2
          rw [e1] at m1
          rw [e2] at m2
          refine xW_anew hx hb hown hA hK hH w1 ?_ (hC.1 _ w3 _) hd (fun q => hn (Or.inl q)) (Nat.not_lt.mp fun q => hn (Or.inr q)) (by omega) (by omega) (fun H1 hH1 => nx (st2 := .ref h.length :: r') hex hH1 hloc (by rw [e1]; omega) (by rw [e2]; omega))
          rcases w2 with ⟨C, e, w2⟩ | ⟨C, e, w2⟩
          · exact Or.inl ⟨C, e, hC.1 _ w2 _⟩
          · exact Or.inr ⟨C, e, hC.1 _ w2 _⟩
      · cases hex
    -- multianewarray
    · rename_i idx dd
      obtain ⟨hdd, ty', w1, w2, w3, w4, w5, w6⟩ := ok1
      subst hdd
      split at hex
      · rename_i k n r'
        split at hex
        · rename_i ty ht
          cases w1.symm.trans ht
          split at hex
          · cases hex
          · rename_i hn
            have hmo2 := xmono _ _ _ _ _ _ _ _ _ _ hex
            have e1 : (h ++ .inr (a, (List.range n.toNatClampNeg).map (fun i => .ref (h.length + 1 + i))) :: List.replicate n.toNatClampNeg (.inr (b, List.replicate k.toNatClampNeg (defaultValue ty'))) : xH).length = h.length + 1 + n.toNatClampNeg := by simp; omega
            have e2 : xsl (h ++ .inr (a, (List.range n.toNatClampNeg).map (fun i => .ref (h.length + 1 + i))) :: List.replicate n.toNatClampNeg (.inr (b, List.replicate k.toNatClampNeg (defaultValue ty')))) = xsl h + n.toNatClampNeg + n.toNatClampNeg * k.toNatClampNeg := by
              rw [xsl_app]
              simp [xsl, xsz]
              omega
            have m1 := hmo2.1
            have m2 := hmo2.2
            rw [e1] at m1
            rw [e2] at m2
            exact xW_mna hx hb hown hA hK hH w2 w1 w3 (hC.1 _ w4 _) (hC.1 _ w5 _) (hC.1 _ w6 _) hd (fun q => hn (Or.inl q)) (fun q => hn (Or.inr (Or.inl q))) (Nat.not_lt.mp fun q => hn (Or.inr (Or.inr (Or.inl q)))) (Nat.not_lt.mp fun q => hn (Or.inr (Or.inr (Or.inr q)))) (by omega) (by omega) (fun H1 hH1 => nx (st2 := .ref h.length :: r') hex hH1 hloc (by rw [e1]; omega) (by rw [e2]; omega))
        · cases hex
      · cases hex
    -- invokevirtual
    · rename_i idx
      obtain ⟨M1, hM1, hlk⟩ := ok1
      split at hex
      · rename_i y1 b1 mL1 ret1 n1 kd1 code1 hMa
        cases hM1.symm.trans hMa
        split at hex
        · rename_i k r' hst
          split at hex
          · rename_i c0 fs hcell
            split at hex
            · rename_i hc
              obtain ⟨c1, c2, c3, c4, c5, c6, c7⟩ := hc
              split at hex
              · rename_i v h1 hex1
                have hmo1 := xmono _ _ _ _ _ _ _ _ _ _ hex1
                have hmo2 := xmono _ _ _ _ _ _ _ _ _ _ hex
                have m1 := hmo1.1
                have m2 := hmo1.2
                have m3 := hmo2.1
                have m4 := hmo2.2
                exact xW_callV ih hkk (hMs _ _ hMa) hMa c1 hlk hx hb hml hls hown hC hH hloc hst c3 hcell c2 c4 c5 c6 c7 hfr hlo hex1 hd ⟨by omega, by omega⟩ (fun H1 locs1 hH1 hl1 => by
                  have := nx (st2 := v.toList ++ r') hex hH1 hl1 (cells2 := cells + (h1.length - h.length)) (slots2 := slots + (xsl h1 - xsl h)) (by omega) (by omega)
                  rw [xtoList] at this
                  exact this)
              · cases hex
            · cases hex
          · cases hex
        · cases hex
      · cases hex
    -- invokespecial
    · rename_i idx
      split at hex
      · rename_i hb1
        rcases ok1 with ⟨-, w1, w2, w3⟩ | ⟨hnb, -⟩
        · split at hex
          · rename_i k r'
            split at hex
            · rename_i hc
              obtain ⟨c1, c2, c3⟩ := hc
              refine W.objInit hx hb hown (hC.1 _ w1 _) (hC.1 _ w2 _) (hC.1 _ w3 _) rfl (by rw [hml]; exact hls) rfl hd (by omega) ?_ (nx hex hH hloc hce hsl)
              have := lv_room (m := m) (pc := pc) (ls := ls) (rest := (Value.ref k :: r').map (xcn ad)) (st := r'.map (xcn ad)) (by rw [xcats_map]; exact c1)
              dsimp only at this ⊢
              omega
            · cases hex
          · cases hex
        · exact absurd hb1 hnb
      · rename_i hb1
        rcases ok1 with ⟨hnb, -⟩ | ⟨-, M1, hM1, hlk⟩
        · exact absurd hnb hb1
        · split at hex
          · rename_i y1 b1 mL1 ret1 n1 kd1 code1 hMa
            cases hM1.symm.trans hMa
            split at hex
            · rename_i k r' hst
              split at hex
              · rename_i hc
                obtain ⟨c1, c3, c4, c5, c6, c7⟩ := hc
                split at hex
                · rename_i v h1 hex1
                  have hmo1 := xmono _ _ _ _ _ _ _ _ _ _ hex1
                  have hmo2 := xmono _ _ _ _ _ _ _ _ _ _ hex
                  have m1 := hmo1.1
                  have m2 := hmo1.2
                  have m3 := hmo2.1
                  have m4 := hmo2.2
                  exact xW_callI ih hkk (hMs _ _ hMa) hMa c1 hlk hx hb hml hls hown hC hH hloc hst c3 c4 c5 c6 c7 hfr hlo hex1 hd ⟨by omega, by omega⟩ (fun H1 locs1 hH1 hl1 => by
                    have := nx (st2 := v.toList ++ r') hex hH1 hl1 (cells2 := cells + (h1.length - h.length)) (slots2 := slots + (xsl h1 - xsl h)) (by omega) (by omega)
                    rw [xtoList] at this
                    exact this)
                · cases hex
              · cases hex
            · cases hex
          · cases hex
    -- invokestatic
    · rename_i idx
      split at hex
      · rename_i hb1
        rcases ok1 with ⟨-, w1, w2, w3, w4⟩ | ⟨hb2, -⟩ | ⟨hb2, -⟩ | ⟨hb2, -⟩ | ⟨-, hnb, -⟩
        · split at hex
          · rename_i n dp ds sp sr r'
            split at hex
            · rename_i h1 hg
              have hle := xacopy_le hg
              split at hex
              · rename_i hc
                exact xW_acopy hx hb (by rw [hml, hls]) hown hA hK hkk.2.2.2.1 hkk.2.2.2.2.1 hH hg (hC.1 _ w1 _) (hC.1 _ w2 _) (hC.1 _ w3 _) (hC.1 _ w4 _) hloc (by omega) (by rw [xcats_map]; have := xnfw; omega) hd (fun H1 locs1 hH1 hl1 => nx hex hH1 hl1 (by rw [hle.2.1]; exact hce) (by rw [hle.2.2]; exact hsl))
              · cases hex
            · cases hex
          · cases hex
        · exact absurd (hb1.symm.trans hb2) (by decide)
        · exact absurd (hb1.symm.trans hb2) (by decide)
        · exact absurd (hb1.symm.trans hb2) (by decide)
        · exact absurd hb1 hnb
      · rename_i hb1
        split at hex
        · rename_i hb2
          rcases ok1 with ⟨hnb, -⟩ | ⟨-, w1⟩ | ⟨hb3, -⟩ | ⟨hb3, -⟩ | ⟨-, -, hnb, -⟩
          · exact absurd hnb hb1
          · split at hex
            · rename_i n j r'
              split at hex
              · rename_i hc
                obtain ⟨c1, c2, c3, c4, c5⟩ := hc
                have := xW_ci hkk.1 hkk.2.1 hx hb hml hls hown hC hH hloc w1 c1 c2 c3 (fr := fr) c4 (lo := lo) c5 hfr hlo hd (st := r') (Q := MQ below (xQc cl P D ad b0 H0 r h') args s R.cells R.slots (fun q => b0 ≤ q)) (l := l) (e := e) (below := below) (meth := meth) (cells := cells) (slots := slots) (R := R) (by omega) (by omega) (fun H1 locs1 hH1 hl1 => nx hex hH1 hl1 hce hsl)
                exact this
              · cases hex
            · cases hex
          · exact absurd (hb2.symm.trans hb3) (by decide)
          · exact absurd (hb2.symm.trans hb3) (by decide)
          · exact absurd hb2 hnb
        · rename_i hb2
          split at hex
          · rename_i hb3
            rcases ok1 with ⟨hnb, -⟩ | ⟨hnb, -⟩ | ⟨-, w1, w2, w3, w4⟩ | ⟨hb4, -⟩ | ⟨-, -, -, hnb, -⟩
            · exact absurd hnb hb1
            · exact absurd hnb hb2
            · split at hex
              · rename_i y x r'
                split at hex
                · rename_i hc
                  exact va_mmax hx hb (by rw [hml, hls]) hown (hC.1 _ w1 _) (hC.1 _ w2 _) (hC.1 _ w3 _) (hC.1 _ w4 _) (by omega) (by rw [xcats_map]; omega) (by omega) (by omega) hd (nx hex hH hloc hce hsl)
                · cases hex
              · cases hex
            · exact absurd (hb3.symm.trans hb4) (by decide)
            · exact absurd hb3 hnb
          · rename_i hb3
            split at hex
            · rename_i hb4
              rcases ok1 with ⟨hnb, -⟩ | ⟨hnb, -⟩ | ⟨hnb, -⟩ | ⟨-, w1, w2, w3, w4⟩ | ⟨-, -, -, -, hnb, -⟩
              · exact absurd hnb hb1
              · exact absurd hnb hb2
              · exact absurd hnb hb3
              · split at hex
                · rename_i y x r'
                  split at hex
                  · rename_i hc
                    exact va_mmin hx hb (by rw [hml, hls]) hown (hC.1 _ w1 _) (hC.1 _ w2 _) (hC.1 _ w3 _) (hC.1 _ w4 _) (by omega) (by rw [xcats_map]; omega) (by omega) (by omega) hd (nx hex hH hloc hce hsl)
                  · cases hex
                · cases hex
              · exact absurd hb4 hnb
            · rename_i hb4
              rcases ok1 with ⟨hnb, -⟩ | ⟨hnb, -⟩ | ⟨hnb, -⟩ | ⟨hnb, -⟩ | ⟨-, -, -, -, -, M1, hM1, hlk⟩
              · exact absurd hnb hb1
              · exact absurd hnb hb2
              · exact absurd hnb hb3
              · exact absurd hnb hb4
              · split at hex
                · rename_i y1 b1 mL1 ret1 n1 kd1 code1 hMa
                  cases hM1.symm.trans hMa
                  split at hex
                  · rename_i hc
                    obtain ⟨c1, c3, c4, c5, c6, c7⟩ := hc
                    split at hex
                    · rename_i v h1 hex1
                      have hmo1 := xmono _ _ _ _ _ _ _ _ _ _ hex1
                      have hmo2 := xmono _ _ _ _ _ _ _ _ _ _ hex
                      have m1 := hmo1.1
                      have m2 := hmo1.2
                      have m3 := hmo2.1
                      have m4 := hmo2.2
                      exact xW_callS ih hkk (hMs _ _ hMa) hMa c1 hlk hx hb hml hls hown hC hH hloc c3 c4 c5 c6 c7 hfr hlo hex1 hd ⟨by omega, by omega⟩ (fun H1 locs1 hH1 hl1 => by
                        have := nx (st2 := v.toList ++ st.drop n1) hex hH1 hl1 (cells2 := cells + (h1.length - h.length)) (slots2 := slots + (xsl h1 - xsl h)) (by omega) (by omega)
                        rw [xtoList] at this
                        exact this)
                    · cases hex
                  · cases hex
                · cases hex
    -- ireturn
    · split at hex
      · rename_i z
        split at hex
        · rename_i ty hty
          split at hex
          · rename_i hf
            cases hex
            have hcc : cells = R.cells := by omega
            have hss : slots = R.slots := by omega
            rw [← hcc, ← hss]
            exact W.zret (hlocks := hlocks) hx hb (by rw [hr]) (xfit_ok ad hf).1 (fun t ht hW => ⟨rfl, by rw [ht]; exact hH⟩) hloc hd
          · cases hex
        · cases hex
      · cases hex
    -- lreturn
    · split at hex
      · rename_i z
        split at hex
        · cases hex
          have hcc : cells = R.cells := by omega
          have hss : slots = R.slots := by omega
          rw [← hcc, ← hss]
          exact W.lret (hlocks := hlocks) hx hb (by rw [hr]) (fun t ht hW => ⟨rfl, by rw [ht]; exact hH⟩) hloc hd
        · cases hex
      · cases hex
    -- areturn
    · split at hex
      · rename_i z
        split at hex
        · rename_i C
          split at hex
          · rename_i hv
            cases hex
            have hcc : cells = R.cells := by omega
            have hss : slots = R.slots := by omega
            rw [← hcc, ← hss]
            exact W.aret (hlocks := hlocks) hx hb (by rw [hr]) (Or.inl ⟨_, rfl⟩) (by rcases xisA_ok hv with ⟨k, rfl⟩ | rfl; exact Or.inr ⟨_, rfl⟩; exact Or.inl rfl) (fun t ht hW => ⟨rfl, by rw [ht]; exact hH⟩) hloc hd
          · cases hex
        · rename_i C
          split at hex
          · rename_i hv
            cases hex
            have hcc : cells = R.cells := by omega
            have hss : slots = R.slots := by omega
            rw [← hcc, ← hss]
            exact W.aret (hlocks := hlocks) hx hb (by rw [hr]) (Or.inr ⟨_, rfl⟩) (by rcases xisA_ok hv with ⟨k, rfl⟩ | rfl; exact Or.inr ⟨_, rfl⟩; exact Or.inl rfl) (fun t ht hW => ⟨rfl, by rw [ht]; exact hH⟩) hloc hd
          · cases hex
        · cases hex
      · cases hex
    -- return
    · split at hex
      · split at hex
        · cases hex
          have hcc : cells = R.cells := by omega
          have hss : slots = R.slots := by omega
          rw [← hcc, ← hss]
          exact W.vret (hlocks := hlocks) hx hb (by rw [hr]) (fun t ht hW => ⟨rfl, by rw [ht]; exact hH⟩) hloc hd
        · cases hex
      · cases hex
    -- the rest
    · rename_i hn1 hn2 hn3 hn4 hn5 hn6 hn7 hn8 hn9 hn10 hn11 hn12 hn13 hn14 hn15 hn16 hn17 hn18 hn19 hn20 hn21 hn22 hn23
      split at hex
      · rename_i ip1 L1 st1 hp
        obtain ⟨M', z, hM', hz⟩ := xex_at hex
        cases hM.symm.trans hM'
        refine xpure_W (ct := P.2.2.2.1) hx hb hown o8 hcd ?_ ?_ ?_ ?_ hp hl hz (fun ls' hl' => ?_)
        · intro idx v hi hv
          rcases hi with rfl | rfl | rfl
          · obtain ⟨v', hv', hw⟩ := ok1
            cases hv.symm.trans hv'
            rcases hw with ⟨w, rfl, hw⟩ | ⟨k, rfl, hw⟩
            · exact hC.1 _ hw _
            · exact hC.2.2.2.1 _ hw
          · obtain ⟨v', hv', w, rfl, hw⟩ := ok1
            cases hv.symm.trans hv'
            exact hC.1 _ hw _
          · obtain ⟨v', hv', w, rfl, hw⟩ := ok1
            cases hv.symm.trans hv'
            exact hC.1 _ hw _
        · intro idx v hi hv
          subst hi
          obtain ⟨v', hv', w, rfl, hw⟩ := ok1
          cases hv.symm.trans hv'
          rfl
        · intro idx v hi hv
          subst hi
          obtain ⟨v', hv', hw⟩ := ok1
          cases hv.symm.trans hv'
          rcases hw with ⟨w, rfl, hw⟩ | ⟨k, rfl, hw⟩ <;> rfl
        · intro idx v hi hv
          subst hi
          obtain ⟨v', hv', w, rfl, hw⟩ := ok1
          cases hv.symm.trans hv'
          rfl
        · exact ih _ _ _ _ _ _ _ _ _ hex _ z hM hz hx hb hml hr hlocks hown hin hC hl' (by rw [hl'.1, xpure_len hp, ← hl.1]; exact hls) hH hloc hce hsl hfr hlo
      · cases hex
end SOUND
