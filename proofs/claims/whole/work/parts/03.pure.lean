/-! THE INSTRUCTIONS OF LOCALS AND STACK ALONE -/
def xlen (i : Instr) (b : Nat) : Nat := match i with
  | .bipush _ => 2 | .iload _ => 2 | .lload _ => 2 | .aload _ => 2 | .istore _ => 2 | .lstore _ => 2 | .astore _ => 2 | .ldc _ => 2 | .newarray _ => 2
  | .sipush _ => 3 | .iinc _ _ => 3 | .goto _ => 3 | .ifCond _ _ => 3 | .if_icmp _ _ => 3 | .ifnull _ => 3 | .ifnonnull _ => 3 | .getfield _ => 3 | .putfield _ => 3 | .getstatic _ => 3
  | .ldc_w _ => 3 | .ldc2_w _ => 3 | .new _ => 3 | .anewarray _ => 3 | .invokevirtual _ => 3 | .invokespecial _ => 3 | .invokestatic _ => 3
  | .multianewarray _ _ => 4
  | .tableswitch _ _ _ _ => b
  | .lookupswitch _ _ => b
  | _ => 1
def xoff (i : Instr) : Option Int := match i with
  | .goto o => some o
  | .ifCond _ o => some o
  | .if_icmp _ o => some o
  | .ifnull o => some o
  | .ifnonnull o => some o
  | _ => none
def xswok (i : Instr) (pc : Nat) : Bool := match i with
  | .tableswitch d _ _ offs => decide (0 ≤ (pc : Int) + d) && offs.toList.all (fun o => decide (0 ≤ (pc : Int) + o))
  | .lookupswitch d ps => (ps.toList.zip (ps.toList.drop 1)).all (fun (a, next) => a.1 < next.1) && (decide (0 ≤ (pc : Int) + d) && ps.toList.all (fun q => decide (0 ≤ (pc : Int) + q.2)))
  | _ => true
/-- the code is what the bytes decode to, places follow each other, jumps come where they are resolved to -/
def xokc (bytes : ByteArray) (code : List xI) : Prop := ∀ (ip : Nat) (x : xI), code[ip]? = some x → x.1 = .athrow ∨ (decode bytes x.2.1 = .ok (x.1, xlen x.1 x.2.2.2.1) ∧ (∀ z, code[ip + 1]? = some z → x.2.1 + xlen x.1 x.2.2.2.1 = z.2.1) ∧ (∀ o, xoff x.1 = some o → ∃ z, code[x.2.2.1]? = some z ∧ (x.2.1 : Int) + o = (z.2.1 : Int)) ∧ xswok x.1 x.2.1 = true)
theorem xat_ok {code : List xI} {pc t : Nat} {z : xI} (h : xat code pc = some t) (hz : code[t]? = some z) : z.2.1 = pc := by
  induction code generalizing t with
  | nil => cases h
  | cons i r ih =>
    unfold xat at h
    split at h
    · rename_i he
      cases h
      cases hz
      exact he
    · cases hr : xat r pc with
      | none => rw [hr] at h; cases h
      | some q =>
        rw [hr] at h
        cases h
        exact ih hr hz
theorem xlo_off : ∀ (ps : List (Int × Int)) (d x : Int) (P : Int → Prop), P d → (∀ q ∈ ps, P q.2) → P (Op.lookupswitch.offset ps d x) := by
  intro ps
  induction ps with
  | nil => intro d x P h _; exact h
  | cons q r ih =>
    intro d x P h1 h2
    obtain ⟨a, b⟩ := q
    unfold Op.lookupswitch.offset
    split
    · exact h2 _ List.mem_cons_self
    · exact ih d x P h1 (fun q hq => h2 q (List.mem_cons_of_mem _ hq))
/-- a constant as the tables have it -/
def xLdc (ad : Nat → Nat) (own : String) (idx : Nat) (v : Value) (args : Array Value) (s : State) : Prop := match v with
  | .int x => (Jvm.Cond.constant own idx x).before args s = true
  | .long x => (Jvm.Cond.constantLong own idx x).before args s = true
  | .ref k => ∃ tx, vk_R own idx tx (ad k) s
  | _ => False
section PURE
variable {p : Program} {l : Launch} {e : Env} {R : Room} {s : State} {m : MethodId} {args : Array Value} {below : List Frame} {meth : Method} {c : Code} {H : Heap} {locs : List Loc} {cells slots : Nat} {Q : State → Prop}
variable {ad : Nat → Nat} {bytes : ByteArray} {code : List xI} {ct : List Value} {i : Instr} {pc a b q ip ip1 : Nat} {L L1 : xL} {st st1 : List Value} {ls : Array Slot} {z : xI} {own : String}
theorem xload_ok {k : Nat} {ok : Value → Bool} {v : Value} (h : xload L k ok = some v) (hl : xLR ad ls L) : ls[k]? = some (.val (xcn ad v)) ∧ ok v = true ∧ L[k]? = some (some v) := by
  unfold xload at h
  split at h
  · rename_i w hw
    split at h
    · rename_i ho
      cases h
      exact ⟨hl.2.2 _ _ hw, ho, hw⟩
    · cases h
  · cases h
theorem xisI_ok {v : Value} (h : xisI v = true) : ∃ x, v = .int x := by cases v <;> first | exact ⟨_, rfl⟩ | cases h
theorem xisJ_ok {v : Value} (h : xisJ v = true) : ∃ x, v = .long x := by cases v <;> first | exact ⟨_, rfl⟩ | cases h
theorem xisA_ok {v : Value} (h : xisA v = true) : (∃ k, v = .ref k) ∨ v = .null := by cases v <;> first | exact Or.inl ⟨_, rfl⟩ | exact Or.inr rfl | cases h
set_option maxHeartbeats 4000000 in
theorem xpure_W (hx : p.tables.exec = Jvm.exec) (hb : c.code = bytes) (hown : s.vm.findClass own = some m.cls) (hok : xokc bytes code) (hc : code[ip]? = some (i, pc, a, b, q)) (hldc : ∀ idx v, (i = .ldc idx ∨ i = .ldc_w idx ∨ i = .ldc2_w idx) → ct[a]? = some v → xLdc ad own idx v args s) (hlw : ∀ idx v, i = .ldc_w idx → ct[a]? = some v → xisI v = true) (hl1 : ∀ idx v, i = .ldc idx → ct[a]? = some v → xisJ v = false) (hl2 : ∀ idx v, i = .ldc2_w idx → ct[a]? = some v → xisJ v = true) (h : xpure code ct i pc a ip L st = some (ip1, L1, st1)) (hl : xLR ad ls L) (hz : code[ip1]? = some z)
    (kk : ∀ ls', xLR ad ls' L1 → W p l e R s m args below meth c H locs cells slots Q (F0 m z.2.1 ls' (st1.map (xcn ad)))) : W p l e R s m args below meth c H locs cells slots Q (F0 m pc ls (st.map (xcn ad))) := by
  rcases hok _ _ hc with hat | ⟨hd, hn, hj, hsw⟩
  · dsimp only at hat
    subst hat
    cases h
  dsimp only at hd hn hj hsw
  unfold xpure at h
  split at h
  -- aconst_null
  · cases h; exact lv_null hx hb hd (by have := kk ls hl; rw [← hn z hz] at this; exact this)
  · cases h; exact lv_iconst hx hb hd rfl (by have := kk ls hl; rw [← hn z hz] at this; exact this)
  · cases h; exact lv_bipush hx hb hd rfl (by have := kk ls hl; rw [← hn z hz] at this; exact this)
  · cases h; exact lv_sipush hx hb hd rfl (by have := kk ls hl; rw [← hn z hz] at this; exact this)
  · cases h; exact lv_lconst hx hb hd rfl (by have := kk ls hl; rw [← hn z hz] at this; exact this)
  -- iload
  · rename_i k
    cases hv : xload L k xisI with
    | none => rw [hv] at h; cases h
    | some v =>
      rw [hv] at h
      cases h
      obtain ⟨h1, h2, -⟩ := xload_ok hv hl
      obtain ⟨x, rfl⟩ := xisI_ok h2
      exact lv_iload hx hb hd h1 (by have := kk ls hl; rw [← hn z hz] at this; exact this)
  -- iload_n
  · rename_i k
    cases hv : xload L k xisI with
    | none => rw [hv] at h; cases h
    | some v =>
      rw [hv] at h
      cases h
      obtain ⟨h1, h2, -⟩ := xload_ok hv hl
      obtain ⟨x, rfl⟩ := xisI_ok h2
      exact lv_iload_n hx hb hd rfl h1 (by have := kk ls hl; rw [← hn z hz] at this; exact this)
  -- lload
  · rename_i k
    cases hv : xload L k xisJ with
    | none => rw [hv] at h; cases h
    | some v =>
      rw [hv] at h
      cases h
      obtain ⟨h1, h2, -⟩ := xload_ok hv hl
      obtain ⟨x, rfl⟩ := xisJ_ok h2
      exact lv_lload hx hb hd h1 (by have := kk ls hl; rw [← hn z hz] at this; exact this)
  -- lload_n
  · rename_i k
    cases hv : xload L k xisJ with
    | none => rw [hv] at h; cases h
    | some v =>
      rw [hv] at h
      cases h
      obtain ⟨h1, h2, -⟩ := xload_ok hv hl
      obtain ⟨x, rfl⟩ := xisJ_ok h2
      exact lv_lload_n hx hb hd rfl h1 (by have := kk ls hl; rw [← hn z hz] at this; exact this)
  -- aload
  · rename_i k
    cases hv : xload L k xisA with
    | none => rw [hv] at h; cases h
    | some v =>
      rw [hv] at h
      cases h
      obtain ⟨h1, h2, -⟩ := xload_ok hv hl
      rcases xisA_ok h2 with ⟨x, rfl⟩ | rfl
      · exact lv_aload hx hb hd h1 (by have := kk ls hl; rw [← hn z hz] at this; exact this)
      · exact lv_aloadN hx hb hd h1 (by have := kk ls hl; rw [← hn z hz] at this; exact this)
  -- aload_n
  · rename_i k
    cases hv : xload L k xisA with
    | none => rw [hv] at h; cases h
    | some v =>
      rw [hv] at h
      cases h
      obtain ⟨h1, h2, -⟩ := xload_ok hv hl
      rcases xisA_ok h2 with ⟨x, rfl⟩ | rfl
      · exact lv_aload_n hx hb hd rfl h1 (by have := kk ls hl; rw [← hn z hz] at this; exact this)
      · exact lv_aload_nN hx hb hd rfl h1 (by have := kk ls hl; rw [← hn z hz] at this; exact this)
  -- istore
  · rename_i k
    split at h
    · split at h
      · rename_i hlt
        cases h
        exact lv_istore hx hb hd hl.has hlt rfl (fun ls' h' => by have := kk ls' (xLR.st1 h'); rw [← hn z hz] at this; exact this)
      · cases h
    · cases h
  -- istore_n
  · rename_i k
    split at h
    · split at h
      · rename_i hlt
        cases h
        exact lv_istore_n hx hb hd rfl hl.has hlt rfl (fun ls' h' => by have := kk ls' (xLR.st1 h'); rw [← hn z hz] at this; exact this)
      · cases h
    · cases h
  -- lstore
  · rename_i k
    split at h
    · split at h
      · rename_i hlt
        cases h
        exact lv_lstore hx hb hd hl.has hlt rfl (fun ls' h' => by have := kk ls' (xLR.st2 h'); rw [← hn z hz] at this; exact this)
      · cases h
    · cases h
  -- lstore_n
  · rename_i k
    split at h
    · split at h
      · rename_i hlt
        cases h
        exact lv_lstore_n hx hb hd rfl hl.has hlt rfl (fun ls' h' => by have := kk ls' (xLR.st2 h'); rw [← hn z hz] at this; exact this)
      · cases h
    · cases h
  -- astore
  · rename_i k
    split at h
    · split at h
      · rename_i hlt
        cases h
        simp only [Bool.and_eq_true, decide_eq_true_eq] at hlt
        rcases xisA_ok hlt.1 with ⟨x, rfl⟩ | rfl
        · exact lv_astore hx hb hd hl.has hlt.2 rfl (fun ls' h' => by have := kk ls' (xLR.st1 h'); rw [← hn z hz] at this; exact this)
        · exact lv_astoreN hx hb hd hl.has hlt.2 rfl (fun ls' h' => by have := kk ls' (xLR.st1 h'); rw [← hn z hz] at this; exact this)
      · cases h
    · cases h
  -- astore_n
  · rename_i k
    split at h
    · split at h
      · rename_i hlt
        cases h
        simp only [Bool.and_eq_true, decide_eq_true_eq] at hlt
        rcases xisA_ok hlt.1 with ⟨x, rfl⟩ | rfl
        · exact lv_astore_n hx hb hd rfl hl.has hlt.2 rfl (fun ls' h' => by have := kk ls' (xLR.st1 h'); rw [← hn z hz] at this; exact this)
        · exact lv_astore_nN hx hb hd rfl hl.has hlt.2 rfl (fun ls' h' => by have := kk ls' (xLR.st1 h'); rw [← hn z hz] at this; exact this)
      · cases h
    · cases h
  -- iinc
  · rename_i k n
    split at h
    · rename_i x hv
      cases h
      obtain ⟨h1, h2, h3⟩ := xload_ok hv hl
      obtain ⟨j, hj2⟩ := List.getElem?_of_mem (xprs_mem.mpr ⟨_, h3, rfl⟩ : (k, xcn ad (.int x)) ∈ xprs ad L)
      exact lv_iinc hx hb hd hl.has hj2 rfl (List.getElem?_eq_some_iff.mp h3).1 rfl (fun ls' h' => by have := kk ls' (xLR.st1 h'); rw [← hn z hz] at this; exact this)
    · cases h
  -- iadd
  · split at h
    · cases h; exact lv_iadd hx hb hd (by have := kk ls hl; rw [← hn z hz] at this; exact this)
    · cases h
  -- isub
  · split at h
    · cases h; exact lv_isub hx hb hd (by have := kk ls hl; rw [← hn z hz] at this; exact this)
    · cases h
  -- imul
  · split at h
    · cases h; exact lv_imul hx hb hd (by have := kk ls hl; rw [← hn z hz] at this; exact this)
    · cases h
  -- iand
  · split at h
    · cases h; exact lv_iand hx hb hd (by have := kk ls hl; rw [← hn z hz] at this; exact this)
    · cases h
  -- ior
  · split at h
    · cases h; exact lv_ior hx hb hd (by have := kk ls hl; rw [← hn z hz] at this; exact this)
    · cases h
  -- ixor
  · split at h
    · cases h; exact lv_ixor hx hb hd (by have := kk ls hl; rw [← hn z hz] at this; exact this)
    · cases h
  -- ishl
  · split at h
    · cases h; exact lv_ishl hx hb hd (by have := kk ls hl; rw [← hn z hz] at this; exact this)
    · cases h
  -- ishr
  · split at h
    · cases h; exact lv_ishr hx hb hd (by have := kk ls hl; rw [← hn z hz] at this; exact this)
    · cases h
  -- iushr
  · split at h
    · cases h; exact lv_iushr hx hb hd rfl (by have := kk ls hl; rw [← hn z hz] at this; exact this)
    · cases h
  -- ladd
  · split at h
    · cases h; exact lv_ladd hx hb hd (by have := kk ls hl; rw [← hn z hz] at this; exact this)
    · cases h
  -- lsub
  · split at h
    · cases h; exact lv_lsub hx hb hd (by have := kk ls hl; rw [← hn z hz] at this; exact this)
    · cases h
  -- lmul
  · split at h
    · cases h; exact lv_lmul hx hb hd (by have := kk ls hl; rw [← hn z hz] at this; exact this)
    · cases h
  -- land
  · split at h
    · cases h; exact lv_land hx hb hd (by have := kk ls hl; rw [← hn z hz] at this; exact this)
    · cases h
  -- lor
  · split at h
    · cases h; exact lv_lor hx hb hd (by have := kk ls hl; rw [← hn z hz] at this; exact this)
    · cases h
  -- ldiv
  · split at h
    · split at h
      · cases h
      · rename_i hne
        cases h; exact lv_ldiv hx hb hd hne (by have := kk ls hl; rw [← hn z hz] at this; exact this)
    · cases h
  -- lrem
  · split at h
    · split at h
      · cases h
      · rename_i hne
        cases h; exact lv_lrem hx hb hd hne (by have := kk ls hl; rw [← hn z hz] at this; exact this)
    · cases h
  -- lneg
  · split at h
    · cases h; exact lv_lneg hx hb hd (by have := kk ls hl; rw [← hn z hz] at this; exact this)
    · cases h
  -- lshl
  · split at h
    · cases h; exact lv_lshl hx hb hd rfl (by have := kk ls hl; rw [← hn z hz] at this; exact this)
    · cases h
  -- lshr
  · split at h
    · cases h; exact lv_lshr hx hb hd rfl (by have := kk ls hl; rw [← hn z hz] at this; exact this)
    · cases h
  -- lcmp
  · split at h
    · cases h; exact W.lcmp hx hb hd (by have := kk ls hl; rw [← hn z hz] at this; exact this)
    · cases h
  -- i2l
  · split at h
    · cases h; exact lv_i2l hx hb hd rfl (by have := kk ls hl; rw [← hn z hz] at this; exact this)
    · cases h
  -- l2i
  · split at h
    · cases h; exact lv_l2i hx hb hd rfl (by have := kk ls hl; rw [← hn z hz] at this; exact this)
    · cases h
  -- i2b
  · split at h
    · cases h; exact lv_i2b hx hb hd rfl (by have := kk ls hl; rw [← hn z hz] at this; exact this)
    · cases h
  -- i2c
  · split at h
    · cases h; exact lv_i2c hx hb hd rfl (by have := kk ls hl; rw [← hn z hz] at this; exact this)
    · cases h
  -- dup
  · split at h
    · split at h
      · rename_i hc1
        cases h; exact lv_dup hx hb hd (by rw [xcn_cat]; exact hc1) (by have := kk ls hl; rw [← hn z hz] at this; exact this)
      · cases h
    · cases h
  -- pop
  · split at h
    · split at h
      · rename_i hc1
        cases h; exact lv_pop hx hb hd (by rw [xcn_cat]; exact hc1) (by have := kk ls hl; rw [← hn z hz] at this; exact this)
      · cases h
    · cases h
  -- dup2
  · split at h
    · split at h
      · rename_i hc1
        cases h; exact lv_dup2_2 hx hb hd (by rw [xcn_cat]; exact hc1) (by have := kk ls hl; rw [← hn z hz] at this; exact this)
      · rename_i hc1
        split at h
        · split at h
          · rename_i hc2
            cases h; exact lv_dup2_11 hx hb hd (by rw [xcn_cat]; exact (lv_cat _).resolve_right hc1) (by rw [xcn_cat]; exact hc2) (by have := kk ls hl; rw [← hn z hz] at this; exact this)
          · cases h
        · cases h
    · cases h
  -- pop2
  · split at h
    · split at h
      · rename_i hc1
        cases h; exact lv_pop2_2 hx hb hd (by rw [xcn_cat]; exact hc1) (by have := kk ls hl; rw [← hn z hz] at this; exact this)
      · rename_i hc1
        split at h
        · split at h
          · rename_i hc2
            cases h; exact lv_pop2_11 hx hb hd (by rw [xcn_cat]; exact (lv_cat _).resolve_right hc1) (by rw [xcn_cat]; exact hc2) (by have := kk ls hl; rw [← hn z hz] at this; exact this)
          · cases h
        · cases h
    · cases h
  -- goto
  · cases h
    obtain ⟨z', hz', ht⟩ := hj _ rfl
    cases hz'.symm.trans hz
    exact lv_goto hx hb hd ht (kk ls hl)
  -- ifCond
  · rename_i cnd off
    obtain ⟨z', hz', ht⟩ := hj _ rfl
    split at h
    · rename_i x r
      cases h
      have T1 : xtest cnd x 0 = true → W p l e R s m args below meth c H locs cells slots Q (F0 m z'.2.1 ls (st1.map (xcn ad))) := fun q => by
        rw [if_pos q] at hz
        cases hz'.symm.trans hz
        exact kk ls hl
      have T2 : xtest cnd x 0 = false → W p l e R s m args below meth c H locs cells slots Q (F0 m (pc + 3) ls (st1.map (xcn ad))) := fun q => by
        rw [if_neg (by rw [q]; decide)] at hz
        have := kk ls hl
        rw [← hn z hz] at this
        exact this
      cases cnd
      · exact lv_if_eq hx hb hd ht (fun q => T1 (by simp [xtest, q])) (fun q => T2 (by simp [xtest, q]))
      · exact lv_if_ne hx hb hd ht (fun q => T1 (by simp [xtest, q])) (fun q => T2 (by simp [xtest, q]))
      · exact lv_if_lt hx hb hd ht (fun q => T1 (by simp only [xtest, decide_eq_true_eq]; exact q)) (fun q => T2 (by simp only [xtest, decide_eq_false_iff_not]; exact q))
      · exact lv_if_ge hx hb hd ht (fun q => T1 (by simp only [xtest, decide_eq_true_eq]; exact q)) (fun q => T2 (by simp only [xtest, decide_eq_false_iff_not]; exact q))
      · exact lv_if_gt hx hb hd ht (fun q => T1 (by simp only [xtest, decide_eq_true_eq]; exact q)) (fun q => T2 (by simp only [xtest, decide_eq_false_iff_not]; exact q))
      · exact lv_if_le hx hb hd ht (fun q => T1 (by simp only [xtest, decide_eq_true_eq]; exact q)) (fun q => T2 (by simp only [xtest, decide_eq_false_iff_not]; exact q))
    · cases h
  -- if_icmp
  · rename_i cnd off
    obtain ⟨z', hz', ht⟩ := hj _ rfl
    split at h
    · rename_i y x r
      cases h
      have T1 : xtest cnd x y = true → W p l e R s m args below meth c H locs cells slots Q (F0 m z'.2.1 ls (st1.map (xcn ad))) := fun q => by
        rw [if_pos q] at hz
        cases hz'.symm.trans hz
        exact kk ls hl
      have T2 : xtest cnd x y = false → W p l e R s m args below meth c H locs cells slots Q (F0 m (pc + 3) ls (st1.map (xcn ad))) := fun q => by
        rw [if_neg (by rw [q]; decide)] at hz
        have := kk ls hl
        rw [← hn z hz] at this
        exact this
      cases cnd
      · exact lv_icmp_eq hx hb hd ht (fun q => T1 (by simp [xtest, q])) (fun q => T2 (by simp [xtest, q]))
      · exact lv_icmp_ne hx hb hd ht (fun q => T1 (by simp [xtest, q])) (fun q => T2 (by simp [xtest, q]))
      · exact lv_icmp_lt hx hb hd ht (fun q => T1 (by simp only [xtest, decide_eq_true_eq]; exact q)) (fun q => T2 (by simp only [xtest, decide_eq_false_iff_not]; exact q))
      · exact lv_icmp_ge hx hb hd ht (fun q => T1 (by simp only [xtest, decide_eq_true_eq]; exact q)) (fun q => T2 (by simp only [xtest, decide_eq_false_iff_not]; exact q))
      · exact lv_icmp_gt hx hb hd ht (fun q => T1 (by simp only [xtest, decide_eq_true_eq]; exact q)) (fun q => T2 (by simp only [xtest, decide_eq_false_iff_not]; exact q))
      · exact lv_icmp_le hx hb hd ht (fun q => T1 (by simp only [xtest, decide_eq_true_eq]; exact q)) (fun q => T2 (by simp only [xtest, decide_eq_false_iff_not]; exact q))
    · cases h
  -- ifnull
  · obtain ⟨z', hz', ht⟩ := hj _ rfl
    split at h
    · cases h
      cases hz'.symm.trans hz
      exact lv_ifnullN hx hb hd ht (kk ls hl)
    · cases h; exact lv_ifnull hx hb hd (by have := kk ls hl; rw [← hn z hz] at this; exact this)
    · cases h
  -- ifnonnull
  · obtain ⟨z', hz', ht⟩ := hj _ rfl
    split at h
    · cases h; exact lv_ifnonnullN hx hb hd (by have := kk ls hl; rw [← hn z hz] at this; exact this)
    · cases h
      cases hz'.symm.trans hz
      exact lv_ifnonnull hx hb hd ht (kk ls hl)
    · cases h
  -- tableswitch
  · rename_i d lo hi offs
    simp only [xswok, Bool.and_eq_true, decide_eq_true_eq, List.all_eq_true] at hsw
    split at h
    · rename_i x r
      split at h
      · rename_i hout
        cases ht : xat code ((pc : Int) + d).toNat with
        | none => rw [ht] at h; cases h
        | some t =>
          rw [ht] at h
          cases h
          have e := xat_ok ht hz
          exact lv_tableOut hx hb hd hout (by rw [e]; exact (Int.toNat_of_nonneg hsw.1).symm) (kk ls hl)
      · rename_i hout
        split at h
        · rename_i o ho
          cases ht : xat code ((pc : Int) + o).toNat with
          | none => rw [ht] at h; cases h
          | some t =>
            rw [ht] at h
            cases h
            have e := xat_ok ht hz
            have hm : o ∈ offs.toList := by rw [← Array.getElem?_toList] at ho; exact List.mem_of_getElem? ho
            exact lv_tableIn hx hb hd (fun q => hout (Or.inl q)) (fun q => hout (Or.inr q)) ho (by rw [e]; exact (Int.toNat_of_nonneg (hsw.2 o hm)).symm) (kk ls hl)
        · cases h
    · cases h
  -- lookupswitch
  · rename_i d ps
    simp only [xswok, Bool.and_eq_true, decide_eq_true_eq] at hsw
    split at h
    · rename_i x r
      cases ht : xat code ((pc : Int) + Op.lookupswitch.offset ps.toList d x.toInt).toNat with
      | none => rw [ht] at h; cases h
      | some t =>
        rw [ht] at h
        cases h
        have e := xat_ok ht hz
        have hp := xlo_off ps.toList d x.toInt (fun o => 0 ≤ (pc : Int) + o) hsw.2.1 (fun q hq => by have := List.all_eq_true.mp hsw.2.2 q hq; simpa using this)
        exact lv_lookup hx hb hd hsw.1 rfl (by rw [e]; exact (Int.toNat_of_nonneg hp).symm) (kk ls hl)
    · cases h
  -- ldc
  · rename_i idx
    cases hv : ct[a]? with
    | none => rw [hv] at h; cases h
    | some v =>
      rw [hv] at h
      cases h
      have hL := hldc idx v (Or.inl rfl) hv
      have hJ := hl1 idx v rfl hv
      cases v with
      | int x => exact lv_ldc hx hb hown hL hd (by have := kk ls hl; rw [← hn z hz] at this; exact this)
      | long x => cases hJ
      | ref k =>
        obtain ⟨tx, hR⟩ := hL
        exact va_ldcS hx hb hown hR hd (by have := kk ls hl; rw [← hn z hz] at this; exact this)
      | _ => exact hL.elim
  -- ldc_w
  · rename_i idx
    cases hv : ct[a]? with
    | none => rw [hv] at h; cases h
    | some v =>
      rw [hv] at h
      cases h
      have hL := hldc idx v (Or.inr (Or.inl rfl)) hv
      obtain ⟨x, rfl⟩ := xisI_ok (hlw idx v rfl hv)
      exact lv_ldcw hx hb hown hL hd (by have := kk ls hl; rw [← hn z hz] at this; exact this)
  -- ldc2_w
  · rename_i idx
    cases hv : ct[a]? with
    | none => rw [hv] at h; cases h
    | some v =>
      rw [hv] at h
      cases h
      have hL := hldc idx v (Or.inr (Or.inr rfl)) hv
      obtain ⟨x, rfl⟩ := xisJ_ok (hl2 idx v rfl hv)
      exact lv_ldc2 hx hb hown hL hd (by have := kk ls hl; rw [← hn z hz] at this; exact this)
  · cases h
end PURE
