/-! WHAT HOLDS PURELY in every state -/
def pRc (n0 : Int32) (Dr : List yD) : Prop := n0 = Int32.ofNat (Dr.countP (fun d => d.2.2.2.1 != -9))
/-- what holds purely -/
def pAll (t : List Int32) (Fs : List yF) (En : List (Int64 × Int32)) (z : Option yO) (Dr : List yD) (gv : Nat) (n0 : Int32) (Mv : List yMv) (se : ySe) : Prop := byR t ∧ pFs Fs ∧ En.length ≤ 100 ∧ pDk En z ∧ pDr Fs En Dr ∧ gv ≤ 400 ∧ pRc n0 Dr ∧ mvOk Fs Mv ∧ (se.2.1 = true → se.2.2.1 = false)
