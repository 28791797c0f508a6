/-! dry, meets -/
theorem C2b (X : Nat × (Nat → Int32) × Value) (d : Nat) (M : zM) (G : zG) (b nv : Nat) (h2 : M (0, b, 0) 2 = nI nv) (h5 : nv ≤ 5) (x : Int32) : zd X d 2 [vR (0, b, 0), vI x] (hh M G) = some (some (vI (isx nv x)), hh M G) := by rw [C2, sHv_x h2 h5]
theorem C3b (X : Nat × (Nat → Int32) × Value) (d : Nat) (M : zM) (G : zG) (b np : Nat) (h3 : M (0, b, 0) 3 = nI np) (h8 : np ≤ 8) (x : Int32) : zd X d 3 [vR (0, b, 0), vI x] (hh M G) = some (some (vI (isx np x)), hh M G) := by rw [C3, sHp_x h3 h8]
def Qdr (nv np : Nat) (B : zB) (j s : Nat) : Bool := decide ((bst nv np B s).2.1 j 3 = 0)
def Qme (nv np : Nat) (B : zB) (j c s : Nat) : Bool := decide (sHt (bst nv np B s).2.1 j * (bst nv np B s).2.1 c 0 - sHt (bst nv np B s).2.1 c * (bst nv np B s).2.1 j 0 = 0)
theorem i_sub0 {x y : Int32} : (x = y) = (x - y = 0) := propext ⟨fun e => by rw [e, Int32.sub_self], fun e => by
  have q := congrArg (· + y) e
  simpa using q⟩
theorem q10 {c : Prop} {iP : Decidable c} {α : Type} {iQ : Decidable (@ite Int32 c iP 1 0 = 0)} (a b : α) : @ite α (@ite Int32 c iP 1 0 = 0) iQ a b = @ite α c iP b a := by
  by_cases h : c
  · have e : ¬ @ite Int32 c iP 1 0 = 0 := by rw [if_pos h]; decide
    rw [if_neg e, if_pos h]
  · have e : @ite Int32 c iP 1 0 = 0 := by rw [if_neg h]
    rw [if_pos e, if_neg h]
