/-! small helps for runs -/
theorem zt0 : ztz (vI 0) = true := by decide
theorem zt1 : ztz (vI 1) = true := by decide
theorem zn3 : ¬ (3 : Int32) = 0 := by decide
theorem u2_same {M : zM} {k : zK} {f : Nat} {x : Int32} : u2 M k f x k f = x := if_pos ⟨rfl, rfl⟩
theorem u2_f {M : zM} {k k' : zK} {f f' : Nat} {x : Int32} (h : f' ≠ f) : u2 M k f x k' f' = M k' f' := if_neg fun q => h q.2
theorem u2_k {M : zM} {k k' : zK} {f f' : Nat} {x : Int32} (h : k' ≠ k) : u2 M k f x k' f' = M k' f' := if_neg fun q => h q.1
theorem toListS {v : zV} {r : List zV} : (some v : Option zV).toList ++ r = v :: r := rfl
theorem toListN {r : List zV} : (none : Option zV).toList ++ r = r := rfl
