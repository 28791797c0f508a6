/-! lays; RACKS: rack, racks, racked, like -/
theorem lsum {a b : Int32} : (a.toInt64 + b.toInt64).toInt = a.toInt + b.toInt := by
  have h1 := Int32.toInt_lt a
  have h2 := Int32.toInt_lt b
  have h3 := Int32.le_toInt a
  have h4 := Int32.le_toInt b
  rw [Int64.toInt_add, Int32.toInt_toInt64, Int32.toInt_toInt64, Int.bmod_eq_of_le] <;> omega
/-- w waters laid into a row, from o on -/
def lay (N M : zM) (k : zK) (o w : Nat) : zM := fun k' f => if k' = k ∧ o ≤ f ∧ f < o + w then N (5, 0, f - o) 3 else M k' f
theorem lay_0 {N M : zM} {k : zK} {o : Nat} : lay N M k o 0 = M := by
  funext k' f
  unfold lay
  rw [if_neg (by omega)]
theorem lay_s {N M : zM} {k : zK} {o w : Nat} : u2 (lay N M k o w) k (o + w) (N (5, 0, w) 3) = lay N M k o (w + 1) := by
  funext k' f
  unfold u2 lay
  by_cases h1 : k' = k
  · by_cases h2 : f = o + w
    · rw [if_pos ⟨h1, h2⟩, if_pos ⟨h1, by omega⟩, show f - o = w by omega]
    · rw [if_neg (fun e => h2 e.2)]
      by_cases h3 : o ≤ f ∧ f < o + w
      · rw [if_pos ⟨h1, h3⟩, if_pos ⟨h1, by omega⟩]
      · rw [if_neg (fun e => h3 e.2), if_neg (fun e => h3 (by omega))]
  · rw [if_neg (fun e => h1 e.1), if_neg (fun e => h1 e.1), if_neg (fun e => h1 e.1)]
theorem lay_n {N M : zM} {k k' : zK} {o w f : Nat} (h : k'.1 ≠ k.1) : lay N M k o w k' f = M k' f := by unfold lay; rw [if_neg fun e => h (congrArg Prod.fst e.1)]
theorem lay_o {N M : zM} {k k' : zK} {o w f : Nat} (h : k' ≠ k) : lay N M k o w k' f = M k' f := by unfold lay; rw [if_neg fun e => h e.1]
theorem lay_f {N M : zM} {k k' : zK} {o w f : Nat} (h : ¬ (o ≤ f ∧ f < o + w)) : lay N M k o w k' f = M k' f := by unfold lay; rw [if_neg fun e => h e.2]
theorem lay_i {N M : zM} {k : zK} {o w f : Nat} (h : o ≤ f ∧ f < o + w) : lay N M k o w k f = N (5, 0, f - o) 3 := if_pos ⟨rfl, h⟩
