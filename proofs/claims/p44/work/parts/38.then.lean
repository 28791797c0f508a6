/-! then -/
theorem rng_n {x lit : Int32} {h : Int} (e : lit.toInt = h) (n : ¬ (0 ≤ x.toInt ∧ x.toInt ≤ h)) : x < 0 ∨ (¬ x < 0 ∧ ¬ x ≤ lit) := by
  rw [i_lt, i_le, e, show (0 : Int32).toInt = 0 from rfl]
  omega
theorem b01 {x : Int32} (h : x = 0 ∨ x = 1) : (if x = 0 then (0 : Int32) else 1) = x := by rcases h with rfl | rfl <;> rfl
