/-! WHAT CHANGES A BENCH: on the class side and in the row of the model -/
theorem C121 (X : Nat × (Nat → Int32) × Value) (d : Nat) (M : zM) (G : zG) (x : Int32) : zd X d 121 [vI x] (hh M G) = some (some (vI (inz x 0 5)), hh M G) := by
  rw [D121]
  have e : (if x < 0 then (0 : Int32) else if 5 < x then 0 else 1) = inz x 0 5 := by
    unfold inz
    by_cases h1 : x < 0
    · rw [if_pos h1, if_pos (show x.toInt < 0 from i_lt.mp h1)]
    · rw [if_neg h1, if_neg (show ¬ x.toInt < 0 from fun q => h1 (i_lt.mpr q))]
      by_cases h2 : 5 < x
      · rw [if_pos h2, if_pos (show 5 < x.toInt from i_lt.mp h2)]
      · rw [if_neg h2, if_neg (show ¬ 5 < x.toInt from fun q => h2 (i_lt.mpr q))]
  rw [e]
