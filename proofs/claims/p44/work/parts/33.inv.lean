/-! WHAT HOLDS BETWEEN CALLS; what is refused -/
theorem gb_c {M M' : zM} {b : Nat} (hb : b < 2) (h : sm M M') : gb M' b = gb M b := by
  have q : decide (b < 2) = true := decide_eq_true hb
  refine Prod.ext (funext fun f => h _ _ q) (Prod.ext (funext fun j => funext fun f => h _ _ q) (funext fun j => funext fun f => h _ _ q))
/-! refusals -/
def rfs (M : zM) (c : Nat) : zM := u2 M (17, 0, 0) c (M (17, 0, 0) c + 1)
section RF
variable (X : Nat × (Nat → Int32) × Value) (d : Nat) (M : zM) (G : zG)
theorem C114_1 : zd X d 114 [vR (6, 0, 0), vI (-1)] (hh M G) = some (some (vI (-1)), hh (rfs M 1) G) := by
  simp only [E114, e114_0, e114_1, e114_2, e114_5, e114_6, e114_8, e114_11, e114_12, e114_15, e114_16, e114_17, e114_18, e114_19, e114_20, e114_21, e114_22, e114_23, zt0, zt1, zn3, not_false_eq_true, toListS, toListN, zk_some, zpi, show ((-1 : Int32) < -1) = False by decide, show ((-1 : Int32) < -6) = False by decide, if_false, show (- -1 : Int32) = 1 by decide, show zin 1 7 = true by decide, show (1 : Int32).toNatClampNeg = 1 by decide]
  rfl
theorem C115_1 : zd X (d + 1) 115 [vR (6, 0, 0), vI (-1)] (hh M G) = some (some (vL (4000000000000000000 - Int32.toInt64 (-1))), hh (rfs M 1) G) := by
  simp only [E115, e115_0, e115_3, e115_4, e115_5, e115_8, e115_9, e115_10, zt0, zt1, zn3, not_false_eq_true, toListS, toListN, zk_some, zpi, C114_1]
theorem C114_2 : zd X d 114 [vR (6, 0, 0), vI (-2)] (hh M G) = some (some (vI (-2)), hh (rfs M 2) G) := by
  simp only [E114, e114_0, e114_1, e114_2, e114_5, e114_6, e114_8, e114_11, e114_12, e114_15, e114_16, e114_17, e114_18, e114_19, e114_20, e114_21, e114_22, e114_23, zt0, zt1, zn3, not_false_eq_true, toListS, toListN, zk_some, zpi, show ((-1 : Int32) < -2) = False by decide, show ((-2 : Int32) < -6) = False by decide, if_false, show (- -2 : Int32) = 2 by decide, show zin 2 7 = true by decide, show (2 : Int32).toNatClampNeg = 2 by decide]
  rfl
theorem C115_2 : zd X (d + 1) 115 [vR (6, 0, 0), vI (-2)] (hh M G) = some (some (vL (4000000000000000000 - Int32.toInt64 (-2))), hh (rfs M 2) G) := by
  simp only [E115, e115_0, e115_3, e115_4, e115_5, e115_8, e115_9, e115_10, zt0, zt1, zn3, not_false_eq_true, toListS, toListN, zk_some, zpi, C114_2]
theorem C114_3 : zd X d 114 [vR (6, 0, 0), vI (-3)] (hh M G) = some (some (vI (-3)), hh (rfs M 3) G) := by
  simp only [E114, e114_0, e114_1, e114_2, e114_5, e114_6, e114_8, e114_11, e114_12, e114_15, e114_16, e114_17, e114_18, e114_19, e114_20, e114_21, e114_22, e114_23, zt0, zt1, zn3, not_false_eq_true, toListS, toListN, zk_some, zpi, show ((-1 : Int32) < -3) = False by decide, show ((-3 : Int32) < -6) = False by decide, if_false, show (- -3 : Int32) = 3 by decide, show zin 3 7 = true by decide, show (3 : Int32).toNatClampNeg = 3 by decide]
  rfl
theorem C115_3 : zd X (d + 1) 115 [vR (6, 0, 0), vI (-3)] (hh M G) = some (some (vL (4000000000000000000 - Int32.toInt64 (-3))), hh (rfs M 3) G) := by
  simp only [E115, e115_0, e115_3, e115_4, e115_5, e115_8, e115_9, e115_10, zt0, zt1, zn3, not_false_eq_true, toListS, toListN, zk_some, zpi, C114_3]
theorem C114_4 : zd X d 114 [vR (6, 0, 0), vI (-4)] (hh M G) = some (some (vI (-4)), hh (rfs M 4) G) := by
  simp only [E114, e114_0, e114_1, e114_2, e114_5, e114_6, e114_8, e114_11, e114_12, e114_15, e114_16, e114_17, e114_18, e114_19, e114_20, e114_21, e114_22, e114_23, zt0, zt1, zn3, not_false_eq_true, toListS, toListN, zk_some, zpi, show ((-1 : Int32) < -4) = False by decide, show ((-4 : Int32) < -6) = False by decide, if_false, show (- -4 : Int32) = 4 by decide, show zin 4 7 = true by decide, show (4 : Int32).toNatClampNeg = 4 by decide]
  rfl
theorem C115_4 : zd X (d + 1) 115 [vR (6, 0, 0), vI (-4)] (hh M G) = some (some (vL (4000000000000000000 - Int32.toInt64 (-4))), hh (rfs M 4) G) := by
  simp only [E115, e115_0, e115_3, e115_4, e115_5, e115_8, e115_9, e115_10, zt0, zt1, zn3, not_false_eq_true, toListS, toListN, zk_some, zpi, C114_4]
theorem C114_6 : zd X d 114 [vR (6, 0, 0), vI (-6)] (hh M G) = some (some (vI (-6)), hh (rfs M 6) G) := by
  simp only [E114, e114_0, e114_1, e114_2, e114_5, e114_6, e114_8, e114_11, e114_12, e114_15, e114_16, e114_17, e114_18, e114_19, e114_20, e114_21, e114_22, e114_23, zt0, zt1, zn3, not_false_eq_true, toListS, toListN, zk_some, zpi, show ((-1 : Int32) < -6) = False by decide, show ((-6 : Int32) < -6) = False by decide, if_false, show (- -6 : Int32) = 6 by decide, show zin 6 7 = true by decide, show (6 : Int32).toNatClampNeg = 6 by decide]
  rfl
theorem C115_6 : zd X (d + 1) 115 [vR (6, 0, 0), vI (-6)] (hh M G) = some (some (vL (4000000000000000000 - Int32.toInt64 (-6))), hh (rfs M 6) G) := by
  simp only [E115, e115_0, e115_3, e115_4, e115_5, e115_8, e115_9, e115_10, zt0, zt1, zn3, not_false_eq_true, toListS, toListN, zk_some, zpi, C114_6]
end RF
