/-! RACKS: rack, racks, racked, like -/
theorem zu_0 : (0 + 1 : Int32) = 1 := by decide
theorem zu_1 : (1 + 1 : Int32) = 2 := by decide
theorem zu_2 : (2 + 1 : Int32) = 3 := by decide
theorem zu_3 : (3 + 1 : Int32) = 4 := by decide
theorem zu_4 : (4 + 1 : Int32) = 5 := by decide
theorem zu_5 : (5 + 1 : Int32) = 6 := by decide
theorem zi_m : inz (-1) 0 5 = 0 := rfl
theorem zi_0 : inz 0 0 5 = 1 := rfl
theorem zi_1 : inz 1 0 5 = 1 := rfl
theorem zi_2 : inz 2 0 5 = 1 := rfl
theorem zi_3 : inz 3 0 5 = 1 := rfl
theorem zi_4 : inz 4 0 5 = 1 := rfl
theorem zi_5 : inz 5 0 5 = 1 := rfl
theorem zt_0 : zka.getD (Int32.toNatClampNeg 0) 0 = -1 := by decide
theorem zt_1 : zka.getD (Int32.toNatClampNeg 1) 0 = 0 := by decide
theorem zt_2 : zka.getD (Int32.toNatClampNeg 2) 0 = 0 := by decide
theorem zt_3 : zka.getD (Int32.toNatClampNeg 3) 0 = 1 := by decide
theorem zt_4 : zka.getD (Int32.toNatClampNeg 4) 0 = 2 := by decide
theorem zt_5 : zka.getD (Int32.toNatClampNeg 5) 0 = 2 := by decide
theorem zw_0 : zin 0 6 = true := by decide
theorem zw_1 : zin 1 6 = true := by decide
theorem zw_2 : zin 2 6 = true := by decide
theorem zw_3 : zin 3 6 = true := by decide
theorem zw_4 : zin 4 6 = true := by decide
theorem zw_5 : zin 5 6 = true := by decide
def und (k a : Nat) : Int32 := if a = 0 ∨ k = a ∨ (a = 1 ∧ k = 3) ∨ (a = 2 ∧ 4 ≤ k) then 1 else 0
theorem q5_0 : ((5 : Int32) < 0) = False := by decide
theorem q5_1 : ((5 : Int32) < 1) = False := by decide
theorem q5_2 : ((5 : Int32) < 2) = False := by decide
theorem q5_3 : ((5 : Int32) < 3) = False := by decide
theorem q5_4 : ((5 : Int32) < 4) = False := by decide
theorem q5_5 : ((5 : Int32) < 5) = False := by decide
theorem q5_6 : ((5 : Int32) < 6) = True := by decide
theorem C122_0_0 (X : Nat × (Nat → Int32) × Value) (d : Nat) (M : zM) (G : zG) : zd X (d + 1) 122 [vI 0, vI 0] (hh M G) = some (some (vI 1), hh M G) := by
  simp only [E122, e122_0, e122_1, e122_2, e122_3, e122_4, e122_5, e122_6, e122_9, e122_10, e122_13, e122_16, e122_17, e122_18, e122_21, e122_22, e122_23, e122_26, e122_27, e122_28, e122_29, e122_32, e122_35, e122_36, zt0, zt1, zn3, not_false_eq_true, toListS, toListN, zk_some, zpi, if_true, if_false, i10, C121, zu_0, zu_1, zu_2, zu_3, zu_4, zu_5, zi_m, zi_0, zi_1, zi_2, zi_3, zi_4, zi_5, zt_0, zt_1, zt_2, zt_3, zt_4, zt_5, zw_0, zw_1, zw_2, zw_3, zw_4, zw_5, q_eq_m1_0, q_eq_1_0, q_eq_2_0, q_eq_3_0, q_eq_4_0, q_eq_5_0, q5_0, q5_1, q5_2, q5_3, q5_4, q5_5, q5_6, one0]
theorem C122_0_1 (X : Nat × (Nat → Int32) × Value) (d : Nat) (M : zM) (G : zG) : zd X (d + 1) 122 [vI 0, vI 1] (hh M G) = some (some (vI 0), hh M G) := by
  simp only [E122, e122_0, e122_1, e122_2, e122_3, e122_4, e122_5, e122_6, e122_9, e122_10, e122_13, e122_16, e122_17, e122_18, e122_21, e122_22, e122_23, e122_26, e122_27, e122_28, e122_29, e122_32, e122_35, e122_36, zt0, zt1, zn3, not_false_eq_true, toListS, toListN, zk_some, zpi, if_true, if_false, i10, C121, zu_0, zu_1, zu_2, zu_3, zu_4, zu_5, zi_m, zi_0, zi_1, zi_2, zi_3, zi_4, zi_5, zt_0, zt_1, zt_2, zt_3, zt_4, zt_5, zw_0, zw_1, zw_2, zw_3, zw_4, zw_5, q_eq_m1_1, q_eq_0_1, q_eq_2_1, q_eq_3_1, q_eq_4_1, q_eq_5_1, q5_0, q5_1, q5_2, q5_3, q5_4, q5_5, q5_6, one0]
theorem C122_0_2 (X : Nat × (Nat → Int32) × Value) (d : Nat) (M : zM) (G : zG) : zd X (d + 1) 122 [vI 0, vI 2] (hh M G) = some (some (vI 0), hh M G) := by
  simp only [E122, e122_0, e122_1, e122_2, e122_3, e122_4, e122_5, e122_6, e122_9, e122_10, e122_13, e122_16, e122_17, e122_18, e122_21, e122_22, e122_23, e122_26, e122_27, e122_28, e122_29, e122_32, e122_35, e122_36, zt0, zt1, zn3, not_false_eq_true, toListS, toListN, zk_some, zpi, if_true, if_false, i10, C121, zu_0, zu_1, zu_2, zu_3, zu_4, zu_5, zi_m, zi_0, zi_1, zi_2, zi_3, zi_4, zi_5, zt_0, zt_1, zt_2, zt_3, zt_4, zt_5, zw_0, zw_1, zw_2, zw_3, zw_4, zw_5, q_eq_m1_2, q_eq_0_2, q_eq_1_2, q_eq_3_2, q_eq_4_2, q_eq_5_2, q5_0, q5_1, q5_2, q5_3, q5_4, q5_5, q5_6, one0]
theorem C122_0_3 (X : Nat × (Nat → Int32) × Value) (d : Nat) (M : zM) (G : zG) : zd X (d + 1) 122 [vI 0, vI 3] (hh M G) = some (some (vI 0), hh M G) := by
  simp only [E122, e122_0, e122_1, e122_2, e122_3, e122_4, e122_5, e122_6, e122_9, e122_10, e122_13, e122_16, e122_17, e122_18, e122_21, e122_22, e122_23, e122_26, e122_27, e122_28, e122_29, e122_32, e122_35, e122_36, zt0, zt1, zn3, not_false_eq_true, toListS, toListN, zk_some, zpi, if_true, if_false, i10, C121, zu_0, zu_1, zu_2, zu_3, zu_4, zu_5, zi_m, zi_0, zi_1, zi_2, zi_3, zi_4, zi_5, zt_0, zt_1, zt_2, zt_3, zt_4, zt_5, zw_0, zw_1, zw_2, zw_3, zw_4, zw_5, q_eq_m1_3, q_eq_0_3, q_eq_1_3, q_eq_2_3, q_eq_4_3, q_eq_5_3, q5_0, q5_1, q5_2, q5_3, q5_4, q5_5, q5_6, one0]
theorem C122_0_4 (X : Nat × (Nat → Int32) × Value) (d : Nat) (M : zM) (G : zG) : zd X (d + 1) 122 [vI 0, vI 4] (hh M G) = some (some (vI 0), hh M G) := by
  simp only [E122, e122_0, e122_1, e122_2, e122_3, e122_4, e122_5, e122_6, e122_9, e122_10, e122_13, e122_16, e122_17, e122_18, e122_21, e122_22, e122_23, e122_26, e122_27, e122_28, e122_29, e122_32, e122_35, e122_36, zt0, zt1, zn3, not_false_eq_true, toListS, toListN, zk_some, zpi, if_true, if_false, i10, C121, zu_0, zu_1, zu_2, zu_3, zu_4, zu_5, zi_m, zi_0, zi_1, zi_2, zi_3, zi_4, zi_5, zt_0, zt_1, zt_2, zt_3, zt_4, zt_5, zw_0, zw_1, zw_2, zw_3, zw_4, zw_5, q_eq_m1_4, q_eq_0_4, q_eq_1_4, q_eq_2_4, q_eq_3_4, q_eq_5_4, q5_0, q5_1, q5_2, q5_3, q5_4, q5_5, q5_6, one0]
theorem C122_0_5 (X : Nat × (Nat → Int32) × Value) (d : Nat) (M : zM) (G : zG) : zd X (d + 1) 122 [vI 0, vI 5] (hh M G) = some (some (vI 0), hh M G) := by
  simp only [E122, e122_0, e122_1, e122_2, e122_3, e122_4, e122_5, e122_6, e122_9, e122_10, e122_13, e122_16, e122_17, e122_18, e122_21, e122_22, e122_23, e122_26, e122_27, e122_28, e122_29, e122_32, e122_35, e122_36, zt0, zt1, zn3, not_false_eq_true, toListS, toListN, zk_some, zpi, if_true, if_false, i10, C121, zu_0, zu_1, zu_2, zu_3, zu_4, zu_5, zi_m, zi_0, zi_1, zi_2, zi_3, zi_4, zi_5, zt_0, zt_1, zt_2, zt_3, zt_4, zt_5, zw_0, zw_1, zw_2, zw_3, zw_4, zw_5, q_eq_m1_5, q_eq_0_5, q_eq_1_5, q_eq_2_5, q_eq_3_5, q_eq_4_5, q5_0, q5_1, q5_2, q5_3, q5_4, q5_5, q5_6, one0]
theorem C122_1_0 (X : Nat × (Nat → Int32) × Value) (d : Nat) (M : zM) (G : zG) : zd X (d + 1) 122 [vI 1, vI 0] (hh M G) = some (some (vI 1), hh M G) := by
  simp only [E122, e122_0, e122_1, e122_2, e122_3, e122_4, e122_5, e122_6, e122_9, e122_10, e122_13, e122_16, e122_17, e122_18, e122_21, e122_22, e122_23, e122_26, e122_27, e122_28, e122_29, e122_32, e122_35, e122_36, zt0, zt1, zn3, not_false_eq_true, toListS, toListN, zk_some, zpi, if_true, if_false, i10, C121, zu_0, zu_1, zu_2, zu_3, zu_4, zu_5, zi_m, zi_0, zi_1, zi_2, zi_3, zi_4, zi_5, zt_0, zt_1, zt_2, zt_3, zt_4, zt_5, zw_0, zw_1, zw_2, zw_3, zw_4, zw_5, q_eq_m1_0, q_eq_1_0, q_eq_2_0, q_eq_3_0, q_eq_4_0, q_eq_5_0, q5_0, q5_1, q5_2, q5_3, q5_4, q5_5, q5_6, one0]
theorem C122_1_1 (X : Nat × (Nat → Int32) × Value) (d : Nat) (M : zM) (G : zG) : zd X (d + 1) 122 [vI 1, vI 1] (hh M G) = some (some (vI 1), hh M G) := by
  simp only [E122, e122_0, e122_1, e122_2, e122_3, e122_4, e122_5, e122_6, e122_9, e122_10, e122_13, e122_16, e122_17, e122_18, e122_21, e122_22, e122_23, e122_26, e122_27, e122_28, e122_29, e122_32, e122_35, e122_36, zt0, zt1, zn3, not_false_eq_true, toListS, toListN, zk_some, zpi, if_true, if_false, i10, C121, zu_0, zu_1, zu_2, zu_3, zu_4, zu_5, zi_m, zi_0, zi_1, zi_2, zi_3, zi_4, zi_5, zt_0, zt_1, zt_2, zt_3, zt_4, zt_5, zw_0, zw_1, zw_2, zw_3, zw_4, zw_5, q_eq_m1_1, q_eq_0_1, q_eq_2_1, q_eq_3_1, q_eq_4_1, q_eq_5_1, q5_0, q5_1, q5_2, q5_3, q5_4, q5_5, q5_6, one0]
theorem C122_1_2 (X : Nat × (Nat → Int32) × Value) (d : Nat) (M : zM) (G : zG) : zd X (d + 1) 122 [vI 1, vI 2] (hh M G) = some (some (vI 0), hh M G) := by
  simp only [E122, e122_0, e122_1, e122_2, e122_3, e122_4, e122_5, e122_6, e122_9, e122_10, e122_13, e122_16, e122_17, e122_18, e122_21, e122_22, e122_23, e122_26, e122_27, e122_28, e122_29, e122_32, e122_35, e122_36, zt0, zt1, zn3, not_false_eq_true, toListS, toListN, zk_some, zpi, if_true, if_false, i10, C121, zu_0, zu_1, zu_2, zu_3, zu_4, zu_5, zi_m, zi_0, zi_1, zi_2, zi_3, zi_4, zi_5, zt_0, zt_1, zt_2, zt_3, zt_4, zt_5, zw_0, zw_1, zw_2, zw_3, zw_4, zw_5, q_eq_m1_2, q_eq_0_2, q_eq_1_2, q_eq_3_2, q_eq_4_2, q_eq_5_2, q5_0, q5_1, q5_2, q5_3, q5_4, q5_5, q5_6, one0]
theorem C122_1_3 (X : Nat × (Nat → Int32) × Value) (d : Nat) (M : zM) (G : zG) : zd X (d + 1) 122 [vI 1, vI 3] (hh M G) = some (some (vI 0), hh M G) := by
  simp only [E122, e122_0, e122_1, e122_2, e122_3, e122_4, e122_5, e122_6, e122_9, e122_10, e122_13, e122_16, e122_17, e122_18, e122_21, e122_22, e122_23, e122_26, e122_27, e122_28, e122_29, e122_32, e122_35, e122_36, zt0, zt1, zn3, not_false_eq_true, toListS, toListN, zk_some, zpi, if_true, if_false, i10, C121, zu_0, zu_1, zu_2, zu_3, zu_4, zu_5, zi_m, zi_0, zi_1, zi_2, zi_3, zi_4, zi_5, zt_0, zt_1, zt_2, zt_3, zt_4, zt_5, zw_0, zw_1, zw_2, zw_3, zw_4, zw_5, q_eq_m1_3, q_eq_0_3, q_eq_1_3, q_eq_2_3, q_eq_4_3, q_eq_5_3, q5_0, q5_1, q5_2, q5_3, q5_4, q5_5, q5_6, one0]
theorem C122_1_4 (X : Nat × (Nat → Int32) × Value) (d : Nat) (M : zM) (G : zG) : zd X (d + 1) 122 [vI 1, vI 4] (hh M G) = some (some (vI 0), hh M G) := by
  simp only [E122, e122_0, e122_1, e122_2, e122_3, e122_4, e122_5, e122_6, e122_9, e122_10, e122_13, e122_16, e122_17, e122_18, e122_21, e122_22, e122_23, e122_26, e122_27, e122_28, e122_29, e122_32, e122_35, e122_36, zt0, zt1, zn3, not_false_eq_true, toListS, toListN, zk_some, zpi, if_true, if_false, i10, C121, zu_0, zu_1, zu_2, zu_3, zu_4, zu_5, zi_m, zi_0, zi_1, zi_2, zi_3, zi_4, zi_5, zt_0, zt_1, zt_2, zt_3, zt_4, zt_5, zw_0, zw_1, zw_2, zw_3, zw_4, zw_5, q_eq_m1_4, q_eq_0_4, q_eq_1_4, q_eq_2_4, q_eq_3_4, q_eq_5_4, q5_0, q5_1, q5_2, q5_3, q5_4, q5_5, q5_6, one0]
theorem C122_1_5 (X : Nat × (Nat → Int32) × Value) (d : Nat) (M : zM) (G : zG) : zd X (d + 1) 122 [vI 1, vI 5] (hh M G) = some (some (vI 0), hh M G) := by
  simp only [E122, e122_0, e122_1, e122_2, e122_3, e122_4, e122_5, e122_6, e122_9, e122_10, e122_13, e122_16, e122_17, e122_18, e122_21, e122_22, e122_23, e122_26, e122_27, e122_28, e122_29, e122_32, e122_35, e122_36, zt0, zt1, zn3, not_false_eq_true, toListS, toListN, zk_some, zpi, if_true, if_false, i10, C121, zu_0, zu_1, zu_2, zu_3, zu_4, zu_5, zi_m, zi_0, zi_1, zi_2, zi_3, zi_4, zi_5, zt_0, zt_1, zt_2, zt_3, zt_4, zt_5, zw_0, zw_1, zw_2, zw_3, zw_4, zw_5, q_eq_m1_5, q_eq_0_5, q_eq_1_5, q_eq_2_5, q_eq_3_5, q_eq_4_5, q5_0, q5_1, q5_2, q5_3, q5_4, q5_5, q5_6, one0]
theorem C122_2_0 (X : Nat × (Nat → Int32) × Value) (d : Nat) (M : zM) (G : zG) : zd X (d + 1) 122 [vI 2, vI 0] (hh M G) = some (some (vI 1), hh M G) := by
  simp only [E122, e122_0, e122_1, e122_2, e122_3, e122_4, e122_5, e122_6, e122_9, e122_10, e122_13, e122_16, e122_17, e122_18, e122_21, e122_22, e122_23, e122_26, e122_27, e122_28, e122_29, e122_32, e122_35, e122_36, zt0, zt1, zn3, not_false_eq_true, toListS, toListN, zk_some, zpi, if_true, if_false, i10, C121, zu_0, zu_1, zu_2, zu_3, zu_4, zu_5, zi_m, zi_0, zi_1, zi_2, zi_3, zi_4, zi_5, zt_0, zt_1, zt_2, zt_3, zt_4, zt_5, zw_0, zw_1, zw_2, zw_3, zw_4, zw_5, q_eq_m1_0, q_eq_1_0, q_eq_2_0, q_eq_3_0, q_eq_4_0, q_eq_5_0, q5_0, q5_1, q5_2, q5_3, q5_4, q5_5, q5_6, one0]
theorem C122_2_1 (X : Nat × (Nat → Int32) × Value) (d : Nat) (M : zM) (G : zG) : zd X (d + 1) 122 [vI 2, vI 1] (hh M G) = some (some (vI 0), hh M G) := by
  simp only [E122, e122_0, e122_1, e122_2, e122_3, e122_4, e122_5, e122_6, e122_9, e122_10, e122_13, e122_16, e122_17, e122_18, e122_21, e122_22, e122_23, e122_26, e122_27, e122_28, e122_29, e122_32, e122_35, e122_36, zt0, zt1, zn3, not_false_eq_true, toListS, toListN, zk_some, zpi, if_true, if_false, i10, C121, zu_0, zu_1, zu_2, zu_3, zu_4, zu_5, zi_m, zi_0, zi_1, zi_2, zi_3, zi_4, zi_5, zt_0, zt_1, zt_2, zt_3, zt_4, zt_5, zw_0, zw_1, zw_2, zw_3, zw_4, zw_5, q_eq_m1_1, q_eq_0_1, q_eq_2_1, q_eq_3_1, q_eq_4_1, q_eq_5_1, q5_0, q5_1, q5_2, q5_3, q5_4, q5_5, q5_6, one0]
theorem C122_2_2 (X : Nat × (Nat → Int32) × Value) (d : Nat) (M : zM) (G : zG) : zd X (d + 1) 122 [vI 2, vI 2] (hh M G) = some (some (vI 1), hh M G) := by
  simp only [E122, e122_0, e122_1, e122_2, e122_3, e122_4, e122_5, e122_6, e122_9, e122_10, e122_13, e122_16, e122_17, e122_18, e122_21, e122_22, e122_23, e122_26, e122_27, e122_28, e122_29, e122_32, e122_35, e122_36, zt0, zt1, zn3, not_false_eq_true, toListS, toListN, zk_some, zpi, if_true, if_false, i10, C121, zu_0, zu_1, zu_2, zu_3, zu_4, zu_5, zi_m, zi_0, zi_1, zi_2, zi_3, zi_4, zi_5, zt_0, zt_1, zt_2, zt_3, zt_4, zt_5, zw_0, zw_1, zw_2, zw_3, zw_4, zw_5, q_eq_m1_2, q_eq_0_2, q_eq_1_2, q_eq_3_2, q_eq_4_2, q_eq_5_2, q5_0, q5_1, q5_2, q5_3, q5_4, q5_5, q5_6, one0]
theorem C122_2_3 (X : Nat × (Nat → Int32) × Value) (d : Nat) (M : zM) (G : zG) : zd X (d + 1) 122 [vI 2, vI 3] (hh M G) = some (some (vI 0), hh M G) := by
  simp only [E122, e122_0, e122_1, e122_2, e122_3, e122_4, e122_5, e122_6, e122_9, e122_10, e122_13, e122_16, e122_17, e122_18, e122_21, e122_22, e122_23, e122_26, e122_27, e122_28, e122_29, e122_32, e122_35, e122_36, zt0, zt1, zn3, not_false_eq_true, toListS, toListN, zk_some, zpi, if_true, if_false, i10, C121, zu_0, zu_1, zu_2, zu_3, zu_4, zu_5, zi_m, zi_0, zi_1, zi_2, zi_3, zi_4, zi_5, zt_0, zt_1, zt_2, zt_3, zt_4, zt_5, zw_0, zw_1, zw_2, zw_3, zw_4, zw_5, q_eq_m1_3, q_eq_0_3, q_eq_1_3, q_eq_2_3, q_eq_4_3, q_eq_5_3, q5_0, q5_1, q5_2, q5_3, q5_4, q5_5, q5_6, one0]
theorem C122_2_4 (X : Nat × (Nat → Int32) × Value) (d : Nat) (M : zM) (G : zG) : zd X (d + 1) 122 [vI 2, vI 4] (hh M G) = some (some (vI 0), hh M G) := by
  simp only [E122, e122_0, e122_1, e122_2, e122_3, e122_4, e122_5, e122_6, e122_9, e122_10, e122_13, e122_16, e122_17, e122_18, e122_21, e122_22, e122_23, e122_26, e122_27, e122_28, e122_29, e122_32, e122_35, e122_36, zt0, zt1, zn3, not_false_eq_true, toListS, toListN, zk_some, zpi, if_true, if_false, i10, C121, zu_0, zu_1, zu_2, zu_3, zu_4, zu_5, zi_m, zi_0, zi_1, zi_2, zi_3, zi_4, zi_5, zt_0, zt_1, zt_2, zt_3, zt_4, zt_5, zw_0, zw_1, zw_2, zw_3, zw_4, zw_5, q_eq_m1_4, q_eq_0_4, q_eq_1_4, q_eq_2_4, q_eq_3_4, q_eq_5_4, q5_0, q5_1, q5_2, q5_3, q5_4, q5_5, q5_6, one0]
theorem C122_2_5 (X : Nat × (Nat → Int32) × Value) (d : Nat) (M : zM) (G : zG) : zd X (d + 1) 122 [vI 2, vI 5] (hh M G) = some (some (vI 0), hh M G) := by
  simp only [E122, e122_0, e122_1, e122_2, e122_3, e122_4, e122_5, e122_6, e122_9, e122_10, e122_13, e122_16, e122_17, e122_18, e122_21, e122_22, e122_23, e122_26, e122_27, e122_28, e122_29, e122_32, e122_35, e122_36, zt0, zt1, zn3, not_false_eq_true, toListS, toListN, zk_some, zpi, if_true, if_false, i10, C121, zu_0, zu_1, zu_2, zu_3, zu_4, zu_5, zi_m, zi_0, zi_1, zi_2, zi_3, zi_4, zi_5, zt_0, zt_1, zt_2, zt_3, zt_4, zt_5, zw_0, zw_1, zw_2, zw_3, zw_4, zw_5, q_eq_m1_5, q_eq_0_5, q_eq_1_5, q_eq_2_5, q_eq_3_5, q_eq_4_5, q5_0, q5_1, q5_2, q5_3, q5_4, q5_5, q5_6, one0]
theorem C122_3_0 (X : Nat × (Nat → Int32) × Value) (d : Nat) (M : zM) (G : zG) : zd X (d + 1) 122 [vI 3, vI 0] (hh M G) = some (some (vI 1), hh M G) := by
  simp only [E122, e122_0, e122_1, e122_2, e122_3, e122_4, e122_5, e122_6, e122_9, e122_10, e122_13, e122_16, e122_17, e122_18, e122_21, e122_22, e122_23, e122_26, e122_27, e122_28, e122_29, e122_32, e122_35, e122_36, zt0, zt1, zn3, not_false_eq_true, toListS, toListN, zk_some, zpi, if_true, if_false, i10, C121, zu_0, zu_1, zu_2, zu_3, zu_4, zu_5, zi_m, zi_0, zi_1, zi_2, zi_3, zi_4, zi_5, zt_0, zt_1, zt_2, zt_3, zt_4, zt_5, zw_0, zw_1, zw_2, zw_3, zw_4, zw_5, q_eq_m1_0, q_eq_1_0, q_eq_2_0, q_eq_3_0, q_eq_4_0, q_eq_5_0, q5_0, q5_1, q5_2, q5_3, q5_4, q5_5, q5_6, one0]
theorem C122_3_1 (X : Nat × (Nat → Int32) × Value) (d : Nat) (M : zM) (G : zG) : zd X (d + 1) 122 [vI 3, vI 1] (hh M G) = some (some (vI 1), hh M G) := by
  simp only [E122, e122_0, e122_1, e122_2, e122_3, e122_4, e122_5, e122_6, e122_9, e122_10, e122_13, e122_16, e122_17, e122_18, e122_21, e122_22, e122_23, e122_26, e122_27, e122_28, e122_29, e122_32, e122_35, e122_36, zt0, zt1, zn3, not_false_eq_true, toListS, toListN, zk_some, zpi, if_true, if_false, i10, C121, zu_0, zu_1, zu_2, zu_3, zu_4, zu_5, zi_m, zi_0, zi_1, zi_2, zi_3, zi_4, zi_5, zt_0, zt_1, zt_2, zt_3, zt_4, zt_5, zw_0, zw_1, zw_2, zw_3, zw_4, zw_5, q_eq_m1_1, q_eq_0_1, q_eq_2_1, q_eq_3_1, q_eq_4_1, q_eq_5_1, q5_0, q5_1, q5_2, q5_3, q5_4, q5_5, q5_6, one0]
theorem C122_3_2 (X : Nat × (Nat → Int32) × Value) (d : Nat) (M : zM) (G : zG) : zd X (d + 1) 122 [vI 3, vI 2] (hh M G) = some (some (vI 0), hh M G) := by
  simp only [E122, e122_0, e122_1, e122_2, e122_3, e122_4, e122_5, e122_6, e122_9, e122_10, e122_13, e122_16, e122_17, e122_18, e122_21, e122_22, e122_23, e122_26, e122_27, e122_28, e122_29, e122_32, e122_35, e122_36, zt0, zt1, zn3, not_false_eq_true, toListS, toListN, zk_some, zpi, if_true, if_false, i10, C121, zu_0, zu_1, zu_2, zu_3, zu_4, zu_5, zi_m, zi_0, zi_1, zi_2, zi_3, zi_4, zi_5, zt_0, zt_1, zt_2, zt_3, zt_4, zt_5, zw_0, zw_1, zw_2, zw_3, zw_4, zw_5, q_eq_m1_2, q_eq_0_2, q_eq_1_2, q_eq_3_2, q_eq_4_2, q_eq_5_2, q5_0, q5_1, q5_2, q5_3, q5_4, q5_5, q5_6, one0]
theorem C122_3_3 (X : Nat × (Nat → Int32) × Value) (d : Nat) (M : zM) (G : zG) : zd X (d + 1) 122 [vI 3, vI 3] (hh M G) = some (some (vI 1), hh M G) := by
  simp only [E122, e122_0, e122_1, e122_2, e122_3, e122_4, e122_5, e122_6, e122_9, e122_10, e122_13, e122_16, e122_17, e122_18, e122_21, e122_22, e122_23, e122_26, e122_27, e122_28, e122_29, e122_32, e122_35, e122_36, zt0, zt1, zn3, not_false_eq_true, toListS, toListN, zk_some, zpi, if_true, if_false, i10, C121, zu_0, zu_1, zu_2, zu_3, zu_4, zu_5, zi_m, zi_0, zi_1, zi_2, zi_3, zi_4, zi_5, zt_0, zt_1, zt_2, zt_3, zt_4, zt_5, zw_0, zw_1, zw_2, zw_3, zw_4, zw_5, q_eq_m1_3, q_eq_0_3, q_eq_1_3, q_eq_2_3, q_eq_4_3, q_eq_5_3, q5_0, q5_1, q5_2, q5_3, q5_4, q5_5, q5_6, one0]
theorem C122_3_4 (X : Nat × (Nat → Int32) × Value) (d : Nat) (M : zM) (G : zG) : zd X (d + 1) 122 [vI 3, vI 4] (hh M G) = some (some (vI 0), hh M G) := by
  simp only [E122, e122_0, e122_1, e122_2, e122_3, e122_4, e122_5, e122_6, e122_9, e122_10, e122_13, e122_16, e122_17, e122_18, e122_21, e122_22, e122_23, e122_26, e122_27, e122_28, e122_29, e122_32, e122_35, e122_36, zt0, zt1, zn3, not_false_eq_true, toListS, toListN, zk_some, zpi, if_true, if_false, i10, C121, zu_0, zu_1, zu_2, zu_3, zu_4, zu_5, zi_m, zi_0, zi_1, zi_2, zi_3, zi_4, zi_5, zt_0, zt_1, zt_2, zt_3, zt_4, zt_5, zw_0, zw_1, zw_2, zw_3, zw_4, zw_5, q_eq_m1_4, q_eq_0_4, q_eq_1_4, q_eq_2_4, q_eq_3_4, q_eq_5_4, q5_0, q5_1, q5_2, q5_3, q5_4, q5_5, q5_6, one0]
theorem C122_3_5 (X : Nat × (Nat → Int32) × Value) (d : Nat) (M : zM) (G : zG) : zd X (d + 1) 122 [vI 3, vI 5] (hh M G) = some (some (vI 0), hh M G) := by
  simp only [E122, e122_0, e122_1, e122_2, e122_3, e122_4, e122_5, e122_6, e122_9, e122_10, e122_13, e122_16, e122_17, e122_18, e122_21, e122_22, e122_23, e122_26, e122_27, e122_28, e122_29, e122_32, e122_35, e122_36, zt0, zt1, zn3, not_false_eq_true, toListS, toListN, zk_some, zpi, if_true, if_false, i10, C121, zu_0, zu_1, zu_2, zu_3, zu_4, zu_5, zi_m, zi_0, zi_1, zi_2, zi_3, zi_4, zi_5, zt_0, zt_1, zt_2, zt_3, zt_4, zt_5, zw_0, zw_1, zw_2, zw_3, zw_4, zw_5, q_eq_m1_5, q_eq_0_5, q_eq_1_5, q_eq_2_5, q_eq_3_5, q_eq_4_5, q5_0, q5_1, q5_2, q5_3, q5_4, q5_5, q5_6, one0]
theorem C122_4_0 (X : Nat × (Nat → Int32) × Value) (d : Nat) (M : zM) (G : zG) : zd X (d + 1) 122 [vI 4, vI 0] (hh M G) = some (some (vI 1), hh M G) := by
  simp only [E122, e122_0, e122_1, e122_2, e122_3, e122_4, e122_5, e122_6, e122_9, e122_10, e122_13, e122_16, e122_17, e122_18, e122_21, e122_22, e122_23, e122_26, e122_27, e122_28, e122_29, e122_32, e122_35, e122_36, zt0, zt1, zn3, not_false_eq_true, toListS, toListN, zk_some, zpi, if_true, if_false, i10, C121, zu_0, zu_1, zu_2, zu_3, zu_4, zu_5, zi_m, zi_0, zi_1, zi_2, zi_3, zi_4, zi_5, zt_0, zt_1, zt_2, zt_3, zt_4, zt_5, zw_0, zw_1, zw_2, zw_3, zw_4, zw_5, q_eq_m1_0, q_eq_1_0, q_eq_2_0, q_eq_3_0, q_eq_4_0, q_eq_5_0, q5_0, q5_1, q5_2, q5_3, q5_4, q5_5, q5_6, one0]
theorem C122_4_1 (X : Nat × (Nat → Int32) × Value) (d : Nat) (M : zM) (G : zG) : zd X (d + 1) 122 [vI 4, vI 1] (hh M G) = some (some (vI 0), hh M G) := by
  simp only [E122, e122_0, e122_1, e122_2, e122_3, e122_4, e122_5, e122_6, e122_9, e122_10, e122_13, e122_16, e122_17, e122_18, e122_21, e122_22, e122_23, e122_26, e122_27, e122_28, e122_29, e122_32, e122_35, e122_36, zt0, zt1, zn3, not_false_eq_true, toListS, toListN, zk_some, zpi, if_true, if_false, i10, C121, zu_0, zu_1, zu_2, zu_3, zu_4, zu_5, zi_m, zi_0, zi_1, zi_2, zi_3, zi_4, zi_5, zt_0, zt_1, zt_2, zt_3, zt_4, zt_5, zw_0, zw_1, zw_2, zw_3, zw_4, zw_5, q_eq_m1_1, q_eq_0_1, q_eq_2_1, q_eq_3_1, q_eq_4_1, q_eq_5_1, q5_0, q5_1, q5_2, q5_3, q5_4, q5_5, q5_6, one0]
theorem C122_4_2 (X : Nat × (Nat → Int32) × Value) (d : Nat) (M : zM) (G : zG) : zd X (d + 1) 122 [vI 4, vI 2] (hh M G) = some (some (vI 1), hh M G) := by
  simp only [E122, e122_0, e122_1, e122_2, e122_3, e122_4, e122_5, e122_6, e122_9, e122_10, e122_13, e122_16, e122_17, e122_18, e122_21, e122_22, e122_23, e122_26, e122_27, e122_28, e122_29, e122_32, e122_35, e122_36, zt0, zt1, zn3, not_false_eq_true, toListS, toListN, zk_some, zpi, if_true, if_false, i10, C121, zu_0, zu_1, zu_2, zu_3, zu_4, zu_5, zi_m, zi_0, zi_1, zi_2, zi_3, zi_4, zi_5, zt_0, zt_1, zt_2, zt_3, zt_4, zt_5, zw_0, zw_1, zw_2, zw_3, zw_4, zw_5, q_eq_m1_2, q_eq_0_2, q_eq_1_2, q_eq_3_2, q_eq_4_2, q_eq_5_2, q5_0, q5_1, q5_2, q5_3, q5_4, q5_5, q5_6, one0]
theorem C122_4_3 (X : Nat × (Nat → Int32) × Value) (d : Nat) (M : zM) (G : zG) : zd X (d + 1) 122 [vI 4, vI 3] (hh M G) = some (some (vI 0), hh M G) := by
  simp only [E122, e122_0, e122_1, e122_2, e122_3, e122_4, e122_5, e122_6, e122_9, e122_10, e122_13, e122_16, e122_17, e122_18, e122_21, e122_22, e122_23, e122_26, e122_27, e122_28, e122_29, e122_32, e122_35, e122_36, zt0, zt1, zn3, not_false_eq_true, toListS, toListN, zk_some, zpi, if_true, if_false, i10, C121, zu_0, zu_1, zu_2, zu_3, zu_4, zu_5, zi_m, zi_0, zi_1, zi_2, zi_3, zi_4, zi_5, zt_0, zt_1, zt_2, zt_3, zt_4, zt_5, zw_0, zw_1, zw_2, zw_3, zw_4, zw_5, q_eq_m1_3, q_eq_0_3, q_eq_1_3, q_eq_2_3, q_eq_4_3, q_eq_5_3, q5_0, q5_1, q5_2, q5_3, q5_4, q5_5, q5_6, one0]
theorem C122_4_4 (X : Nat × (Nat → Int32) × Value) (d : Nat) (M : zM) (G : zG) : zd X (d + 1) 122 [vI 4, vI 4] (hh M G) = some (some (vI 1), hh M G) := by
  simp only [E122, e122_0, e122_1, e122_2, e122_3, e122_4, e122_5, e122_6, e122_9, e122_10, e122_13, e122_16, e122_17, e122_18, e122_21, e122_22, e122_23, e122_26, e122_27, e122_28, e122_29, e122_32, e122_35, e122_36, zt0, zt1, zn3, not_false_eq_true, toListS, toListN, zk_some, zpi, if_true, if_false, i10, C121, zu_0, zu_1, zu_2, zu_3, zu_4, zu_5, zi_m, zi_0, zi_1, zi_2, zi_3, zi_4, zi_5, zt_0, zt_1, zt_2, zt_3, zt_4, zt_5, zw_0, zw_1, zw_2, zw_3, zw_4, zw_5, q_eq_m1_4, q_eq_0_4, q_eq_1_4, q_eq_2_4, q_eq_3_4, q_eq_5_4, q5_0, q5_1, q5_2, q5_3, q5_4, q5_5, q5_6, one0]
theorem C122_4_5 (X : Nat × (Nat → Int32) × Value) (d : Nat) (M : zM) (G : zG) : zd X (d + 1) 122 [vI 4, vI 5] (hh M G) = some (some (vI 0), hh M G) := by
  simp only [E122, e122_0, e122_1, e122_2, e122_3, e122_4, e122_5, e122_6, e122_9, e122_10, e122_13, e122_16, e122_17, e122_18, e122_21, e122_22, e122_23, e122_26, e122_27, e122_28, e122_29, e122_32, e122_35, e122_36, zt0, zt1, zn3, not_false_eq_true, toListS, toListN, zk_some, zpi, if_true, if_false, i10, C121, zu_0, zu_1, zu_2, zu_3, zu_4, zu_5, zi_m, zi_0, zi_1, zi_2, zi_3, zi_4, zi_5, zt_0, zt_1, zt_2, zt_3, zt_4, zt_5, zw_0, zw_1, zw_2, zw_3, zw_4, zw_5, q_eq_m1_5, q_eq_0_5, q_eq_1_5, q_eq_2_5, q_eq_3_5, q_eq_4_5, q5_0, q5_1, q5_2, q5_3, q5_4, q5_5, q5_6, one0]
theorem C122_5_0 (X : Nat × (Nat → Int32) × Value) (d : Nat) (M : zM) (G : zG) : zd X (d + 1) 122 [vI 5, vI 0] (hh M G) = some (some (vI 1), hh M G) := by
  simp only [E122, e122_0, e122_1, e122_2, e122_3, e122_4, e122_5, e122_6, e122_9, e122_10, e122_13, e122_16, e122_17, e122_18, e122_21, e122_22, e122_23, e122_26, e122_27, e122_28, e122_29, e122_32, e122_35, e122_36, zt0, zt1, zn3, not_false_eq_true, toListS, toListN, zk_some, zpi, if_true, if_false, i10, C121, zu_0, zu_1, zu_2, zu_3, zu_4, zu_5, zi_m, zi_0, zi_1, zi_2, zi_3, zi_4, zi_5, zt_0, zt_1, zt_2, zt_3, zt_4, zt_5, zw_0, zw_1, zw_2, zw_3, zw_4, zw_5, q_eq_m1_0, q_eq_1_0, q_eq_2_0, q_eq_3_0, q_eq_4_0, q_eq_5_0, q5_0, q5_1, q5_2, q5_3, q5_4, q5_5, q5_6, one0]
theorem C122_5_1 (X : Nat × (Nat → Int32) × Value) (d : Nat) (M : zM) (G : zG) : zd X (d + 1) 122 [vI 5, vI 1] (hh M G) = some (some (vI 0), hh M G) := by
  simp only [E122, e122_0, e122_1, e122_2, e122_3, e122_4, e122_5, e122_6, e122_9, e122_10, e122_13, e122_16, e122_17, e122_18, e122_21, e122_22, e122_23, e122_26, e122_27, e122_28, e122_29, e122_32, e122_35, e122_36, zt0, zt1, zn3, not_false_eq_true, toListS, toListN, zk_some, zpi, if_true, if_false, i10, C121, zu_0, zu_1, zu_2, zu_3, zu_4, zu_5, zi_m, zi_0, zi_1, zi_2, zi_3, zi_4, zi_5, zt_0, zt_1, zt_2, zt_3, zt_4, zt_5, zw_0, zw_1, zw_2, zw_3, zw_4, zw_5, q_eq_m1_1, q_eq_0_1, q_eq_2_1, q_eq_3_1, q_eq_4_1, q_eq_5_1, q5_0, q5_1, q5_2, q5_3, q5_4, q5_5, q5_6, one0]
theorem C122_5_2 (X : Nat × (Nat → Int32) × Value) (d : Nat) (M : zM) (G : zG) : zd X (d + 1) 122 [vI 5, vI 2] (hh M G) = some (some (vI 1), hh M G) := by
  simp only [E122, e122_0, e122_1, e122_2, e122_3, e122_4, e122_5, e122_6, e122_9, e122_10, e122_13, e122_16, e122_17, e122_18, e122_21, e122_22, e122_23, e122_26, e122_27, e122_28, e122_29, e122_32, e122_35, e122_36, zt0, zt1, zn3, not_false_eq_true, toListS, toListN, zk_some, zpi, if_true, if_false, i10, C121, zu_0, zu_1, zu_2, zu_3, zu_4, zu_5, zi_m, zi_0, zi_1, zi_2, zi_3, zi_4, zi_5, zt_0, zt_1, zt_2, zt_3, zt_4, zt_5, zw_0, zw_1, zw_2, zw_3, zw_4, zw_5, q_eq_m1_2, q_eq_0_2, q_eq_1_2, q_eq_3_2, q_eq_4_2, q_eq_5_2, q5_0, q5_1, q5_2, q5_3, q5_4, q5_5, q5_6, one0]
theorem C122_5_3 (X : Nat × (Nat → Int32) × Value) (d : Nat) (M : zM) (G : zG) : zd X (d + 1) 122 [vI 5, vI 3] (hh M G) = some (some (vI 0), hh M G) := by
  simp only [E122, e122_0, e122_1, e122_2, e122_3, e122_4, e122_5, e122_6, e122_9, e122_10, e122_13, e122_16, e122_17, e122_18, e122_21, e122_22, e122_23, e122_26, e122_27, e122_28, e122_29, e122_32, e122_35, e122_36, zt0, zt1, zn3, not_false_eq_true, toListS, toListN, zk_some, zpi, if_true, if_false, i10, C121, zu_0, zu_1, zu_2, zu_3, zu_4, zu_5, zi_m, zi_0, zi_1, zi_2, zi_3, zi_4, zi_5, zt_0, zt_1, zt_2, zt_3, zt_4, zt_5, zw_0, zw_1, zw_2, zw_3, zw_4, zw_5, q_eq_m1_3, q_eq_0_3, q_eq_1_3, q_eq_2_3, q_eq_4_3, q_eq_5_3, q5_0, q5_1, q5_2, q5_3, q5_4, q5_5, q5_6, one0]
theorem C122_5_4 (X : Nat × (Nat → Int32) × Value) (d : Nat) (M : zM) (G : zG) : zd X (d + 1) 122 [vI 5, vI 4] (hh M G) = some (some (vI 0), hh M G) := by
  simp only [E122, e122_0, e122_1, e122_2, e122_3, e122_4, e122_5, e122_6, e122_9, e122_10, e122_13, e122_16, e122_17, e122_18, e122_21, e122_22, e122_23, e122_26, e122_27, e122_28, e122_29, e122_32, e122_35, e122_36, zt0, zt1, zn3, not_false_eq_true, toListS, toListN, zk_some, zpi, if_true, if_false, i10, C121, zu_0, zu_1, zu_2, zu_3, zu_4, zu_5, zi_m, zi_0, zi_1, zi_2, zi_3, zi_4, zi_5, zt_0, zt_1, zt_2, zt_3, zt_4, zt_5, zw_0, zw_1, zw_2, zw_3, zw_4, zw_5, q_eq_m1_4, q_eq_0_4, q_eq_1_4, q_eq_2_4, q_eq_3_4, q_eq_5_4, q5_0, q5_1, q5_2, q5_3, q5_4, q5_5, q5_6, one0]
theorem C122_5_5 (X : Nat × (Nat → Int32) × Value) (d : Nat) (M : zM) (G : zG) : zd X (d + 1) 122 [vI 5, vI 5] (hh M G) = some (some (vI 1), hh M G) := by
  simp only [E122, e122_0, e122_1, e122_2, e122_3, e122_4, e122_5, e122_6, e122_9, e122_10, e122_13, e122_16, e122_17, e122_18, e122_21, e122_22, e122_23, e122_26, e122_27, e122_28, e122_29, e122_32, e122_35, e122_36, zt0, zt1, zn3, not_false_eq_true, toListS, toListN, zk_some, zpi, if_true, if_false, i10, C121, zu_0, zu_1, zu_2, zu_3, zu_4, zu_5, zi_m, zi_0, zi_1, zi_2, zi_3, zi_4, zi_5, zt_0, zt_1, zt_2, zt_3, zt_4, zt_5, zw_0, zw_1, zw_2, zw_3, zw_4, zw_5, q_eq_m1_5, q_eq_0_5, q_eq_1_5, q_eq_2_5, q_eq_3_5, q_eq_4_5, q5_0, q5_1, q5_2, q5_3, q5_4, q5_5, q5_6, one0]
theorem C218_0_0 (X : Nat × (Nat → Int32) × Value) (d : Nat) (h : zH) : zd X d 218 [vI 0, vI 0] h = some (some (vI 1), h) := by
  simp only [E218, e218_0, e218_1, e218_4, e218_5, e218_6, e218_9, e218_10, e218_11, e218_14, e218_15, e218_16, e218_19, e218_20, e218_21, e218_24, e218_25, e218_26, e218_29, e218_30, e218_33, e218_34, zt0, zt1, zn3, not_false_eq_true, toListS, toListN, zk_some, zpi, if_true, if_false, i10, q_lt_0_0, q_le_0_0, q_lt_0_3, q_le_0_3, q_eq_0_3, q_lt_0_4, q_le_0_4, q_eq_0_4, q_lt_0_0, q_le_0_0, q_lt_0_1, q_le_0_1, q_eq_0_1, q_lt_0_2, q_le_0_2, q_eq_0_2]
theorem C218_0_1 (X : Nat × (Nat → Int32) × Value) (d : Nat) (h : zH) : zd X d 218 [vI 0, vI 1] h = some (some (vI 0), h) := by
  simp only [E218, e218_0, e218_1, e218_4, e218_5, e218_6, e218_9, e218_10, e218_11, e218_14, e218_15, e218_16, e218_19, e218_20, e218_21, e218_24, e218_25, e218_26, e218_29, e218_30, e218_33, e218_34, zt0, zt1, zn3, not_false_eq_true, toListS, toListN, zk_some, zpi, if_true, if_false, i10, q_lt_0_1, q_le_0_1, q_eq_0_1, q_lt_0_3, q_le_0_3, q_eq_0_3, q_lt_0_4, q_le_0_4, q_eq_0_4, q_lt_1_0, q_le_1_0, q_eq_1_0, q_lt_1_1, q_le_1_1, q_lt_1_2, q_le_1_2, q_eq_1_2]
theorem C218_0_2 (X : Nat × (Nat → Int32) × Value) (d : Nat) (h : zH) : zd X d 218 [vI 0, vI 2] h = some (some (vI 0), h) := by
  simp only [E218, e218_0, e218_1, e218_4, e218_5, e218_6, e218_9, e218_10, e218_11, e218_14, e218_15, e218_16, e218_19, e218_20, e218_21, e218_24, e218_25, e218_26, e218_29, e218_30, e218_33, e218_34, zt0, zt1, zn3, not_false_eq_true, toListS, toListN, zk_some, zpi, if_true, if_false, i10, q_lt_0_2, q_le_0_2, q_eq_0_2, q_lt_0_3, q_le_0_3, q_eq_0_3, q_lt_0_4, q_le_0_4, q_eq_0_4, q_lt_2_0, q_le_2_0, q_eq_2_0, q_lt_2_1, q_le_2_1, q_eq_2_1, q_lt_2_2, q_le_2_2]
theorem C218_0_3 (X : Nat × (Nat → Int32) × Value) (d : Nat) (h : zH) : zd X d 218 [vI 0, vI 3] h = some (some (vI 0), h) := by
  simp only [E218, e218_0, e218_1, e218_4, e218_5, e218_6, e218_9, e218_10, e218_11, e218_14, e218_15, e218_16, e218_19, e218_20, e218_21, e218_24, e218_25, e218_26, e218_29, e218_30, e218_33, e218_34, zt0, zt1, zn3, not_false_eq_true, toListS, toListN, zk_some, zpi, if_true, if_false, i10, q_lt_0_3, q_le_0_3, q_eq_0_3, q_lt_0_3, q_le_0_3, q_eq_0_3, q_lt_0_4, q_le_0_4, q_eq_0_4, q_lt_3_0, q_le_3_0, q_eq_3_0, q_lt_3_1, q_le_3_1, q_eq_3_1, q_lt_3_2, q_le_3_2, q_eq_3_2]
theorem C218_0_4 (X : Nat × (Nat → Int32) × Value) (d : Nat) (h : zH) : zd X d 218 [vI 0, vI 4] h = some (some (vI 0), h) := by
  simp only [E218, e218_0, e218_1, e218_4, e218_5, e218_6, e218_9, e218_10, e218_11, e218_14, e218_15, e218_16, e218_19, e218_20, e218_21, e218_24, e218_25, e218_26, e218_29, e218_30, e218_33, e218_34, zt0, zt1, zn3, not_false_eq_true, toListS, toListN, zk_some, zpi, if_true, if_false, i10, q_lt_0_4, q_le_0_4, q_eq_0_4, q_lt_0_3, q_le_0_3, q_eq_0_3, q_lt_0_4, q_le_0_4, q_eq_0_4, q_lt_4_0, q_le_4_0, q_eq_4_0, q_lt_4_1, q_le_4_1, q_eq_4_1, q_lt_4_2, q_le_4_2, q_eq_4_2]
theorem C218_0_5 (X : Nat × (Nat → Int32) × Value) (d : Nat) (h : zH) : zd X d 218 [vI 0, vI 5] h = some (some (vI 0), h) := by
  simp only [E218, e218_0, e218_1, e218_4, e218_5, e218_6, e218_9, e218_10, e218_11, e218_14, e218_15, e218_16, e218_19, e218_20, e218_21, e218_24, e218_25, e218_26, e218_29, e218_30, e218_33, e218_34, zt0, zt1, zn3, not_false_eq_true, toListS, toListN, zk_some, zpi, if_true, if_false, i10, q_lt_0_5, q_le_0_5, q_eq_0_5, q_lt_0_3, q_le_0_3, q_eq_0_3, q_lt_0_4, q_le_0_4, q_eq_0_4, q_lt_5_0, q_le_5_0, q_eq_5_0, q_lt_5_1, q_le_5_1, q_eq_5_1, q_lt_5_2, q_le_5_2, q_eq_5_2]
theorem C218_1_0 (X : Nat × (Nat → Int32) × Value) (d : Nat) (h : zH) : zd X d 218 [vI 1, vI 0] h = some (some (vI 1), h) := by
  simp only [E218, e218_0, e218_1, e218_4, e218_5, e218_6, e218_9, e218_10, e218_11, e218_14, e218_15, e218_16, e218_19, e218_20, e218_21, e218_24, e218_25, e218_26, e218_29, e218_30, e218_33, e218_34, zt0, zt1, zn3, not_false_eq_true, toListS, toListN, zk_some, zpi, if_true, if_false, i10, q_lt_1_0, q_le_1_0, q_eq_1_0, q_lt_1_3, q_le_1_3, q_eq_1_3, q_lt_1_4, q_le_1_4, q_eq_1_4, q_lt_0_0, q_le_0_0, q_lt_0_1, q_le_0_1, q_eq_0_1, q_lt_0_2, q_le_0_2, q_eq_0_2]
theorem C218_1_1 (X : Nat × (Nat → Int32) × Value) (d : Nat) (h : zH) : zd X d 218 [vI 1, vI 1] h = some (some (vI 1), h) := by
  simp only [E218, e218_0, e218_1, e218_4, e218_5, e218_6, e218_9, e218_10, e218_11, e218_14, e218_15, e218_16, e218_19, e218_20, e218_21, e218_24, e218_25, e218_26, e218_29, e218_30, e218_33, e218_34, zt0, zt1, zn3, not_false_eq_true, toListS, toListN, zk_some, zpi, if_true, if_false, i10, q_lt_1_1, q_le_1_1, q_lt_1_3, q_le_1_3, q_eq_1_3, q_lt_1_4, q_le_1_4, q_eq_1_4, q_lt_1_0, q_le_1_0, q_eq_1_0, q_lt_1_1, q_le_1_1, q_lt_1_2, q_le_1_2, q_eq_1_2]
theorem C218_1_2 (X : Nat × (Nat → Int32) × Value) (d : Nat) (h : zH) : zd X d 218 [vI 1, vI 2] h = some (some (vI 0), h) := by
  simp only [E218, e218_0, e218_1, e218_4, e218_5, e218_6, e218_9, e218_10, e218_11, e218_14, e218_15, e218_16, e218_19, e218_20, e218_21, e218_24, e218_25, e218_26, e218_29, e218_30, e218_33, e218_34, zt0, zt1, zn3, not_false_eq_true, toListS, toListN, zk_some, zpi, if_true, if_false, i10, q_lt_1_2, q_le_1_2, q_eq_1_2, q_lt_1_3, q_le_1_3, q_eq_1_3, q_lt_1_4, q_le_1_4, q_eq_1_4, q_lt_2_0, q_le_2_0, q_eq_2_0, q_lt_2_1, q_le_2_1, q_eq_2_1, q_lt_2_2, q_le_2_2]
theorem C218_1_3 (X : Nat × (Nat → Int32) × Value) (d : Nat) (h : zH) : zd X d 218 [vI 1, vI 3] h = some (some (vI 0), h) := by
  simp only [E218, e218_0, e218_1, e218_4, e218_5, e218_6, e218_9, e218_10, e218_11, e218_14, e218_15, e218_16, e218_19, e218_20, e218_21, e218_24, e218_25, e218_26, e218_29, e218_30, e218_33, e218_34, zt0, zt1, zn3, not_false_eq_true, toListS, toListN, zk_some, zpi, if_true, if_false, i10, q_lt_1_3, q_le_1_3, q_eq_1_3, q_lt_1_3, q_le_1_3, q_eq_1_3, q_lt_1_4, q_le_1_4, q_eq_1_4, q_lt_3_0, q_le_3_0, q_eq_3_0, q_lt_3_1, q_le_3_1, q_eq_3_1, q_lt_3_2, q_le_3_2, q_eq_3_2]
theorem C218_1_4 (X : Nat × (Nat → Int32) × Value) (d : Nat) (h : zH) : zd X d 218 [vI 1, vI 4] h = some (some (vI 0), h) := by
  simp only [E218, e218_0, e218_1, e218_4, e218_5, e218_6, e218_9, e218_10, e218_11, e218_14, e218_15, e218_16, e218_19, e218_20, e218_21, e218_24, e218_25, e218_26, e218_29, e218_30, e218_33, e218_34, zt0, zt1, zn3, not_false_eq_true, toListS, toListN, zk_some, zpi, if_true, if_false, i10, q_lt_1_4, q_le_1_4, q_eq_1_4, q_lt_1_3, q_le_1_3, q_eq_1_3, q_lt_1_4, q_le_1_4, q_eq_1_4, q_lt_4_0, q_le_4_0, q_eq_4_0, q_lt_4_1, q_le_4_1, q_eq_4_1, q_lt_4_2, q_le_4_2, q_eq_4_2]
theorem C218_1_5 (X : Nat × (Nat → Int32) × Value) (d : Nat) (h : zH) : zd X d 218 [vI 1, vI 5] h = some (some (vI 0), h) := by
  simp only [E218, e218_0, e218_1, e218_4, e218_5, e218_6, e218_9, e218_10, e218_11, e218_14, e218_15, e218_16, e218_19, e218_20, e218_21, e218_24, e218_25, e218_26, e218_29, e218_30, e218_33, e218_34, zt0, zt1, zn3, not_false_eq_true, toListS, toListN, zk_some, zpi, if_true, if_false, i10, q_lt_1_5, q_le_1_5, q_eq_1_5, q_lt_1_3, q_le_1_3, q_eq_1_3, q_lt_1_4, q_le_1_4, q_eq_1_4, q_lt_5_0, q_le_5_0, q_eq_5_0, q_lt_5_1, q_le_5_1, q_eq_5_1, q_lt_5_2, q_le_5_2, q_eq_5_2]
theorem C218_2_0 (X : Nat × (Nat → Int32) × Value) (d : Nat) (h : zH) : zd X d 218 [vI 2, vI 0] h = some (some (vI 1), h) := by
  simp only [E218, e218_0, e218_1, e218_4, e218_5, e218_6, e218_9, e218_10, e218_11, e218_14, e218_15, e218_16, e218_19, e218_20, e218_21, e218_24, e218_25, e218_26, e218_29, e218_30, e218_33, e218_34, zt0, zt1, zn3, not_false_eq_true, toListS, toListN, zk_some, zpi, if_true, if_false, i10, q_lt_2_0, q_le_2_0, q_eq_2_0, q_lt_2_3, q_le_2_3, q_eq_2_3, q_lt_2_4, q_le_2_4, q_eq_2_4, q_lt_0_0, q_le_0_0, q_lt_0_1, q_le_0_1, q_eq_0_1, q_lt_0_2, q_le_0_2, q_eq_0_2]
theorem C218_2_1 (X : Nat × (Nat → Int32) × Value) (d : Nat) (h : zH) : zd X d 218 [vI 2, vI 1] h = some (some (vI 0), h) := by
  simp only [E218, e218_0, e218_1, e218_4, e218_5, e218_6, e218_9, e218_10, e218_11, e218_14, e218_15, e218_16, e218_19, e218_20, e218_21, e218_24, e218_25, e218_26, e218_29, e218_30, e218_33, e218_34, zt0, zt1, zn3, not_false_eq_true, toListS, toListN, zk_some, zpi, if_true, if_false, i10, q_lt_2_1, q_le_2_1, q_eq_2_1, q_lt_2_3, q_le_2_3, q_eq_2_3, q_lt_2_4, q_le_2_4, q_eq_2_4, q_lt_1_0, q_le_1_0, q_eq_1_0, q_lt_1_1, q_le_1_1, q_lt_1_2, q_le_1_2, q_eq_1_2]
theorem C218_2_2 (X : Nat × (Nat → Int32) × Value) (d : Nat) (h : zH) : zd X d 218 [vI 2, vI 2] h = some (some (vI 1), h) := by
  simp only [E218, e218_0, e218_1, e218_4, e218_5, e218_6, e218_9, e218_10, e218_11, e218_14, e218_15, e218_16, e218_19, e218_20, e218_21, e218_24, e218_25, e218_26, e218_29, e218_30, e218_33, e218_34, zt0, zt1, zn3, not_false_eq_true, toListS, toListN, zk_some, zpi, if_true, if_false, i10, q_lt_2_2, q_le_2_2, q_lt_2_3, q_le_2_3, q_eq_2_3, q_lt_2_4, q_le_2_4, q_eq_2_4, q_lt_2_0, q_le_2_0, q_eq_2_0, q_lt_2_1, q_le_2_1, q_eq_2_1, q_lt_2_2, q_le_2_2]
theorem C218_2_3 (X : Nat × (Nat → Int32) × Value) (d : Nat) (h : zH) : zd X d 218 [vI 2, vI 3] h = some (some (vI 0), h) := by
  simp only [E218, e218_0, e218_1, e218_4, e218_5, e218_6, e218_9, e218_10, e218_11, e218_14, e218_15, e218_16, e218_19, e218_20, e218_21, e218_24, e218_25, e218_26, e218_29, e218_30, e218_33, e218_34, zt0, zt1, zn3, not_false_eq_true, toListS, toListN, zk_some, zpi, if_true, if_false, i10, q_lt_2_3, q_le_2_3, q_eq_2_3, q_lt_2_3, q_le_2_3, q_eq_2_3, q_lt_2_4, q_le_2_4, q_eq_2_4, q_lt_3_0, q_le_3_0, q_eq_3_0, q_lt_3_1, q_le_3_1, q_eq_3_1, q_lt_3_2, q_le_3_2, q_eq_3_2]
theorem C218_2_4 (X : Nat × (Nat → Int32) × Value) (d : Nat) (h : zH) : zd X d 218 [vI 2, vI 4] h = some (some (vI 0), h) := by
  simp only [E218, e218_0, e218_1, e218_4, e218_5, e218_6, e218_9, e218_10, e218_11, e218_14, e218_15, e218_16, e218_19, e218_20, e218_21, e218_24, e218_25, e218_26, e218_29, e218_30, e218_33, e218_34, zt0, zt1, zn3, not_false_eq_true, toListS, toListN, zk_some, zpi, if_true, if_false, i10, q_lt_2_4, q_le_2_4, q_eq_2_4, q_lt_2_3, q_le_2_3, q_eq_2_3, q_lt_2_4, q_le_2_4, q_eq_2_4, q_lt_4_0, q_le_4_0, q_eq_4_0, q_lt_4_1, q_le_4_1, q_eq_4_1, q_lt_4_2, q_le_4_2, q_eq_4_2]
theorem C218_2_5 (X : Nat × (Nat → Int32) × Value) (d : Nat) (h : zH) : zd X d 218 [vI 2, vI 5] h = some (some (vI 0), h) := by
  simp only [E218, e218_0, e218_1, e218_4, e218_5, e218_6, e218_9, e218_10, e218_11, e218_14, e218_15, e218_16, e218_19, e218_20, e218_21, e218_24, e218_25, e218_26, e218_29, e218_30, e218_33, e218_34, zt0, zt1, zn3, not_false_eq_true, toListS, toListN, zk_some, zpi, if_true, if_false, i10, q_lt_2_5, q_le_2_5, q_eq_2_5, q_lt_2_3, q_le_2_3, q_eq_2_3, q_lt_2_4, q_le_2_4, q_eq_2_4, q_lt_5_0, q_le_5_0, q_eq_5_0, q_lt_5_1, q_le_5_1, q_eq_5_1, q_lt_5_2, q_le_5_2, q_eq_5_2]
theorem C218_3_0 (X : Nat × (Nat → Int32) × Value) (d : Nat) (h : zH) : zd X d 218 [vI 3, vI 0] h = some (some (vI 1), h) := by
  simp only [E218, e218_0, e218_1, e218_4, e218_5, e218_6, e218_9, e218_10, e218_11, e218_14, e218_15, e218_16, e218_19, e218_20, e218_21, e218_24, e218_25, e218_26, e218_29, e218_30, e218_33, e218_34, zt0, zt1, zn3, not_false_eq_true, toListS, toListN, zk_some, zpi, if_true, if_false, i10, q_lt_3_0, q_le_3_0, q_eq_3_0, q_lt_3_3, q_le_3_3, q_lt_3_4, q_le_3_4, q_eq_3_4, q_lt_0_0, q_le_0_0, q_lt_0_1, q_le_0_1, q_eq_0_1, q_lt_0_2, q_le_0_2, q_eq_0_2]
theorem C218_3_1 (X : Nat × (Nat → Int32) × Value) (d : Nat) (h : zH) : zd X d 218 [vI 3, vI 1] h = some (some (vI 1), h) := by
  simp only [E218, e218_0, e218_1, e218_4, e218_5, e218_6, e218_9, e218_10, e218_11, e218_14, e218_15, e218_16, e218_19, e218_20, e218_21, e218_24, e218_25, e218_26, e218_29, e218_30, e218_33, e218_34, zt0, zt1, zn3, not_false_eq_true, toListS, toListN, zk_some, zpi, if_true, if_false, i10, q_lt_3_1, q_le_3_1, q_eq_3_1, q_lt_3_3, q_le_3_3, q_lt_3_4, q_le_3_4, q_eq_3_4, q_lt_1_0, q_le_1_0, q_eq_1_0, q_lt_1_1, q_le_1_1, q_lt_1_2, q_le_1_2, q_eq_1_2]
theorem C218_3_2 (X : Nat × (Nat → Int32) × Value) (d : Nat) (h : zH) : zd X d 218 [vI 3, vI 2] h = some (some (vI 0), h) := by
  simp only [E218, e218_0, e218_1, e218_4, e218_5, e218_6, e218_9, e218_10, e218_11, e218_14, e218_15, e218_16, e218_19, e218_20, e218_21, e218_24, e218_25, e218_26, e218_29, e218_30, e218_33, e218_34, zt0, zt1, zn3, not_false_eq_true, toListS, toListN, zk_some, zpi, if_true, if_false, i10, q_lt_3_2, q_le_3_2, q_eq_3_2, q_lt_3_3, q_le_3_3, q_lt_3_4, q_le_3_4, q_eq_3_4, q_lt_2_0, q_le_2_0, q_eq_2_0, q_lt_2_1, q_le_2_1, q_eq_2_1, q_lt_2_2, q_le_2_2]
theorem C218_3_3 (X : Nat × (Nat → Int32) × Value) (d : Nat) (h : zH) : zd X d 218 [vI 3, vI 3] h = some (some (vI 1), h) := by
  simp only [E218, e218_0, e218_1, e218_4, e218_5, e218_6, e218_9, e218_10, e218_11, e218_14, e218_15, e218_16, e218_19, e218_20, e218_21, e218_24, e218_25, e218_26, e218_29, e218_30, e218_33, e218_34, zt0, zt1, zn3, not_false_eq_true, toListS, toListN, zk_some, zpi, if_true, if_false, i10, q_lt_3_3, q_le_3_3, q_lt_3_3, q_le_3_3, q_lt_3_4, q_le_3_4, q_eq_3_4, q_lt_3_0, q_le_3_0, q_eq_3_0, q_lt_3_1, q_le_3_1, q_eq_3_1, q_lt_3_2, q_le_3_2, q_eq_3_2]
theorem C218_3_4 (X : Nat × (Nat → Int32) × Value) (d : Nat) (h : zH) : zd X d 218 [vI 3, vI 4] h = some (some (vI 0), h) := by
  simp only [E218, e218_0, e218_1, e218_4, e218_5, e218_6, e218_9, e218_10, e218_11, e218_14, e218_15, e218_16, e218_19, e218_20, e218_21, e218_24, e218_25, e218_26, e218_29, e218_30, e218_33, e218_34, zt0, zt1, zn3, not_false_eq_true, toListS, toListN, zk_some, zpi, if_true, if_false, i10, q_lt_3_4, q_le_3_4, q_eq_3_4, q_lt_3_3, q_le_3_3, q_lt_3_4, q_le_3_4, q_eq_3_4, q_lt_4_0, q_le_4_0, q_eq_4_0, q_lt_4_1, q_le_4_1, q_eq_4_1, q_lt_4_2, q_le_4_2, q_eq_4_2]
theorem C218_3_5 (X : Nat × (Nat → Int32) × Value) (d : Nat) (h : zH) : zd X d 218 [vI 3, vI 5] h = some (some (vI 0), h) := by
  simp only [E218, e218_0, e218_1, e218_4, e218_5, e218_6, e218_9, e218_10, e218_11, e218_14, e218_15, e218_16, e218_19, e218_20, e218_21, e218_24, e218_25, e218_26, e218_29, e218_30, e218_33, e218_34, zt0, zt1, zn3, not_false_eq_true, toListS, toListN, zk_some, zpi, if_true, if_false, i10, q_lt_3_5, q_le_3_5, q_eq_3_5, q_lt_3_3, q_le_3_3, q_lt_3_4, q_le_3_4, q_eq_3_4, q_lt_5_0, q_le_5_0, q_eq_5_0, q_lt_5_1, q_le_5_1, q_eq_5_1, q_lt_5_2, q_le_5_2, q_eq_5_2]
theorem C218_4_0 (X : Nat × (Nat → Int32) × Value) (d : Nat) (h : zH) : zd X d 218 [vI 4, vI 0] h = some (some (vI 1), h) := by
  simp only [E218, e218_0, e218_1, e218_4, e218_5, e218_6, e218_9, e218_10, e218_11, e218_14, e218_15, e218_16, e218_19, e218_20, e218_21, e218_24, e218_25, e218_26, e218_29, e218_30, e218_33, e218_34, zt0, zt1, zn3, not_false_eq_true, toListS, toListN, zk_some, zpi, if_true, if_false, i10, q_lt_4_0, q_le_4_0, q_eq_4_0, q_lt_4_3, q_le_4_3, q_eq_4_3, q_lt_4_4, q_le_4_4, q_lt_0_0, q_le_0_0, q_lt_0_1, q_le_0_1, q_eq_0_1, q_lt_0_2, q_le_0_2, q_eq_0_2]
theorem C218_4_1 (X : Nat × (Nat → Int32) × Value) (d : Nat) (h : zH) : zd X d 218 [vI 4, vI 1] h = some (some (vI 0), h) := by
  simp only [E218, e218_0, e218_1, e218_4, e218_5, e218_6, e218_9, e218_10, e218_11, e218_14, e218_15, e218_16, e218_19, e218_20, e218_21, e218_24, e218_25, e218_26, e218_29, e218_30, e218_33, e218_34, zt0, zt1, zn3, not_false_eq_true, toListS, toListN, zk_some, zpi, if_true, if_false, i10, q_lt_4_1, q_le_4_1, q_eq_4_1, q_lt_4_3, q_le_4_3, q_eq_4_3, q_lt_4_4, q_le_4_4, q_lt_1_0, q_le_1_0, q_eq_1_0, q_lt_1_1, q_le_1_1, q_lt_1_2, q_le_1_2, q_eq_1_2]
theorem C218_4_2 (X : Nat × (Nat → Int32) × Value) (d : Nat) (h : zH) : zd X d 218 [vI 4, vI 2] h = some (some (vI 1), h) := by
  simp only [E218, e218_0, e218_1, e218_4, e218_5, e218_6, e218_9, e218_10, e218_11, e218_14, e218_15, e218_16, e218_19, e218_20, e218_21, e218_24, e218_25, e218_26, e218_29, e218_30, e218_33, e218_34, zt0, zt1, zn3, not_false_eq_true, toListS, toListN, zk_some, zpi, if_true, if_false, i10, q_lt_4_2, q_le_4_2, q_eq_4_2, q_lt_4_3, q_le_4_3, q_eq_4_3, q_lt_4_4, q_le_4_4, q_lt_2_0, q_le_2_0, q_eq_2_0, q_lt_2_1, q_le_2_1, q_eq_2_1, q_lt_2_2, q_le_2_2]
theorem C218_4_3 (X : Nat × (Nat → Int32) × Value) (d : Nat) (h : zH) : zd X d 218 [vI 4, vI 3] h = some (some (vI 0), h) := by
  simp only [E218, e218_0, e218_1, e218_4, e218_5, e218_6, e218_9, e218_10, e218_11, e218_14, e218_15, e218_16, e218_19, e218_20, e218_21, e218_24, e218_25, e218_26, e218_29, e218_30, e218_33, e218_34, zt0, zt1, zn3, not_false_eq_true, toListS, toListN, zk_some, zpi, if_true, if_false, i10, q_lt_4_3, q_le_4_3, q_eq_4_3, q_lt_4_3, q_le_4_3, q_eq_4_3, q_lt_4_4, q_le_4_4, q_lt_3_0, q_le_3_0, q_eq_3_0, q_lt_3_1, q_le_3_1, q_eq_3_1, q_lt_3_2, q_le_3_2, q_eq_3_2]
theorem C218_4_4 (X : Nat × (Nat → Int32) × Value) (d : Nat) (h : zH) : zd X d 218 [vI 4, vI 4] h = some (some (vI 1), h) := by
  simp only [E218, e218_0, e218_1, e218_4, e218_5, e218_6, e218_9, e218_10, e218_11, e218_14, e218_15, e218_16, e218_19, e218_20, e218_21, e218_24, e218_25, e218_26, e218_29, e218_30, e218_33, e218_34, zt0, zt1, zn3, not_false_eq_true, toListS, toListN, zk_some, zpi, if_true, if_false, i10, q_lt_4_4, q_le_4_4, q_lt_4_3, q_le_4_3, q_eq_4_3, q_lt_4_4, q_le_4_4, q_lt_4_0, q_le_4_0, q_eq_4_0, q_lt_4_1, q_le_4_1, q_eq_4_1, q_lt_4_2, q_le_4_2, q_eq_4_2]
theorem C218_4_5 (X : Nat × (Nat → Int32) × Value) (d : Nat) (h : zH) : zd X d 218 [vI 4, vI 5] h = some (some (vI 0), h) := by
  simp only [E218, e218_0, e218_1, e218_4, e218_5, e218_6, e218_9, e218_10, e218_11, e218_14, e218_15, e218_16, e218_19, e218_20, e218_21, e218_24, e218_25, e218_26, e218_29, e218_30, e218_33, e218_34, zt0, zt1, zn3, not_false_eq_true, toListS, toListN, zk_some, zpi, if_true, if_false, i10, q_lt_4_5, q_le_4_5, q_eq_4_5, q_lt_4_3, q_le_4_3, q_eq_4_3, q_lt_4_4, q_le_4_4, q_lt_5_0, q_le_5_0, q_eq_5_0, q_lt_5_1, q_le_5_1, q_eq_5_1, q_lt_5_2, q_le_5_2, q_eq_5_2]
theorem C218_5_0 (X : Nat × (Nat → Int32) × Value) (d : Nat) (h : zH) : zd X d 218 [vI 5, vI 0] h = some (some (vI 1), h) := by
  simp only [E218, e218_0, e218_1, e218_4, e218_5, e218_6, e218_9, e218_10, e218_11, e218_14, e218_15, e218_16, e218_19, e218_20, e218_21, e218_24, e218_25, e218_26, e218_29, e218_30, e218_33, e218_34, zt0, zt1, zn3, not_false_eq_true, toListS, toListN, zk_some, zpi, if_true, if_false, i10, q_lt_5_0, q_le_5_0, q_eq_5_0, q_lt_5_3, q_le_5_3, q_eq_5_3, q_lt_5_4, q_le_5_4, q_eq_5_4, q_lt_0_0, q_le_0_0, q_lt_0_1, q_le_0_1, q_eq_0_1, q_lt_0_2, q_le_0_2, q_eq_0_2]
theorem C218_5_1 (X : Nat × (Nat → Int32) × Value) (d : Nat) (h : zH) : zd X d 218 [vI 5, vI 1] h = some (some (vI 0), h) := by
  simp only [E218, e218_0, e218_1, e218_4, e218_5, e218_6, e218_9, e218_10, e218_11, e218_14, e218_15, e218_16, e218_19, e218_20, e218_21, e218_24, e218_25, e218_26, e218_29, e218_30, e218_33, e218_34, zt0, zt1, zn3, not_false_eq_true, toListS, toListN, zk_some, zpi, if_true, if_false, i10, q_lt_5_1, q_le_5_1, q_eq_5_1, q_lt_5_3, q_le_5_3, q_eq_5_3, q_lt_5_4, q_le_5_4, q_eq_5_4, q_lt_1_0, q_le_1_0, q_eq_1_0, q_lt_1_1, q_le_1_1, q_lt_1_2, q_le_1_2, q_eq_1_2]
theorem C218_5_2 (X : Nat × (Nat → Int32) × Value) (d : Nat) (h : zH) : zd X d 218 [vI 5, vI 2] h = some (some (vI 1), h) := by
  simp only [E218, e218_0, e218_1, e218_4, e218_5, e218_6, e218_9, e218_10, e218_11, e218_14, e218_15, e218_16, e218_19, e218_20, e218_21, e218_24, e218_25, e218_26, e218_29, e218_30, e218_33, e218_34, zt0, zt1, zn3, not_false_eq_true, toListS, toListN, zk_some, zpi, if_true, if_false, i10, q_lt_5_2, q_le_5_2, q_eq_5_2, q_lt_5_3, q_le_5_3, q_eq_5_3, q_lt_5_4, q_le_5_4, q_eq_5_4, q_lt_2_0, q_le_2_0, q_eq_2_0, q_lt_2_1, q_le_2_1, q_eq_2_1, q_lt_2_2, q_le_2_2]
theorem C218_5_3 (X : Nat × (Nat → Int32) × Value) (d : Nat) (h : zH) : zd X d 218 [vI 5, vI 3] h = some (some (vI 0), h) := by
  simp only [E218, e218_0, e218_1, e218_4, e218_5, e218_6, e218_9, e218_10, e218_11, e218_14, e218_15, e218_16, e218_19, e218_20, e218_21, e218_24, e218_25, e218_26, e218_29, e218_30, e218_33, e218_34, zt0, zt1, zn3, not_false_eq_true, toListS, toListN, zk_some, zpi, if_true, if_false, i10, q_lt_5_3, q_le_5_3, q_eq_5_3, q_lt_5_3, q_le_5_3, q_eq_5_3, q_lt_5_4, q_le_5_4, q_eq_5_4, q_lt_3_0, q_le_3_0, q_eq_3_0, q_lt_3_1, q_le_3_1, q_eq_3_1, q_lt_3_2, q_le_3_2, q_eq_3_2]
theorem C218_5_4 (X : Nat × (Nat → Int32) × Value) (d : Nat) (h : zH) : zd X d 218 [vI 5, vI 4] h = some (some (vI 0), h) := by
  simp only [E218, e218_0, e218_1, e218_4, e218_5, e218_6, e218_9, e218_10, e218_11, e218_14, e218_15, e218_16, e218_19, e218_20, e218_21, e218_24, e218_25, e218_26, e218_29, e218_30, e218_33, e218_34, zt0, zt1, zn3, not_false_eq_true, toListS, toListN, zk_some, zpi, if_true, if_false, i10, q_lt_5_4, q_le_5_4, q_eq_5_4, q_lt_5_3, q_le_5_3, q_eq_5_3, q_lt_5_4, q_le_5_4, q_eq_5_4, q_lt_4_0, q_le_4_0, q_eq_4_0, q_lt_4_1, q_le_4_1, q_eq_4_1, q_lt_4_2, q_le_4_2, q_eq_4_2]
theorem C218_5_5 (X : Nat × (Nat → Int32) × Value) (d : Nat) (h : zH) : zd X d 218 [vI 5, vI 5] h = some (some (vI 1), h) := by
  simp only [E218, e218_0, e218_1, e218_4, e218_5, e218_6, e218_9, e218_10, e218_11, e218_14, e218_15, e218_16, e218_19, e218_20, e218_21, e218_24, e218_25, e218_26, e218_29, e218_30, e218_33, e218_34, zt0, zt1, zn3, not_false_eq_true, toListS, toListN, zk_some, zpi, if_true, if_false, i10, q_lt_5_5, q_le_5_5, q_lt_5_3, q_le_5_3, q_eq_5_3, q_lt_5_4, q_le_5_4, q_eq_5_4, q_lt_5_0, q_le_5_0, q_eq_5_0, q_lt_5_1, q_le_5_1, q_eq_5_1, q_lt_5_2, q_le_5_2, q_eq_5_2]
theorem C122 (X : Nat × (Nat → Int32) × Value) (d : Nat) (M : zM) (G : zG) (k a : Nat) (hk : k ≤ 5) (ha : a ≤ 5) : zd X (d + 1) 122 [vI (nI k), vI (nI a)] (hh M G) = some (some (vI (und k a)), hh M G) := by
  rcases (show k = 0 ∨ k = 1 ∨ k = 2 ∨ k = 3 ∨ k = 4 ∨ k = 5 by omega) with rfl | rfl | rfl | rfl | rfl | rfl <;> rcases (show a = 0 ∨ a = 1 ∨ a = 2 ∨ a = 3 ∨ a = 4 ∨ a = 5 by omega) with rfl | rfl | rfl | rfl | rfl | rfl
  · exact C122_0_0 X d M G
  · exact C122_0_1 X d M G
  · exact C122_0_2 X d M G
  · exact C122_0_3 X d M G
  · exact C122_0_4 X d M G
  · exact C122_0_5 X d M G
  · exact C122_1_0 X d M G
  · exact C122_1_1 X d M G
  · exact C122_1_2 X d M G
  · exact C122_1_3 X d M G
  · exact C122_1_4 X d M G
  · exact C122_1_5 X d M G
  · exact C122_2_0 X d M G
  · exact C122_2_1 X d M G
  · exact C122_2_2 X d M G
  · exact C122_2_3 X d M G
  · exact C122_2_4 X d M G
  · exact C122_2_5 X d M G
  · exact C122_3_0 X d M G
  · exact C122_3_1 X d M G
  · exact C122_3_2 X d M G
  · exact C122_3_3 X d M G
  · exact C122_3_4 X d M G
  · exact C122_3_5 X d M G
  · exact C122_4_0 X d M G
  · exact C122_4_1 X d M G
  · exact C122_4_2 X d M G
  · exact C122_4_3 X d M G
  · exact C122_4_4 X d M G
  · exact C122_4_5 X d M G
  · exact C122_5_0 X d M G
  · exact C122_5_1 X d M G
  · exact C122_5_2 X d M G
  · exact C122_5_3 X d M G
  · exact C122_5_4 X d M G
  · exact C122_5_5 X d M G
theorem C218 (X : Nat × (Nat → Int32) × Value) (d : Nat) (h : zH) (k a : Nat) (hk : k ≤ 5) (ha : a ≤ 5) : zd X d 218 [vI (nI k), vI (nI a)] h = some (some (vI (und k a)), h) := by
  rcases (show k = 0 ∨ k = 1 ∨ k = 2 ∨ k = 3 ∨ k = 4 ∨ k = 5 by omega) with rfl | rfl | rfl | rfl | rfl | rfl <;> rcases (show a = 0 ∨ a = 1 ∨ a = 2 ∨ a = 3 ∨ a = 4 ∨ a = 5 by omega) with rfl | rfl | rfl | rfl | rfl | rfl
  · exact C218_0_0 X d h
  · exact C218_0_1 X d h
  · exact C218_0_2 X d h
  · exact C218_0_3 X d h
  · exact C218_0_4 X d h
  · exact C218_0_5 X d h
  · exact C218_1_0 X d h
  · exact C218_1_1 X d h
  · exact C218_1_2 X d h
  · exact C218_1_3 X d h
  · exact C218_1_4 X d h
  · exact C218_1_5 X d h
  · exact C218_2_0 X d h
  · exact C218_2_1 X d h
  · exact C218_2_2 X d h
  · exact C218_2_3 X d h
  · exact C218_2_4 X d h
  · exact C218_2_5 X d h
  · exact C218_3_0 X d h
  · exact C218_3_1 X d h
  · exact C218_3_2 X d h
  · exact C218_3_3 X d h
  · exact C218_3_4 X d h
  · exact C218_3_5 X d h
  · exact C218_4_0 X d h
  · exact C218_4_1 X d h
  · exact C218_4_2 X d h
  · exact C218_4_3 X d h
  · exact C218_4_4 X d h
  · exact C218_4_5 X d h
  · exact C218_5_0 X d h
  · exact C218_5_1 X d h
  · exact C218_5_2 X d h
  · exact C218_5_3 X d h
  · exact C218_5_4 X d h
  · exact C218_5_5 X d h
theorem jq {s r r' : Nat} (h : r ≠ r') : ((s, 4 + r, 0) : zK) ≠ (s, 4 + r', 0) := fun e => h (by have := congrArg (fun q : zK => q.2.1) e; dsimp only at this; omega)
theorem hl9 {r : Nat} : hln (15, 4 + r, 0) = 9 := by rw [hln_r, if_neg (by omega)]
theorem K34 (X : Nat × (Nat → Int32) × Value) (t : Nat) (M : zM) (G : zG) (x y n : Int32) (i : Inv t M) : okI X 107 217 [vI x, vI y, vI n] t M G := by
  rcases isx_c (n := 3) x (by decide) with ⟨h, -⟩ | ⟨r, hr, rfl, h⟩
  · refine ⟨-1, rfs M 1, G, rfm (rfs M 1) 1, G, ?_, ?_, Inv_rf i⟩
    · simp only [E107, e107_0, e107_1, e107_4, e107_7, e107_8, e107_9, e107_12, e107_13, e107_14, e107_17, e107_20, e107_21, e107_23, e107_26, e107_27, e107_28, e107_30, e107_33, e107_34, e107_36, e107_39, e107_40, e107_41, e107_44, e107_46, e107_47, e107_48, e107_51, e107_52, e107_53, e107_54, e107_55, e107_58, e107_59, e107_62, e107_63, e107_64, e107_65, e107_66, zt0, zt1, zn3, not_false_eq_true, toListS, toListN, zk_some, zpi, if_true, if_false, i10, C120, h, C114_1, q_lt_m1_0, q_le_m1_0, q_eq_m1_0]
    · simp only [E217, e217_0, e217_1, e217_4, e217_7, e217_8, e217_9, e217_12, e217_13, e217_14, e217_15, e217_16, e217_19, e217_22, e217_25, e217_26, e217_28, e217_31, e217_32, e217_33, e217_35, e217_38, e217_39, e217_41, e217_44, e217_45, e217_46, e217_49, e217_51, e217_52, e217_53, e217_56, e217_57, e217_58, e217_59, e217_60, e217_63, e217_64, e217_65, e217_66, e217_67, e217_69, e217_71, e217_73, e217_76, e217_77, e217_80, e217_82, e217_83, e217_84, e217_86, e217_87, e217_89, e217_90, e217_93, e217_96, e217_97, zt0, zt1, zn3, not_false_eq_true, toListS, toListN, zk_some, zpi, if_true, if_false, i10, C216, h, C129_1, q_lt_m1_0, q_le_m1_0, q_eq_m1_0]
  · rcases inz_c y 5 (by decide) with ⟨g, -⟩ | ⟨g, q, hq, rfl⟩
    · have g' : inz y 0 5 = 0 := g
      refine ⟨-2, rfs M 2, G, rfm (rfs M 2) 2, G, ?_, ?_, Inv_rf i⟩
      · simp only [E107, e107_0, e107_1, e107_4, e107_7, e107_8, e107_9, e107_12, e107_13, e107_14, e107_17, e107_20, e107_21, e107_23, e107_26, e107_27, e107_28, e107_30, e107_33, e107_34, e107_36, e107_39, e107_40, e107_41, e107_44, e107_46, e107_47, e107_48, e107_51, e107_52, e107_53, e107_54, e107_55, e107_58, e107_59, e107_62, e107_63, e107_64, e107_65, e107_66, zt0, zt1, zn3, not_false_eq_true, toListS, toListN, zk_some, zpi, if_true, if_false, i10, C120, h, C121, g', C114_2, q_lt_m2_0, q_le_m2_0, q_eq_m2_0]
      · simp only [E217, e217_0, e217_1, e217_4, e217_7, e217_8, e217_9, e217_12, e217_13, e217_14, e217_15, e217_16, e217_19, e217_22, e217_25, e217_26, e217_28, e217_31, e217_32, e217_33, e217_35, e217_38, e217_39, e217_41, e217_44, e217_45, e217_46, e217_49, e217_51, e217_52, e217_53, e217_56, e217_57, e217_58, e217_59, e217_60, e217_63, e217_64, e217_65, e217_66, e217_67, e217_69, e217_71, e217_73, e217_76, e217_77, e217_80, e217_82, e217_83, e217_84, e217_86, e217_87, e217_89, e217_90, e217_93, e217_96, e217_97, zt0, zt1, zn3, not_false_eq_true, toListS, toListN, zk_some, zpi, if_true, if_false, i10, C216, h, C128, j_0, j_5, g', C129_2, q_lt_m2_0, q_le_m2_0, q_eq_m2_0]
    have g' : inz (nI q) 0 5 = 1 := g
    by_cases h1 : n ≤ 9
    rotate_left
    · refine ⟨-6, rfs M 6, G, rfm (rfs M 6) 6, G, ?_, ?_, Inv_rf i⟩
      · simp only [E107, e107_0, e107_1, e107_4, e107_7, e107_8, e107_9, e107_12, e107_13, e107_14, e107_17, e107_20, e107_21, e107_23, e107_26, e107_27, e107_28, e107_30, e107_33, e107_34, e107_36, e107_39, e107_40, e107_41, e107_44, e107_46, e107_47, e107_48, e107_51, e107_52, e107_53, e107_54, e107_55, e107_58, e107_59, e107_62, e107_63, e107_64, e107_65, e107_66, zt0, zt1, zn3, not_false_eq_true, toListS, toListN, zk_some, zpi, if_true, if_false, i10, C120, h, C121, g', h1, C114_6, q_lt_m6_0, q_le_m6_0, q_eq_m6_0]
      · simp only [E217, e217_0, e217_1, e217_4, e217_7, e217_8, e217_9, e217_12, e217_13, e217_14, e217_15, e217_16, e217_19, e217_22, e217_25, e217_26, e217_28, e217_31, e217_32, e217_33, e217_35, e217_38, e217_39, e217_41, e217_44, e217_45, e217_46, e217_49, e217_51, e217_52, e217_53, e217_56, e217_57, e217_58, e217_59, e217_60, e217_63, e217_64, e217_65, e217_66, e217_67, e217_69, e217_71, e217_73, e217_76, e217_77, e217_80, e217_82, e217_83, e217_84, e217_86, e217_87, e217_89, e217_90, e217_93, e217_96, e217_97, zt0, zt1, zn3, not_false_eq_true, toListS, toListN, zk_some, zpi, if_true, if_false, i10, C216, h, C128, j_0, j_5, g', h1, C129_6, q_lt_m6_0, q_le_m6_0, q_eq_m6_0]
    by_cases h2 : 0 ≤ n
    rotate_left
    · refine ⟨-14, M, G, M, G, ?_, ?_, i⟩
      · simp only [E107, e107_0, e107_1, e107_4, e107_7, e107_8, e107_9, e107_12, e107_13, e107_14, e107_17, e107_20, e107_21, e107_23, e107_26, e107_27, e107_28, e107_30, e107_33, e107_34, e107_36, e107_39, e107_40, e107_41, e107_44, e107_46, e107_47, e107_48, e107_51, e107_52, e107_53, e107_54, e107_55, e107_58, e107_59, e107_62, e107_63, e107_64, e107_65, e107_66, zt0, zt1, zn3, not_false_eq_true, toListS, toListN, zk_some, zpi, if_true, if_false, i10, C120, h, C121, g', h1, h2]
      · simp only [E217, e217_0, e217_1, e217_4, e217_7, e217_8, e217_9, e217_12, e217_13, e217_14, e217_15, e217_16, e217_19, e217_22, e217_25, e217_26, e217_28, e217_31, e217_32, e217_33, e217_35, e217_38, e217_39, e217_41, e217_44, e217_45, e217_46, e217_49, e217_51, e217_52, e217_53, e217_56, e217_57, e217_58, e217_59, e217_60, e217_63, e217_64, e217_65, e217_66, e217_67, e217_69, e217_71, e217_73, e217_76, e217_77, e217_80, e217_82, e217_83, e217_84, e217_86, e217_87, e217_89, e217_90, e217_93, e217_96, e217_97, zt0, zt1, zn3, not_false_eq_true, toListS, toListN, zk_some, zpi, if_true, if_false, i10, C216, h, C128, j_0, j_5, g', h1, h2]
    have h2' : 0 ≤ n.toInt := i_le.mp h2
    have h1' : n.toInt ≤ 9 := i_le.mp h1
    obtain ⟨k, hk, rfl⟩ : ∃ k, k ≤ 9 ∧ n = nI k := ⟨n.toInt.toNat, by omega, nI_up h2'⟩
    have hlq : k ≤ hln (15, 4 + r, 0) := by rw [hl9]; exact hk
    have c63 := C63 X 11 M G (4 + r) k (-1) hlq
    have lp := zlf (n := 9) (f := fun z => zx X 12 217 69 [vR (7, 0, 0), vI (nI r), vI (nI q), vI (nI k), vI (nI z)] [] (hh (flR (u2 (u2 (u2 (flR (u2 M (4, 4 + r, 0) 1 (nI k)) (15, 4 + r, 0) 0 k (-1)) (16, 0, 0) r (nI q)) (30, 0, 0) r (nI q)) (31, 0, 0) r (nI k)) (32, 0, 0) (9 * r) z (-9)) G)) (fun z hz' w ew => by
      have hz : zin (nI (9 * r + z)) 27 = true := zin_nI (by omega) (by decide)
      have hc : (nI (9 * r + z)).toNatClampNeg = 9 * r + z := nI_clamp (by omega)
      have e : ¬ (9 : Int32) ≤ nI z := by rw [show (9 : Int32) = nI 9 from rfl, nle (by decide) (by omega)]; omega
      simp only [e217_69, e217_71, e217_73]
      rw [if_neg e]
      simp only [e217_76, e217_77, e217_80, e217_82, e217_83, e217_84, e217_86, e217_87, e217_89, e217_90, e217_93, n9, hz, hc, flR_s, nI_1]
      exact ew) 9 0 (by omega)
    rw [nI_0, flR_0] at lp
    refine ⟨1, u2 (flR (u2 M (4, 4 + r, 0) 1 (nI k)) (15, 4 + r, 0) 0 k (-1)) (16, 0, 0) r (nI q), G, flR (u2 (u2 (u2 (flR (u2 M (4, 4 + r, 0) 1 (nI k)) (15, 4 + r, 0) 0 k (-1)) (16, 0, 0) r (nI q)) (30, 0, 0) r (nI q)) (31, 0, 0) r (nI k)) (32, 0, 0) (9 * r) 9 (-9), G, ?_, ?_, i.1, i.2.1, i.2.2.1, i.2.2.2.1, fun l hl => ?_, fun r' hr' => ?_⟩
    · simp only [E107, e107_0, e107_1, e107_4, e107_7, e107_8, e107_9, e107_12, e107_13, e107_14, e107_17, e107_20, e107_21, e107_23, e107_26, e107_27, e107_28, e107_30, e107_33, e107_34, e107_36, e107_39, e107_40, e107_41, e107_44, e107_46, e107_47, e107_48, e107_51, e107_52, e107_53, e107_54, e107_55, e107_58, e107_59, e107_62, e107_63, e107_64, e107_65, e107_66, zt0, zt1, zn3, not_false_eq_true, toListS, toListN, zk_some, zpi, if_true, if_false, i10, C120, h, C121, g', h1, h2, zin_nI (show r < 3 by omega) (show 3 < 2 ^ 31 by decide), nI_clamp (show r < 2 ^ 31 by omega), c63]
    · simp only [e217_0, e217_1, e217_4, e217_7, e217_8, e217_9, e217_12, e217_13, e217_14, e217_15, e217_16, e217_19, e217_22, e217_25, e217_26, e217_28, e217_31, e217_32, e217_33, e217_35, e217_38, e217_39, e217_41, e217_44, e217_45, e217_46, e217_49, e217_51, e217_52, e217_53, e217_56, e217_57, e217_58, e217_59, e217_60, e217_63, e217_64, e217_65, e217_66, e217_67, E217, zt0, zt1, zn3, not_false_eq_true, toListS, toListN, zk_some, zpi, if_true, if_false, i10, C216, h, C128, j_0, j_5, g', h1, h2, zin_nI (show r < 3 by omega) (show 3 < 2 ^ 31 by decide), nI_clamp (show r < 2 ^ 31 by omega)]
      refine Eq.trans lp ?_
      simp only [e217_69, e217_71, e217_73]
      rw [if_pos (by decide)]
      simp only [e217_96, e217_97]
    · refine cI_o (i.2.2.2.2.1 l hl) ?_ rfl (fun z hz => ?_) (fun z hz => rfl)
      · simp only [flR_n, u2_n, cpK_n, ne_eq, Nat.reduceEqDiff, not_false_eq_true, u2_same, u2_k (k4 hl r).symm]
      · simp only [flR_n, u2_n, cpK_n, ne_eq, Nat.reduceEqDiff, not_false_eq_true, u2_same, flR_o (k15 hl r).symm]
    · show cJ _ r'
      by_cases e : r' = r
      · subst e
        refine ⟨?_, Or.inr ⟨k, hk, ?_, ?_, ⟨q, hq, ?_⟩, fun z hz => Or.inl ⟨?_, ?_⟩⟩⟩
        · simp only [flR_n, u2_n, cpK_n, ne_eq, Nat.reduceEqDiff, not_false_eq_true, u2_same]
        · simp only [flR_n, u2_n, cpK_n, ne_eq, Nat.reduceEqDiff, not_false_eq_true, u2_same]
        · simp only [flR_n, u2_n, cpK_n, ne_eq, Nat.reduceEqDiff, not_false_eq_true, u2_same]
        · simp only [flR_n, u2_n, cpK_n, ne_eq, Nat.reduceEqDiff, not_false_eq_true, u2_same]
        · simp only [flR_n, u2_n, cpK_n, ne_eq, Nat.reduceEqDiff, not_false_eq_true, u2_same]
          rw [flR_i (by omega)]
        · rw [flR_i (by omega)]
      · refine cJ_o (i.2.2.2.2.2 r' hr') ?_ ?_ (fun z hz => ?_) (fun z hz => ?_) ?_ ?_
        · simp only [flR_n, u2_n, cpK_n, ne_eq, Nat.reduceEqDiff, not_false_eq_true, u2_same, u2_k (jq e)]
        · simp only [flR_n, u2_n, cpK_n, ne_eq, Nat.reduceEqDiff, not_false_eq_true, u2_same, u2_f e]
        · simp only [flR_n, u2_n, cpK_n, ne_eq, Nat.reduceEqDiff, not_false_eq_true, u2_same, flR_o (jq e)]
        · rw [flR_f (by omega)]
          simp only [flR_n, u2_n, cpK_n, ne_eq, Nat.reduceEqDiff, not_false_eq_true, u2_same]
        · simp only [flR_n, u2_n, cpK_n, ne_eq, Nat.reduceEqDiff, not_false_eq_true, u2_same, u2_f e]
        · simp only [flR_n, u2_n, cpK_n, ne_eq, Nat.reduceEqDiff, not_false_eq_true, u2_same, u2_f e]
theorem K36 (X : Nat × (Nat → Int32) × Value) (t : Nat) (M : zM) (G : zG) (x y : Int32) (i : Inv t M) : okI X 109 220 [vI x, vI y] t M G := by
  rcases isx_c (n := 3) x (by decide) with ⟨h, -⟩ | ⟨r, hr, rfl, h⟩
  · refine ⟨-1, rfs M 1, G, rfm (rfs M 1) 1, G, ?_, ?_, Inv_rf i⟩
    · simp only [E109, e109_0, e109_1, e109_4, e109_7, e109_8, e109_9, e109_12, e109_13, e109_14, e109_17, e109_18, e109_19, e109_20, e109_21, e109_24, e109_27, e109_29, e109_30, e109_31, e109_32, e109_35, e109_38, e109_40, e109_41, e109_42, e109_45, e109_46, e109_47, e109_48, e109_51, e109_53, e109_56, e109_57, e109_60, e109_61, e109_62, zt0, zt1, zn3, not_false_eq_true, toListS, toListN, zk_some, zpi, if_true, if_false, i10, C120, h, C114_1, q_lt_m1_0, q_le_m1_0, q_eq_m1_0]
    · simp only [E220, e220_0, e220_1, e220_4, e220_7, e220_8, e220_9, e220_12, e220_13, e220_14, e220_17, e220_18, e220_19, e220_22, e220_24, e220_25, e220_26, e220_27, e220_28, e220_29, e220_32, e220_33, e220_34, e220_35, e220_36, e220_37, e220_40, e220_43, e220_44, e220_47, e220_49, e220_50, e220_51, e220_52, e220_53, e220_54, e220_57, e220_59, zt0, zt1, zn3, not_false_eq_true, toListS, toListN, zk_some, zpi, if_true, if_false, i10, C216, h, C129_1, q_lt_m1_0, q_le_m1_0, q_eq_m1_0]
  · obtain ⟨e1, e2⟩ := i.2.2.2.2.2 r hr
    rcases e2 with e2 | ⟨n, hn, e2, e3, ⟨kq', hkq, e4⟩, e5⟩
    · have e2' : M (31, 0, 0) r = -1 := e1.symm.trans e2
      refine ⟨-11, M, G, M, G, ?_, ?_, i⟩
      · simp only [E109, e109_0, e109_1, e109_4, e109_7, e109_8, e109_9, e109_12, e109_13, e109_14, e109_17, e109_18, e109_19, e109_20, e109_21, e109_24, e109_27, e109_29, e109_30, e109_31, e109_32, e109_35, e109_38, e109_40, e109_41, e109_42, e109_45, e109_46, e109_47, e109_48, e109_51, e109_53, e109_56, e109_57, e109_60, e109_61, e109_62, zt0, zt1, zn3, not_false_eq_true, toListS, toListN, zk_some, zpi, if_true, if_false, i10, C120, h, zin_nI (show r < 3 by omega) (show 3 < 2 ^ 31 by decide), nI_clamp (show r < 2 ^ 31 by omega), D61, e2, show ((0 : Int32) ≤ -1) = False by decide]
      · simp only [E220, e220_0, e220_1, e220_4, e220_7, e220_8, e220_9, e220_12, e220_13, e220_14, e220_17, e220_18, e220_19, e220_22, e220_24, e220_25, e220_26, e220_27, e220_28, e220_29, e220_32, e220_33, e220_34, e220_35, e220_36, e220_37, e220_40, e220_43, e220_44, e220_47, e220_49, e220_50, e220_51, e220_52, e220_53, e220_54, e220_57, e220_59, zt0, zt1, zn3, not_false_eq_true, toListS, toListN, zk_some, zpi, if_true, if_false, i10, C216, h, zin_nI (show r < 3 by omega) (show 3 < 2 ^ 31 by decide), nI_clamp (show r < 2 ^ 31 by omega), e2', show ((0 : Int32) ≤ -1) = False by decide]
    have e2' : M (31, 0, 0) r = nI n := e1.symm.trans e2
    have p0 : 0 ≤ nI n := by rw [i_le, nI_int (by omega)]; show (0 : Int) ≤ n; omega
    have hlq : n ≤ hln (15, 4 + r, 0) := by rw [hl9]; exact hn
    rcases isx_c (n := n) y (by omega) with ⟨g, -⟩ | ⟨k, hk, rfl, g⟩
    · have g' : inz y 0 ((n : Int) - 1) = 0 := g
      refine ⟨-13, M, G, M, G, ?_, ?_, i⟩
      · simp only [E109, e109_0, e109_1, e109_4, e109_7, e109_8, e109_9, e109_12, e109_13, e109_14, e109_17, e109_18, e109_19, e109_20, e109_21, e109_24, e109_27, e109_29, e109_30, e109_31, e109_32, e109_35, e109_38, e109_40, e109_41, e109_42, e109_45, e109_46, e109_47, e109_48, e109_51, e109_53, e109_56, e109_57, e109_60, e109_61, e109_62, zt0, zt1, zn3, not_false_eq_true, toListS, toListN, zk_some, zpi, if_true, if_false, i10, C120, h, zin_nI (show r < 3 by omega) (show 3 < 2 ^ 31 by decide), nI_clamp (show r < 2 ^ 31 by omega), D61, e2, p0, C62 X _ _ G (4 + r) n _ e2 hlq, g]
      · simp only [E220, e220_0, e220_1, e220_4, e220_7, e220_8, e220_9, e220_12, e220_13, e220_14, e220_17, e220_18, e220_19, e220_22, e220_24, e220_25, e220_26, e220_27, e220_28, e220_29, e220_32, e220_33, e220_34, e220_35, e220_36, e220_37, e220_40, e220_43, e220_44, e220_47, e220_49, e220_50, e220_51, e220_52, e220_53, e220_54, e220_57, e220_59, zt0, zt1, zn3, not_false_eq_true, toListS, toListN, zk_some, zpi, if_true, if_false, i10, C216, h, zin_nI (show r < 3 by omega) (show 3 < 2 ^ 31 by decide), nI_clamp (show r < 2 ^ 31 by omega), e2', p0, C128, j_0, Int32.toInt_toInt64, szj (show n ≤ 20 by omega), g']
    · have g' : inz (nI k) 0 ((n : Int) - 1) = 1 := g
      have hz : zin (nI k) (hln (15, 4 + r, 0)) = true := by rw [hl9]; exact zin_nI (by omega) (by decide)
      have hc : (nI k).toNatClampNeg = k := nI_clamp (by omega)
      have hz2 : zin (nI (9 * r + k)) 27 = true := zin_nI (by omega) (by decide)
      have hc2 : (nI (9 * r + k)).toNatClampNeg = 9 * r + k := nI_clamp (by omega)
      refine ⟨M (32, 0, 0) (9 * r + k), M, G, M, G, ?_, ?_, i⟩
      · rcases e5 k hk with ⟨u1, u2⟩ | ⟨u1, z, hz9, u2⟩
        · rw [u2]
          simp only [E109, e109_0, e109_1, e109_4, e109_7, e109_8, e109_9, e109_12, e109_13, e109_14, e109_17, e109_18, e109_19, e109_20, e109_21, e109_24, e109_27, e109_29, e109_30, e109_31, e109_32, e109_35, e109_38, e109_40, e109_41, e109_42, e109_45, e109_46, e109_47, e109_48, e109_51, e109_53, e109_56, e109_57, e109_60, e109_61, e109_62, zt0, zt1, zn3, not_false_eq_true, toListS, toListN, zk_some, zpi, if_true, if_false, i10, C120, h, zin_nI (show r < 3 by omega) (show 3 < 2 ^ 31 by decide), nI_clamp (show r < 2 ^ 31 by omega), D61, e2, p0, C62 X _ _ G (4 + r) n _ e2 hlq, g, hz, hc, u1]
        · have zn : (nI z = -1) = False := eq_false (fun e => by have := congrArg Int32.toInt e; rw [nI_int (by omega), show (-1 : Int32).toInt = -1 from rfl] at this; omega)
          rw [← u1, u2]
          simp only [E109, e109_0, e109_1, e109_4, e109_7, e109_8, e109_9, e109_12, e109_13, e109_14, e109_17, e109_18, e109_19, e109_20, e109_21, e109_24, e109_27, e109_29, e109_30, e109_31, e109_32, e109_35, e109_38, e109_40, e109_41, e109_42, e109_45, e109_46, e109_47, e109_48, e109_51, e109_53, e109_56, e109_57, e109_60, e109_61, e109_62, zt0, zt1, zn3, not_false_eq_true, toListS, toListN, zk_some, zpi, if_true, if_false, i10, C120, h, zin_nI (show r < 3 by omega) (show 3 < 2 ^ 31 by decide), nI_clamp (show r < 2 ^ 31 by omega), D61, e2, p0, C62 X _ _ G (4 + r) n _ e2 hlq, g, hz, hc, u2, zn]
      · simp only [E220, e220_0, e220_1, e220_4, e220_7, e220_8, e220_9, e220_12, e220_13, e220_14, e220_17, e220_18, e220_19, e220_22, e220_24, e220_25, e220_26, e220_27, e220_28, e220_29, e220_32, e220_33, e220_34, e220_35, e220_36, e220_37, e220_40, e220_43, e220_44, e220_47, e220_49, e220_50, e220_51, e220_52, e220_53, e220_54, e220_57, e220_59, zt0, zt1, zn3, not_false_eq_true, toListS, toListN, zk_some, zpi, if_true, if_false, i10, C216, h, zin_nI (show r < 3 by omega) (show 3 < 2 ^ 31 by decide), nI_clamp (show r < 2 ^ 31 by omega), e2', p0, C128, j_0, Int32.toInt_toInt64, szj (show n ≤ 20 by omega), g', n9, hz2, hc2]
theorem K35 (X : Nat × (Nat → Int32) × Value) (t : Nat) (M : zM) (G : zG) (x y z : Int32) (i : Inv t M) : okI X 108 219 [vI x, vI y, vI z] t M G := by
  obtain ⟨nv, np, s⟩ := ST_of i
  have s' := s
  obtain ⟨n5, n8, v2, v3, m0, m1, v, o6, f5, a, vc, ac, vm⟩ := s'
  rcases isx_c (n := 3) x (by decide) with ⟨h, -⟩ | ⟨r, hr, rfl, h⟩
  · refine ⟨-1, rfs M 1, G, rfm (rfs M 1) 1, G, ?_, ?_, Inv_rf i⟩
    · simp only [E108, e108_0, e108_1, e108_4, e108_7, e108_8, e108_9, e108_12, e108_13, e108_16, e108_17, e108_20, e108_23, e108_24, e108_25, e108_28, e108_29, e108_30, e108_33, e108_34, e108_35, e108_37, e108_39, e108_42, e108_45, e108_47, e108_48, e108_50, e108_51, e108_54, e108_57, e108_59, e108_60, e108_61, e108_62, e108_65, e108_66, e108_69, e108_70, e108_73, e108_76, e108_77, e108_78, e108_81, e108_83, e108_84, e108_85, e108_88, e108_90, e108_91, e108_94, e108_95, e108_96, e108_99, e108_102, e108_104, e108_105, e108_107, e108_110, e108_111, e108_113, e108_114, e108_115, zt0, zt1, zn3, not_false_eq_true, toListS, toListN, zk_some, zpi, if_true, if_false, i10, C120, h, C114_1, q_lt_m1_0, q_le_m1_0, q_eq_m1_0]
    · simp only [E219, e219_0, e219_1, e219_4, e219_7, e219_8, e219_9, e219_12, e219_13, e219_14, e219_17, e219_20, e219_21, e219_22, e219_25, e219_26, e219_27, e219_30, e219_31, e219_32, e219_35, e219_37, e219_38, e219_39, e219_40, e219_41, e219_42, e219_45, e219_46, e219_47, e219_48, e219_49, e219_50, e219_53, e219_56, e219_58, e219_59, e219_60, e219_61, e219_64, e219_66, e219_69, e219_70, e219_73, e219_74, e219_77, e219_78, e219_79, e219_80, e219_82, e219_83, e219_84, e219_87, e219_89, e219_90, e219_93, e219_94, e219_95, e219_98, e219_101, e219_103, e219_104, e219_105, e219_108, e219_110, e219_111, e219_112, e219_113, e219_114, e219_116, e219_117, e219_118, zt0, zt1, zn3, not_false_eq_true, toListS, toListN, zk_some, zpi, if_true, if_false, i10, C216, h, C129_1, q_lt_m1_0, q_le_m1_0, q_eq_m1_0]
  · have key : z = -1 ∨ (¬ z = -1 ∧ isx np z = 0) ∨ ∃ p, p < np ∧ z = nI p ∧ isx np z = 1 ∧ ¬ z = -1 := by
      by_cases e : z = -1
      · exact Or.inl e
      · rcases isx_c (n := np) z (by omega) with ⟨q, -⟩ | ⟨p, hp, q1, q2⟩
        · exact Or.inr (Or.inl ⟨e, q⟩)
        · exact Or.inr (Or.inr ⟨p, hp, q1, q2, e⟩)
    rcases key with rfl | ⟨zn, q⟩ | ⟨p, hp, rfl, q, zn⟩
    rotate_left
    · refine ⟨-1, rfs M 1, G, rfm (rfs M 1) 1, G, ?_, ?_, Inv_rf i⟩
      · simp only [E108, e108_0, e108_1, e108_4, e108_7, e108_8, e108_9, e108_12, e108_13, e108_16, e108_17, e108_20, e108_23, e108_24, e108_25, e108_28, e108_29, e108_30, e108_33, e108_34, e108_35, e108_37, e108_39, e108_42, e108_45, e108_47, e108_48, e108_50, e108_51, e108_54, e108_57, e108_59, e108_60, e108_61, e108_62, e108_65, e108_66, e108_69, e108_70, e108_73, e108_76, e108_77, e108_78, e108_81, e108_83, e108_84, e108_85, e108_88, e108_90, e108_91, e108_94, e108_95, e108_96, e108_99, e108_102, e108_104, e108_105, e108_107, e108_110, e108_111, e108_113, e108_114, e108_115, zt0, zt1, zn3, not_false_eq_true, toListS, toListN, zk_some, zpi, if_true, if_false, i10, C120, h, zn, C3x X _ M G np v3 n8, q, C114_1, q_lt_m1_0, q_le_m1_0, q_eq_m1_0]
      · simp only [E219, e219_0, e219_1, e219_4, e219_7, e219_8, e219_9, e219_12, e219_13, e219_14, e219_17, e219_20, e219_21, e219_22, e219_25, e219_26, e219_27, e219_30, e219_31, e219_32, e219_35, e219_37, e219_38, e219_39, e219_40, e219_41, e219_42, e219_45, e219_46, e219_47, e219_48, e219_49, e219_50, e219_53, e219_56, e219_58, e219_59, e219_60, e219_61, e219_64, e219_66, e219_69, e219_70, e219_73, e219_74, e219_77, e219_78, e219_79, e219_80, e219_82, e219_83, e219_84, e219_87, e219_89, e219_90, e219_93, e219_94, e219_95, e219_98, e219_101, e219_103, e219_104, e219_105, e219_108, e219_110, e219_111, e219_112, e219_113, e219_114, e219_116, e219_117, e219_118, zt0, zt1, zn3, not_false_eq_true, toListS, toListN, zk_some, zpi, if_true, if_false, i10, C216, h, zn, C133 X _ _ G _ np (show rfs M 1 (20, 0, 0) 1 = nI np from m1) (by omega), q, C129_1, q_lt_m1_0, q_le_m1_0, q_eq_m1_0]
    · obtain ⟨e1, e2⟩ := i.2.2.2.2.2 r hr
      rcases e2 with e2 | ⟨n, hn, e2, e3, ⟨kq', hkq, e4⟩, e5⟩
      · have e2' : M (31, 0, 0) r = -1 := e1.symm.trans e2
        refine ⟨-11, M, G, M, G, ?_, ?_, i⟩
        · simp only [E108, e108_0, e108_1, e108_4, e108_7, e108_8, e108_9, e108_12, e108_13, e108_16, e108_17, e108_20, e108_23, e108_24, e108_25, e108_28, e108_29, e108_30, e108_33, e108_34, e108_35, e108_37, e108_39, e108_42, e108_45, e108_47, e108_48, e108_50, e108_51, e108_54, e108_57, e108_59, e108_60, e108_61, e108_62, e108_65, e108_66, e108_69, e108_70, e108_73, e108_76, e108_77, e108_78, e108_81, e108_83, e108_84, e108_85, e108_88, e108_90, e108_91, e108_94, e108_95, e108_96, e108_99, e108_102, e108_104, e108_105, e108_107, e108_110, e108_111, e108_113, e108_114, e108_115, zt0, zt1, zn3, not_false_eq_true, toListS, toListN, zk_some, zpi, if_true, if_false, i10, C120, h, zn, C3x X _ M G np v3 n8, q, zin_nI (show r < 3 by omega) (show 3 < 2 ^ 31 by decide), nI_clamp (show r < 2 ^ 31 by omega), D61, e2, show ((0 : Int32) ≤ -1) = False by decide]
        · simp only [E219, e219_0, e219_1, e219_4, e219_7, e219_8, e219_9, e219_12, e219_13, e219_14, e219_17, e219_20, e219_21, e219_22, e219_25, e219_26, e219_27, e219_30, e219_31, e219_32, e219_35, e219_37, e219_38, e219_39, e219_40, e219_41, e219_42, e219_45, e219_46, e219_47, e219_48, e219_49, e219_50, e219_53, e219_56, e219_58, e219_59, e219_60, e219_61, e219_64, e219_66, e219_69, e219_70, e219_73, e219_74, e219_77, e219_78, e219_79, e219_80, e219_82, e219_83, e219_84, e219_87, e219_89, e219_90, e219_93, e219_94, e219_95, e219_98, e219_101, e219_103, e219_104, e219_105, e219_108, e219_110, e219_111, e219_112, e219_113, e219_114, e219_116, e219_117, e219_118, zt0, zt1, zn3, not_false_eq_true, toListS, toListN, zk_some, zpi, if_true, if_false, i10, C216, h, zn, C133 X _ M G _ np m1 (by omega), q, zin_nI (show r < 3 by omega) (show 3 < 2 ^ 31 by decide), nI_clamp (show r < 2 ^ 31 by omega), e2', show ((0 : Int32) ≤ -1) = False by decide]
      have e2' : M (31, 0, 0) r = nI n := e1.symm.trans e2
      have p0 : 0 ≤ nI n := by rw [i_le, nI_int (by omega)]; show (0 : Int) ≤ n; omega
      have hlq : n ≤ hln (15, 4 + r, 0) := by rw [hl9]; exact hn
      rcases isx_c (n := n) y (by omega) with ⟨g, -⟩ | ⟨k, hk, rfl, g⟩
      · have g' : inz y 0 ((n : Int) - 1) = 0 := g
        refine ⟨-13, M, G, M, G, ?_, ?_, i⟩
        · simp only [E108, e108_0, e108_1, e108_4, e108_7, e108_8, e108_9, e108_12, e108_13, e108_16, e108_17, e108_20, e108_23, e108_24, e108_25, e108_28, e108_29, e108_30, e108_33, e108_34, e108_35, e108_37, e108_39, e108_42, e108_45, e108_47, e108_48, e108_50, e108_51, e108_54, e108_57, e108_59, e108_60, e108_61, e108_62, e108_65, e108_66, e108_69, e108_70, e108_73, e108_76, e108_77, e108_78, e108_81, e108_83, e108_84, e108_85, e108_88, e108_90, e108_91, e108_94, e108_95, e108_96, e108_99, e108_102, e108_104, e108_105, e108_107, e108_110, e108_111, e108_113, e108_114, e108_115, zt0, zt1, zn3, not_false_eq_true, toListS, toListN, zk_some, zpi, if_true, if_false, i10, C120, h, zn, C3x X _ M G np v3 n8, q, zin_nI (show r < 3 by omega) (show 3 < 2 ^ 31 by decide), nI_clamp (show r < 2 ^ 31 by omega), D61, e2, p0, C62 X _ _ G (4 + r) n _ e2 hlq, g]
        · simp only [E219, e219_0, e219_1, e219_4, e219_7, e219_8, e219_9, e219_12, e219_13, e219_14, e219_17, e219_20, e219_21, e219_22, e219_25, e219_26, e219_27, e219_30, e219_31, e219_32, e219_35, e219_37, e219_38, e219_39, e219_40, e219_41, e219_42, e219_45, e219_46, e219_47, e219_48, e219_49, e219_50, e219_53, e219_56, e219_58, e219_59, e219_60, e219_61, e219_64, e219_66, e219_69, e219_70, e219_73, e219_74, e219_77, e219_78, e219_79, e219_80, e219_82, e219_83, e219_84, e219_87, e219_89, e219_90, e219_93, e219_94, e219_95, e219_98, e219_101, e219_103, e219_104, e219_105, e219_108, e219_110, e219_111, e219_112, e219_113, e219_114, e219_116, e219_117, e219_118, zt0, zt1, zn3, not_false_eq_true, toListS, toListN, zk_some, zpi, if_true, if_false, i10, C216, h, zn, C133 X _ M G _ np m1 (by omega), q, zin_nI (show r < 3 by omega) (show 3 < 2 ^ 31 by decide), nI_clamp (show r < 2 ^ 31 by omega), e2', p0, C128, j_0, Int32.toInt_toInt64, szj (show n ≤ 20 by omega), g']
      have g' : inz (nI k) 0 ((n : Int) - 1) = 1 := g
      have hz : zin (nI k) (hln (15, 4 + r, 0)) = true := by rw [hl9]; exact zin_nI (by omega) (by decide)
      have hc : (nI k).toNatClampNeg = k := nI_clamp (by omega)
      have hz2 : zin (nI (9 * r + k)) 27 = true := zin_nI (by omega) (by decide)
      have hc2 : (nI (9 * r + k)).toNatClampNeg = 9 * r + k := nI_clamp (by omega)
      have hp8 : p < 8 := by omega
      obtain ⟨kd, hkd, ekd⟩ : ∃ kd, kd ≤ 5 ∧ M (3, 0, p) 5 = nI kd := by
        obtain ⟨-, -, -, -, -, -, -, -, -, -, -, u1, u2, -⟩ := v.1.2.2.2.2.2 p hp
        exact ⟨(M (3, 0, p) 5).toInt.toNat, by have u2' : (M (3, 0, p) 5).toInt ≤ 5 := u2; omega, nI_up u1⟩
      have ekm : M (20, 0, 0) (29 + 8 * p) = nI kd := (rP0 s hp).trans ekd
      have e4' : M (30, 0, 0) r = nI kq' := e3.symm.trans e4
      have un : und kd kq' = 0 ∨ und kd kq' = 1 := by unfold und; split <;> simp
      rcases un with un | un
      · refine ⟨-16, M, G, M, G, ?_, ?_, i⟩
        · simp only [E108, e108_0, e108_1, e108_4, e108_7, e108_8, e108_9, e108_12, e108_13, e108_16, e108_17, e108_20, e108_23, e108_24, e108_25, e108_28, e108_29, e108_30, e108_33, e108_34, e108_35, e108_37, e108_39, e108_42, e108_45, e108_47, e108_48, e108_50, e108_51, e108_54, e108_57, e108_59, e108_60, e108_61, e108_62, e108_65, e108_66, e108_69, e108_70, e108_73, e108_76, e108_77, e108_78, e108_81, e108_83, e108_84, e108_85, e108_88, e108_90, e108_91, e108_94, e108_95, e108_96, e108_99, e108_102, e108_104, e108_105, e108_107, e108_110, e108_111, e108_113, e108_114, e108_115, zt0, zt1, zn3, not_false_eq_true, toListS, toListN, zk_some, zpi, if_true, if_false, i10, C120, h, zn, C3x X _ M G np v3 n8, q, zin_nI (show r < 3 by omega) (show 3 < 2 ^ 31 by decide), nI_clamp (show r < 2 ^ 31 by omega), D61, e2, p0, C62 X _ _ G (4 + r) n _ e2 hlq, g, hz, hc, z8 hp8, cl8 hp8, ekd, e4, C122 X _ _ _ kd kq' hkd hkq, un]
        · simp only [E219, e219_0, e219_1, e219_4, e219_7, e219_8, e219_9, e219_12, e219_13, e219_14, e219_17, e219_20, e219_21, e219_22, e219_25, e219_26, e219_27, e219_30, e219_31, e219_32, e219_35, e219_37, e219_38, e219_39, e219_40, e219_41, e219_42, e219_45, e219_46, e219_47, e219_48, e219_49, e219_50, e219_53, e219_56, e219_58, e219_59, e219_60, e219_61, e219_64, e219_66, e219_69, e219_70, e219_73, e219_74, e219_77, e219_78, e219_79, e219_80, e219_82, e219_83, e219_84, e219_87, e219_89, e219_90, e219_93, e219_94, e219_95, e219_98, e219_101, e219_103, e219_104, e219_105, e219_108, e219_110, e219_111, e219_112, e219_113, e219_114, e219_116, e219_117, e219_118, zt0, zt1, zn3, not_false_eq_true, toListS, toListN, zk_some, zpi, if_true, if_false, i10, C216, h, zn, C133 X _ M G _ np m1 (by omega), q, zin_nI (show r < 3 by omega) (show 3 < 2 ^ 31 by decide), nI_clamp (show r < 2 ^ 31 by omega), e2', p0, C128, j_0, Int32.toInt_toInt64, szj (show n ≤ 20 by omega), g', n9, hz2, hc2, C135, niP, ni0, wP0 hp8, cP0 hp8, ekm, e4', C218 X _ _ kd kq' hkd hkq, un]
      refine ⟨1, u2 M (15, 4 + r, 0) k (nI kd), G, u2 (u2 M (15, 4 + r, 0) k (nI kd)) (32, 0, 0) (9 * r + k) (nI kd), G, ?_, ?_, i.1, i.2.1, i.2.2.1, i.2.2.2.1, fun l hl => ?_, fun r' hr' => ?_⟩
      · simp only [E108, e108_0, e108_1, e108_4, e108_7, e108_8, e108_9, e108_12, e108_13, e108_16, e108_17, e108_20, e108_23, e108_24, e108_25, e108_28, e108_29, e108_30, e108_33, e108_34, e108_35, e108_37, e108_39, e108_42, e108_45, e108_47, e108_48, e108_50, e108_51, e108_54, e108_57, e108_59, e108_60, e108_61, e108_62, e108_65, e108_66, e108_69, e108_70, e108_73, e108_76, e108_77, e108_78, e108_81, e108_83, e108_84, e108_85, e108_88, e108_90, e108_91, e108_94, e108_95, e108_96, e108_99, e108_102, e108_104, e108_105, e108_107, e108_110, e108_111, e108_113, e108_114, e108_115, zt0, zt1, zn3, not_false_eq_true, toListS, toListN, zk_some, zpi, if_true, if_false, i10, C120, h, zn, C3x X _ M G np v3 n8, q, zin_nI (show r < 3 by omega) (show 3 < 2 ^ 31 by decide), nI_clamp (show r < 2 ^ 31 by omega), D61, e2, p0, C62 X _ _ G (4 + r) n _ e2 hlq, g, hz, hc, z8 hp8, cl8 hp8, ekd, e4, C122 X _ _ _ kd kq' hkd hkq, un]
      · have e2x : u2 M (15, 4 + r, 0) k (nI kd) (31, 0, 0) r = nI n := e2'
        have ekx : u2 M (15, 4 + r, 0) k (nI kd) (20, 0, 0) (29 + 8 * p) = nI kd := ekm
        have e4x : u2 M (15, 4 + r, 0) k (nI kd) (30, 0, 0) r = nI kq' := e4'
        have m1x : u2 M (15, 4 + r, 0) k (nI kd) (20, 0, 0) 1 = nI np := m1
        simp only [E219, e219_0, e219_1, e219_4, e219_7, e219_8, e219_9, e219_12, e219_13, e219_14, e219_17, e219_20, e219_21, e219_22, e219_25, e219_26, e219_27, e219_30, e219_31, e219_32, e219_35, e219_37, e219_38, e219_39, e219_40, e219_41, e219_42, e219_45, e219_46, e219_47, e219_48, e219_49, e219_50, e219_53, e219_56, e219_58, e219_59, e219_60, e219_61, e219_64, e219_66, e219_69, e219_70, e219_73, e219_74, e219_77, e219_78, e219_79, e219_80, e219_82, e219_83, e219_84, e219_87, e219_89, e219_90, e219_93, e219_94, e219_95, e219_98, e219_101, e219_103, e219_104, e219_105, e219_108, e219_110, e219_111, e219_112, e219_113, e219_114, e219_116, e219_117, e219_118, zt0, zt1, zn3, not_false_eq_true, toListS, toListN, zk_some, zpi, if_true, if_false, i10, C216, h, zn, C133 X _ _ G _ np m1x (by omega), q, zin_nI (show r < 3 by omega) (show 3 < 2 ^ 31 by decide), nI_clamp (show r < 2 ^ 31 by omega), e2x, p0, C128, j_0, Int32.toInt_toInt64, szj (show n ≤ 20 by omega), g', n9, hz2, hc2, C135, niP, ni0, wP0 hp8, cP0 hp8, ekx, e4x, C218 X _ _ kd kq' hkd hkq, un]
      · refine cI_o (i.2.2.2.2.1 l hl) rfl rfl (fun w hw => ?_) (fun w hw => rfl)
        simp only [flR_n, u2_n, cpK_n, ne_eq, Nat.reduceEqDiff, not_false_eq_true, u2_same, u2_k (k15 hl r).symm]
      · show cJ _ r'
        by_cases e : r' = r
        · subst e
          refine ⟨e1, Or.inr ⟨n, hn, e2, e3, ⟨kq', hkq, e4⟩, fun w hw => ?_⟩⟩
          by_cases ew : w = k
          · subst ew
            refine Or.inr ⟨?_, kd, hkd, ?_⟩
            · simp only [flR_n, u2_n, cpK_n, ne_eq, Nat.reduceEqDiff, not_false_eq_true, u2_same]
            · simp only [flR_n, u2_n, cpK_n, ne_eq, Nat.reduceEqDiff, not_false_eq_true, u2_same]
          · have q1 : u2 (u2 M (15, 4 + r', 0) k (nI kd)) (32, 0, 0) (9 * r' + k) (nI kd) (15, 4 + r', 0) w = M (15, 4 + r', 0) w := by
              simp only [flR_n, u2_n, cpK_n, ne_eq, Nat.reduceEqDiff, not_false_eq_true, u2_same, u2_f ew]
            have q2 : u2 (u2 M (15, 4 + r', 0) k (nI kd)) (32, 0, 0) (9 * r' + k) (nI kd) (32, 0, 0) (9 * r' + w) = M (32, 0, 0) (9 * r' + w) := by
              rw [u2_f (by omega)]
              simp only [flR_n, u2_n, cpK_n, ne_eq, Nat.reduceEqDiff, not_false_eq_true, u2_same]
            rw [q1, q2]
            exact e5 w hw
        · refine cJ_o (i.2.2.2.2.2 r' hr') rfl rfl (fun w hw => ?_) (fun w hw => ?_) rfl rfl
          · simp only [flR_n, u2_n, cpK_n, ne_eq, Nat.reduceEqDiff, not_false_eq_true, u2_same, u2_k (jq e)]
          · rw [u2_f (by omega)]
            simp only [flR_n, u2_n, cpK_n, ne_eq, Nat.reduceEqDiff, not_false_eq_true, u2_same]
    · obtain ⟨e1, e2⟩ := i.2.2.2.2.2 r hr
      rcases e2 with e2 | ⟨n, hn, e2, e3, ⟨kq', hkq, e4⟩, e5⟩
      · have e2' : M (31, 0, 0) r = -1 := e1.symm.trans e2
        refine ⟨-11, M, G, M, G, ?_, ?_, i⟩
        · simp only [E108, e108_0, e108_1, e108_4, e108_7, e108_8, e108_9, e108_12, e108_13, e108_16, e108_17, e108_20, e108_23, e108_24, e108_25, e108_28, e108_29, e108_30, e108_33, e108_34, e108_35, e108_37, e108_39, e108_42, e108_45, e108_47, e108_48, e108_50, e108_51, e108_54, e108_57, e108_59, e108_60, e108_61, e108_62, e108_65, e108_66, e108_69, e108_70, e108_73, e108_76, e108_77, e108_78, e108_81, e108_83, e108_84, e108_85, e108_88, e108_90, e108_91, e108_94, e108_95, e108_96, e108_99, e108_102, e108_104, e108_105, e108_107, e108_110, e108_111, e108_113, e108_114, e108_115, zt0, zt1, zn3, not_false_eq_true, toListS, toListN, zk_some, zpi, if_true, if_false, i10, C120, h, zin_nI (show r < 3 by omega) (show 3 < 2 ^ 31 by decide), nI_clamp (show r < 2 ^ 31 by omega), D61, e2, show ((0 : Int32) ≤ -1) = False by decide]
        · simp only [E219, e219_0, e219_1, e219_4, e219_7, e219_8, e219_9, e219_12, e219_13, e219_14, e219_17, e219_20, e219_21, e219_22, e219_25, e219_26, e219_27, e219_30, e219_31, e219_32, e219_35, e219_37, e219_38, e219_39, e219_40, e219_41, e219_42, e219_45, e219_46, e219_47, e219_48, e219_49, e219_50, e219_53, e219_56, e219_58, e219_59, e219_60, e219_61, e219_64, e219_66, e219_69, e219_70, e219_73, e219_74, e219_77, e219_78, e219_79, e219_80, e219_82, e219_83, e219_84, e219_87, e219_89, e219_90, e219_93, e219_94, e219_95, e219_98, e219_101, e219_103, e219_104, e219_105, e219_108, e219_110, e219_111, e219_112, e219_113, e219_114, e219_116, e219_117, e219_118, zt0, zt1, zn3, not_false_eq_true, toListS, toListN, zk_some, zpi, if_true, if_false, i10, C216, h, zin_nI (show r < 3 by omega) (show 3 < 2 ^ 31 by decide), nI_clamp (show r < 2 ^ 31 by omega), e2', show ((0 : Int32) ≤ -1) = False by decide]
      have e2' : M (31, 0, 0) r = nI n := e1.symm.trans e2
      have p0 : 0 ≤ nI n := by rw [i_le, nI_int (by omega)]; show (0 : Int) ≤ n; omega
      have hlq : n ≤ hln (15, 4 + r, 0) := by rw [hl9]; exact hn
      rcases isx_c (n := n) y (by omega) with ⟨g, -⟩ | ⟨k, hk, rfl, g⟩
      · have g' : inz y 0 ((n : Int) - 1) = 0 := g
        refine ⟨-13, M, G, M, G, ?_, ?_, i⟩
        · simp only [E108, e108_0, e108_1, e108_4, e108_7, e108_8, e108_9, e108_12, e108_13, e108_16, e108_17, e108_20, e108_23, e108_24, e108_25, e108_28, e108_29, e108_30, e108_33, e108_34, e108_35, e108_37, e108_39, e108_42, e108_45, e108_47, e108_48, e108_50, e108_51, e108_54, e108_57, e108_59, e108_60, e108_61, e108_62, e108_65, e108_66, e108_69, e108_70, e108_73, e108_76, e108_77, e108_78, e108_81, e108_83, e108_84, e108_85, e108_88, e108_90, e108_91, e108_94, e108_95, e108_96, e108_99, e108_102, e108_104, e108_105, e108_107, e108_110, e108_111, e108_113, e108_114, e108_115, zt0, zt1, zn3, not_false_eq_true, toListS, toListN, zk_some, zpi, if_true, if_false, i10, C120, h, zin_nI (show r < 3 by omega) (show 3 < 2 ^ 31 by decide), nI_clamp (show r < 2 ^ 31 by omega), D61, e2, p0, C62 X _ _ G (4 + r) n _ e2 hlq, g]
        · simp only [E219, e219_0, e219_1, e219_4, e219_7, e219_8, e219_9, e219_12, e219_13, e219_14, e219_17, e219_20, e219_21, e219_22, e219_25, e219_26, e219_27, e219_30, e219_31, e219_32, e219_35, e219_37, e219_38, e219_39, e219_40, e219_41, e219_42, e219_45, e219_46, e219_47, e219_48, e219_49, e219_50, e219_53, e219_56, e219_58, e219_59, e219_60, e219_61, e219_64, e219_66, e219_69, e219_70, e219_73, e219_74, e219_77, e219_78, e219_79, e219_80, e219_82, e219_83, e219_84, e219_87, e219_89, e219_90, e219_93, e219_94, e219_95, e219_98, e219_101, e219_103, e219_104, e219_105, e219_108, e219_110, e219_111, e219_112, e219_113, e219_114, e219_116, e219_117, e219_118, zt0, zt1, zn3, not_false_eq_true, toListS, toListN, zk_some, zpi, if_true, if_false, i10, C216, h, zin_nI (show r < 3 by omega) (show 3 < 2 ^ 31 by decide), nI_clamp (show r < 2 ^ 31 by omega), e2', p0, C128, j_0, Int32.toInt_toInt64, szj (show n ≤ 20 by omega), g']
      have g' : inz (nI k) 0 ((n : Int) - 1) = 1 := g
      have hz : zin (nI k) (hln (15, 4 + r, 0)) = true := by rw [hl9]; exact zin_nI (by omega) (by decide)
      have hc : (nI k).toNatClampNeg = k := nI_clamp (by omega)
      have hz2 : zin (nI (9 * r + k)) 27 = true := zin_nI (by omega) (by decide)
      have hc2 : (nI (9 * r + k)).toNatClampNeg = 9 * r + k := nI_clamp (by omega)
      refine ⟨1, u2 M (15, 4 + r, 0) k (-1), G, u2 (u2 M (15, 4 + r, 0) k (-1)) (32, 0, 0) (9 * r + k) (-9), G, ?_, ?_, i.1, i.2.1, i.2.2.1, i.2.2.2.1, fun l hl => ?_, fun r' hr' => ?_⟩
      · simp only [E108, e108_0, e108_1, e108_4, e108_7, e108_8, e108_9, e108_12, e108_13, e108_16, e108_17, e108_20, e108_23, e108_24, e108_25, e108_28, e108_29, e108_30, e108_33, e108_34, e108_35, e108_37, e108_39, e108_42, e108_45, e108_47, e108_48, e108_50, e108_51, e108_54, e108_57, e108_59, e108_60, e108_61, e108_62, e108_65, e108_66, e108_69, e108_70, e108_73, e108_76, e108_77, e108_78, e108_81, e108_83, e108_84, e108_85, e108_88, e108_90, e108_91, e108_94, e108_95, e108_96, e108_99, e108_102, e108_104, e108_105, e108_107, e108_110, e108_111, e108_113, e108_114, e108_115, zt0, zt1, zn3, not_false_eq_true, toListS, toListN, zk_some, zpi, if_true, if_false, i10, C120, h, zin_nI (show r < 3 by omega) (show 3 < 2 ^ 31 by decide), nI_clamp (show r < 2 ^ 31 by omega), D61, e2, p0, C62 X _ _ G (4 + r) n _ e2 hlq, g, hz, hc]
      · have e2x : u2 M (15, 4 + r, 0) k (-1) (31, 0, 0) r = nI n := e2'
        simp only [E219, e219_0, e219_1, e219_4, e219_7, e219_8, e219_9, e219_12, e219_13, e219_14, e219_17, e219_20, e219_21, e219_22, e219_25, e219_26, e219_27, e219_30, e219_31, e219_32, e219_35, e219_37, e219_38, e219_39, e219_40, e219_41, e219_42, e219_45, e219_46, e219_47, e219_48, e219_49, e219_50, e219_53, e219_56, e219_58, e219_59, e219_60, e219_61, e219_64, e219_66, e219_69, e219_70, e219_73, e219_74, e219_77, e219_78, e219_79, e219_80, e219_82, e219_83, e219_84, e219_87, e219_89, e219_90, e219_93, e219_94, e219_95, e219_98, e219_101, e219_103, e219_104, e219_105, e219_108, e219_110, e219_111, e219_112, e219_113, e219_114, e219_116, e219_117, e219_118, zt0, zt1, zn3, not_false_eq_true, toListS, toListN, zk_some, zpi, if_true, if_false, i10, C216, h, zin_nI (show r < 3 by omega) (show 3 < 2 ^ 31 by decide), nI_clamp (show r < 2 ^ 31 by omega), e2x, p0, C128, j_0, Int32.toInt_toInt64, szj (show n ≤ 20 by omega), g', n9, hz2, hc2]
      · refine cI_o (i.2.2.2.2.1 l hl) rfl rfl (fun w hw => ?_) (fun w hw => rfl)
        simp only [flR_n, u2_n, cpK_n, ne_eq, Nat.reduceEqDiff, not_false_eq_true, u2_same, u2_k (k15 hl r).symm]
      · show cJ _ r'
        by_cases e : r' = r
        · subst e
          refine ⟨e1, Or.inr ⟨n, hn, e2, e3, ⟨kq', hkq, e4⟩, fun w hw => ?_⟩⟩
          by_cases ew : w = k
          · subst ew
            refine Or.inl ⟨?_, ?_⟩
            · simp only [flR_n, u2_n, cpK_n, ne_eq, Nat.reduceEqDiff, not_false_eq_true, u2_same]
            · simp only [flR_n, u2_n, cpK_n, ne_eq, Nat.reduceEqDiff, not_false_eq_true, u2_same]
          · have q1 : u2 (u2 M (15, 4 + r', 0) k (-1)) (32, 0, 0) (9 * r' + k) (-9) (15, 4 + r', 0) w = M (15, 4 + r', 0) w := by
              simp only [flR_n, u2_n, cpK_n, ne_eq, Nat.reduceEqDiff, not_false_eq_true, u2_same, u2_f ew]
            have q2 : u2 (u2 M (15, 4 + r', 0) k (-1)) (32, 0, 0) (9 * r' + k) (-9) (32, 0, 0) (9 * r' + w) = M (32, 0, 0) (9 * r' + w) := by
              rw [u2_f (by omega)]
              simp only [flR_n, u2_n, cpK_n, ne_eq, Nat.reduceEqDiff, not_false_eq_true, u2_same]
            rw [q1, q2]
            exact e5 w hw
        · refine cJ_o (i.2.2.2.2.2 r' hr') rfl rfl (fun w hw => ?_) (fun w hw => ?_) rfl rfl
          · simp only [flR_n, u2_n, cpK_n, ne_eq, Nat.reduceEqDiff, not_false_eq_true, u2_same, u2_k (jq e)]
          · rw [u2_f (by omega)]
            simp only [flR_n, u2_n, cpK_n, ne_eq, Nat.reduceEqDiff, not_false_eq_true, u2_same]
