/-! VESSELS AND PIPES of the class -/
section DV
variable (X : Nat × (Nat → Int32) × Value) (d : Nat) (M : zM) (G : zG)
def sHt (V : Nat → Nat → Int32) (j : Nat) : Int32 := V j 1 * V j 0 + V j 3
def sBr (V : Nat → Nat → Int32) (j : Nat) : Int32 := V j 0 * V j 2
def vw (M : zM) (b : Nat) : Nat → Nat → Int32 := fun j f => M (5, b, j) f
def pw (M : zM) (b : Nat) : Nat → Nat → Int32 := fun p g => M (3, b, p) g
theorem D67 (b j : Nat) : zd X d 67 [vR (5, b, j)] (hh M G) = some (some (vI (sBr (vw M b) j)), hh M G) := by
  simp only [E67, e67_0, e67_1, e67_4, e67_5, e67_8, e67_9, zk_some, Option.toList_some, Option.toList_none, List.cons_append, List.nil_append, sBr, vw]
theorem D68 (b j : Nat) : zd X d 68 [vR (5, b, j)] (hh M G) = some (some (vI (sHt (vw M b) j)), hh M G) := by
  simp only [E68, e68_0, e68_1, e68_4, e68_5, e68_8, e68_9, e68_10, e68_13, e68_14, zk_some, Option.toList_some, Option.toList_none, List.cons_append, List.nil_append, sHt, vw]
theorem D71 (b j b2 j2 : Nat) : zd X (d + 1) 71 [vR (5, b, j), vR (5, b2, j2)] (hh M G) = some (some (vI (sHt (vw M b) j * vw M b2 j2 0 - sHt (vw M b2) j2 * vw M b j 0)), hh M G) := by
  simp only [E71, e71_0, e71_1, e71_4, e71_5, e71_8, e71_9, e71_10, e71_13, e71_14, e71_17, e71_18, e71_19, zk_some, Option.toList_some, Option.toList_none, List.cons_append, List.nil_append, D68, vw]
theorem D69 (b j : Nat) (m : Int32) : zd X d 69 [vR (5, b, j), vI m] (hh M G) = some (some (vI (if m * vw M b j 0 < sHt (vw M b) j then sHt (vw M b) j else m * vw M b j 0)), hh M G) := by
  simp only [E69, e69_0, e69_1, e69_4, e69_5, e69_8, e69_9, e69_10, e69_13, e69_14, e69_15, e69_16, e69_17, e69_20, e69_21, e69_22, e69_23, e69_24, e69_27, e69_28, e69_31, e69_32, vw, sHt]
  sorry
end DV
