section TT
variable (X : Nat × (Nat → Int32) × Value) (d : Nat) (M : zM) (G : zG)
theorem T55 (al0 bl0 : Nat) : zd X (d + 9) 55 [vR (3, al0, bl0)] (hh M G) = none := by
  simp only [E55, e55_0, e55_1, e55_4, e55_5, e55_8, e55_9, e55_12, e55_13, e55_16, e55_17, e55_20, e55_21, zk_some, Option.toList_some, Option.toList_none, List.cons_append, List.nil_append, zpi]
theorem T56 (al0 bl0 : Nat) (al1 bl1 : Nat) : zd X (d + 9) 56 [vR (3, al0, bl0), vR (5, al1, bl1)] (hh M G) = none := by
  simp only [E56, e56_0, e56_1, e56_4, e56_5, e56_8, e56_9, e56_12, e56_13, e56_16, e56_17, e56_18, e56_19, e56_20, e56_21, e56_24, e56_25, e56_28, e56_29, e56_30, e56_33, e56_34, e56_35, e56_36, e56_37, e56_40, e56_43, e56_44, e56_47, e56_48, e56_51, zk_some, Option.toList_some, Option.toList_none, List.cons_append, List.nil_append, zpi]
theorem T59 (al0 bl0 : Nat) (l1 : Int32) : zd X (d + 9) 59 [vR (3, al0, bl0), vI l1] (hh M G) = none := by
  simp only [E59, e59_0, e59_1, e59_4, e59_32, e59_33, e59_34, e59_37, e59_38, e59_39, e59_41, e59_42, e59_43, e59_44, e59_45, e59_46, e59_49, e59_50, e59_51, e59_54, e59_55, e59_58, e59_61, e59_62, e59_63, e59_64, e59_67, zk_some, Option.toList_some, Option.toList_none, List.cons_append, List.nil_append, zpi]
theorem T69 (al0 bl0 : Nat) (l1 : Int32) : zd X (d + 9) 69 [vR (5, al0, bl0), vI l1] (hh M G) = none := by
  simp only [E69, e69_0, e69_1, e69_4, e69_5, e69_8, e69_9, e69_10, e69_13, e69_14, e69_15, e69_16, e69_17, e69_20, e69_21, e69_22, e69_23, e69_24, e69_27, e69_28, e69_31, e69_32, zk_some, Option.toList_some, Option.toList_none, List.cons_append, List.nil_append, zpi]
theorem T70 (al0 bl0 : Nat) (l1 : Int32) : zd X (d + 9) 70 [vR (5, al0, bl0), vI l1] (hh M G) = none := by
  simp only [E70, e70_0, e70_1, e70_4, e70_5, e70_6, e70_7, e70_10, e70_11, e70_12, e70_15, e70_16, e70_17, e70_18, e70_21, e70_22, e70_25, e70_26, zk_some, Option.toList_some, Option.toList_none, List.cons_append, List.nil_append, zpi]
theorem T2 (al0 : Nat) (l1 : Int32) : zd X (d + 9) 2 [vR (0, al0, 0), vI l1] (hh M G) = none := by
  simp only [E2, e2_0, e2_1, e2_4, e2_5, e2_6, e2_9, e2_12, e2_13, e2_16, e2_17, zk_some, Option.toList_some, Option.toList_none, List.cons_append, List.nil_append, zpi]
theorem T3 (al0 : Nat) (l1 : Int32) : zd X (d + 9) 3 [vR (0, al0, 0), vI l1] (hh M G) = none := by
  simp only [E3, e3_0, e3_1, e3_4, e3_5, e3_6, e3_9, e3_12, e3_13, e3_16, e3_17, zk_some, Option.toList_some, Option.toList_none, List.cons_append, List.nil_append, zpi]
theorem T61 (al0 : Nat) : zd X (d + 9) 61 [vR (4, al0, 0)] (hh M G) = none := by
  simp only [E61, e61_0, e61_1, e61_4, e61_7, e61_8, e61_11, e61_12, zk_some, Option.toList_some, Option.toList_none, List.cons_append, List.nil_append, zpi]
theorem T62 (al0 : Nat) (l1 : Int32) : zd X (d + 9) 62 [vR (4, al0, 0), vI l1] (hh M G) = none := by
  simp only [E62, e62_0, e62_1, e62_4, e62_5, e62_6, e62_9, e62_12, e62_13, e62_14, e62_17, e62_18, e62_21, e62_22, e62_25, e62_26, zk_some, Option.toList_some, Option.toList_none, List.cons_append, List.nil_append, zpi]
end TT
