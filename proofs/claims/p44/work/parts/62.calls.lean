/-! WHAT THE CALLS ANSWER, of the class alone -/
theorem ag_r (nv np : Nat) (B : zB) : ag nv np B B := ⟨fun _ _ => rfl, fun _ _ _ _ => rfl, fun _ _ _ _ _ => rfl⟩
theorem ST_h {M : zM} {nv np : Nat} (v : vb (gb M 0) nv np) (o : M (0, 0, 0) 6 = 0) : ST M nv np := by
  have v' := v
  obtain ⟨⟨e2, e3, n5, n8, -⟩, -⟩ := v'
  have g6 : (gb M 0).1 6 = 0 := o
  have c1 : ag nv np (gb M 0) (bc M nv np) := cpB_ag g6
  exact ⟨n5, n8, e2, e3, trivial, trivial, v, o, trivial, ag_r _ _ _, ag_v g6 c1 v, ag_s g6 c1, v⟩
theorem Y113_0 (X : Nat × (Nat → Int32) × Value) (M : zM) (G : zG) {nv np : Nat} (s : ST M nv np) : zd X 8 113 [vR (6, 0, 0), vI 0] (hh M G) = some (some (vI (nI nv)), hh M G) := by
  obtain ⟨n5, n8, e2, e3, -, -, v, o6, -, a, vc, ac, vm⟩ := s
  simp only [E113, e113_0, e113_1, e113_3, e113_6, e113_7, e113_9, e113_12, e113_13, e113_16, e113_17, e113_19, e113_20, e113_21, e113_22, e113_23, e113_60, e113_61, e113_64, e113_67, e113_68, e113_69, e113_72, e113_75, e113_76, e113_77, e113_80, e113_83, e113_84, e113_85, e113_88, e113_91, e113_92, e113_93, e113_96, e113_99, e113_100, e113_101, e113_104, e113_107, e113_108, e113_110, zt0, zt1, zn3, not_false_eq_true, toListS, toListN, zk_some, zpi, if_true, if_false, i10, show ((0 : Int32) < 11) = True by decide, q_lt_0_0, q_le_0_0, q_lt_0_1, q_le_0_1, q_eq_0_1, q_lt_0_2, q_le_0_2, q_eq_0_2, q_lt_0_3, q_le_0_3, q_eq_0_3, q_lt_0_4, q_le_0_4, q_eq_0_4, q_lt_0_5, q_le_0_5, q_eq_0_5, e2]
theorem Y113_1 (X : Nat × (Nat → Int32) × Value) (M : zM) (G : zG) {nv np : Nat} (s : ST M nv np) : zd X 8 113 [vR (6, 0, 0), vI 1] (hh M G) = some (some (vI (nI np)), hh M G) := by
  obtain ⟨n5, n8, e2, e3, -, -, v, o6, -, a, vc, ac, vm⟩ := s
  simp only [E113, e113_0, e113_1, e113_3, e113_6, e113_7, e113_9, e113_12, e113_13, e113_16, e113_17, e113_19, e113_20, e113_21, e113_22, e113_23, e113_60, e113_61, e113_64, e113_67, e113_68, e113_69, e113_72, e113_75, e113_76, e113_77, e113_80, e113_83, e113_84, e113_85, e113_88, e113_91, e113_92, e113_93, e113_96, e113_99, e113_100, e113_101, e113_104, e113_107, e113_108, e113_110, zt0, zt1, zn3, not_false_eq_true, toListS, toListN, zk_some, zpi, if_true, if_false, i10, show ((1 : Int32) < 11) = True by decide, q_lt_1_0, q_le_1_0, q_eq_1_0, q_lt_1_1, q_le_1_1, q_lt_1_2, q_le_1_2, q_eq_1_2, q_lt_1_3, q_le_1_3, q_eq_1_3, q_lt_1_4, q_le_1_4, q_eq_1_4, q_lt_1_5, q_le_1_5, q_eq_1_5, e3]
theorem Y100 (X : Nat × (Nat → Int32) × Value) (M : zM) (G : zG) {nv np : Nat} (s : ST M nv np) : zd X 8 100 [vR (6, 0, 0)] (hh M G) = some (some (vI (sal (vw M 0) (M (0, 0, 0) 4) nv)), hh M G) := by
  obtain ⟨n5, n8, e2, e3, -, -, v, o6, -, a, vc, ac, vm⟩ := s
  have l := zlf (n := nv) (f := fun k => zx X 8 100 10 [vR (6, 0, 0), vI (sal (vw M 0) (M (0, 0, 0) 4) k), vI (nI k)] [] (hh M G)) (fun k hk w ew => by
    have hk5 : k < 5 := by omega
    simp only [e100_10, e100_11, e100_12, e100_15, e100_18, e2, nle (show nv < 2 ^ 31 by omega) (show k < 2 ^ 31 by omega)]
    rw [if_neg (by omega)]
    simp only [e100_21, e100_22, e100_23, e100_26, e100_29, e100_30, e100_31, e100_34, e100_35, e100_36, e100_39, zt0, zt1, zn3, not_false_eq_true, toListS, toListN, zk_some, zpi, z5 hk5, cl5 hk5, nI_1]
    exact ew) nv 0 (by omega)
  rw [nI_0] at l
  simp only [e100_0, e100_1, e100_4, e100_7, e100_8, e100_9, E100, zt0, zt1, zn3, not_false_eq_true, toListS, toListN, zk_some, zpi]
  refine Eq.trans l ?_
  simp only [e100_10, e100_11, e100_12, e100_15, e100_18, e2, nle (show nv < 2 ^ 31 by omega) (show nv < 2 ^ 31 by omega)]
  rw [if_pos (Nat.le_refl _)]
  simp only [e100_42, e100_43]
theorem Y82_0_7 (X : Nat × (Nat → Int32) × Value) (M : zM) (G : zG) {nv : Nat} (n5 : nv ≤ 5) (e2 : M (0, 0, 0) 2 = nI nv) (j : Nat) (hj : j < nv) : zd X 7 82 [vR (6, 0, 0), vI (nI j), vI 0] (hh M G) = some (some (vI (M (5, 0, j) 0)), hh M G) := by
  have hj5 : j < 5 := by omega
  have h : isx nv (nI j) = 1 := isx_y hj (by omega)
  simp only [E82, e82_0, e82_1, e82_4, e82_5, e82_8, e82_11, e82_12, e82_13, e82_16, e82_17, e82_18, e82_21, e82_24, e82_25, e82_26, e82_27, e82_28, e82_64, e82_65, e82_68, e82_69, e82_70, e82_73, e82_74, e82_75, e82_78, e82_79, e82_80, e82_83, e82_84, e82_85, e82_88, e82_89, e82_90, e82_92, e82_95, zt0, zt1, zn3, not_false_eq_true, toListS, toListN, zk_some, zpi, if_true, if_false, i10, C2x X _ M G nv e2 n5, h, z5 hj5, cl5 hj5, q_lt_0_0, q_le_0_0, q_lt_0_1, q_le_0_1, q_eq_0_1, q_lt_0_2, q_le_0_2, q_eq_0_2, q_lt_0_3, q_le_0_3, q_eq_0_3, q_lt_0_4, q_le_0_4, q_eq_0_4]
theorem Y82_1_7 (X : Nat × (Nat → Int32) × Value) (M : zM) (G : zG) {nv : Nat} (n5 : nv ≤ 5) (e2 : M (0, 0, 0) 2 = nI nv) (j : Nat) (hj : j < nv) : zd X 7 82 [vR (6, 0, 0), vI (nI j), vI 1] (hh M G) = some (some (vI (M (5, 0, j) 1)), hh M G) := by
  have hj5 : j < 5 := by omega
  have h : isx nv (nI j) = 1 := isx_y hj (by omega)
  simp only [E82, e82_0, e82_1, e82_4, e82_5, e82_8, e82_11, e82_12, e82_13, e82_16, e82_17, e82_18, e82_21, e82_24, e82_25, e82_26, e82_27, e82_28, e82_64, e82_65, e82_68, e82_69, e82_70, e82_73, e82_74, e82_75, e82_78, e82_79, e82_80, e82_83, e82_84, e82_85, e82_88, e82_89, e82_90, e82_92, e82_95, zt0, zt1, zn3, not_false_eq_true, toListS, toListN, zk_some, zpi, if_true, if_false, i10, C2x X _ M G nv e2 n5, h, z5 hj5, cl5 hj5, q_lt_1_0, q_le_1_0, q_eq_1_0, q_lt_1_1, q_le_1_1, q_lt_1_2, q_le_1_2, q_eq_1_2, q_lt_1_3, q_le_1_3, q_eq_1_3, q_lt_1_4, q_le_1_4, q_eq_1_4]
theorem Y82_2_7 (X : Nat × (Nat → Int32) × Value) (M : zM) (G : zG) {nv : Nat} (n5 : nv ≤ 5) (e2 : M (0, 0, 0) 2 = nI nv) (j : Nat) (hj : j < nv) : zd X 7 82 [vR (6, 0, 0), vI (nI j), vI 2] (hh M G) = some (some (vI (M (5, 0, j) 2)), hh M G) := by
  have hj5 : j < 5 := by omega
  have h : isx nv (nI j) = 1 := isx_y hj (by omega)
  simp only [E82, e82_0, e82_1, e82_4, e82_5, e82_8, e82_11, e82_12, e82_13, e82_16, e82_17, e82_18, e82_21, e82_24, e82_25, e82_26, e82_27, e82_28, e82_64, e82_65, e82_68, e82_69, e82_70, e82_73, e82_74, e82_75, e82_78, e82_79, e82_80, e82_83, e82_84, e82_85, e82_88, e82_89, e82_90, e82_92, e82_95, zt0, zt1, zn3, not_false_eq_true, toListS, toListN, zk_some, zpi, if_true, if_false, i10, C2x X _ M G nv e2 n5, h, z5 hj5, cl5 hj5, q_lt_2_0, q_le_2_0, q_eq_2_0, q_lt_2_1, q_le_2_1, q_eq_2_1, q_lt_2_2, q_le_2_2, q_lt_2_3, q_le_2_3, q_eq_2_3, q_lt_2_4, q_le_2_4, q_eq_2_4]
theorem Y82_3_7 (X : Nat × (Nat → Int32) × Value) (M : zM) (G : zG) {nv : Nat} (n5 : nv ≤ 5) (e2 : M (0, 0, 0) 2 = nI nv) (j : Nat) (hj : j < nv) : zd X 7 82 [vR (6, 0, 0), vI (nI j), vI 3] (hh M G) = some (some (vI (M (5, 0, j) 3)), hh M G) := by
  have hj5 : j < 5 := by omega
  have h : isx nv (nI j) = 1 := isx_y hj (by omega)
  simp only [E82, e82_0, e82_1, e82_4, e82_5, e82_8, e82_11, e82_12, e82_13, e82_16, e82_17, e82_18, e82_21, e82_24, e82_25, e82_26, e82_27, e82_28, e82_64, e82_65, e82_68, e82_69, e82_70, e82_73, e82_74, e82_75, e82_78, e82_79, e82_80, e82_83, e82_84, e82_85, e82_88, e82_89, e82_90, e82_92, e82_95, zt0, zt1, zn3, not_false_eq_true, toListS, toListN, zk_some, zpi, if_true, if_false, i10, C2x X _ M G nv e2 n5, h, z5 hj5, cl5 hj5, q_lt_3_0, q_le_3_0, q_eq_3_0, q_lt_3_1, q_le_3_1, q_eq_3_1, q_lt_3_2, q_le_3_2, q_eq_3_2, q_lt_3_3, q_le_3_3, q_lt_3_4, q_le_3_4, q_eq_3_4]
theorem Y82_4_7 (X : Nat × (Nat → Int32) × Value) (M : zM) (G : zG) {nv : Nat} (n5 : nv ≤ 5) (e2 : M (0, 0, 0) 2 = nI nv) (j : Nat) (hj : j < nv) : zd X 7 82 [vR (6, 0, 0), vI (nI j), vI 4] (hh M G) = some (some (vI (M (5, 0, j) 4)), hh M G) := by
  have hj5 : j < 5 := by omega
  have h : isx nv (nI j) = 1 := isx_y hj (by omega)
  simp only [E82, e82_0, e82_1, e82_4, e82_5, e82_8, e82_11, e82_12, e82_13, e82_16, e82_17, e82_18, e82_21, e82_24, e82_25, e82_26, e82_27, e82_28, e82_64, e82_65, e82_68, e82_69, e82_70, e82_73, e82_74, e82_75, e82_78, e82_79, e82_80, e82_83, e82_84, e82_85, e82_88, e82_89, e82_90, e82_92, e82_95, zt0, zt1, zn3, not_false_eq_true, toListS, toListN, zk_some, zpi, if_true, if_false, i10, C2x X _ M G nv e2 n5, h, z5 hj5, cl5 hj5, q_lt_4_0, q_le_4_0, q_eq_4_0, q_lt_4_1, q_le_4_1, q_eq_4_1, q_lt_4_2, q_le_4_2, q_eq_4_2, q_lt_4_3, q_le_4_3, q_eq_4_3, q_lt_4_4, q_le_4_4]
theorem Y82_0_8 (X : Nat × (Nat → Int32) × Value) (M : zM) (G : zG) {nv : Nat} (n5 : nv ≤ 5) (e2 : M (0, 0, 0) 2 = nI nv) (j : Nat) (hj : j < nv) : zd X 8 82 [vR (6, 0, 0), vI (nI j), vI 0] (hh M G) = some (some (vI (M (5, 0, j) 0)), hh M G) := by
  have hj5 : j < 5 := by omega
  have h : isx nv (nI j) = 1 := isx_y hj (by omega)
  simp only [E82, e82_0, e82_1, e82_4, e82_5, e82_8, e82_11, e82_12, e82_13, e82_16, e82_17, e82_18, e82_21, e82_24, e82_25, e82_26, e82_27, e82_28, e82_64, e82_65, e82_68, e82_69, e82_70, e82_73, e82_74, e82_75, e82_78, e82_79, e82_80, e82_83, e82_84, e82_85, e82_88, e82_89, e82_90, e82_92, e82_95, zt0, zt1, zn3, not_false_eq_true, toListS, toListN, zk_some, zpi, if_true, if_false, i10, C2x X _ M G nv e2 n5, h, z5 hj5, cl5 hj5, q_lt_0_0, q_le_0_0, q_lt_0_1, q_le_0_1, q_eq_0_1, q_lt_0_2, q_le_0_2, q_eq_0_2, q_lt_0_3, q_le_0_3, q_eq_0_3, q_lt_0_4, q_le_0_4, q_eq_0_4]
theorem Y82_1_8 (X : Nat × (Nat → Int32) × Value) (M : zM) (G : zG) {nv : Nat} (n5 : nv ≤ 5) (e2 : M (0, 0, 0) 2 = nI nv) (j : Nat) (hj : j < nv) : zd X 8 82 [vR (6, 0, 0), vI (nI j), vI 1] (hh M G) = some (some (vI (M (5, 0, j) 1)), hh M G) := by
  have hj5 : j < 5 := by omega
  have h : isx nv (nI j) = 1 := isx_y hj (by omega)
  simp only [E82, e82_0, e82_1, e82_4, e82_5, e82_8, e82_11, e82_12, e82_13, e82_16, e82_17, e82_18, e82_21, e82_24, e82_25, e82_26, e82_27, e82_28, e82_64, e82_65, e82_68, e82_69, e82_70, e82_73, e82_74, e82_75, e82_78, e82_79, e82_80, e82_83, e82_84, e82_85, e82_88, e82_89, e82_90, e82_92, e82_95, zt0, zt1, zn3, not_false_eq_true, toListS, toListN, zk_some, zpi, if_true, if_false, i10, C2x X _ M G nv e2 n5, h, z5 hj5, cl5 hj5, q_lt_1_0, q_le_1_0, q_eq_1_0, q_lt_1_1, q_le_1_1, q_lt_1_2, q_le_1_2, q_eq_1_2, q_lt_1_3, q_le_1_3, q_eq_1_3, q_lt_1_4, q_le_1_4, q_eq_1_4]
theorem Y82_2_8 (X : Nat × (Nat → Int32) × Value) (M : zM) (G : zG) {nv : Nat} (n5 : nv ≤ 5) (e2 : M (0, 0, 0) 2 = nI nv) (j : Nat) (hj : j < nv) : zd X 8 82 [vR (6, 0, 0), vI (nI j), vI 2] (hh M G) = some (some (vI (M (5, 0, j) 2)), hh M G) := by
  have hj5 : j < 5 := by omega
  have h : isx nv (nI j) = 1 := isx_y hj (by omega)
  simp only [E82, e82_0, e82_1, e82_4, e82_5, e82_8, e82_11, e82_12, e82_13, e82_16, e82_17, e82_18, e82_21, e82_24, e82_25, e82_26, e82_27, e82_28, e82_64, e82_65, e82_68, e82_69, e82_70, e82_73, e82_74, e82_75, e82_78, e82_79, e82_80, e82_83, e82_84, e82_85, e82_88, e82_89, e82_90, e82_92, e82_95, zt0, zt1, zn3, not_false_eq_true, toListS, toListN, zk_some, zpi, if_true, if_false, i10, C2x X _ M G nv e2 n5, h, z5 hj5, cl5 hj5, q_lt_2_0, q_le_2_0, q_eq_2_0, q_lt_2_1, q_le_2_1, q_eq_2_1, q_lt_2_2, q_le_2_2, q_lt_2_3, q_le_2_3, q_eq_2_3, q_lt_2_4, q_le_2_4, q_eq_2_4]
theorem Y82_3_8 (X : Nat × (Nat → Int32) × Value) (M : zM) (G : zG) {nv : Nat} (n5 : nv ≤ 5) (e2 : M (0, 0, 0) 2 = nI nv) (j : Nat) (hj : j < nv) : zd X 8 82 [vR (6, 0, 0), vI (nI j), vI 3] (hh M G) = some (some (vI (M (5, 0, j) 3)), hh M G) := by
  have hj5 : j < 5 := by omega
  have h : isx nv (nI j) = 1 := isx_y hj (by omega)
  simp only [E82, e82_0, e82_1, e82_4, e82_5, e82_8, e82_11, e82_12, e82_13, e82_16, e82_17, e82_18, e82_21, e82_24, e82_25, e82_26, e82_27, e82_28, e82_64, e82_65, e82_68, e82_69, e82_70, e82_73, e82_74, e82_75, e82_78, e82_79, e82_80, e82_83, e82_84, e82_85, e82_88, e82_89, e82_90, e82_92, e82_95, zt0, zt1, zn3, not_false_eq_true, toListS, toListN, zk_some, zpi, if_true, if_false, i10, C2x X _ M G nv e2 n5, h, z5 hj5, cl5 hj5, q_lt_3_0, q_le_3_0, q_eq_3_0, q_lt_3_1, q_le_3_1, q_eq_3_1, q_lt_3_2, q_le_3_2, q_eq_3_2, q_lt_3_3, q_le_3_3, q_lt_3_4, q_le_3_4, q_eq_3_4]
theorem Y82_4_8 (X : Nat × (Nat → Int32) × Value) (M : zM) (G : zG) {nv : Nat} (n5 : nv ≤ 5) (e2 : M (0, 0, 0) 2 = nI nv) (j : Nat) (hj : j < nv) : zd X 8 82 [vR (6, 0, 0), vI (nI j), vI 4] (hh M G) = some (some (vI (M (5, 0, j) 4)), hh M G) := by
  have hj5 : j < 5 := by omega
  have h : isx nv (nI j) = 1 := isx_y hj (by omega)
  simp only [E82, e82_0, e82_1, e82_4, e82_5, e82_8, e82_11, e82_12, e82_13, e82_16, e82_17, e82_18, e82_21, e82_24, e82_25, e82_26, e82_27, e82_28, e82_64, e82_65, e82_68, e82_69, e82_70, e82_73, e82_74, e82_75, e82_78, e82_79, e82_80, e82_83, e82_84, e82_85, e82_88, e82_89, e82_90, e82_92, e82_95, zt0, zt1, zn3, not_false_eq_true, toListS, toListN, zk_some, zpi, if_true, if_false, i10, C2x X _ M G nv e2 n5, h, z5 hj5, cl5 hj5, q_lt_4_0, q_le_4_0, q_eq_4_0, q_lt_4_1, q_le_4_1, q_eq_4_1, q_lt_4_2, q_le_4_2, q_eq_4_2, q_lt_4_3, q_le_4_3, q_eq_4_3, q_lt_4_4, q_le_4_4]
theorem Y83_0 (X : Nat × (Nat → Int32) × Value) (M : zM) (G : zG) {nv np : Nat} (s : ST M nv np) (p : Nat) (hp : p < np) : zd X 8 83 [vR (6, 0, 0), vI (nI p), vI 0] (hh M G) = some (some (vI (M (3, 0, p) 5)), hh M G) := by
  obtain ⟨n5, n8, e2, e3, -, -, v, o6, -, a, vc, ac, vm⟩ := s
  have hp8 : p < 8 := by omega
  have h : isx np (nI p) = 1 := isx_y hp (by omega)
  simp only [E83, e83_0, e83_1, e83_4, e83_5, e83_8, e83_11, e83_12, e83_13, e83_16, e83_17, e83_18, e83_21, e83_24, e83_25, e83_26, e83_27, e83_28, e83_80, e83_81, e83_84, e83_85, e83_86, e83_89, e83_90, e83_91, e83_94, e83_95, e83_96, e83_99, e83_100, e83_101, e83_104, e83_105, e83_106, e83_109, e83_110, e83_111, e83_114, e83_115, e83_116, e83_119, e83_122, e83_123, e83_126, e83_127, e83_128, e83_129, e83_132, e83_133, e83_136, e83_137, e83_138, e83_140, e83_143, zt0, zt1, zn3, not_false_eq_true, toListS, toListN, zk_some, zpi, if_true, if_false, i10, C3x X _ M G np e3 n8, h, z8 hp8, cl8 hp8, q_lt_0_0, q_le_0_0, q_lt_0_1, q_le_0_1, q_eq_0_1, q_lt_0_2, q_le_0_2, q_eq_0_2, q_lt_0_3, q_le_0_3, q_eq_0_3, q_lt_0_4, q_le_0_4, q_eq_0_4, q_lt_0_5, q_le_0_5, q_eq_0_5, q_lt_0_6, q_le_0_6, q_eq_0_6, q_lt_0_7, q_le_0_7, q_eq_0_7, q_lt_0_8, q_le_0_8, q_eq_0_8]
theorem Y83_1 (X : Nat × (Nat → Int32) × Value) (M : zM) (G : zG) {nv np : Nat} (s : ST M nv np) (p : Nat) (hp : p < np) : zd X 8 83 [vR (6, 0, 0), vI (nI p), vI 1] (hh M G) = some (some (vI (M (3, 0, p) 6)), hh M G) := by
  obtain ⟨n5, n8, e2, e3, -, -, v, o6, -, a, vc, ac, vm⟩ := s
  have hp8 : p < 8 := by omega
  have h : isx np (nI p) = 1 := isx_y hp (by omega)
  simp only [E83, e83_0, e83_1, e83_4, e83_5, e83_8, e83_11, e83_12, e83_13, e83_16, e83_17, e83_18, e83_21, e83_24, e83_25, e83_26, e83_27, e83_28, e83_80, e83_81, e83_84, e83_85, e83_86, e83_89, e83_90, e83_91, e83_94, e83_95, e83_96, e83_99, e83_100, e83_101, e83_104, e83_105, e83_106, e83_109, e83_110, e83_111, e83_114, e83_115, e83_116, e83_119, e83_122, e83_123, e83_126, e83_127, e83_128, e83_129, e83_132, e83_133, e83_136, e83_137, e83_138, e83_140, e83_143, zt0, zt1, zn3, not_false_eq_true, toListS, toListN, zk_some, zpi, if_true, if_false, i10, C3x X _ M G np e3 n8, h, z8 hp8, cl8 hp8, q_lt_1_0, q_le_1_0, q_eq_1_0, q_lt_1_1, q_le_1_1, q_lt_1_2, q_le_1_2, q_eq_1_2, q_lt_1_3, q_le_1_3, q_eq_1_3, q_lt_1_4, q_le_1_4, q_eq_1_4, q_lt_1_5, q_le_1_5, q_eq_1_5, q_lt_1_6, q_le_1_6, q_eq_1_6, q_lt_1_7, q_le_1_7, q_eq_1_7, q_lt_1_8, q_le_1_8, q_eq_1_8]
theorem Y83_6 (X : Nat × (Nat → Int32) × Value) (M : zM) (G : zG) {nv np : Nat} (s : ST M nv np) (p : Nat) (hp : p < np) : zd X 8 83 [vR (6, 0, 0), vI (nI p), vI 6] (hh M G) = some (some (vI (M (3, 0, p) 4)), hh M G) := by
  obtain ⟨n5, n8, e2, e3, -, -, v, o6, -, a, vc, ac, vm⟩ := s
  have hp8 : p < 8 := by omega
  have h : isx np (nI p) = 1 := isx_y hp (by omega)
  simp only [E83, e83_0, e83_1, e83_4, e83_5, e83_8, e83_11, e83_12, e83_13, e83_16, e83_17, e83_18, e83_21, e83_24, e83_25, e83_26, e83_27, e83_28, e83_80, e83_81, e83_84, e83_85, e83_86, e83_89, e83_90, e83_91, e83_94, e83_95, e83_96, e83_99, e83_100, e83_101, e83_104, e83_105, e83_106, e83_109, e83_110, e83_111, e83_114, e83_115, e83_116, e83_119, e83_122, e83_123, e83_126, e83_127, e83_128, e83_129, e83_132, e83_133, e83_136, e83_137, e83_138, e83_140, e83_143, zt0, zt1, zn3, not_false_eq_true, toListS, toListN, zk_some, zpi, if_true, if_false, i10, C3x X _ M G np e3 n8, h, z8 hp8, cl8 hp8, q_lt_6_0, q_le_6_0, q_eq_6_0, q_lt_6_1, q_le_6_1, q_eq_6_1, q_lt_6_2, q_le_6_2, q_eq_6_2, q_lt_6_3, q_le_6_3, q_eq_6_3, q_lt_6_4, q_le_6_4, q_eq_6_4, q_lt_6_5, q_le_6_5, q_eq_6_5, q_lt_6_6, q_le_6_6, q_lt_6_7, q_le_6_7, q_eq_6_7, q_lt_6_8, q_le_6_8, q_eq_6_8]
theorem Y111 (X : Nat × (Nat → Int32) × Value) (M : zM) (G : zG) {nv np : Nat} (s : ST M nv np) : zd X 8 111 [vR (6, 0, 0)] (hh M G) = some (some (vI (M (0, 0, 0) 5)), hh (u2 (cb M 1 (cpB nv np (gb M 1) (gb M 0))) (6, 0, 0) 2 1) G) := by
  have t10 := T10 X 6 G s
  have e5 : cb M 1 (cpB nv np (gb M 1) (gb M 0)) (0, 0, 0) 5 = M (0, 0, 0) 5 := rfl
  simp only [E111, e111_0, e111_1, e111_4, e111_5, e111_8, e111_11, e111_12, e111_13, e111_16, e111_17, e111_20, e111_23, zt0, zt1, zn3, not_false_eq_true, toListS, toListN, zk_some, zpi, if_true, if_false, i10, t10, e5, true_or, or_true, u2_k, ne_eq, Prod.mk.injEq, false_and, and_false, Nat.reduceEqDiff]
theorem Y112 (X : Nat × (Nat → Int32) × Value) (M : zM) (G : zG) {nv np : Nat} (v : vb (gb M 1) nv np) (k1 : M (6, 0, 0) 2 = 1) : zd X 8 112 [vR (6, 0, 0)] (hh M G) = some (some (vI (M (0, 1, 0) 5)), hh (cb M 0 (cpB nv np (gb M 0) (gb M 1))) G) := by
  have n5 := v.1.2.2.1
  have n8 := v.1.2.2.2.1
  have t10 : zd X 7 1 [vR (0, 0, 0), vR (0, 1, 0)] (hh M G) = some (none, hh (cb M 0 (cpB nv np (gb M 0) (gb M 1))) G) := by
    have q := B1 X 6 M G 0 1 (gb M 0) (by decide) nv np v.1.1 v.1.2.1 n5 n8 (fun p hp => (v.2.2.1 p hp).imp id And.left)
    rw [cb_self] at q
    exact q
  have e5 : cb M 0 (cpB nv np (gb M 0) (gb M 1)) (0, 0, 0) 5 = M (0, 1, 0) 5 := rfl
  simp only [E112, e112_0, e112_1, e112_4, e112_7, e112_8, e112_10, e112_13, e112_14, e112_15, e112_18, e112_19, e112_22, e112_25, e112_26, e112_29, e112_32, zt0, zt1, zn3, not_false_eq_true, toListS, toListN, zk_some, zpi, if_true, if_false, i10, k1, t10, e5]
theorem Y81 (X : Nat × (Nat → Int32) × Value) (M : zM) (G : zG) {nv np : Nat} (s : ST M nv np) (n : Nat) (h1 : 1 ≤ n) (h9 : n ≤ 99) : zd X 8 81 [vR (6, 0, 0), vI (nI n)] (hh M G) = some (some (vI ((bst nv np (gb M 0) n).1 5)), hh (cb M 0 (bst nv np (gb M 0) n)) G) := by
  obtain ⟨n5, n8, e2, e3, -, -, v, o6, -, a, vc, ac, vm⟩ := s
  have y1 : wrg (nI n) 1 99 = 0 := by
    unfold wrg
    rw [nI_int (by omega), if_neg (by omega), if_neg (by omega)]
  have c10 : zd X 7 10 [vR (0, 0, 0), vI (nI n)] (hh M G) = some (some (vI ((bst nv np (gb M 0) n).1 5)), hh (cb M 0 (bst nv np (gb M 0) n)) G) := by
    have l := L10 X 3 M G 0 v n (by omega) 0
    rw [cb_self] at l
    simp only [e10_0, e10_1, e10_2, e10_4, e10_7, e10_8, e10_9, e10_12, e10_13, e10_14, e10_15, E10, zt0, zt1, zn3, not_false_eq_true, toListS, toListN, zk_some, zpi, if_true, if_false, i10, C118, j_1, k_1, j_99, k_99, y1]
    exact l
  have f2 : 0 ≤ (bst nv np (gb M 0) n).1 5 := i_le.mpr (bst_v v n).2.2.2.2.2.1
  simp only [E81, e81_0, e81_1, e81_2, e81_5, e81_6, e81_9, e81_12, E116, e116_0, e116_1, e116_4, e116_5, e116_6, e116_9, e116_12, e116_13, zt0, zt1, zn3, not_false_eq_true, toListS, toListN, zk_some, zpi, if_true, if_false, i10, c10, f2]
theorem Y86_2 (X : Nat × (Nat → Int32) × Value) (M : zM) (G : zG) {nv np : Nat} (s : ST M nv np) (n : Nat) (h9 : n ≤ 99) : ∃ M', sm M M' ∧ zd X 8 86 [vR (6, 0, 0), vI (nI n), vI 2, vI 0] (hh M G) = some (some (vI ((bst nv np (gb M 0) n).1 4)), hh M' G) := by
  have s' := s
  obtain ⟨n5, n8, e2, e3, -, -, v, o6, -, a, vc, ac, vm⟩ := s
  have s := s'
  have q : wrg (nI n) 0 99 = 0 := by
    unfold wrg
    rw [nI_int (by omega), if_neg (by omega), if_neg (by omega)]
  have h : 0 < nv → isx nv 0 = 1 := fun hv => isx_y (j := 0) hv (by omega)
  have c30 := C30 X 2 M G s n (by omega)
  have ak := bst_c vc ac n
  have er : (bst nv np (bc M nv np) n).1 4 = (bst nv np (gb M 0) n).1 4 := ak.1 4 (by decide)
  refine ⟨_, sm_cb (b := 3) (B := bst nv np (bc M nv np) n) (by decide), ?_⟩
  rw [← er]
  simp only [E86, e86_0, e86_1, e86_2, e86_4, e86_7, e86_9, e86_11, e86_14, e86_15, e86_17, e86_20, e86_21, e86_22, e86_25, e86_26, e86_27, e86_30, e86_31, e86_33, e86_36, e86_37, e86_38, e86_41, e86_42, e86_45, e86_46, e86_49, e86_52, e86_53, e86_54, e86_57, e86_58, e86_61, e86_62, e86_65, e86_68, e86_69, e86_70, e86_73, e86_74, e86_75, e86_78, e86_79, e86_82, e86_83, e86_86, e86_88, e86_89, e86_92, e86_94, e86_97, e86_98, e86_99, e86_102, e86_103, e86_104, e86_105, e86_108, e86_110, e86_113, e86_114, e86_115, e86_118, e86_121, e86_122, e86_125, e86_126, e86_127, e86_129, e86_132, zt0, zt1, zn3, not_false_eq_true, toListS, toListN, zk_some, zpi, if_true, if_false, i10, C118, q, j_0, k_0, j_99, k_99, q_lt_2_0, q_le_2_0, q_eq_2_0, q_lt_2_1, q_le_2_1, q_eq_2_1, q_lt_2_2, q_le_2_2, c30, cb_S, cb_V, cb_P]
theorem Y86_0 (X : Nat × (Nat → Int32) × Value) (M : zM) (G : zG) {nv np : Nat} (s : ST M nv np) (n : Nat) (h9 : n ≤ 99) (hv : 0 < nv) : ∃ M', sm M M' ∧ zd X 8 86 [vR (6, 0, 0), vI (nI n), vI 0, vI 0] (hh M G) = some (some (vI ((bst nv np (gb M 0) n).2.1 0 3)), hh M' G) := by
  have s' := s
  obtain ⟨n5, n8, e2, e3, -, -, v, o6, -, a, vc, ac, vm⟩ := s
  have s := s'
  have q : wrg (nI n) 0 99 = 0 := by
    unfold wrg
    rw [nI_int (by omega), if_neg (by omega), if_neg (by omega)]
  have h : 0 < nv → isx nv 0 = 1 := fun hv => isx_y (j := 0) hv (by omega)
  have c30 := C30 X 2 M G s n (by omega)
  have ak := bst_c vc ac n
  have er : (bst nv np (bc M nv np) n).2.1 0 3 = (bst nv np (gb M 0) n).2.1 0 3 := ak.2.1 0 3 hv (by decide)
  refine ⟨_, sm_cb (b := 3) (B := bst nv np (bc M nv np) n) (by decide), ?_⟩
  rw [← er]
  simp only [E86, e86_0, e86_1, e86_2, e86_4, e86_7, e86_9, e86_11, e86_14, e86_15, e86_17, e86_20, e86_21, e86_22, e86_25, e86_26, e86_27, e86_30, e86_31, e86_33, e86_36, e86_37, e86_38, e86_41, e86_42, e86_45, e86_46, e86_49, e86_52, e86_53, e86_54, e86_57, e86_58, e86_61, e86_62, e86_65, e86_68, e86_69, e86_70, e86_73, e86_74, e86_75, e86_78, e86_79, e86_82, e86_83, e86_86, e86_88, e86_89, e86_92, e86_94, e86_97, e86_98, e86_99, e86_102, e86_103, e86_104, e86_105, e86_108, e86_110, e86_113, e86_114, e86_115, e86_118, e86_121, e86_122, e86_125, e86_126, e86_127, e86_129, e86_132, zt0, zt1, zn3, not_false_eq_true, toListS, toListN, zk_some, zpi, if_true, if_false, i10, C118, q, j_0, k_0, j_99, k_99, q_lt_0_0, q_le_0_0, q_lt_0_1, q_le_0_1, q_eq_0_1, q_lt_0_2, q_le_0_2, q_eq_0_2, C2x X _ M G nv e2 n5, h hv, zin_nI (show 0 < 5 by decide) (show 5 < 2 ^ 31 by decide), show nI 0 = (0 : Int32) from rfl, show zin 0 5 = true by decide, show (0 : Int32).toNatClampNeg = 0 by decide, c30, cb_S, cb_V, cb_P]
theorem Y87 (X : Nat × (Nat → Int32) × Value) (M : zM) (G : zG) {nv np : Nat} (s : ST M nv np) (j : Nat) (hj : j < nv) : ∃ M', sm M M' ∧ zd X 8 87 [vR (6, 0, 0), vI (nI j)] (hh M G) = some (some (vI (fnd (Qov nv np (gb M 0) (nI j)) 1 200)), hh M' G) := by
  have s' := s
  obtain ⟨n5, n8, e2, e3, -, -, v, o6, -, a, vc, ac, vm⟩ := s
  have s := s'
  have h : isx nv (nI j) = 1 := isx_y hj (by omega)
  obtain ⟨B', c⟩ := C32 X 3 G s (nI j)
  have e : fnd (Qov nv np (bc M nv np) (nI j)) 1 200 = fnd (Qov nv np (gb M 0) (nI j)) 1 200 := fnd_c _ _ fun k h1 _ => by
    obtain ⟨k, rfl⟩ : ∃ q, k = q + 1 := ⟨k - 1, by omega⟩
    unfold Qov
    rw [(bst_78 vc ac k).2]
    rfl
  rw [e] at c
  refine ⟨_, sm_cb (b := 3) (B := B') (by decide), ?_⟩
  simp only [E87, e87_0, e87_1, e87_4, e87_5, e87_8, e87_11, e87_12, e87_15, e87_16, e87_19, e87_20, e87_23, e87_26, e87_27, e87_28, e87_31, zt0, zt1, zn3, not_false_eq_true, toListS, toListN, zk_some, zpi, if_true, if_false, i10, C2x X _ M G nv e2 n5, h, c]
theorem Y99 (X : Nat × (Nat → Int32) × Value) (M : zM) (G : zG) {nv np : Nat} (s : ST M nv np) (t l : Nat) (ht : 2 ≤ t) (ht2 : t ≤ 20) (hl : l ≤ 1) : ∃ M', sm M M' ∧ zd X 8 99 [vR (6, 0, 0), vI (nI t), vI 1, vI (nI l)] (hh M G) = some (some (vL (prt (cas nv np (gb M 0) t 1 (2 ^ np)) (t ^ np) (nI l))), hh M' G) := by
  have s' := s
  obtain ⟨n5, n8, e2, e3, -, -, v, o6, -, a, vc, ac, vm⟩ := s
  have s := s'
  obtain ⟨B', c45⟩ := C45 X 2 G s t 1 (by decide) (by omega) ht2
  have e3' : cb M 3 B' (0, 0, 0) 3 = nI np := e3
  have hp0 : 0 < t ^ np := Nat.pow_pos (by omega)
  have hpp : t ^ np ≤ 20 ^ 8 := Nat.le_trans (Nat.pow_le_pow_left ht2 np) (Nat.pow_le_pow_right (by decide) n8)
  have h28 : 2 ^ np ≤ 2 ^ 8 := Nat.pow_le_pow_right (by decide) n8
  have hc : cas nv np (bm M) t 1 (2 ^ np) ≤ 256 * 19 ^ 8 := Nat.le_trans (cas_le (fun c => Nat.le_trans (Nat.pow_le_pow_left (show t - 1 ≤ 19 by omega) _) (Nat.pow_le_pow_right (by decide) (show np - pop c np ≤ 8 by omega))) _) (Nat.mul_le_mul_right _ h28)
  have c123 := fun h q => C123 X 6 h (cas nv np (bm M) t 1 (2 ^ np)) (t ^ np) q (by omega) (by omega) hp0
  have c125 := fun h => C125 X 7 h t np (by omega)
  have h1 : ¬ nI t < 2 := by rw [show (2 : Int32) = nI 2 from rfl, nlt (by omega) (by decide)]; omega
  have h3 : ¬ 20 < nI t := by rw [show (20 : Int32) = nI 20 from rfl, nlt (by decide) (by omega)]; omega
  have q1 : ¬ nI l < 0 := nI_pos (by omega)
  have q2 : nI l ≤ 1 := by rw [show (1 : Int32) = nI 1 from rfl, nle (by omega) (by decide)]; omega
  have c45' : zd X 7 45 [vR (2, 0, 0), vR (0, 0, 0), vI (nI t), vI 1] (hh M G) = some (some (vL (lI (cas nv np (bm M) t 1 (2 ^ np)))), hh (cb M 3 B') G) := c45
  refine ⟨_, sm_cb (b := 3) (B := B') (by decide), ?_⟩
  show _ = some (some (vL (prt (cas nv np (bm M) t 1 (2 ^ np)) (t ^ np) (nI l))), hh (cb M 3 B') G)
  simp only [E99, e99_0, e99_1, e99_2, e99_5, e99_6, e99_7, e99_10, e99_11, e99_13, e99_16, e99_17, e99_18, e99_20, e99_23, e99_24, e99_26, e99_29, e99_30, e99_32, e99_35, e99_36, e99_37, e99_40, e99_41, e99_42, e99_45, e99_46, e99_48, e99_51, e99_52, e99_53, e99_56, e99_57, e99_60, e99_61, e99_62, e99_65, e99_66, e99_67, e99_68, e99_71, e99_74, e99_77, e99_78, e99_81, zt0, zt1, zn3, not_false_eq_true, toListS, toListN, zk_some, zpi, if_true, if_false, i10, h1, h3, q1, q2, c45', e3', n_L (show t < 2 ^ 31 by omega), c125, c123, show ((1 : Int32) ≤ 1) = True by decide, show ((1 : Int32) ≤ 30) = True by decide]
theorem cb_uP {M : zM} {p f : Nat} {x : Int32} : u2 M (3, 0, p) f x = cb M 0 (M (0, 0, 0), vw M 0, uV (pw M 0) p f x) := by
  have := cm_uP (M := M) (b := 0) (S := M (0, 0, 0)) (V := vw M 0) (P := pw M 0) (j := p) (f := f) (x := x)
  rw [show cm M 0 (M (0, 0, 0)) (vw M 0) (pw M 0) = M from cm_self] at this
  exact this
theorem Y78 (X : Nat × (Nat → Int32) × Value) (M : zM) (G : zG) {nv np : Nat} (s : ST M nv np) (p k : Nat) (hp : p < np) (h1 : 1 ≤ k) (h9 : k ≤ 9) : zd X 8 78 [vR (6, 0, 0), vI (nI p), vI (nI k)] (hh M G) = some (some (vI (M (3, 0, p) 4)), hh (u2 M (3, 0, p) 4 (nI k)) G) := by
  obtain ⟨n5, n8, e2, e3, -, -, v, o6, -, a, vc, ac, vm⟩ := s
  have hp8 : p < 8 := by omega
  have h : isx np (nI p) = 1 := isx_y hp (by omega)
  have q : wrg (nI k) 1 9 = 0 := by
    unfold wrg
    rw [nI_int (by omega), if_neg (by omega), if_neg (by omega)]
  simp only [E78, e78_0, e78_1, e78_4, e78_5, e78_8, e78_11, e78_12, e78_13, e78_16, e78_17, e78_18, e78_19, e78_21, e78_24, e78_25, e78_26, e78_29, e78_30, e78_31, e78_34, e78_35, e78_36, e78_39, e78_42, e78_43, e78_44, e78_47, e78_49, e78_50, e78_53, e78_56, e78_57, e78_58, e78_59, e78_62, e78_64, zt0, zt1, zn3, not_false_eq_true, toListS, toListN, zk_some, zpi, if_true, if_false, i10, C3x X _ M G np e3 n8, h, C118, q, j_1, k_1, j_9, k_9, z8 hp8, cl8 hp8]
theorem Y85 (X : Nat × (Nat → Int32) × Value) (M : zM) (G : zG) {nv np : Nat} (s : ST M nv np) (p a1 c1 : Nat) (hp : p < np) (pa : M (3, 0, p) 0 = nI a1) (pc : M (3, 0, p) 1 = nI c1) (ha : a1 < nv) (hc : c1 < nv) (A2 : ¬ vw M 0 a1 0 + vw M 0 c1 0 = 0) : zd X 8 85 [vR (6, 0, 0), vI (nI p)] (hh M G) = some (some (vL (wG (vw M 0) (pw M 0) p a1 c1 (M (0, 0, 0) 5)).toInt64), hh M G) := by
  obtain ⟨n5, n8, e2, e3, -, -, v, o6, -, a, vc, ac, vm⟩ := s
  have hp8 : p < 8 := by omega
  have h : isx np (nI p) = 1 := isx_y hp (by omega)
  have c14 := C14 X 5 M G 0 p a1 c1 nv e2 n5 pa pc ha hc A2
  simp only [E85, e85_0, e85_1, e85_4, e85_5, e85_8, e85_11, e85_12, e85_13, e85_16, e85_17, e85_18, e85_21, e85_22, e85_25, e85_28, e85_29, e85_30, e85_33, e85_34, zt0, zt1, zn3, not_false_eq_true, toListS, toListN, zk_some, zpi, if_true, if_false, i10, C3x X _ M G np e3 n8, h, z8 hp8, cl8 hp8, c14]
theorem Y104 (X : Nat × (Nat → Int32) × Value) (M : zM) (G : zG) (l k : Nat) (hl : l < 4) (hk : k ≤ 20) : zd X 8 104 [vR (6, 0, 0), vI (nI l), vI (nI k)] (hh M G) = some (some (vI 1), hh (flR (u2 M (4, l, 0) 1 (nI k)) (15, l, 0) 0 k 0) G) := by
  have h : isx 4 (nI l) = 1 := isx_y hl (by omega)
  have h1 : nI k ≤ 20 := by rw [show (20 : Int32) = nI 20 from rfl, nle (by omega) (by decide)]; omega
  have h2 : 0 ≤ nI k := by rw [i_le, nI_int (by omega)]; show (0 : Int) ≤ k; omega
  have hln : k ≤ hln (15, l, 0) := by rw [hln_r, if_pos hl]; exact hk
  have c63 := C63 X 7 M G l k 0 hln
  simp only [E104, e104_0, e104_1, e104_4, e104_7, e104_8, e104_9, e104_12, e104_13, e104_14, e104_16, e104_19, e104_20, e104_22, e104_25, e104_26, e104_27, e104_30, e104_32, e104_33, e104_34, e104_37, e104_38, e104_39, e104_40, e104_41, e104_44, e104_45, zt0, zt1, zn3, not_false_eq_true, toListS, toListN, zk_some, zpi, if_true, if_false, i10, C119, h, h1, h2, zin_nI (show l < 4 by omega) (show 4 < 2 ^ 31 by decide), nI_clamp (show l < 2 ^ 31 by omega), c63]
theorem Y105 (X : Nat × (Nat → Int32) × Value) (M : zM) (G : zG) (l n k : Nat) (v : Int32) (hl : l < 4) (hn : n ≤ 20) (hk : k < n) (e2 : M (4, l, 0) 1 = nI n) : zd X 8 105 [vR (6, 0, 0), vI (nI l), vI (nI k), vI v] (hh M G) = some (some (vI 1), hh (u2 M (15, l, 0) k v) G) := by
  have h : isx 4 (nI l) = 1 := isx_y hl (by omega)
  have p0 : 0 ≤ nI n := by rw [i_le, nI_int (by omega)]; show (0 : Int) ≤ n; omega
  have hlq : n ≤ hln (15, l, 0) := by rw [hln_r, if_pos hl]; exact hn
  have g : isx n (nI k) = 1 := isx_y hk (by omega)
  have hz : zin (nI k) (hln (15, l, 0)) = true := zin_nI (by omega) (by rw [hln_r]; split <;> decide)
  have hc : (nI k).toNatClampNeg = k := nI_clamp (by omega)
  simp only [E105, e105_0, e105_1, e105_4, e105_7, e105_8, e105_9, e105_12, e105_13, e105_14, e105_17, e105_18, e105_19, e105_21, e105_23, e105_26, e105_29, e105_31, e105_32, e105_34, e105_35, e105_38, e105_41, e105_43, e105_44, e105_46, e105_49, e105_50, e105_51, e105_52, e105_53, zt0, zt1, zn3, not_false_eq_true, toListS, toListN, zk_some, zpi, if_true, if_false, i10, C119, h, zin_nI (show l < 4 by omega) (show 4 < 2 ^ 31 by decide), nI_clamp (show l < 2 ^ 31 by omega), D61, e2, p0, C62 X _ _ G l n _ e2 hlq, g, hz, hc]
theorem Y102_0 (X : Nat × (Nat → Int32) × Value) (M : zM) (G : zG) {nv np : Nat} (s : ST M nv np) (p a1 c1 l n : Nat) (hp : p < np) (pa : M (3, 0, p) 0 = nI a1) (pc : M (3, 0, p) 1 = nI c1) (ha : a1 < nv) (hc : c1 < nv) (A2 : ¬ vw M 0 a1 0 + vw M 0 c1 0 = 0) (hl : l < 4) (hn : n ≤ 9) (e4 : M (4, l, 0) 1 = nI n) : ∃ M', sm M M' ∧ zd X 8 102 [vR (6, 0, 0), vI (nI l), vI (nI p), vI 0] (hh M G) = some (some (vI (bits (fun k => isA (Qg (vw M 0) (pw M 0) p a1 c1 5 (M (0, 0, 0) 5) (nI k) (M (15, l, 0))) n) 6)), hh M' G) := by
  have s' := s
  obtain ⟨n5, n8, e2, e3, -, -, v, o6, -, a, vc, ac, vm⟩ := s
  have s := s'
  have hp8 : p < 8 := by omega
  have h : isx 4 (nI l) = 1 := isx_y hl (by omega)
  have q : isx np (nI p) = 1 := isx_y hp (by omega)
  have p0 : 0 ≤ nI n := by rw [i_le, nI_int (by omega)]; show (0 : Int) ≤ n; omega
  have pa' : (bc M nv np).2.2 p 0 = nI a1 := (ac.2.2 p 0 hp (by decide) (fun _ => by rw [show (bc M nv np).1 6 = 0 from rfl]; exact out_0 p)).trans pa
  have pc' : (bc M nv np).2.2 p 1 = nI c1 := (ac.2.2 p 1 hp (by decide) (fun _ => by rw [show (bc M nv np).1 6 = 0 from rfl]; exact out_0 p)).trans pc
  have A2' : ¬ (bc M nv np).2.1 a1 0 + (bc M nv np).2.1 c1 0 = 0 := by rw [ac.2.1 a1 0 ha (by decide), ac.2.1 c1 0 hc (by decide)]; exact A2
  obtain ⟨B', cc⟩ := C48 X 3 G s p a1 c1 l n hp pa' pc' ha hc A2' hl (by omega) e4
  have eq : bits (fun k => isA (Qg (bc M nv np).2.1 (bc M nv np).2.2 p a1 c1 5 ((bc M nv np).1 5) (nI k) (M (15, l, 0))) (min n 9)) 6 = bits (fun k => isA (Qg (vw M 0) (pw M 0) p a1 c1 5 (M (0, 0, 0) 5) (nI k) (M (15, l, 0))) n) 6 := by
    rw [Nat.min_eq_left hn]
    refine bits_c _ fun k _ => isA_c _ fun r hr => ?_
    unfold Qg
    rw [ac.1 5 (by decide), wG_c (V' := vw M 0) (P' := pk (pw M 0) p 5 (nI k) (nI (r + 1))) (fun f hf => ac.2.1 a1 f ha hf) (fun f hf => ac.2.1 c1 f hc hf) (fun g hg => ?_)]
    · rfl
    · unfold pk uV
      split
      · rfl
      · split
        · rfl
        · exact ac.2.2 p g hp hg (fun _ => by rw [show (bc M nv np).1 6 = 0 from rfl]; exact out_0 p)
  rw [eq] at cc
  refine ⟨_, sm_cb (b := 3) (B := B') (by decide), ?_⟩
  simp only [E102, e102_0, e102_1, e102_4, e102_7, e102_8, e102_11, e102_12, e102_15, e102_18, e102_19, e102_20, e102_23, e102_24, e102_25, e102_28, e102_29, e102_30, e102_33, e102_34, e102_36, e102_39, e102_40, e102_41, e102_44, e102_45, e102_46, e102_49, e102_52, e102_54, e102_55, e102_56, e102_59, e102_60, e102_63, e102_64, e102_67, e102_68, e102_69, e102_72, e102_73, e102_74, e102_77, e102_80, e102_81, e102_84, e102_85, e102_88, e102_89, e102_90, e102_93, e102_94, e102_95, e102_98, zt0, zt1, zn3, not_false_eq_true, toListS, toListN, zk_some, zpi, if_true, if_false, i10, C119, h, C3x X _ M G np e3 n8, q, zin_nI (show l < 4 by omega) (show 4 < 2 ^ 31 by decide), nI_clamp (show l < 2 ^ 31 by omega), D61, e4, p0, q_lt_0_0, q_le_0_0, q_lt_0_1, q_le_0_1, q_eq_0_1, cc]
theorem Y102_1 (X : Nat × (Nat → Int32) × Value) (M : zM) (G : zG) {nv np : Nat} (s : ST M nv np) (p a1 c1 l n : Nat) (hp : p < np) (pa : M (3, 0, p) 0 = nI a1) (pc : M (3, 0, p) 1 = nI c1) (ha : a1 < nv) (hc : c1 < nv) (A2 : ¬ vw M 0 a1 0 + vw M 0 c1 0 = 0) (hl : l < 4) (hn : n ≤ 9) (e4 : M (4, l, 0) 1 = nI n) : ∃ M', sm M M' ∧ zd X 8 102 [vR (6, 0, 0), vI (nI l), vI (nI p), vI 1] (hh M G) = some (some (vI (bits (fun k => isA (Qg (vw M 0) (pw M 0) p a1 c1 6 (M (0, 0, 0) 5) (nI k) (M (15, l, 0))) n) 10)), hh M' G) := by
  have s' := s
  obtain ⟨n5, n8, e2, e3, -, -, v, o6, -, a, vc, ac, vm⟩ := s
  have s := s'
  have hp8 : p < 8 := by omega
  have h : isx 4 (nI l) = 1 := isx_y hl (by omega)
  have q : isx np (nI p) = 1 := isx_y hp (by omega)
  have p0 : 0 ≤ nI n := by rw [i_le, nI_int (by omega)]; show (0 : Int) ≤ n; omega
  have pa' : (bc M nv np).2.2 p 0 = nI a1 := (ac.2.2 p 0 hp (by decide) (fun _ => by rw [show (bc M nv np).1 6 = 0 from rfl]; exact out_0 p)).trans pa
  have pc' : (bc M nv np).2.2 p 1 = nI c1 := (ac.2.2 p 1 hp (by decide) (fun _ => by rw [show (bc M nv np).1 6 = 0 from rfl]; exact out_0 p)).trans pc
  have A2' : ¬ (bc M nv np).2.1 a1 0 + (bc M nv np).2.1 c1 0 = 0 := by rw [ac.2.1 a1 0 ha (by decide), ac.2.1 c1 0 hc (by decide)]; exact A2
  obtain ⟨B', cc⟩ := C49 X 3 G s p a1 c1 l n hp pa' pc' ha hc A2' hl (by omega) e4
  have eq : bits (fun k => isA (Qg (bc M nv np).2.1 (bc M nv np).2.2 p a1 c1 6 ((bc M nv np).1 5) (nI k) (M (15, l, 0))) (min n 9)) 10 = bits (fun k => isA (Qg (vw M 0) (pw M 0) p a1 c1 6 (M (0, 0, 0) 5) (nI k) (M (15, l, 0))) n) 10 := by
    rw [Nat.min_eq_left hn]
    refine bits_c _ fun k _ => isA_c _ fun r hr => ?_
    unfold Qg
    rw [ac.1 5 (by decide), wG_c (V' := vw M 0) (P' := pk (pw M 0) p 6 (nI k) (nI (r + 1))) (fun f hf => ac.2.1 a1 f ha hf) (fun f hf => ac.2.1 c1 f hc hf) (fun g hg => ?_)]
    · rfl
    · unfold pk uV
      split
      · rfl
      · split
        · rfl
        · exact ac.2.2 p g hp hg (fun _ => by rw [show (bc M nv np).1 6 = 0 from rfl]; exact out_0 p)
  rw [eq] at cc
  refine ⟨_, sm_cb (b := 3) (B := B') (by decide), ?_⟩
  simp only [E102, e102_0, e102_1, e102_4, e102_7, e102_8, e102_11, e102_12, e102_15, e102_18, e102_19, e102_20, e102_23, e102_24, e102_25, e102_28, e102_29, e102_30, e102_33, e102_34, e102_36, e102_39, e102_40, e102_41, e102_44, e102_45, e102_46, e102_49, e102_52, e102_54, e102_55, e102_56, e102_59, e102_60, e102_63, e102_64, e102_67, e102_68, e102_69, e102_72, e102_73, e102_74, e102_77, e102_80, e102_81, e102_84, e102_85, e102_88, e102_89, e102_90, e102_93, e102_94, e102_95, e102_98, zt0, zt1, zn3, not_false_eq_true, toListS, toListN, zk_some, zpi, if_true, if_false, i10, C119, h, C3x X _ M G np e3 n8, q, zin_nI (show l < 4 by omega) (show 4 < 2 ^ 31 by decide), nI_clamp (show l < 2 ^ 31 by omega), D61, e4, p0, q_lt_1_0, q_le_1_0, q_eq_1_0, q_lt_1_1, q_le_1_1, cc]
theorem Y77_8 (X : Nat × (Nat → Int32) × Value) (M : zM) (G : zG) {np : Nat} (n8 : np ≤ 8) (e3 : M (0, 0, 0) 3 = nI np) (p l m : Nat) (hp : p < np) (hl : l ≤ 5) (hm : m ≤ 9) (h7 : 0 ≤ (10 * M (3, 0, p) 5 + M (3, 0, p) 6).toInt) : zd X 8 77 [vR (6, 0, 0), vI (nI p), vI (nI l), vI (nI m)] (hh M G) = some (some (vI (10 * M (3, 0, p) 5 + M (3, 0, p) 6)), hh (cb M 0 (M (0, 0, 0), vw M 0, kd3 (pw M 0) p (nI l) (nI m))) G) := by
  have hp8 : p < 8 := by omega
  have h : isx np (nI p) = 1 := isx_y hp (by omega)
  have g' : inz (nI l) 0 5 = 1 := inz_y (by rw [nI_int (by omega)]; omega)
  have y1 : wrg (nI m) 0 9 = 0 := by
    unfold wrg
    rw [nI_int (by omega), if_neg (by omega), if_neg (by omega)]
  have f2 : 0 ≤ 10 * M (3, 0, p) 5 + M (3, 0, p) 6 := i_le.mpr h7
  have c7 : zd X 7 7 [vR (0, 0, 0), vI (nI p), vI (nI l), vI (nI m)] (hh M G) = some (some (vI (10 * M (3, 0, p) 5 + M (3, 0, p) 6)), hh (cb M 0 (M (0, 0, 0), vw M 0, kd3 (pw M 0) p (nI l) (nI m))) G) := by
    have em : cm M 0 (M (0, 0, 0)) (vw M 0) (pw M 0) = M := cm_self
    have q : zd X 7 7 [vR (0, 0, 0), vI (nI p), vI (nI l), vI (nI m)] (hh (cm M 0 (M (0, 0, 0)) (vw M 0) (pw M 0)) G) = some (some (vI (10 * pw M 0 p 5 + pw M 0 p 6)), hh (cm M 0 (M (0, 0, 0)) (vw M 0) (uV (uV (uV (pw M 0) p 5 (nI l)) p 6 (nI m)) p 7 0)) G) := by
      simp only [E7, e7_0, e7_1, e7_2, e7_5, e7_8, e7_9, e7_10, e7_11, e7_14, e7_17, e7_19, e7_20, e7_21, e7_22, e7_24, e7_27, e7_29, e7_31, e7_34, e7_36, e7_37, e7_38, e7_41, e7_42, e7_43, e7_45, e7_47, e7_49, e7_52, e7_53, e7_55, e7_58, e7_59, e7_61, e7_63, e7_64, e7_67, e7_69, e7_70, e7_73, e7_75, e7_76, e7_79, e7_81, zt0, zt1, zn3, not_false_eq_true, toListS, toListN, zk_some, zpi, if_true, if_false, i10, cm_S, cm_V, cm_P, cm_vw, cm_pw, cm_uS, cm_uV, cm_uP, cm_Sf, C3b X _ _ G 0 np (show cm M 0 (M (0, 0, 0)) (vw M 0) (pw M 0) (0, 0, 0) 3 = nI np from cm_S.trans e3) n8, h, C121, g', C118, j_0, k_0, j_9, k_9, y1, z8 hp8, cl8 hp8, true_or, or_true, uV_s, uV_f, ne_eq, Nat.reduceEqDiff]
    rw [em] at q
    exact q
  simp only [E77, e77_0, e77_1, e77_2, e77_5, e77_6, e77_7, e77_8, e77_11, e77_14, E116, e116_0, e116_1, e116_4, e116_5, e116_6, e116_9, e116_12, e116_13, zt0, zt1, zn3, not_false_eq_true, toListS, toListN, zk_some, zpi, if_true, if_false, i10, c7, f2]
theorem Y77_7 (X : Nat × (Nat → Int32) × Value) (M : zM) (G : zG) {np : Nat} (n8 : np ≤ 8) (e3 : M (0, 0, 0) 3 = nI np) (p l m : Nat) (hp : p < np) (hl : l ≤ 5) (hm : m ≤ 9) (h7 : 0 ≤ (10 * M (3, 0, p) 5 + M (3, 0, p) 6).toInt) : zd X 7 77 [vR (6, 0, 0), vI (nI p), vI (nI l), vI (nI m)] (hh M G) = some (some (vI (10 * M (3, 0, p) 5 + M (3, 0, p) 6)), hh (cb M 0 (M (0, 0, 0), vw M 0, kd3 (pw M 0) p (nI l) (nI m))) G) := by
  have hp8 : p < 8 := by omega
  have h : isx np (nI p) = 1 := isx_y hp (by omega)
  have g' : inz (nI l) 0 5 = 1 := inz_y (by rw [nI_int (by omega)]; omega)
  have y1 : wrg (nI m) 0 9 = 0 := by
    unfold wrg
    rw [nI_int (by omega), if_neg (by omega), if_neg (by omega)]
  have f2 : 0 ≤ 10 * M (3, 0, p) 5 + M (3, 0, p) 6 := i_le.mpr h7
  have c7 : zd X 6 7 [vR (0, 0, 0), vI (nI p), vI (nI l), vI (nI m)] (hh M G) = some (some (vI (10 * M (3, 0, p) 5 + M (3, 0, p) 6)), hh (cb M 0 (M (0, 0, 0), vw M 0, kd3 (pw M 0) p (nI l) (nI m))) G) := by
    have em : cm M 0 (M (0, 0, 0)) (vw M 0) (pw M 0) = M := cm_self
    have q : zd X 6 7 [vR (0, 0, 0), vI (nI p), vI (nI l), vI (nI m)] (hh (cm M 0 (M (0, 0, 0)) (vw M 0) (pw M 0)) G) = some (some (vI (10 * pw M 0 p 5 + pw M 0 p 6)), hh (cm M 0 (M (0, 0, 0)) (vw M 0) (uV (uV (uV (pw M 0) p 5 (nI l)) p 6 (nI m)) p 7 0)) G) := by
      simp only [E7, e7_0, e7_1, e7_2, e7_5, e7_8, e7_9, e7_10, e7_11, e7_14, e7_17, e7_19, e7_20, e7_21, e7_22, e7_24, e7_27, e7_29, e7_31, e7_34, e7_36, e7_37, e7_38, e7_41, e7_42, e7_43, e7_45, e7_47, e7_49, e7_52, e7_53, e7_55, e7_58, e7_59, e7_61, e7_63, e7_64, e7_67, e7_69, e7_70, e7_73, e7_75, e7_76, e7_79, e7_81, zt0, zt1, zn3, not_false_eq_true, toListS, toListN, zk_some, zpi, if_true, if_false, i10, cm_S, cm_V, cm_P, cm_vw, cm_pw, cm_uS, cm_uV, cm_uP, cm_Sf, C3b X _ _ G 0 np (show cm M 0 (M (0, 0, 0)) (vw M 0) (pw M 0) (0, 0, 0) 3 = nI np from cm_S.trans e3) n8, h, C121, g', C118, j_0, k_0, j_9, k_9, y1, z8 hp8, cl8 hp8, true_or, or_true, uV_s, uV_f, ne_eq, Nat.reduceEqDiff]
    rw [em] at q
    exact q
  simp only [E77, e77_0, e77_1, e77_2, e77_5, e77_6, e77_7, e77_8, e77_11, e77_14, E116, e116_0, e116_1, e116_4, e116_5, e116_6, e116_9, e116_12, e116_13, zt0, zt1, zn3, not_false_eq_true, toListS, toListN, zk_some, zpi, if_true, if_false, i10, c7, f2]
theorem Y101 (X : Nat × (Nat → Int32) × Value) (M : zM) (G : zG) {nv np : Nat} (s : ST M nv np) (l n : Nat) (hv : 0 < nv) (hl : l < 4) (hn : n ≤ 20) (e4 : M (4, l, 0) 1 = nI n) : ∃ M', sm M M' ∧ zd X 8 101 [vR (6, 0, 0), vI (nI l)] (hh M G) = some (some (vI (jr n (fi (Qj nv np (M (15, l, 0)) (gb M 0)) 0 n))), hh M' G) := by
  have s' := s
  obtain ⟨n5, n8, e2, e3, -, -, v, o6, -, a, vc, ac, vm⟩ := s
  have s := s'
  have h : isx 4 (nI l) = 1 := isx_y hl (by omega)
  have iv : isx nv 0 = 1 := isx_y (j := 0) hv (by omega)
  have p0 : 0 ≤ nI n := by rw [i_le, nI_int (by omega)]; show (0 : Int) ≤ n; omega
  obtain ⟨B', c47⟩ := C47 X 3 G s l n hl hn e4 hv
  rw [Qj_c (U := M (15, l, 0)) vc ac hv (fun _ _ => rfl)] at c47
  refine ⟨_, sm_cb (b := 3) (B := B') (by decide), ?_⟩
  simp only [E101, e101_0, e101_1, e101_4, e101_7, e101_8, e101_11, e101_12, e101_15, e101_18, e101_19, e101_20, e101_23, e101_24, e101_25, e101_28, e101_29, e101_30, e101_33, e101_36, e101_38, e101_39, e101_40, e101_43, e101_44, e101_47, e101_48, e101_51, e101_52, e101_53, e101_56, zt0, zt1, zn3, not_false_eq_true, toListS, toListN, zk_some, zpi, if_true, if_false, i10, C119, h, C2x X _ M G nv e2 n5, iv, zin_nI (show l < 4 by omega) (show 4 < 2 ^ 31 by decide), nI_clamp (show l < 2 ^ 31 by omega), D61, e4, p0, c47]
  rfl
theorem Y101_m (X : Nat × (Nat → Int32) × Value) (M : zM) (G : zG) {nv np : Nat} (s : ST M nv np) (l : Nat) (hv : 0 < nv) (hl : l < 4) (e4 : M (4, l, 0) 1 = -1) : zd X 8 101 [vR (6, 0, 0), vI (nI l)] (hh M G) = some (some (vI (-11)), hh M G) := by
  obtain ⟨n5, n8, e2, e3, -, -, v, o6, -, a, vc, ac, vm⟩ := s
  have h : isx 4 (nI l) = 1 := isx_y hl (by omega)
  have iv : isx nv 0 = 1 := isx_y (j := 0) hv (by omega)
  simp only [E101, e101_0, e101_1, e101_4, e101_7, e101_8, e101_11, e101_12, e101_15, e101_18, e101_19, e101_20, e101_23, e101_24, e101_25, e101_28, e101_29, e101_30, e101_33, e101_36, e101_38, e101_39, e101_40, e101_43, e101_44, e101_47, e101_48, e101_51, e101_52, e101_53, e101_56, zt0, zt1, zn3, not_false_eq_true, toListS, toListN, zk_some, zpi, if_true, if_false, i10, C119, h, C2x X _ M G nv e2 n5, iv, zin_nI (show l < 4 by omega) (show 4 < 2 ^ 31 by decide), nI_clamp (show l < 2 ^ 31 by omega), D61, e4, show ((0 : Int32) ≤ -1) = False by decide]
theorem Y94 (X : Nat × (Nat → Int32) × Value) (M : zM) (G : zG) {nv np : Nat} (s : ST M nv np) (n : Nat) (hn : n ≤ 99) : ∃ M', sm M M' ∧ zd X 8 94 [vR (6, 0, 0), vI (nI n)] (hh M G) = some (some (vI (mt (Wm nv np (gb M 0) n) np).1), hh M' G) := by
  have w : wrg (nI n) 0 99 = 0 := by
    unfold wrg
    rw [nI_int (by omega), if_neg (by omega), if_neg (by omega)]
  obtain ⟨B', c42⟩ := C42 X 1 G s n (by omega)
  refine ⟨_, sm_cb (b := 3) (B := B') (by decide), ?_⟩
  show _ = some (some (vI (mt (Wm nv np (bm M) n) np).1), hh (cb M 3 B') G)
  simp only [E94, e94_0, e94_1, e94_2, e94_4, e94_7, e94_8, e94_9, e94_12, e94_13, e94_14, e94_17, e94_18, e94_19, e94_22, e94_23, e94_26, e94_27, e94_30, zt0, zt1, zn3, not_false_eq_true, toListS, toListN, zk_some, zpi, if_true, if_false, i10, C118, w, j_0, k_0, j_99, k_99, c42]
theorem L106 (X : Nat × (Nat → Int32) × Value) (M : zM) (G : zG) {nv np : Nat} (s : ST M nv np) (l q n m : Nat) (hl : l < 4) (hn : n ≤ 20) (e4 : M (4, l, 0) 1 = nI n) (hm : m ≤ nv) (hq : q + m ≤ n) : zx X 8 106 33 [vR (6, 0, 0), vI (nI l), vI (nI q), vR (4, l, 0), vI 0] [] (hh M G) = zx X 8 106 33 [vR (6, 0, 0), vI (nI l), vI (nI q), vR (4, l, 0), vI (nI m)] [] (hh (lay M M (15, l, 0) q m) G) := by
  obtain ⟨n5, n8, e2, e3, -, -, v, o6, -, a, vc, ac, vm⟩ := s
  have hlq : n ≤ hln (15, l, 0) := by rw [hln_r, if_pos hl]; exact hn
  have lc := zlf (n := m) (f := fun w => zx X 8 106 33 [vR (6, 0, 0), vI (nI l), vI (nI q), vR (4, l, 0), vI (nI w)] [] (hh (lay M M (15, l, 0) q w) G)) (fun w hw z ez => by
    have hQ' : q + w < n := by omega
    have w5 : w < 5 := by omega
    have hz : zin (nI (q + w)) (hln (15, l, 0)) = true := zin_nI (by omega) (by rw [hln_r]; split <;> decide)
    have hc : (nI (q + w)).toNatClampNeg = q + w := nI_clamp (by omega)
    have c62 := C62 X 7 (lay M M (15, l, 0) q w) G l n (nI (q + w)) ((lay_n (by first | decide | exact (show (4 : Nat) ≠ 15 by decide))).trans e4) hlq
    rw [isx_y hQ' (by omega)] at c62
    simp only [e106_33, e106_35, e106_36, e106_39, e106_42, lay_n, ne_eq, Nat.reduceEqDiff, not_false_eq_true, e2, nle (show nv < 2 ^ 31 by omega) (show w < 2 ^ 31 by omega)]
    rw [if_neg (by omega)]
    simp only [e106_45, e106_46, e106_47, e106_49, e106_50, e106_53, zt0, zt1, zn3, not_false_eq_true, toListS, toListN, zk_some, zpi, if_true, if_false, i10, nI_add, c62]
    simp only [e106_59, e106_60, e106_63, e106_64, e106_66, e106_67, e106_68, e106_71, e106_74, e106_76, e106_77, e106_80, e106_81, e106_84, zt0, zt1, zn3, not_false_eq_true, toListS, toListN, zk_some, zpi, nI_add, hz, hc, z5 w5, cl5 w5, lay_n, ne_eq, Nat.reduceEqDiff, lay_s, nI_1]
    exact ez) m 0 (by omega)
  rw [nI_0, lay_0] at lc
  exact lc
theorem Y106 (X : Nat × (Nat → Int32) × Value) (M : zM) (G : zG) {nv np : Nat} (s : ST M nv np) (l q n : Nat) (hl : l < 4) (hn : n ≤ 20) (e4 : M (4, l, 0) 1 = nI n) (hq : q + nv ≤ n) : zd X 8 106 [vR (6, 0, 0), vI (nI l), vI (nI q)] (hh M G) = some (some (vI (nI nv)), hh (lay M M (15, l, 0) q nv) G) := by
  have lc := L106 X M G s l q n nv hl hn e4 (Nat.le_refl _) hq
  obtain ⟨n5, n8, e2, e3, -, -, v, o6, -, a, vc, ac, vm⟩ := s
  have h : isx 4 (nI l) = 1 := isx_y hl (by omega)
  have p0 : 0 ≤ nI n := by rw [i_le, nI_int (by omega)]; show (0 : Int) ≤ n; omega
  simp only [e106_0, e106_1, e106_4, e106_7, e106_8, e106_9, e106_12, e106_13, e106_14, e106_17, e106_18, e106_19, e106_20, e106_21, e106_24, e106_27, e106_29, e106_30, e106_31, E106, zt0, zt1, zn3, not_false_eq_true, toListS, toListN, zk_some, zpi, if_true, if_false, i10, C119, h, zin_nI (show l < 4 by omega) (show 4 < 2 ^ 31 by decide), nI_clamp (show l < 2 ^ 31 by omega), D61, e4, p0]
  refine Eq.trans lc ?_
  simp only [e106_33, e106_35, e106_36, e106_39, e106_42, lay_n, ne_eq, Nat.reduceEqDiff, not_false_eq_true, e2, nle (show nv < 2 ^ 31 by omega) (show nv < 2 ^ 31 by omega)]
  rw [if_pos (Nat.le_refl _)]
  simp only [e106_87, e106_88, e106_91, e106_94, lay_n, ne_eq, Nat.reduceEqDiff, not_false_eq_true, e2]
theorem Y106_n (X : Nat × (Nat → Int32) × Value) (M : zM) (G : zG) {nv np : Nat} (s : ST M nv np) (l q n m : Nat) (hl : l < 4) (hn : n ≤ 20) (e4 : M (4, l, 0) 1 = nI n) (hm : m < nv) (hq : q + m = n) : zd X 8 106 [vR (6, 0, 0), vI (nI l), vI (nI q)] (hh M G) = some (some (vI (-13)), hh (lay M M (15, l, 0) q m) G) := by
  have lc := L106 X M G s l q n m hl hn e4 (by omega) (by omega)
  obtain ⟨n5, n8, e2, e3, -, -, v, o6, -, a, vc, ac, vm⟩ := s
  have hlq : n ≤ hln (15, l, 0) := by rw [hln_r, if_pos hl]; exact hn
  have h : isx 4 (nI l) = 1 := isx_y hl (by omega)
  have p0 : 0 ≤ nI n := by rw [i_le, nI_int (by omega)]; show (0 : Int) ≤ n; omega
  simp only [e106_0, e106_1, e106_4, e106_7, e106_8, e106_9, e106_12, e106_13, e106_14, e106_17, e106_18, e106_19, e106_20, e106_21, e106_24, e106_27, e106_29, e106_30, e106_31, E106, zt0, zt1, zn3, not_false_eq_true, toListS, toListN, zk_some, zpi, if_true, if_false, i10, C119, h, zin_nI (show l < 4 by omega) (show 4 < 2 ^ 31 by decide), nI_clamp (show l < 2 ^ 31 by omega), D61, e4, p0]
  refine Eq.trans lc ?_
  have c62 := C62 X 7 (lay M M (15, l, 0) q m) G l n (nI (q + m)) ((lay_n (by first | decide | exact (show (4 : Nat) ≠ 15 by decide))).trans e4) hlq
  rw [show isx n (nI (q + m)) = 0 from inz_n (by rw [nI_int (by omega)]; omega)] at c62
  simp only [e106_33, e106_35, e106_36, e106_39, e106_42, lay_n, ne_eq, Nat.reduceEqDiff, not_false_eq_true, e2, nle (show nv < 2 ^ 31 by omega) (show m < 2 ^ 31 by omega)]
  rw [if_neg (by omega)]
  simp only [e106_45, e106_46, e106_47, e106_49, e106_50, e106_53, e106_56, e106_58, zt0, zt1, zn3, not_false_eq_true, toListS, toListN, zk_some, zpi, if_true, if_false, i10, nI_add, c62]
