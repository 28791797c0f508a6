/-! WHAT THE CALLS DO that build a bench -/
theorem Y75 (X : Nat × (Nat → Int32) × Value) (M : zM) (G : zG) {nv np : Nat} (v : vb (gb M 0) nv np) (x y z : Int32) (u_0 : ¬ x < 1) (u_1 : ¬ y < 0) (u_2 : 1 ≤ z) (u_3 : ¬ 9 < x) (u_4 : ¬ 20 < y) (u_5 : ¬ 30 < z) (u_6 : nv < 5) : zd X 7 75 [vR (6, 0, 0), vI x, vI y, vI z] (hh M G) = some (some (vI (nI nv)), hh (cb M 0 (uS (M (0, 0, 0)) 2 (nI (nv + 1)), V5 (vw M 0) nv x y z 0 0, pw M 0)) G) := by
  have em : cm M 0 (M (0, 0, 0)) (vw M 0) (pw M 0) = M := cm_self
  have e2 : M (0, 0, 0) 2 = nI nv := v.1.1
  have e3 : M (0, 0, 0) 3 = nI np := v.1.2.1
  have n5 : nv ≤ 5 := v.1.2.2.1
  have n8 : np ≤ 8 := v.1.2.2.2.1
  have lt5 : (nI nv < 5) = (nv < 5) := nlt (b := 5) (by omega) (by decide)
  have f2 : 0 ≤ nI nv := i_le.mpr (by rw [nI_int (by omega), show (0 : Int32).toInt = 0 from rfl]; omega)
  have ck : zd X 6 4 [vR (0, 0, 0), vI x, vI y, vI z] (hh M G) = some (some (vI (nI nv)), hh (cb M 0 (uS (M (0, 0, 0)) 2 (nI (nv + 1)), V5 (vw M 0) nv x y z 0 0, pw M 0)) G) := by
    have q : zd X 6 4 [vR (0, 0, 0), vI x, vI y, vI z] (hh (cm M 0 (M (0, 0, 0)) (vw M 0) (pw M 0)) G) = some (some (vI (nI nv)), hh (cm M 0 (uS (M (0, 0, 0)) 2 (nI (nv + 1))) (V5 (vw M 0) nv x y z 0 0) (pw M 0)) G) := by
      simp only [E4, e4_0, e4_1, e4_2, e4_5, e4_6, e4_9, e4_10, e4_11, e4_14, e4_16, e4_17, e4_18, e4_20, e4_23, e4_24, e4_26, e4_29, e4_30, e4_32, e4_35, e4_36, e4_39, e4_40, e4_43, e4_45, e4_46, e4_47, e4_50, e4_51, e4_54, e4_55, e4_57, e4_59, e4_60, e4_63, e4_65, e4_66, e4_69, e4_71, e4_72, e4_75, e4_77, e4_78, e4_81, e4_83, e4_84, e4_87, e4_88, e4_89, e4_92, e4_93, e4_94, e4_97, e4_98, e4_101, e4_102, e4_103, zt0, zt1, zn3, not_false_eq_true, toListS, toListN, zk_some, zpi, if_true, if_false, i10, cm_S, cm_V, cm_P, cm_vw, cm_pw, cm_uS, cm_uV, cm_uP, cm_Sf, u_0, u_1, u_2, u_3, u_4, u_5, u_6, e2, lt5, z5 u_6, cl5 u_6, nI_1, uS_s, nI_p, V5]
    rw [em] at q
    exact q
  simp only [E75, e75_0, e75_1, e75_2, e75_5, e75_6, e75_7, e75_8, e75_11, e75_14, E116, e116_0, e116_1, e116_4, e116_5, e116_6, e116_9, e116_12, e116_13, zt0, zt1, zn3, not_false_eq_true, toListS, toListN, zk_some, zpi, if_true, if_false, i10, ck, f2]
theorem Y79 (X : Nat × (Nat → Int32) × Value) (M : zM) (G : zG) {nv np : Nat} (v : vb (gb M 0) nv np) (j m : Nat) (hj : j < nv) (hm : (m : Int) ≤ brim (vw M 0) j) : zd X 7 79 [vR (6, 0, 0), vI (nI j), vI (nI m)] (hh M G) = some (some (vI (vw M 0 j 3)), hh (cb M 0 (M (0, 0, 0), uV (vw M 0) j 3 (nI m), pw M 0)) G) := by
  have em : cm M 0 (M (0, 0, 0)) (vw M 0) (pw M 0) = M := cm_self
  have e2 : M (0, 0, 0) 2 = nI nv := v.1.1
  have e3 : M (0, 0, 0) 3 = nI np := v.1.2.1
  have n5 : nv ≤ 5 := v.1.2.2.1
  have n8 : np ≤ 8 := v.1.2.2.2.1
  have hj5 : j < 5 := by omega
  have q : isx nv (nI j) = 1 := isx_y hj (by omega)
  have vj : vV (vw M 0) j := v.1.2.2.2.2.1 j hj
  have hb := brim_v vj
  have sb : (sBr (vw M 0) j).toInt = brim (vw M 0) j := sBr_v vj
  have y1 : wrg (nI m) 0 (sBr (vw M 0) j).toInt = 0 := by
    unfold wrg
    rw [nI_int (by omega), if_neg (by omega), if_neg (by omega)]
  have f2 : 0 ≤ vw M 0 j 3 := i_le.mpr (v.2.1 j hj).1
  have ck : zd X 6 8 [vR (0, 0, 0), vI (nI j), vI (nI m)] (hh M G) = some (some (vI (vw M 0 j 3)), hh (cb M 0 (M (0, 0, 0), uV (vw M 0) j 3 (nI m), pw M 0)) G) := by
    have q : zd X 6 8 [vR (0, 0, 0), vI (nI j), vI (nI m)] (hh (cm M 0 (M (0, 0, 0)) (vw M 0) (pw M 0)) G) = some (some (vI (vw M 0 j 3)), hh (cm M 0 (M (0, 0, 0)) (uV (vw M 0) j 3 (nI m)) (pw M 0)) G) := by
      simp only [E8, e8_0, e8_1, e8_2, e8_5, e8_8, e8_9, e8_10, e8_11, e8_14, e8_15, e8_16, e8_17, e8_18, e8_19, e8_20, e8_23, e8_26, e8_28, e8_30, e8_33, e8_35, e8_36, e8_37, e8_40, e8_42, e8_43, e8_44, e8_47, e8_49, zt0, zt1, zn3, not_false_eq_true, toListS, toListN, zk_some, zpi, if_true, if_false, i10, cm_S, cm_V, cm_P, cm_vw, cm_pw, cm_uS, cm_uV, cm_uP, cm_Sf, C2b X _ _ G 0 nv (show cm M 0 (M (0, 0, 0)) (vw M 0) (pw M 0) (0, 0, 0) 2 = nI nv from cm_S.trans e2) n5, q, z5 hj5, cl5 hj5, C67, C118, j_0, k_0, y1]
    rw [em] at q
    exact q
  simp only [E79, e79_0, e79_1, e79_2, e79_5, e79_6, e79_7, e79_10, e79_13, E116, e116_0, e116_1, e116_4, e116_5, e116_6, e116_9, e116_12, e116_13, zt0, zt1, zn3, not_false_eq_true, toListS, toListN, zk_some, zpi, if_true, if_false, i10, ck, f2]
theorem Y80 (X : Nat × (Nat → Int32) × Value) (M : zM) (G : zG) {nv np : Nat} (v : vb (gb M 0) nv np) (j m : Nat) (hj : j < nv) (hm : m ≤ 9) : zd X 7 80 [vR (6, 0, 0), vI (nI j), vI (nI m)] (hh M G) = some (some (vI (vw M 0 j 4)), hh (cb M 0 (M (0, 0, 0), uV (vw M 0) j 4 (nI m), pw M 0)) G) := by
  have em : cm M 0 (M (0, 0, 0)) (vw M 0) (pw M 0) = M := cm_self
  have e2 : M (0, 0, 0) 2 = nI nv := v.1.1
  have e3 : M (0, 0, 0) 3 = nI np := v.1.2.1
  have n5 : nv ≤ 5 := v.1.2.2.1
  have n8 : np ≤ 8 := v.1.2.2.2.1
  have hj5 : j < 5 := by omega
  have q : isx nv (nI j) = 1 := isx_y hj (by omega)
  have vj : vV (vw M 0) j := v.1.2.2.2.2.1 j hj
  have y1 : wrg (nI m) 0 9 = 0 := by
    unfold wrg
    rw [nI_int (by omega), if_neg (by omega), if_neg (by omega)]
  have f2 : 0 ≤ vw M 0 j 4 := i_le.mpr vj.2.2.2.2.2.2.1
  have ck : zd X 6 9 [vR (0, 0, 0), vI (nI j), vI (nI m)] (hh M G) = some (some (vI (vw M 0 j 4)), hh (cb M 0 (M (0, 0, 0), uV (vw M 0) j 4 (nI m), pw M 0)) G) := by
    have q : zd X 6 9 [vR (0, 0, 0), vI (nI j), vI (nI m)] (hh (cm M 0 (M (0, 0, 0)) (vw M 0) (pw M 0)) G) = some (some (vI (vw M 0 j 4)), hh (cm M 0 (M (0, 0, 0)) (uV (vw M 0) j 4 (nI m)) (pw M 0)) G) := by
      simp only [E9, e9_0, e9_1, e9_2, e9_5, e9_8, e9_9, e9_10, e9_11, e9_12, e9_14, e9_17, e9_18, e9_19, e9_22, e9_23, e9_24, e9_25, e9_28, e9_29, e9_30, e9_33, e9_35, e9_36, e9_39, e9_40, e9_41, e9_42, e9_45, e9_47, zt0, zt1, zn3, not_false_eq_true, toListS, toListN, zk_some, zpi, if_true, if_false, i10, cm_S, cm_V, cm_P, cm_vw, cm_pw, cm_uS, cm_uV, cm_uP, cm_Sf, C2b X _ _ G 0 nv (show cm M 0 (M (0, 0, 0)) (vw M 0) (pw M 0) (0, 0, 0) 2 = nI nv from cm_S.trans e2) n5, q, z5 hj5, cl5 hj5, C118, j_0, k_0, j_9, k_9, y1]
    rw [em] at q
    exact q
  simp only [E80, e80_0, e80_1, e80_2, e80_5, e80_6, e80_7, e80_10, e80_13, E116, e116_0, e116_1, e116_4, e116_5, e116_6, e116_9, e116_12, e116_13, zt0, zt1, zn3, not_false_eq_true, toListS, toListN, zk_some, zpi, if_true, if_false, i10, ck, f2]
theorem Y76 (X : Nat × (Nat → Int32) × Value) (M : zM) (G : zG) {nv np : Nat} (v : vb (gb M 0) nv np) (a1 c1 : Nat) (m o r : Int32) (ha : a1 < nv) (hc : c1 < nv) (h_0 : ¬ a1 = c1) (h_1 : 1 ≤ r) (h_2 : ¬ 9 < r) (h_3 : np < 8) (k_4 : hM (vw M 0) a1 m = 1) (k_5 : hM (vw M 0) c1 o = 1) : zd X 7 76 [vR (6, 0, 0), vI (nI a1), vI (nI c1), vI m, vI o, vI r] (hh M G) = some (some (vI (nI np)), hh (cb M 0 (uS (M (0, 0, 0)) 3 (nI (np + 1)), vw M 0, P8 (pw M 0) np (nI a1) (nI c1) m o r)) G) := by
  have em : cm M 0 (M (0, 0, 0)) (vw M 0) (pw M 0) = M := cm_self
  have e2 : M (0, 0, 0) 2 = nI nv := v.1.1
  have e3 : M (0, 0, 0) 3 = nI np := v.1.2.1
  have n5 : nv ≤ 5 := v.1.2.2.1
  have n8 : np ≤ 8 := v.1.2.2.2.1
  have q : isx nv (nI a1) = 1 := isx_y ha (by omega)
  have q2 : isx nv (nI c1) = 1 := isx_y hc (by omega)
  have lt8 : (nI np < 8) = (np < 8) := nlt (b := 8) (by omega) (by decide)
  have ne1 : (nI a1 = nI c1) = (a1 = c1) := neq (by omega) (by omega)
  have C6a := fun (d : Nat) (M' : zM) (G : zG) => C6 X d M' G 0 (M (0, 0, 0)) (vw M 0) (pw M 0) a1 m (by omega)
  have C6c := fun (d : Nat) (M' : zM) (G : zG) => C6 X d M' G 0 (M (0, 0, 0)) (vw M 0) (pw M 0) c1 o (by omega)
  have f2 : 0 ≤ nI np := i_le.mpr (by rw [nI_int (by omega), show (0 : Int32).toInt = 0 from rfl]; omega)
  have ck : zd X 6 5 [vR (0, 0, 0), vI (nI a1), vI (nI c1), vI m, vI o, vI r] (hh M G) = some (some (vI (nI np)), hh (cb M 0 (uS (M (0, 0, 0)) 3 (nI (np + 1)), vw M 0, P8 (pw M 0) np (nI a1) (nI c1) m o r)) G) := by
    have q : zd X 6 5 [vR (0, 0, 0), vI (nI a1), vI (nI c1), vI m, vI o, vI r] (hh (cm M 0 (M (0, 0, 0)) (vw M 0) (pw M 0)) G) = some (some (vI (nI np)), hh (cm M 0 (uS (M (0, 0, 0)) 3 (nI (np + 1))) (vw M 0) (P8 (pw M 0) np (nI a1) (nI c1) m o r)) G) := by
      simp only [E5, e5_0, e5_1, e5_2, e5_5, e5_8, e5_9, e5_10, e5_13, e5_16, e5_17, e5_18, e5_21, e5_22, e5_23, e5_25, e5_26, e5_29, e5_31, e5_32, e5_34, e5_36, e5_39, e5_40, e5_43, e5_45, e5_48, e5_50, e5_51, e5_52, e5_53, e5_54, e5_57, e5_60, e5_61, e5_62, e5_64, e5_67, e5_70, e5_72, e5_73, e5_74, e5_77, e5_78, e5_81, e5_82, e5_84, e5_86, e5_87, e5_90, e5_92, e5_93, e5_96, e5_98, e5_99, e5_102, e5_104, e5_106, e5_109, e5_111, e5_113, e5_116, e5_118, e5_119, e5_122, e5_124, e5_125, e5_128, e5_130, e5_131, e5_134, e5_135, e5_136, e5_139, e5_140, e5_141, e5_144, e5_145, e5_148, e5_149, e5_150, zt0, zt1, zn3, not_false_eq_true, toListS, toListN, zk_some, zpi, if_true, if_false, i10, cm_S, cm_V, cm_P, cm_vw, cm_pw, cm_uS, cm_uV, cm_uP, cm_Sf, C2b X _ _ G 0 nv (show cm M 0 (M (0, 0, 0)) (vw M 0) (pw M 0) (0, 0, 0) 2 = nI nv from cm_S.trans e2) n5, q, q2, ne1, e3, lt8, h_0, h_1, h_2, h_3, k_4, k_5, C6a, C6c, z8 h_3, cl8 h_3, true_or, or_true, nI_1, uS_s, nI_p, P8]
    rw [em] at q
    exact q
  simp only [E76, e76_0, e76_1, e76_2, e76_5, e76_6, e76_7, e76_8, e76_10, e76_12, e76_15, e76_18, E116, e116_0, e116_1, e116_4, e116_5, e116_6, e116_9, e116_12, e116_13, zt0, zt1, zn3, not_false_eq_true, toListS, toListN, zk_some, zpi, if_true, if_false, i10, ck, f2]
theorem vb_rate {S : Nat → Int32} {V P : tV} {nv np p k : Nat} (h : vb (S, V, P) nv np) (h1 : 1 ≤ k) (h9 : k ≤ 9) : vb (S, V, uV P p 4 (nI k)) nv np := by
  obtain ⟨⟨v1, v2, v3, v4, v5, v6⟩, v7, v8, v9⟩ := h
  refine ⟨⟨v1, v2, v3, v4, v5, fun r hr => ?_⟩, v7, fun r hr => ?_, v9⟩
  · show vP V (uV P p 4 (nI k)) nv r
    have w0 : vP V P nv r := v6 r hr
    obtain ⟨a1, c1, s1, s2, s3, s4, s5, s6, s7, s8, s9, s10, s11, s12, s13⟩ := w0
    have e : ∀ g, g ≠ 4 → uV P p 4 (nI k) r g = P r g := fun g hg => uV_f hg
    refine ⟨a1, c1, (e 0 (by decide)).trans s1, (e 1 (by decide)).trans s2, s3, s4, s5, ?_, ?_, ?_, ?_, ?_, ?_, ?_, ?_⟩
    · rw [e 2 (by decide)]; exact s6
    · rw [e 3 (by decide)]; exact s7
    · by_cases q : r = p
      · subst q; rw [uV_s, nI_int (by omega)]; omega
      · rw [uV_j q]; exact s8
    · by_cases q : r = p
      · subst q; rw [uV_s, nI_int (by omega)]; omega
      · rw [uV_j q]; exact s9
    · rw [e 5 (by decide)]; exact s10
    · rw [e 5 (by decide)]; exact s11
    · rw [e 6 (by decide)]; exact s12
    · rw [e 6 (by decide)]; exact s13
  · show uV P p 4 (nI k) r 7 = 0 ∨ (uV P p 4 (nI k) r 7 = 1 ∧ ¬ sSi (uV P p 4 (nI k)) r = 0)
    rw [uV_f (by decide), sSi_c (P := P) (uV_f (by decide))]
    exact v8 r hr
theorem vb_water {S : Nat → Int32} {V P : tV} {nv np j m : Nat} (h : vb (S, V, P) nv np) (hm : j < nv → (m : Int) ≤ brim V j) : vb (S, uV V j 3 (nI m), P) nv np := by
  obtain ⟨⟨v1, v2, v3, v4, v5, v6⟩, v7, v8, v9⟩ := h
  have v5 : ∀ r, r < nv → vV V r := v5
  have ef : ∀ r f, f ≠ 3 → uV V j 3 (nI m) r f = V r f := fun r f hf => uV_f hf
  refine ⟨⟨v1, v2, v3, v4, fun r hr => ?_, fun r hr => ?_⟩, fun r hr => ?_, v8, v9⟩
  · exact vV_c (ef r) (v5 r hr)
  · exact vP_c ef (fun _ _ _ => rfl) (v6 r hr)
  · show 0 ≤ wat (uV V j 3 (nI m)) r ∧ wat (uV V j 3 (nI m)) r ≤ brim (uV V j 3 (nI m)) r
    have eb : brim (uV V j 3 (nI m)) r = brim V r := by unfold brim; rw [ef r 0 (by decide), ef r 2 (by decide)]
    rw [eb, wat_u]
    by_cases q : r = j
    · subst q
      have b := brim_v (v5 r hr)
      have := hm hr
      rw [if_pos rfl, nI_int (by omega)]
      omega
    · rw [if_neg q]
      exact v7 r hr
