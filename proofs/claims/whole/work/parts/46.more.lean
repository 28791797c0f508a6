/-! a VESSEL more, a PIPE more -/
theorem nI_p (n : Nat) : nI (n + 1) - 1 = nI n := by rw [← nI_1, Int32.add_sub_cancel]
def V5 (V : tV) (k : Nat) (a b c d e : Int32) : tV := uV (uV (uV (uV (uV V k 0 a) k 1 b) k 2 c) k 3 d) k 4 e
theorem V5_o {V : tV} {k j f : Nat} {a b c d e : Int32} (h : j ≠ k) : V5 V k a b c d e j f = V j f := by unfold V5; rw [uV_j h, uV_j h, uV_j h, uV_j h, uV_j h]
theorem V5_c {V W : tV} {nv : Nat} {a b c d e : Int32} (h : agV nv V W) : agV (nv + 1) (V5 V nv a b c d e) (V5 W nv a b c d e) := by
  intro j f hj hf
  by_cases q : j = nv
  · subst q
    rcases (show f = 0 ∨ f = 1 ∨ f = 2 ∨ f = 3 ∨ f = 4 by omega) with rfl | rfl | rfl | rfl | rfl <;> simp [V5, uV]
  · rw [V5_o q, V5_o q]
    exact h j f (by omega) hf
theorem vb_vessel {S : Nat → Int32} {V P : tV} {nv np : Nat} {x y z : Int32} (h : vb (S, V, P) nv np) (h5 : nv < 5) (x1 : 1 ≤ x.toInt) (x2 : x.toInt ≤ 9) (y1 : 0 ≤ y.toInt) (y2 : y.toInt ≤ 20) (z1 : 1 ≤ z.toInt) (z2 : z.toInt ≤ 30) : vb (uS S 2 (nI (nv + 1)), V5 V nv x y z 0 0, P) (nv + 1) np := by
  obtain ⟨⟨v1, v2, v3, v4, v5, v6⟩, v7, v8, v9⟩ := h
  refine ⟨⟨show uS S 2 (nI (nv + 1)) 2 = nI (nv + 1) from uS_s, v2, by omega, v4, fun r hr => ?_, fun r hr => ?_⟩, fun r hr => ?_, v8, v9⟩
  · show vV (V5 V nv x y z 0 0) r
    by_cases e : r = nv
    · subst e
      refine ⟨?_, ?_, ?_, ?_, ?_, ?_, ?_, ?_⟩
      · rw [show V5 V r x y z 0 0 r 0 = x by simp [V5, uV]]; exact x1
      · rw [show V5 V r x y z 0 0 r 0 = x by simp [V5, uV]]; exact x2
      · rw [show V5 V r x y z 0 0 r 1 = y by simp [V5, uV]]; exact y1
      · rw [show V5 V r x y z 0 0 r 1 = y by simp [V5, uV]]; exact y2
      · rw [show V5 V r x y z 0 0 r 2 = z by simp [V5, uV]]; exact z1
      · rw [show V5 V r x y z 0 0 r 2 = z by simp [V5, uV]]; exact z2
      · rw [show V5 V r x y z 0 0 r 4 = 0 by simp [V5, uV]]; decide
      · rw [show V5 V r x y z 0 0 r 4 = 0 by simp [V5, uV]]; decide
    · have w : vV V r := v5 r (by omega)
      unfold vV at *
      rw [V5_o e, V5_o e, V5_o e, V5_o e]
      exact w
  · obtain ⟨a1, c1, q1, q2, q3, q4, q5, q6, q7, q8⟩ := v6 r hr
    refine ⟨a1, c1, q1, q2, by omega, by omega, q5, ?_, ?_, q8⟩
    · show vM (V5 V nv x y z 0 0) a1 _
      unfold vM at *
      rw [V5_o (by omega), V5_o (by omega)]
      exact q6
    · show vM (V5 V nv x y z 0 0) c1 _
      unfold vM at *
      rw [V5_o (by omega), V5_o (by omega)]
      exact q7
  · show 0 ≤ wat (V5 V nv x y z 0 0) r ∧ wat (V5 V nv x y z 0 0) r ≤ brim (V5 V nv x y z 0 0) r
    unfold wat brim
    by_cases e : r = nv
    · subst e
      rw [show V5 V r x y z 0 0 r 3 = 0 by simp [V5, uV], show V5 V r x y z 0 0 r 0 = x by simp [V5, uV], show V5 V r x y z 0 0 r 2 = z by simp [V5, uV], show (0 : Int32).toInt = 0 from rfl]
      exact ⟨Int.le_refl _, Int.mul_nonneg (by omega) (by omega)⟩
    · rw [V5_o e, V5_o e, V5_o e]
      exact v7 r (by omega)
theorem mm_uS0 {M : zM} {S : Nat → Int32} {V P : tV} {R : Nat → Int32} {x : Int32} : u2 (mm M S V P R) (20, 0, 0) 0 x = mm M (uS S 2 x) V P R := mm_uS (Or.inl ⟨rfl, rfl⟩)
theorem mm_uS1 {M : zM} {S : Nat → Int32} {V P : tV} {R : Nat → Int32} {x : Int32} : u2 (mm M S V P R) (20, 0, 0) 1 x = mm M (uS S 3 x) V P R := mm_uS (Or.inr (Or.inl ⟨rfl, rfl⟩))
theorem mu_vessel (X : Nat × (Nat → Int32) × Value) (b : Nat) (x y z : Int32) {B C : zB} {nv np : Nat} (h : vb B nv np) (h6 : B.1 6 = 0) (a : ag nv np B C) : mu X b 4 160 [vI x, vI y, vI z] [vI x, vI y, vI z] B C := by
  obtain ⟨S, V, P⟩ := B
  obtain ⟨S2, V2, P2⟩ := C
  have z6 : S 6 = 0 := h6
  have e2 : S 2 = nI nv := h.1.1
  have e3 : S 3 = nI np := h.1.2.1
  have n5 : nv ≤ 5 := h.1.2.2.1
  have n8 : np ≤ 8 := h.1.2.2.2.1
  have m2 : S2 2 = nI nv := (a.1 2 (by decide)).symm.trans e2
  have m3 : S2 3 = nI np := (a.1 3 (by decide)).symm.trans e3
  have hP : ∀ p g, p < np → g < 8 → P p g = P2 p g := fun p g h1 h2 => a.2.2 p g h1 h2 (fun _ => by rw [h6]; exact out_0 p)
  have hV : ∀ j f, j < nv → f < 5 → V j f = V2 j f := a.2.1
  have aP : agP np 0 P P2 := by have := a.2.2; rw [h6] at this; exact this
  have lt5 : (nI nv < 5) = (nv < 5) := nlt (b := 5) (by omega) (by decide)
  have eq5 : (nI nv = 5) = (nv = 5) := neq (b := 5) (by omega) (by decide)
  by_cases u_0 : x < 1
  · refine ⟨-4, nv, np, (S, V, P), (S2, V2, P2), fun d M G => ?_, fun d M G R h5 => ⟨R, fun _ _ => rfl, ?_⟩, Or.inl ⟨by decide, rfl, rfl⟩⟩
    · show zd X (d + 4) 4 [vR (0, b, 0), vI x, vI y, vI z] (hh (cm M b S V P) G) = some (some (vI (-4)), hh (cm M b S V P) G)
      simp only [E4, e4_0, e4_1, e4_2, e4_5, e4_6, e4_9, e4_10, e4_11, e4_14, e4_16, e4_17, e4_18, e4_20, e4_23, e4_24, e4_26, e4_29, e4_30, e4_32, e4_35, e4_36, e4_39, e4_40, e4_43, e4_45, e4_46, e4_47, e4_50, e4_51, e4_54, e4_55, e4_57, e4_59, e4_60, e4_63, e4_65, e4_66, e4_69, e4_71, e4_72, e4_75, e4_77, e4_78, e4_81, e4_83, e4_84, e4_87, e4_88, e4_89, e4_92, e4_93, e4_94, e4_97, e4_98, e4_101, e4_102, e4_103, zt0, zt1, zn3, not_false_eq_true, toListS, toListN, zk_some, zpi, if_true, if_false, i10, cm_S, cm_V, cm_P, cm_vw, cm_pw, cm_uS, cm_uV, cm_uP, cm_Sf, u_0]
    · show zd X (d + 9) 160 [vR (7, 0, 0), vI x, vI y, vI z] (hh (mm M S2 V2 P2 R) G) = some (some (vI (-4)), hh (mm M S2 V2 P2 R) G)
      simp only [E160, e160_0, e160_1, e160_2, e160_5, e160_6, e160_9, e160_10, e160_11, e160_14, e160_16, e160_17, e160_18, e160_20, e160_23, e160_24, e160_26, e160_29, e160_30, e160_32, e160_35, e160_36, e160_39, e160_40, e160_41, e160_42, e160_45, e160_47, e160_48, e160_49, e160_52, e160_53, e160_54, e160_57, e160_59, e160_60, e160_63, e160_65, e160_66, e160_67, e160_68, e160_69, e160_70, e160_73, e160_75, e160_76, e160_77, e160_78, e160_79, e160_80, e160_83, e160_85, e160_86, e160_87, e160_88, e160_89, e160_90, e160_93, e160_95, e160_96, e160_97, e160_98, e160_99, e160_100, e160_103, e160_105, e160_106, e160_107, e160_108, e160_109, e160_110, e160_113, e160_114, e160_115, e160_116, e160_117, e160_118, e160_119, e160_120, e160_123, e160_124, e160_125, e160_126, e160_127, zt0, zt1, zn3, not_false_eq_true, toListS, toListN, zk_some, zpi, if_true, if_false, i10, mm_R, mm_0, mm_1, mm_2, mm_3, u_0]
  by_cases u_1 : y < 0
  · refine ⟨-4, nv, np, (S, V, P), (S2, V2, P2), fun d M G => ?_, fun d M G R h5 => ⟨R, fun _ _ => rfl, ?_⟩, Or.inl ⟨by decide, rfl, rfl⟩⟩
    · show zd X (d + 4) 4 [vR (0, b, 0), vI x, vI y, vI z] (hh (cm M b S V P) G) = some (some (vI (-4)), hh (cm M b S V P) G)
      simp only [E4, e4_0, e4_1, e4_2, e4_5, e4_6, e4_9, e4_10, e4_11, e4_14, e4_16, e4_17, e4_18, e4_20, e4_23, e4_24, e4_26, e4_29, e4_30, e4_32, e4_35, e4_36, e4_39, e4_40, e4_43, e4_45, e4_46, e4_47, e4_50, e4_51, e4_54, e4_55, e4_57, e4_59, e4_60, e4_63, e4_65, e4_66, e4_69, e4_71, e4_72, e4_75, e4_77, e4_78, e4_81, e4_83, e4_84, e4_87, e4_88, e4_89, e4_92, e4_93, e4_94, e4_97, e4_98, e4_101, e4_102, e4_103, zt0, zt1, zn3, not_false_eq_true, toListS, toListN, zk_some, zpi, if_true, if_false, i10, cm_S, cm_V, cm_P, cm_vw, cm_pw, cm_uS, cm_uV, cm_uP, cm_Sf, u_0, u_1]
    · show zd X (d + 9) 160 [vR (7, 0, 0), vI x, vI y, vI z] (hh (mm M S2 V2 P2 R) G) = some (some (vI (-4)), hh (mm M S2 V2 P2 R) G)
      simp only [E160, e160_0, e160_1, e160_2, e160_5, e160_6, e160_9, e160_10, e160_11, e160_14, e160_16, e160_17, e160_18, e160_20, e160_23, e160_24, e160_26, e160_29, e160_30, e160_32, e160_35, e160_36, e160_39, e160_40, e160_41, e160_42, e160_45, e160_47, e160_48, e160_49, e160_52, e160_53, e160_54, e160_57, e160_59, e160_60, e160_63, e160_65, e160_66, e160_67, e160_68, e160_69, e160_70, e160_73, e160_75, e160_76, e160_77, e160_78, e160_79, e160_80, e160_83, e160_85, e160_86, e160_87, e160_88, e160_89, e160_90, e160_93, e160_95, e160_96, e160_97, e160_98, e160_99, e160_100, e160_103, e160_105, e160_106, e160_107, e160_108, e160_109, e160_110, e160_113, e160_114, e160_115, e160_116, e160_117, e160_118, e160_119, e160_120, e160_123, e160_124, e160_125, e160_126, e160_127, zt0, zt1, zn3, not_false_eq_true, toListS, toListN, zk_some, zpi, if_true, if_false, i10, mm_R, mm_0, mm_1, mm_2, mm_3, u_0, u_1]
  by_cases u_2 : 1 ≤ z
  rotate_left
  · refine ⟨-4, nv, np, (S, V, P), (S2, V2, P2), fun d M G => ?_, fun d M G R h5 => ⟨R, fun _ _ => rfl, ?_⟩, Or.inl ⟨by decide, rfl, rfl⟩⟩
    · show zd X (d + 4) 4 [vR (0, b, 0), vI x, vI y, vI z] (hh (cm M b S V P) G) = some (some (vI (-4)), hh (cm M b S V P) G)
      simp only [E4, e4_0, e4_1, e4_2, e4_5, e4_6, e4_9, e4_10, e4_11, e4_14, e4_16, e4_17, e4_18, e4_20, e4_23, e4_24, e4_26, e4_29, e4_30, e4_32, e4_35, e4_36, e4_39, e4_40, e4_43, e4_45, e4_46, e4_47, e4_50, e4_51, e4_54, e4_55, e4_57, e4_59, e4_60, e4_63, e4_65, e4_66, e4_69, e4_71, e4_72, e4_75, e4_77, e4_78, e4_81, e4_83, e4_84, e4_87, e4_88, e4_89, e4_92, e4_93, e4_94, e4_97, e4_98, e4_101, e4_102, e4_103, zt0, zt1, zn3, not_false_eq_true, toListS, toListN, zk_some, zpi, if_true, if_false, i10, cm_S, cm_V, cm_P, cm_vw, cm_pw, cm_uS, cm_uV, cm_uP, cm_Sf, u_0, u_1, u_2]
    · show zd X (d + 9) 160 [vR (7, 0, 0), vI x, vI y, vI z] (hh (mm M S2 V2 P2 R) G) = some (some (vI (-4)), hh (mm M S2 V2 P2 R) G)
      simp only [E160, e160_0, e160_1, e160_2, e160_5, e160_6, e160_9, e160_10, e160_11, e160_14, e160_16, e160_17, e160_18, e160_20, e160_23, e160_24, e160_26, e160_29, e160_30, e160_32, e160_35, e160_36, e160_39, e160_40, e160_41, e160_42, e160_45, e160_47, e160_48, e160_49, e160_52, e160_53, e160_54, e160_57, e160_59, e160_60, e160_63, e160_65, e160_66, e160_67, e160_68, e160_69, e160_70, e160_73, e160_75, e160_76, e160_77, e160_78, e160_79, e160_80, e160_83, e160_85, e160_86, e160_87, e160_88, e160_89, e160_90, e160_93, e160_95, e160_96, e160_97, e160_98, e160_99, e160_100, e160_103, e160_105, e160_106, e160_107, e160_108, e160_109, e160_110, e160_113, e160_114, e160_115, e160_116, e160_117, e160_118, e160_119, e160_120, e160_123, e160_124, e160_125, e160_126, e160_127, zt0, zt1, zn3, not_false_eq_true, toListS, toListN, zk_some, zpi, if_true, if_false, i10, mm_R, mm_0, mm_1, mm_2, mm_3, u_0, u_1, u_2]
  by_cases u_3 : 9 < x
  · refine ⟨-6, nv, np, (S, V, P), (S2, V2, P2), fun d M G => ?_, fun d M G R h5 => ⟨R, fun _ _ => rfl, ?_⟩, Or.inl ⟨by decide, rfl, rfl⟩⟩
    · show zd X (d + 4) 4 [vR (0, b, 0), vI x, vI y, vI z] (hh (cm M b S V P) G) = some (some (vI (-6)), hh (cm M b S V P) G)
      simp only [E4, e4_0, e4_1, e4_2, e4_5, e4_6, e4_9, e4_10, e4_11, e4_14, e4_16, e4_17, e4_18, e4_20, e4_23, e4_24, e4_26, e4_29, e4_30, e4_32, e4_35, e4_36, e4_39, e4_40, e4_43, e4_45, e4_46, e4_47, e4_50, e4_51, e4_54, e4_55, e4_57, e4_59, e4_60, e4_63, e4_65, e4_66, e4_69, e4_71, e4_72, e4_75, e4_77, e4_78, e4_81, e4_83, e4_84, e4_87, e4_88, e4_89, e4_92, e4_93, e4_94, e4_97, e4_98, e4_101, e4_102, e4_103, zt0, zt1, zn3, not_false_eq_true, toListS, toListN, zk_some, zpi, if_true, if_false, i10, cm_S, cm_V, cm_P, cm_vw, cm_pw, cm_uS, cm_uV, cm_uP, cm_Sf, u_0, u_1, u_2, u_3]
    · show zd X (d + 9) 160 [vR (7, 0, 0), vI x, vI y, vI z] (hh (mm M S2 V2 P2 R) G) = some (some (vI (-6)), hh (mm M S2 V2 P2 R) G)
      simp only [E160, e160_0, e160_1, e160_2, e160_5, e160_6, e160_9, e160_10, e160_11, e160_14, e160_16, e160_17, e160_18, e160_20, e160_23, e160_24, e160_26, e160_29, e160_30, e160_32, e160_35, e160_36, e160_39, e160_40, e160_41, e160_42, e160_45, e160_47, e160_48, e160_49, e160_52, e160_53, e160_54, e160_57, e160_59, e160_60, e160_63, e160_65, e160_66, e160_67, e160_68, e160_69, e160_70, e160_73, e160_75, e160_76, e160_77, e160_78, e160_79, e160_80, e160_83, e160_85, e160_86, e160_87, e160_88, e160_89, e160_90, e160_93, e160_95, e160_96, e160_97, e160_98, e160_99, e160_100, e160_103, e160_105, e160_106, e160_107, e160_108, e160_109, e160_110, e160_113, e160_114, e160_115, e160_116, e160_117, e160_118, e160_119, e160_120, e160_123, e160_124, e160_125, e160_126, e160_127, zt0, zt1, zn3, not_false_eq_true, toListS, toListN, zk_some, zpi, if_true, if_false, i10, mm_R, mm_0, mm_1, mm_2, mm_3, u_0, u_1, u_2, u_3]
  by_cases u_4 : 20 < y
  · refine ⟨-6, nv, np, (S, V, P), (S2, V2, P2), fun d M G => ?_, fun d M G R h5 => ⟨R, fun _ _ => rfl, ?_⟩, Or.inl ⟨by decide, rfl, rfl⟩⟩
    · show zd X (d + 4) 4 [vR (0, b, 0), vI x, vI y, vI z] (hh (cm M b S V P) G) = some (some (vI (-6)), hh (cm M b S V P) G)
      simp only [E4, e4_0, e4_1, e4_2, e4_5, e4_6, e4_9, e4_10, e4_11, e4_14, e4_16, e4_17, e4_18, e4_20, e4_23, e4_24, e4_26, e4_29, e4_30, e4_32, e4_35, e4_36, e4_39, e4_40, e4_43, e4_45, e4_46, e4_47, e4_50, e4_51, e4_54, e4_55, e4_57, e4_59, e4_60, e4_63, e4_65, e4_66, e4_69, e4_71, e4_72, e4_75, e4_77, e4_78, e4_81, e4_83, e4_84, e4_87, e4_88, e4_89, e4_92, e4_93, e4_94, e4_97, e4_98, e4_101, e4_102, e4_103, zt0, zt1, zn3, not_false_eq_true, toListS, toListN, zk_some, zpi, if_true, if_false, i10, cm_S, cm_V, cm_P, cm_vw, cm_pw, cm_uS, cm_uV, cm_uP, cm_Sf, u_0, u_1, u_2, u_3, u_4]
    · show zd X (d + 9) 160 [vR (7, 0, 0), vI x, vI y, vI z] (hh (mm M S2 V2 P2 R) G) = some (some (vI (-6)), hh (mm M S2 V2 P2 R) G)
      simp only [E160, e160_0, e160_1, e160_2, e160_5, e160_6, e160_9, e160_10, e160_11, e160_14, e160_16, e160_17, e160_18, e160_20, e160_23, e160_24, e160_26, e160_29, e160_30, e160_32, e160_35, e160_36, e160_39, e160_40, e160_41, e160_42, e160_45, e160_47, e160_48, e160_49, e160_52, e160_53, e160_54, e160_57, e160_59, e160_60, e160_63, e160_65, e160_66, e160_67, e160_68, e160_69, e160_70, e160_73, e160_75, e160_76, e160_77, e160_78, e160_79, e160_80, e160_83, e160_85, e160_86, e160_87, e160_88, e160_89, e160_90, e160_93, e160_95, e160_96, e160_97, e160_98, e160_99, e160_100, e160_103, e160_105, e160_106, e160_107, e160_108, e160_109, e160_110, e160_113, e160_114, e160_115, e160_116, e160_117, e160_118, e160_119, e160_120, e160_123, e160_124, e160_125, e160_126, e160_127, zt0, zt1, zn3, not_false_eq_true, toListS, toListN, zk_some, zpi, if_true, if_false, i10, mm_R, mm_0, mm_1, mm_2, mm_3, u_0, u_1, u_2, u_3, u_4]
  by_cases u_5 : 30 < z
  · refine ⟨-6, nv, np, (S, V, P), (S2, V2, P2), fun d M G => ?_, fun d M G R h5 => ⟨R, fun _ _ => rfl, ?_⟩, Or.inl ⟨by decide, rfl, rfl⟩⟩
    · show zd X (d + 4) 4 [vR (0, b, 0), vI x, vI y, vI z] (hh (cm M b S V P) G) = some (some (vI (-6)), hh (cm M b S V P) G)
      simp only [E4, e4_0, e4_1, e4_2, e4_5, e4_6, e4_9, e4_10, e4_11, e4_14, e4_16, e4_17, e4_18, e4_20, e4_23, e4_24, e4_26, e4_29, e4_30, e4_32, e4_35, e4_36, e4_39, e4_40, e4_43, e4_45, e4_46, e4_47, e4_50, e4_51, e4_54, e4_55, e4_57, e4_59, e4_60, e4_63, e4_65, e4_66, e4_69, e4_71, e4_72, e4_75, e4_77, e4_78, e4_81, e4_83, e4_84, e4_87, e4_88, e4_89, e4_92, e4_93, e4_94, e4_97, e4_98, e4_101, e4_102, e4_103, zt0, zt1, zn3, not_false_eq_true, toListS, toListN, zk_some, zpi, if_true, if_false, i10, cm_S, cm_V, cm_P, cm_vw, cm_pw, cm_uS, cm_uV, cm_uP, cm_Sf, u_0, u_1, u_2, u_3, u_4, u_5]
    · show zd X (d + 9) 160 [vR (7, 0, 0), vI x, vI y, vI z] (hh (mm M S2 V2 P2 R) G) = some (some (vI (-6)), hh (mm M S2 V2 P2 R) G)
      simp only [E160, e160_0, e160_1, e160_2, e160_5, e160_6, e160_9, e160_10, e160_11, e160_14, e160_16, e160_17, e160_18, e160_20, e160_23, e160_24, e160_26, e160_29, e160_30, e160_32, e160_35, e160_36, e160_39, e160_40, e160_41, e160_42, e160_45, e160_47, e160_48, e160_49, e160_52, e160_53, e160_54, e160_57, e160_59, e160_60, e160_63, e160_65, e160_66, e160_67, e160_68, e160_69, e160_70, e160_73, e160_75, e160_76, e160_77, e160_78, e160_79, e160_80, e160_83, e160_85, e160_86, e160_87, e160_88, e160_89, e160_90, e160_93, e160_95, e160_96, e160_97, e160_98, e160_99, e160_100, e160_103, e160_105, e160_106, e160_107, e160_108, e160_109, e160_110, e160_113, e160_114, e160_115, e160_116, e160_117, e160_118, e160_119, e160_120, e160_123, e160_124, e160_125, e160_126, e160_127, zt0, zt1, zn3, not_false_eq_true, toListS, toListN, zk_some, zpi, if_true, if_false, i10, mm_R, mm_0, mm_1, mm_2, mm_3, u_0, u_1, u_2, u_3, u_4, u_5]
  by_cases u_6 : nv < 5
  rotate_left
  · have u_7 : nv = 5 := by omega
    refine ⟨-6, nv, np, (S, V, P), (S2, V2, P2), fun d M G => ?_, fun d M G R h5 => ⟨R, fun _ _ => rfl, ?_⟩, Or.inl ⟨by decide, rfl, rfl⟩⟩
    · show zd X (d + 4) 4 [vR (0, b, 0), vI x, vI y, vI z] (hh (cm M b S V P) G) = some (some (vI (-6)), hh (cm M b S V P) G)
      simp only [E4, e4_0, e4_1, e4_2, e4_5, e4_6, e4_9, e4_10, e4_11, e4_14, e4_16, e4_17, e4_18, e4_20, e4_23, e4_24, e4_26, e4_29, e4_30, e4_32, e4_35, e4_36, e4_39, e4_40, e4_43, e4_45, e4_46, e4_47, e4_50, e4_51, e4_54, e4_55, e4_57, e4_59, e4_60, e4_63, e4_65, e4_66, e4_69, e4_71, e4_72, e4_75, e4_77, e4_78, e4_81, e4_83, e4_84, e4_87, e4_88, e4_89, e4_92, e4_93, e4_94, e4_97, e4_98, e4_101, e4_102, e4_103, zt0, zt1, zn3, not_false_eq_true, toListS, toListN, zk_some, zpi, if_true, if_false, i10, cm_S, cm_V, cm_P, cm_vw, cm_pw, cm_uS, cm_uV, cm_uP, cm_Sf, u_0, u_1, u_2, u_3, u_4, u_5, u_6, e2, lt5]
    · show zd X (d + 9) 160 [vR (7, 0, 0), vI x, vI y, vI z] (hh (mm M S2 V2 P2 R) G) = some (some (vI (-6)), hh (mm M S2 V2 P2 R) G)
      simp only [E160, e160_0, e160_1, e160_2, e160_5, e160_6, e160_9, e160_10, e160_11, e160_14, e160_16, e160_17, e160_18, e160_20, e160_23, e160_24, e160_26, e160_29, e160_30, e160_32, e160_35, e160_36, e160_39, e160_40, e160_41, e160_42, e160_45, e160_47, e160_48, e160_49, e160_52, e160_53, e160_54, e160_57, e160_59, e160_60, e160_63, e160_65, e160_66, e160_67, e160_68, e160_69, e160_70, e160_73, e160_75, e160_76, e160_77, e160_78, e160_79, e160_80, e160_83, e160_85, e160_86, e160_87, e160_88, e160_89, e160_90, e160_93, e160_95, e160_96, e160_97, e160_98, e160_99, e160_100, e160_103, e160_105, e160_106, e160_107, e160_108, e160_109, e160_110, e160_113, e160_114, e160_115, e160_116, e160_117, e160_118, e160_119, e160_120, e160_123, e160_124, e160_125, e160_126, e160_127, zt0, zt1, zn3, not_false_eq_true, toListS, toListN, zk_some, zpi, if_true, if_false, i10, mm_R, mm_0, mm_1, mm_2, mm_3, u_0, u_1, u_2, u_3, u_4, u_5, w0, t0, m2, eq5, u_7, show (nI 5 = (5 : Int32)) = True from eq_true rfl]
  have u_7 : ¬ nv = 5 := by omega
  refine ⟨nI nv, nv + 1, np, (uS S 2 (nI (nv + 1)), V5 V nv x y z 0 0, P), (uS S2 2 (nI (nv + 1)), V5 V2 nv x y z 0 0, P2), fun d M G => ?_, fun d M G R h5 => ⟨R, fun _ _ => rfl, ?_⟩, Or.inr ⟨?_, ?_, ?_, ?_, ?_⟩⟩
  · show zd X (d + 4) 4 [vR (0, b, 0), vI x, vI y, vI z] (hh (cm M b S V P) G) = some (some (vI (nI nv)), hh (cm M b (uS S 2 (nI (nv + 1))) (V5 V nv x y z 0 0) (P)) G)
    simp only [E4, e4_0, e4_1, e4_2, e4_5, e4_6, e4_9, e4_10, e4_11, e4_14, e4_16, e4_17, e4_18, e4_20, e4_23, e4_24, e4_26, e4_29, e4_30, e4_32, e4_35, e4_36, e4_39, e4_40, e4_43, e4_45, e4_46, e4_47, e4_50, e4_51, e4_54, e4_55, e4_57, e4_59, e4_60, e4_63, e4_65, e4_66, e4_69, e4_71, e4_72, e4_75, e4_77, e4_78, e4_81, e4_83, e4_84, e4_87, e4_88, e4_89, e4_92, e4_93, e4_94, e4_97, e4_98, e4_101, e4_102, e4_103, zt0, zt1, zn3, not_false_eq_true, toListS, toListN, zk_some, zpi, if_true, if_false, i10, cm_S, cm_V, cm_P, cm_vw, cm_pw, cm_uS, cm_uV, cm_uP, cm_Sf, u_0, u_1, u_2, u_3, u_4, u_5, u_6, e2, lt5, z5 u_6, cl5 u_6, nI_1, uS_s, nI_p, V5]
  · show zd X (d + 9) 160 [vR (7, 0, 0), vI x, vI y, vI z] (hh (mm M S2 V2 P2 R) G) = some (some (vI (nI nv)), hh (mm M (uS S2 2 (nI (nv + 1))) (V5 V2 nv x y z 0 0) (P2) R) G)
    simp only [E160, e160_0, e160_1, e160_2, e160_5, e160_6, e160_9, e160_10, e160_11, e160_14, e160_16, e160_17, e160_18, e160_20, e160_23, e160_24, e160_26, e160_29, e160_30, e160_32, e160_35, e160_36, e160_39, e160_40, e160_41, e160_42, e160_45, e160_47, e160_48, e160_49, e160_52, e160_53, e160_54, e160_57, e160_59, e160_60, e160_63, e160_65, e160_66, e160_67, e160_68, e160_69, e160_70, e160_73, e160_75, e160_76, e160_77, e160_78, e160_79, e160_80, e160_83, e160_85, e160_86, e160_87, e160_88, e160_89, e160_90, e160_93, e160_95, e160_96, e160_97, e160_98, e160_99, e160_100, e160_103, e160_105, e160_106, e160_107, e160_108, e160_109, e160_110, e160_113, e160_114, e160_115, e160_116, e160_117, e160_118, e160_119, e160_120, e160_123, e160_124, e160_125, e160_126, e160_127, zt0, zt1, zn3, not_false_eq_true, toListS, toListN, zk_some, zpi, if_true, if_false, i10, mm_R, mm_0, mm_1, mm_2, mm_3, u_0, u_1, u_2, u_3, u_4, u_5, u_6, w0, t0, m2, eq5, u_7, C134, niV, ni0, ni1, ni2, ni3, ni4, wV0 u_6, cV0 u_6, mm_uV0 u_6, wV u_6 (show 1 < 5 by decide), cV u_6 (show 1 < 5 by decide), mm_uV u_6 (show 1 < 5 by decide), wV u_6 (show 2 < 5 by decide), cV u_6 (show 2 < 5 by decide), mm_uV u_6 (show 2 < 5 by decide), wV u_6 (show 3 < 5 by decide), cV u_6 (show 3 < 5 by decide), mm_uV u_6 (show 3 < 5 by decide), wV u_6 (show 4 < 5 by decide), cV u_6 (show 4 < 5 by decide), mm_uV u_6 (show 4 < 5 by decide), mm_uS0, nI_1, uS_s, nI_p, V5]
  · rw [nI_int (by omega)]; omega
  · rw [i_lt, show (1 : Int32).toInt = 1 from rfl] at u_0
    rw [i_lt, show (0 : Int32).toInt = 0 from rfl] at u_1
    rw [i_le, show (1 : Int32).toInt = 1 from rfl] at u_2
    rw [i_lt, show (9 : Int32).toInt = 9 from rfl] at u_3
    rw [i_lt, show (20 : Int32).toInt = 20 from rfl] at u_4
    rw [i_lt, show (30 : Int32).toInt = 30 from rfl] at u_5
    exact vb_vessel h u_6 (by omega) (by omega) (by omega) (by omega) (by omega) (by omega)
  · exact h6
  · obtain ⟨a1, a2, a3⟩ := a
    refine ⟨fun f hf => ?_, V5_c a2, a3⟩
    rcases hf with rfl | rfl | rfl | rfl | rfl
    · exact Eq.trans (show uS S 2 (nI (nv + 1)) 2 = nI (nv + 1) from uS_s) (show uS S2 2 (nI (nv + 1)) 2 = nI (nv + 1) from uS_s).symm
    · exact a1 3 (by decide)
    · exact a1 4 (by decide)
    · exact a1 5 (by decide)
    · exact a1 6 (by decide)
  · show (S 4).toInt ≤ (S 4).toInt + 138105
    omega
def hM (V : tV) (a : Nat) (m : Int32) : Int32 := inz m (V a 1).toInt (V a 1 + V a 2).toInt
theorem C6 (X : Nat × (Nat → Int32) × Value) (d : Nat) (M : zM) (G : zG) (b : Nat) (S : Nat → Int32) (V P : tV) (a : Nat) (m : Int32) (ha : a < 5) : zd X d 6 [vR (0, b, 0), vI (nI a), vI m] (hh (cm M b S V P) G) = some (some (vI (hM V a m)), hh (cm M b S V P) G) := by
  have e : hM V a m = (if m < V a 1 then (0 : Int32) else if V a 1 + V a 2 < m then 0 else 1) := by
    unfold hM inz
    by_cases h1 : m < V a 1
    · rw [if_pos h1, if_pos (i_lt.mp h1)]
    · rw [if_neg h1, if_neg (fun q => h1 (i_lt.mpr q))]
      by_cases h2 : V a 1 + V a 2 < m
      · rw [if_pos h2, if_pos (i_lt.mp h2)]
      · rw [if_neg h2, if_neg (fun q => h2 (i_lt.mpr q))]
  rw [e]
  simp only [E6, e6_0, e6_1, e6_4, e6_5, e6_6, e6_7, e6_8, e6_9, e6_12, e6_15, e6_16, e6_17, e6_20, e6_21, e6_24, e6_25, e6_28, e6_29, e6_32, e6_33, zt0, zt1, zn3, not_false_eq_true, toListS, toListN, zk_some, zpi, if_true, if_false, i10, cm_S, cm_V, cm_P, cm_vw, cm_pw, cm_uS, cm_uV, cm_uP, cm_Sf, z5 ha, cl5 ha]
theorem C161 (X : Nat × (Nat → Int32) × Value) (d : Nat) (M : zM) (G : zG) (S : Nat → Int32) (V P : tV) (R : Nat → Int32) (j : Nat) (m : Int32) (hj5 : j < 5) : zd X (d + 1) 161 [vR (7, 0, 0), vI (nI j), vI m] (hh (mm M S V P R) G) = some (some (vI (hM V j m)), hh (mm M S V P R) G) := by
  simp only [E161, e161_0, e161_1, e161_2, e161_3, e161_6, e161_7, e161_10, e161_11, e161_12, e161_13, e161_14, e161_15, e161_18, e161_19, e161_22, e161_23, e161_24, e161_25, e161_26, e161_29, e161_30, e161_33, e161_34, e161_35, e161_36, e161_37, e161_38, e161_41, zt0, zt1, zn3, not_false_eq_true, toListS, toListN, zk_some, zpi, if_true, if_false, i10, mm_R, mm_0, mm_1, mm_2, mm_3, C134, niV, ni0, ni1, ni2, ni3, ni4, wV0 hj5, cV0 hj5, mm_V0 hj5, mm_uV0 hj5, wV hj5 (show 1 < 5 by decide), cV hj5 (show 1 < 5 by decide), mm_V hj5 (show 1 < 5 by decide), mm_uV hj5 (show 1 < 5 by decide), wV hj5 (show 2 < 5 by decide), cV hj5 (show 2 < 5 by decide), mm_V hj5 (show 2 < 5 by decide), mm_uV hj5 (show 2 < 5 by decide), wV hj5 (show 3 < 5 by decide), cV hj5 (show 3 < 5 by decide), mm_V hj5 (show 3 < 5 by decide), mm_uV hj5 (show 3 < 5 by decide), wV hj5 (show 4 < 5 by decide), cV hj5 (show 4 < 5 by decide), mm_V hj5 (show 4 < 5 by decide), mm_uV hj5 (show 4 < 5 by decide), C128, Int32.toInt_toInt64, inz_z]
  rfl
theorem hM_01 (V : tV) (a : Nat) (m : Int32) : hM V a m = 0 ∨ hM V a m = 1 := inz_01 ..
theorem hM_c {V W : tV} {a : Nat} {m : Int32} (h : ∀ f, f < 5 → V a f = W a f) : hM V a m = hM W a m := by unfold hM; rw [h 1 (by decide), h 2 (by decide)]
theorem hM_v {V : tV} {a : Nat} {m : Int32} (hv : vV V a) (h : hM V a m = 1) : vM V a m := by
  have e : (V a 1 + V a 2).toInt = (V a 1).toInt + (V a 2).toInt := by
    obtain ⟨-, -, p1, p2, p3, p4, -⟩ := hv
    exact i_add_s (by omega) (by omega)
  unfold hM inz at h
  unfold vM
  rw [e] at h
  by_cases q1 : m.toInt < (V a 1).toInt
  · rw [if_pos q1] at h; exact absurd h (by decide)
  · rw [if_neg q1] at h
    by_cases q2 : (V a 1).toInt + (V a 2).toInt < m.toInt
    · rw [if_pos q2] at h; exact absurd h (by decide)
    · omega
/-- a pipe's figures laid: f, s: its ends; m, o: its mouths; r: its rate -/
def P8 (P : tV) (k : Nat) (f s m o r : Int32) : tV := uV (uV (uV (uV (uV (uV (uV (uV P k 0 f) k 1 s) k 2 m) k 3 o) k 4 r) k 5 0) k 6 0) k 7 0
def Q8 (P : tV) (k : Nat) (f s m o r : Int32) : tV := uV (uV (uV (uV (uV (uV (uV (uV P k 5 0) k 6 0) k 0 f) k 1 s) k 2 m) k 3 o) k 4 r) k 7 0
theorem P8_o {P : tV} {k j g : Nat} {f s m o r : Int32} (h : j ≠ k) : P8 P k f s m o r j g = P j g := by unfold P8; rw [uV_j h, uV_j h, uV_j h, uV_j h, uV_j h, uV_j h, uV_j h, uV_j h]
theorem Q8_o {P : tV} {k j g : Nat} {f s m o r : Int32} (h : j ≠ k) : Q8 P k f s m o r j g = P j g := by unfold Q8; rw [uV_j h, uV_j h, uV_j h, uV_j h, uV_j h, uV_j h, uV_j h, uV_j h]
theorem P8_c {P Q : tV} {np : Nat} {f s m o r : Int32} (h : ∀ p g, p < np → g < 8 → P p g = Q p g) : ∀ p g, p < np + 1 → g < 8 → P8 P np f s m o r p g = Q8 Q np f s m o r p g := by
  intro p g hp hg
  by_cases q : p = np
  · subst q
    rcases (show g = 0 ∨ g = 1 ∨ g = 2 ∨ g = 3 ∨ g = 4 ∨ g = 5 ∨ g = 6 ∨ g = 7 by omega) with rfl | rfl | rfl | rfl | rfl | rfl | rfl | rfl <;> simp [P8, Q8, uV]
  · rw [P8_o q, Q8_o q]
    exact h p g (by omega) hg
theorem vb_pipe {S : Nat → Int32} {V P : tV} {nv np a c : Nat} {m o r : Int32} (h : vb (S, V, P) nv np) (h8 : np < 8) (ha : a < nv) (hc : c < nv) (hn : a ≠ c) (hm : vM V a m) (ho : vM V c o) (r1 : 1 ≤ r.toInt) (r2 : r.toInt ≤ 9) : vb (uS S 3 (nI (np + 1)), V, P8 P np (nI a) (nI c) m o r) nv (np + 1) := by
  obtain ⟨⟨v1, v2, v3, v4, v5, v6⟩, v7, v8, v9⟩ := h
  refine ⟨⟨v1, show uS S 3 (nI (np + 1)) 3 = nI (np + 1) from uS_s, v3, by omega, v5, fun q hq => ?_⟩, v7, fun q hq => ?_, v9⟩
  · show vP V (P8 P np (nI a) (nI c) m o r) nv q
    by_cases e : q = np
    · subst e
      refine ⟨a, c, by simp [P8, uV], by simp [P8, uV], ha, hc, hn, ?_, ?_, ?_, ?_, ?_, ?_, ?_, ?_⟩
      · rw [show P8 P q (nI a) (nI c) m o r q 2 = m by simp [P8, uV]]; exact hm
      · rw [show P8 P q (nI a) (nI c) m o r q 3 = o by simp [P8, uV]]; exact ho
      · rw [show P8 P q (nI a) (nI c) m o r q 4 = r by simp [P8, uV]]; exact r1
      · rw [show P8 P q (nI a) (nI c) m o r q 4 = r by simp [P8, uV]]; exact r2
      · rw [show P8 P q (nI a) (nI c) m o r q 5 = 0 by simp [P8, uV]]; decide
      · rw [show P8 P q (nI a) (nI c) m o r q 5 = 0 by simp [P8, uV]]; decide
      · rw [show P8 P q (nI a) (nI c) m o r q 6 = 0 by simp [P8, uV]]; decide
      · rw [show P8 P q (nI a) (nI c) m o r q 6 = 0 by simp [P8, uV]]; decide
    · obtain w := v6 q (by omega)
      unfold vP at *
      simp only [P8_o e]
      exact w
  · show P8 P np (nI a) (nI c) m o r q 7 = 0 ∨ (P8 P np (nI a) (nI c) m o r q 7 = 1 ∧ ¬ sSi (P8 P np (nI a) (nI c) m o r) q = 0)
    by_cases e : q = np
    · subst e
      exact Or.inl (by simp [P8, uV])
    · rw [P8_o e, sSi_c (P := P) (P8_o e)]
      exact v8 q (by omega)
theorem mu_pipe (X : Nat × (Nat → Int32) × Value) (b : Nat) (x y m o r : Int32) {B C : zB} {nv np : Nat} (h : vb B nv np) (h6 : B.1 6 = 0) (a : ag nv np B C) : mu X b 5 162 [vI x, vI y, vI m, vI o, vI r] [vI x, vI y, vI m, vI o, vI r] B C := by
  obtain ⟨S, V, P⟩ := B
  obtain ⟨S2, V2, P2⟩ := C
  have z6 : S 6 = 0 := h6
  have e2 : S 2 = nI nv := h.1.1
  have e3 : S 3 = nI np := h.1.2.1
  have n5 : nv ≤ 5 := h.1.2.2.1
  have n8 : np ≤ 8 := h.1.2.2.2.1
  have m2 : S2 2 = nI nv := (a.1 2 (by decide)).symm.trans e2
  have m3 : S2 3 = nI np := (a.1 3 (by decide)).symm.trans e3
  have hP : ∀ p g, p < np → g < 8 → P p g = P2 p g := fun p g h1 h2 => a.2.2 p g h1 h2 (fun _ => by rw [h6]; exact out_0 p)
  have hV : ∀ j f, j < nv → f < 5 → V j f = V2 j f := a.2.1
  have aP : agP np 0 P P2 := by have := a.2.2; rw [h6] at this; exact this
  have lt8 : (nI np < 8) = (np < 8) := nlt (b := 8) (by omega) (by decide)
  have eq8 : (nI np = 8) = (np = 8) := neq (b := 8) (by omega) (by decide)
  rcases isx_c (n := nv) x (by omega) with ⟨q, -⟩ | ⟨a1, ha, rfl, q⟩
  · refine ⟨-1, nv, np, (S, V, P), (S2, V2, P2), fun d M G => ?_, fun d M G R h5 => ⟨R, fun _ _ => rfl, ?_⟩, Or.inl ⟨by decide, rfl, rfl⟩⟩
    · show zd X (d + 4) 5 [vR (0, b, 0), vI x, vI y, vI m, vI o, vI r] (hh (cm M b S V P) G) = some (some (vI (-1)), hh (cm M b S V P) G)
      simp only [E5, e5_0, e5_1, e5_2, e5_5, e5_8, e5_9, e5_10, e5_13, e5_16, e5_17, e5_18, e5_21, e5_22, e5_23, e5_25, e5_26, e5_29, e5_31, e5_32, e5_34, e5_36, e5_39, e5_40, e5_43, e5_45, e5_48, e5_50, e5_51, e5_52, e5_53, e5_54, e5_57, e5_60, e5_61, e5_62, e5_64, e5_67, e5_70, e5_72, e5_73, e5_74, e5_77, e5_78, e5_81, e5_82, e5_84, e5_86, e5_87, e5_90, e5_92, e5_93, e5_96, e5_98, e5_99, e5_102, e5_104, e5_106, e5_109, e5_111, e5_113, e5_116, e5_118, e5_119, e5_122, e5_124, e5_125, e5_128, e5_130, e5_131, e5_134, e5_135, e5_136, e5_139, e5_140, e5_141, e5_144, e5_145, e5_148, e5_149, e5_150, zt0, zt1, zn3, not_false_eq_true, toListS, toListN, zk_some, zpi, if_true, if_false, i10, cm_S, cm_V, cm_P, cm_vw, cm_pw, cm_uS, cm_uV, cm_uP, cm_Sf, C2b X _ _ G b nv (show cm M b S V P (0, b, 0) 2 = nI nv from cm_S.trans e2) n5, q]
    · show zd X (d + 9) 162 [vR (7, 0, 0), vI x, vI y, vI m, vI o, vI r] (hh (mm M S2 V2 P2 R) G) = some (some (vI (-1)), hh (mm M S2 V2 P2 R) G)
      simp only [E162, e162_0, e162_1, e162_2, e162_5, e162_8, e162_9, e162_10, e162_13, e162_16, e162_17, e162_18, e162_21, e162_22, e162_23, e162_25, e162_26, e162_29, e162_31, e162_32, e162_34, e162_36, e162_39, e162_40, e162_43, e162_44, e162_45, e162_47, e162_50, e162_52, e162_53, e162_54, e162_55, e162_56, e162_59, e162_62, e162_63, e162_64, e162_66, e162_69, e162_72, e162_74, e162_75, e162_76, e162_79, e162_80, e162_81, e162_84, e162_86, e162_87, e162_90, e162_92, e162_93, e162_94, e162_95, e162_96, e162_97, e162_100, e162_102, e162_103, e162_104, e162_105, e162_106, e162_107, e162_110, e162_112, e162_113, e162_114, e162_115, e162_116, e162_117, e162_120, e162_122, e162_123, e162_124, e162_125, e162_126, e162_127, e162_130, e162_132, e162_133, e162_134, e162_135, e162_136, e162_137, e162_140, e162_142, e162_143, e162_144, e162_145, e162_146, e162_148, e162_149, e162_150, e162_153, e162_155, e162_157, e162_158, e162_160, e162_161, e162_162, e162_165, e162_167, e162_169, e162_170, e162_171, e162_172, e162_173, e162_176, e162_177, e162_178, e162_179, e162_180, e162_181, e162_182, e162_183, e162_186, e162_187, e162_188, e162_189, e162_190, zt0, zt1, zn3, not_false_eq_true, toListS, toListN, zk_some, zpi, if_true, if_false, i10, mm_R, mm_0, mm_1, mm_2, mm_3, C132 X _ (mm M S2 V2 P2 R) G _ nv (show mm M S2 V2 P2 R (20, 0, 0) 0 = nI nv from m2) (by omega), q]
  rcases isx_c (n := nv) y (by omega) with ⟨q2, -⟩ | ⟨c1, hc, rfl, q2⟩
  · refine ⟨-1, nv, np, (S, V, P), (S2, V2, P2), fun d M G => ?_, fun d M G R h5 => ⟨R, fun _ _ => rfl, ?_⟩, Or.inl ⟨by decide, rfl, rfl⟩⟩
    · show zd X (d + 4) 5 [vR (0, b, 0), vI (nI a1), vI y, vI m, vI o, vI r] (hh (cm M b S V P) G) = some (some (vI (-1)), hh (cm M b S V P) G)
      simp only [E5, e5_0, e5_1, e5_2, e5_5, e5_8, e5_9, e5_10, e5_13, e5_16, e5_17, e5_18, e5_21, e5_22, e5_23, e5_25, e5_26, e5_29, e5_31, e5_32, e5_34, e5_36, e5_39, e5_40, e5_43, e5_45, e5_48, e5_50, e5_51, e5_52, e5_53, e5_54, e5_57, e5_60, e5_61, e5_62, e5_64, e5_67, e5_70, e5_72, e5_73, e5_74, e5_77, e5_78, e5_81, e5_82, e5_84, e5_86, e5_87, e5_90, e5_92, e5_93, e5_96, e5_98, e5_99, e5_102, e5_104, e5_106, e5_109, e5_111, e5_113, e5_116, e5_118, e5_119, e5_122, e5_124, e5_125, e5_128, e5_130, e5_131, e5_134, e5_135, e5_136, e5_139, e5_140, e5_141, e5_144, e5_145, e5_148, e5_149, e5_150, zt0, zt1, zn3, not_false_eq_true, toListS, toListN, zk_some, zpi, if_true, if_false, i10, cm_S, cm_V, cm_P, cm_vw, cm_pw, cm_uS, cm_uV, cm_uP, cm_Sf, C2b X _ _ G b nv (show cm M b S V P (0, b, 0) 2 = nI nv from cm_S.trans e2) n5, q, q2]
    · show zd X (d + 9) 162 [vR (7, 0, 0), vI (nI a1), vI y, vI m, vI o, vI r] (hh (mm M S2 V2 P2 R) G) = some (some (vI (-1)), hh (mm M S2 V2 P2 R) G)
      simp only [E162, e162_0, e162_1, e162_2, e162_5, e162_8, e162_9, e162_10, e162_13, e162_16, e162_17, e162_18, e162_21, e162_22, e162_23, e162_25, e162_26, e162_29, e162_31, e162_32, e162_34, e162_36, e162_39, e162_40, e162_43, e162_44, e162_45, e162_47, e162_50, e162_52, e162_53, e162_54, e162_55, e162_56, e162_59, e162_62, e162_63, e162_64, e162_66, e162_69, e162_72, e162_74, e162_75, e162_76, e162_79, e162_80, e162_81, e162_84, e162_86, e162_87, e162_90, e162_92, e162_93, e162_94, e162_95, e162_96, e162_97, e162_100, e162_102, e162_103, e162_104, e162_105, e162_106, e162_107, e162_110, e162_112, e162_113, e162_114, e162_115, e162_116, e162_117, e162_120, e162_122, e162_123, e162_124, e162_125, e162_126, e162_127, e162_130, e162_132, e162_133, e162_134, e162_135, e162_136, e162_137, e162_140, e162_142, e162_143, e162_144, e162_145, e162_146, e162_148, e162_149, e162_150, e162_153, e162_155, e162_157, e162_158, e162_160, e162_161, e162_162, e162_165, e162_167, e162_169, e162_170, e162_171, e162_172, e162_173, e162_176, e162_177, e162_178, e162_179, e162_180, e162_181, e162_182, e162_183, e162_186, e162_187, e162_188, e162_189, e162_190, zt0, zt1, zn3, not_false_eq_true, toListS, toListN, zk_some, zpi, if_true, if_false, i10, mm_R, mm_0, mm_1, mm_2, mm_3, C132 X _ (mm M S2 V2 P2 R) G _ nv (show mm M S2 V2 P2 R (20, 0, 0) 0 = nI nv from m2) (by omega), q, q2]
  have ne1 : (nI a1 = nI c1) = (a1 = c1) := neq (by omega) (by omega)
  have C6a := fun (d : Nat) (M : zM) (G : zG) => C6 X d M G b S V P a1 m (by omega)
  have C6c := fun (d : Nat) (M : zM) (G : zG) => C6 X d M G b S V P c1 o (by omega)
  have C161a := fun (d : Nat) (M : zM) (G : zG) (R : Nat → Int32) => C161 X d M G S2 V2 P2 R a1 m (by omega)
  have C161c := fun (d : Nat) (M : zM) (G : zG) (R : Nat → Int32) => C161 X d M G S2 V2 P2 R c1 o (by omega)
  rw [← hM_c (V := V) (W := V2) (fun f hf => hV a1 f ha hf)] at C161a
  rw [← hM_c (V := V) (W := V2) (fun f hf => hV c1 f hc hf)] at C161c
  by_cases h_0 : a1 = c1
  · refine ⟨-1, nv, np, (S, V, P), (S2, V2, P2), fun d M G => ?_, fun d M G R h5 => ⟨R, fun _ _ => rfl, ?_⟩, Or.inl ⟨by decide, rfl, rfl⟩⟩
    · show zd X (d + 4) 5 [vR (0, b, 0), vI (nI a1), vI (nI c1), vI m, vI o, vI r] (hh (cm M b S V P) G) = some (some (vI (-1)), hh (cm M b S V P) G)
      simp only [E5, e5_0, e5_1, e5_2, e5_5, e5_8, e5_9, e5_10, e5_13, e5_16, e5_17, e5_18, e5_21, e5_22, e5_23, e5_25, e5_26, e5_29, e5_31, e5_32, e5_34, e5_36, e5_39, e5_40, e5_43, e5_45, e5_48, e5_50, e5_51, e5_52, e5_53, e5_54, e5_57, e5_60, e5_61, e5_62, e5_64, e5_67, e5_70, e5_72, e5_73, e5_74, e5_77, e5_78, e5_81, e5_82, e5_84, e5_86, e5_87, e5_90, e5_92, e5_93, e5_96, e5_98, e5_99, e5_102, e5_104, e5_106, e5_109, e5_111, e5_113, e5_116, e5_118, e5_119, e5_122, e5_124, e5_125, e5_128, e5_130, e5_131, e5_134, e5_135, e5_136, e5_139, e5_140, e5_141, e5_144, e5_145, e5_148, e5_149, e5_150, zt0, zt1, zn3, not_false_eq_true, toListS, toListN, zk_some, zpi, if_true, if_false, i10, cm_S, cm_V, cm_P, cm_vw, cm_pw, cm_uS, cm_uV, cm_uP, cm_Sf, C2b X _ _ G b nv (show cm M b S V P (0, b, 0) 2 = nI nv from cm_S.trans e2) n5, q, q2, ne1, e3, lt8, h_0]
    · show zd X (d + 9) 162 [vR (7, 0, 0), vI (nI a1), vI (nI c1), vI m, vI o, vI r] (hh (mm M S2 V2 P2 R) G) = some (some (vI (-1)), hh (mm M S2 V2 P2 R) G)
      simp only [E162, e162_0, e162_1, e162_2, e162_5, e162_8, e162_9, e162_10, e162_13, e162_16, e162_17, e162_18, e162_21, e162_22, e162_23, e162_25, e162_26, e162_29, e162_31, e162_32, e162_34, e162_36, e162_39, e162_40, e162_43, e162_44, e162_45, e162_47, e162_50, e162_52, e162_53, e162_54, e162_55, e162_56, e162_59, e162_62, e162_63, e162_64, e162_66, e162_69, e162_72, e162_74, e162_75, e162_76, e162_79, e162_80, e162_81, e162_84, e162_86, e162_87, e162_90, e162_92, e162_93, e162_94, e162_95, e162_96, e162_97, e162_100, e162_102, e162_103, e162_104, e162_105, e162_106, e162_107, e162_110, e162_112, e162_113, e162_114, e162_115, e162_116, e162_117, e162_120, e162_122, e162_123, e162_124, e162_125, e162_126, e162_127, e162_130, e162_132, e162_133, e162_134, e162_135, e162_136, e162_137, e162_140, e162_142, e162_143, e162_144, e162_145, e162_146, e162_148, e162_149, e162_150, e162_153, e162_155, e162_157, e162_158, e162_160, e162_161, e162_162, e162_165, e162_167, e162_169, e162_170, e162_171, e162_172, e162_173, e162_176, e162_177, e162_178, e162_179, e162_180, e162_181, e162_182, e162_183, e162_186, e162_187, e162_188, e162_189, e162_190, zt0, zt1, zn3, not_false_eq_true, toListS, toListN, zk_some, zpi, if_true, if_false, i10, mm_R, mm_0, mm_1, mm_2, mm_3, C132 X _ (mm M S2 V2 P2 R) G _ nv (show mm M S2 V2 P2 R (20, 0, 0) 0 = nI nv from m2) (by omega), q, q2, ne1, w1, t1, m3, eq8, h_0]
  by_cases h_1 : 1 ≤ r
  rotate_left
  · refine ⟨-4, nv, np, (S, V, P), (S2, V2, P2), fun d M G => ?_, fun d M G R h5 => ⟨R, fun _ _ => rfl, ?_⟩, Or.inl ⟨by decide, rfl, rfl⟩⟩
    · show zd X (d + 4) 5 [vR (0, b, 0), vI (nI a1), vI (nI c1), vI m, vI o, vI r] (hh (cm M b S V P) G) = some (some (vI (-4)), hh (cm M b S V P) G)
      simp only [E5, e5_0, e5_1, e5_2, e5_5, e5_8, e5_9, e5_10, e5_13, e5_16, e5_17, e5_18, e5_21, e5_22, e5_23, e5_25, e5_26, e5_29, e5_31, e5_32, e5_34, e5_36, e5_39, e5_40, e5_43, e5_45, e5_48, e5_50, e5_51, e5_52, e5_53, e5_54, e5_57, e5_60, e5_61, e5_62, e5_64, e5_67, e5_70, e5_72, e5_73, e5_74, e5_77, e5_78, e5_81, e5_82, e5_84, e5_86, e5_87, e5_90, e5_92, e5_93, e5_96, e5_98, e5_99, e5_102, e5_104, e5_106, e5_109, e5_111, e5_113, e5_116, e5_118, e5_119, e5_122, e5_124, e5_125, e5_128, e5_130, e5_131, e5_134, e5_135, e5_136, e5_139, e5_140, e5_141, e5_144, e5_145, e5_148, e5_149, e5_150, zt0, zt1, zn3, not_false_eq_true, toListS, toListN, zk_some, zpi, if_true, if_false, i10, cm_S, cm_V, cm_P, cm_vw, cm_pw, cm_uS, cm_uV, cm_uP, cm_Sf, C2b X _ _ G b nv (show cm M b S V P (0, b, 0) 2 = nI nv from cm_S.trans e2) n5, q, q2, ne1, e3, lt8, h_0, h_1]
    · show zd X (d + 9) 162 [vR (7, 0, 0), vI (nI a1), vI (nI c1), vI m, vI o, vI r] (hh (mm M S2 V2 P2 R) G) = some (some (vI (-4)), hh (mm M S2 V2 P2 R) G)
      simp only [E162, e162_0, e162_1, e162_2, e162_5, e162_8, e162_9, e162_10, e162_13, e162_16, e162_17, e162_18, e162_21, e162_22, e162_23, e162_25, e162_26, e162_29, e162_31, e162_32, e162_34, e162_36, e162_39, e162_40, e162_43, e162_44, e162_45, e162_47, e162_50, e162_52, e162_53, e162_54, e162_55, e162_56, e162_59, e162_62, e162_63, e162_64, e162_66, e162_69, e162_72, e162_74, e162_75, e162_76, e162_79, e162_80, e162_81, e162_84, e162_86, e162_87, e162_90, e162_92, e162_93, e162_94, e162_95, e162_96, e162_97, e162_100, e162_102, e162_103, e162_104, e162_105, e162_106, e162_107, e162_110, e162_112, e162_113, e162_114, e162_115, e162_116, e162_117, e162_120, e162_122, e162_123, e162_124, e162_125, e162_126, e162_127, e162_130, e162_132, e162_133, e162_134, e162_135, e162_136, e162_137, e162_140, e162_142, e162_143, e162_144, e162_145, e162_146, e162_148, e162_149, e162_150, e162_153, e162_155, e162_157, e162_158, e162_160, e162_161, e162_162, e162_165, e162_167, e162_169, e162_170, e162_171, e162_172, e162_173, e162_176, e162_177, e162_178, e162_179, e162_180, e162_181, e162_182, e162_183, e162_186, e162_187, e162_188, e162_189, e162_190, zt0, zt1, zn3, not_false_eq_true, toListS, toListN, zk_some, zpi, if_true, if_false, i10, mm_R, mm_0, mm_1, mm_2, mm_3, C132 X _ (mm M S2 V2 P2 R) G _ nv (show mm M S2 V2 P2 R (20, 0, 0) 0 = nI nv from m2) (by omega), q, q2, ne1, w1, t1, m3, eq8, h_0, h_1]
  by_cases h_2 : 9 < r
  · refine ⟨-6, nv, np, (S, V, P), (S2, V2, P2), fun d M G => ?_, fun d M G R h5 => ⟨R, fun _ _ => rfl, ?_⟩, Or.inl ⟨by decide, rfl, rfl⟩⟩
    · show zd X (d + 4) 5 [vR (0, b, 0), vI (nI a1), vI (nI c1), vI m, vI o, vI r] (hh (cm M b S V P) G) = some (some (vI (-6)), hh (cm M b S V P) G)
      simp only [E5, e5_0, e5_1, e5_2, e5_5, e5_8, e5_9, e5_10, e5_13, e5_16, e5_17, e5_18, e5_21, e5_22, e5_23, e5_25, e5_26, e5_29, e5_31, e5_32, e5_34, e5_36, e5_39, e5_40, e5_43, e5_45, e5_48, e5_50, e5_51, e5_52, e5_53, e5_54, e5_57, e5_60, e5_61, e5_62, e5_64, e5_67, e5_70, e5_72, e5_73, e5_74, e5_77, e5_78, e5_81, e5_82, e5_84, e5_86, e5_87, e5_90, e5_92, e5_93, e5_96, e5_98, e5_99, e5_102, e5_104, e5_106, e5_109, e5_111, e5_113, e5_116, e5_118, e5_119, e5_122, e5_124, e5_125, e5_128, e5_130, e5_131, e5_134, e5_135, e5_136, e5_139, e5_140, e5_141, e5_144, e5_145, e5_148, e5_149, e5_150, zt0, zt1, zn3, not_false_eq_true, toListS, toListN, zk_some, zpi, if_true, if_false, i10, cm_S, cm_V, cm_P, cm_vw, cm_pw, cm_uS, cm_uV, cm_uP, cm_Sf, C2b X _ _ G b nv (show cm M b S V P (0, b, 0) 2 = nI nv from cm_S.trans e2) n5, q, q2, ne1, e3, lt8, h_0, h_1, h_2]
    · show zd X (d + 9) 162 [vR (7, 0, 0), vI (nI a1), vI (nI c1), vI m, vI o, vI r] (hh (mm M S2 V2 P2 R) G) = some (some (vI (-6)), hh (mm M S2 V2 P2 R) G)
      simp only [E162, e162_0, e162_1, e162_2, e162_5, e162_8, e162_9, e162_10, e162_13, e162_16, e162_17, e162_18, e162_21, e162_22, e162_23, e162_25, e162_26, e162_29, e162_31, e162_32, e162_34, e162_36, e162_39, e162_40, e162_43, e162_44, e162_45, e162_47, e162_50, e162_52, e162_53, e162_54, e162_55, e162_56, e162_59, e162_62, e162_63, e162_64, e162_66, e162_69, e162_72, e162_74, e162_75, e162_76, e162_79, e162_80, e162_81, e162_84, e162_86, e162_87, e162_90, e162_92, e162_93, e162_94, e162_95, e162_96, e162_97, e162_100, e162_102, e162_103, e162_104, e162_105, e162_106, e162_107, e162_110, e162_112, e162_113, e162_114, e162_115, e162_116, e162_117, e162_120, e162_122, e162_123, e162_124, e162_125, e162_126, e162_127, e162_130, e162_132, e162_133, e162_134, e162_135, e162_136, e162_137, e162_140, e162_142, e162_143, e162_144, e162_145, e162_146, e162_148, e162_149, e162_150, e162_153, e162_155, e162_157, e162_158, e162_160, e162_161, e162_162, e162_165, e162_167, e162_169, e162_170, e162_171, e162_172, e162_173, e162_176, e162_177, e162_178, e162_179, e162_180, e162_181, e162_182, e162_183, e162_186, e162_187, e162_188, e162_189, e162_190, zt0, zt1, zn3, not_false_eq_true, toListS, toListN, zk_some, zpi, if_true, if_false, i10, mm_R, mm_0, mm_1, mm_2, mm_3, C132 X _ (mm M S2 V2 P2 R) G _ nv (show mm M S2 V2 P2 R (20, 0, 0) 0 = nI nv from m2) (by omega), q, q2, ne1, w1, t1, m3, eq8, h_0, h_1, h_2]
  by_cases h_3 : np < 8
  rotate_left
  · have h_x : np = 8 := by omega
    refine ⟨-6, nv, np, (S, V, P), (S2, V2, P2), fun d M G => ?_, fun d M G R h5 => ⟨R, fun _ _ => rfl, ?_⟩, Or.inl ⟨by decide, rfl, rfl⟩⟩
    · show zd X (d + 4) 5 [vR (0, b, 0), vI (nI a1), vI (nI c1), vI m, vI o, vI r] (hh (cm M b S V P) G) = some (some (vI (-6)), hh (cm M b S V P) G)
      simp only [E5, e5_0, e5_1, e5_2, e5_5, e5_8, e5_9, e5_10, e5_13, e5_16, e5_17, e5_18, e5_21, e5_22, e5_23, e5_25, e5_26, e5_29, e5_31, e5_32, e5_34, e5_36, e5_39, e5_40, e5_43, e5_45, e5_48, e5_50, e5_51, e5_52, e5_53, e5_54, e5_57, e5_60, e5_61, e5_62, e5_64, e5_67, e5_70, e5_72, e5_73, e5_74, e5_77, e5_78, e5_81, e5_82, e5_84, e5_86, e5_87, e5_90, e5_92, e5_93, e5_96, e5_98, e5_99, e5_102, e5_104, e5_106, e5_109, e5_111, e5_113, e5_116, e5_118, e5_119, e5_122, e5_124, e5_125, e5_128, e5_130, e5_131, e5_134, e5_135, e5_136, e5_139, e5_140, e5_141, e5_144, e5_145, e5_148, e5_149, e5_150, zt0, zt1, zn3, not_false_eq_true, toListS, toListN, zk_some, zpi, if_true, if_false, i10, cm_S, cm_V, cm_P, cm_vw, cm_pw, cm_uS, cm_uV, cm_uP, cm_Sf, C2b X _ _ G b nv (show cm M b S V P (0, b, 0) 2 = nI nv from cm_S.trans e2) n5, q, q2, ne1, e3, lt8, h_0, h_1, h_2, h_3]
    · show zd X (d + 9) 162 [vR (7, 0, 0), vI (nI a1), vI (nI c1), vI m, vI o, vI r] (hh (mm M S2 V2 P2 R) G) = some (some (vI (-6)), hh (mm M S2 V2 P2 R) G)
      simp only [E162, e162_0, e162_1, e162_2, e162_5, e162_8, e162_9, e162_10, e162_13, e162_16, e162_17, e162_18, e162_21, e162_22, e162_23, e162_25, e162_26, e162_29, e162_31, e162_32, e162_34, e162_36, e162_39, e162_40, e162_43, e162_44, e162_45, e162_47, e162_50, e162_52, e162_53, e162_54, e162_55, e162_56, e162_59, e162_62, e162_63, e162_64, e162_66, e162_69, e162_72, e162_74, e162_75, e162_76, e162_79, e162_80, e162_81, e162_84, e162_86, e162_87, e162_90, e162_92, e162_93, e162_94, e162_95, e162_96, e162_97, e162_100, e162_102, e162_103, e162_104, e162_105, e162_106, e162_107, e162_110, e162_112, e162_113, e162_114, e162_115, e162_116, e162_117, e162_120, e162_122, e162_123, e162_124, e162_125, e162_126, e162_127, e162_130, e162_132, e162_133, e162_134, e162_135, e162_136, e162_137, e162_140, e162_142, e162_143, e162_144, e162_145, e162_146, e162_148, e162_149, e162_150, e162_153, e162_155, e162_157, e162_158, e162_160, e162_161, e162_162, e162_165, e162_167, e162_169, e162_170, e162_171, e162_172, e162_173, e162_176, e162_177, e162_178, e162_179, e162_180, e162_181, e162_182, e162_183, e162_186, e162_187, e162_188, e162_189, e162_190, zt0, zt1, zn3, not_false_eq_true, toListS, toListN, zk_some, zpi, if_true, if_false, i10, mm_R, mm_0, mm_1, mm_2, mm_3, C132 X _ (mm M S2 V2 P2 R) G _ nv (show mm M S2 V2 P2 R (20, 0, 0) 0 = nI nv from m2) (by omega), q, q2, ne1, w1, t1, m3, eq8, h_0, h_1, h_2, h_x, show (nI 8 = (8 : Int32)) = True from eq_true rfl]
  have h_x : ¬ np = 8 := by omega
  by_cases h_4 : hM V a1 m = 0
  · refine ⟨-3, nv, np, (S, V, P), (S2, V2, P2), fun d M G => ?_, fun d M G R h5 => ⟨R, fun _ _ => rfl, ?_⟩, Or.inl ⟨by decide, rfl, rfl⟩⟩
    · show zd X (d + 4) 5 [vR (0, b, 0), vI (nI a1), vI (nI c1), vI m, vI o, vI r] (hh (cm M b S V P) G) = some (some (vI (-3)), hh (cm M b S V P) G)
      simp only [E5, e5_0, e5_1, e5_2, e5_5, e5_8, e5_9, e5_10, e5_13, e5_16, e5_17, e5_18, e5_21, e5_22, e5_23, e5_25, e5_26, e5_29, e5_31, e5_32, e5_34, e5_36, e5_39, e5_40, e5_43, e5_45, e5_48, e5_50, e5_51, e5_52, e5_53, e5_54, e5_57, e5_60, e5_61, e5_62, e5_64, e5_67, e5_70, e5_72, e5_73, e5_74, e5_77, e5_78, e5_81, e5_82, e5_84, e5_86, e5_87, e5_90, e5_92, e5_93, e5_96, e5_98, e5_99, e5_102, e5_104, e5_106, e5_109, e5_111, e5_113, e5_116, e5_118, e5_119, e5_122, e5_124, e5_125, e5_128, e5_130, e5_131, e5_134, e5_135, e5_136, e5_139, e5_140, e5_141, e5_144, e5_145, e5_148, e5_149, e5_150, zt0, zt1, zn3, not_false_eq_true, toListS, toListN, zk_some, zpi, if_true, if_false, i10, cm_S, cm_V, cm_P, cm_vw, cm_pw, cm_uS, cm_uV, cm_uP, cm_Sf, C2b X _ _ G b nv (show cm M b S V P (0, b, 0) 2 = nI nv from cm_S.trans e2) n5, q, q2, ne1, e3, lt8, h_0, h_1, h_2, h_3, h_4, C6a]
    · show zd X (d + 9) 162 [vR (7, 0, 0), vI (nI a1), vI (nI c1), vI m, vI o, vI r] (hh (mm M S2 V2 P2 R) G) = some (some (vI (-3)), hh (mm M S2 V2 P2 R) G)
      simp only [E162, e162_0, e162_1, e162_2, e162_5, e162_8, e162_9, e162_10, e162_13, e162_16, e162_17, e162_18, e162_21, e162_22, e162_23, e162_25, e162_26, e162_29, e162_31, e162_32, e162_34, e162_36, e162_39, e162_40, e162_43, e162_44, e162_45, e162_47, e162_50, e162_52, e162_53, e162_54, e162_55, e162_56, e162_59, e162_62, e162_63, e162_64, e162_66, e162_69, e162_72, e162_74, e162_75, e162_76, e162_79, e162_80, e162_81, e162_84, e162_86, e162_87, e162_90, e162_92, e162_93, e162_94, e162_95, e162_96, e162_97, e162_100, e162_102, e162_103, e162_104, e162_105, e162_106, e162_107, e162_110, e162_112, e162_113, e162_114, e162_115, e162_116, e162_117, e162_120, e162_122, e162_123, e162_124, e162_125, e162_126, e162_127, e162_130, e162_132, e162_133, e162_134, e162_135, e162_136, e162_137, e162_140, e162_142, e162_143, e162_144, e162_145, e162_146, e162_148, e162_149, e162_150, e162_153, e162_155, e162_157, e162_158, e162_160, e162_161, e162_162, e162_165, e162_167, e162_169, e162_170, e162_171, e162_172, e162_173, e162_176, e162_177, e162_178, e162_179, e162_180, e162_181, e162_182, e162_183, e162_186, e162_187, e162_188, e162_189, e162_190, zt0, zt1, zn3, not_false_eq_true, toListS, toListN, zk_some, zpi, if_true, if_false, i10, mm_R, mm_0, mm_1, mm_2, mm_3, C132 X _ (mm M S2 V2 P2 R) G _ nv (show mm M S2 V2 P2 R (20, 0, 0) 0 = nI nv from m2) (by omega), q, q2, ne1, w1, t1, m3, eq8, h_0, h_1, h_2, h_x, h_4, C161a]
  have k_4 := (hM_01 V a1 m).resolve_left h_4
  by_cases h_5 : hM V c1 o = 0
  · refine ⟨-3, nv, np, (S, V, P), (S2, V2, P2), fun d M G => ?_, fun d M G R h5 => ⟨R, fun _ _ => rfl, ?_⟩, Or.inl ⟨by decide, rfl, rfl⟩⟩
    · show zd X (d + 4) 5 [vR (0, b, 0), vI (nI a1), vI (nI c1), vI m, vI o, vI r] (hh (cm M b S V P) G) = some (some (vI (-3)), hh (cm M b S V P) G)
      simp only [E5, e5_0, e5_1, e5_2, e5_5, e5_8, e5_9, e5_10, e5_13, e5_16, e5_17, e5_18, e5_21, e5_22, e5_23, e5_25, e5_26, e5_29, e5_31, e5_32, e5_34, e5_36, e5_39, e5_40, e5_43, e5_45, e5_48, e5_50, e5_51, e5_52, e5_53, e5_54, e5_57, e5_60, e5_61, e5_62, e5_64, e5_67, e5_70, e5_72, e5_73, e5_74, e5_77, e5_78, e5_81, e5_82, e5_84, e5_86, e5_87, e5_90, e5_92, e5_93, e5_96, e5_98, e5_99, e5_102, e5_104, e5_106, e5_109, e5_111, e5_113, e5_116, e5_118, e5_119, e5_122, e5_124, e5_125, e5_128, e5_130, e5_131, e5_134, e5_135, e5_136, e5_139, e5_140, e5_141, e5_144, e5_145, e5_148, e5_149, e5_150, zt0, zt1, zn3, not_false_eq_true, toListS, toListN, zk_some, zpi, if_true, if_false, i10, cm_S, cm_V, cm_P, cm_vw, cm_pw, cm_uS, cm_uV, cm_uP, cm_Sf, C2b X _ _ G b nv (show cm M b S V P (0, b, 0) 2 = nI nv from cm_S.trans e2) n5, q, q2, ne1, e3, lt8, h_0, h_1, h_2, h_3, k_4, h_5, C6a, C6c]
    · show zd X (d + 9) 162 [vR (7, 0, 0), vI (nI a1), vI (nI c1), vI m, vI o, vI r] (hh (mm M S2 V2 P2 R) G) = some (some (vI (-3)), hh (mm M S2 V2 P2 R) G)
      simp only [E162, e162_0, e162_1, e162_2, e162_5, e162_8, e162_9, e162_10, e162_13, e162_16, e162_17, e162_18, e162_21, e162_22, e162_23, e162_25, e162_26, e162_29, e162_31, e162_32, e162_34, e162_36, e162_39, e162_40, e162_43, e162_44, e162_45, e162_47, e162_50, e162_52, e162_53, e162_54, e162_55, e162_56, e162_59, e162_62, e162_63, e162_64, e162_66, e162_69, e162_72, e162_74, e162_75, e162_76, e162_79, e162_80, e162_81, e162_84, e162_86, e162_87, e162_90, e162_92, e162_93, e162_94, e162_95, e162_96, e162_97, e162_100, e162_102, e162_103, e162_104, e162_105, e162_106, e162_107, e162_110, e162_112, e162_113, e162_114, e162_115, e162_116, e162_117, e162_120, e162_122, e162_123, e162_124, e162_125, e162_126, e162_127, e162_130, e162_132, e162_133, e162_134, e162_135, e162_136, e162_137, e162_140, e162_142, e162_143, e162_144, e162_145, e162_146, e162_148, e162_149, e162_150, e162_153, e162_155, e162_157, e162_158, e162_160, e162_161, e162_162, e162_165, e162_167, e162_169, e162_170, e162_171, e162_172, e162_173, e162_176, e162_177, e162_178, e162_179, e162_180, e162_181, e162_182, e162_183, e162_186, e162_187, e162_188, e162_189, e162_190, zt0, zt1, zn3, not_false_eq_true, toListS, toListN, zk_some, zpi, if_true, if_false, i10, mm_R, mm_0, mm_1, mm_2, mm_3, C132 X _ (mm M S2 V2 P2 R) G _ nv (show mm M S2 V2 P2 R (20, 0, 0) 0 = nI nv from m2) (by omega), q, q2, ne1, w1, t1, m3, eq8, h_0, h_1, h_2, h_x, k_4, h_5, C161a, C161c]
  have k_5 := (hM_01 V c1 o).resolve_left h_5
  refine ⟨nI np, nv, np + 1, (uS S 3 (nI (np + 1)), V, P8 P np (nI a1) (nI c1) m o r), (uS S2 3 (nI (np + 1)), V2, Q8 P2 np (nI a1) (nI c1) m o r), fun d M G => ?_, fun d M G R h5 => ⟨R, fun _ _ => rfl, ?_⟩, Or.inr ⟨?_, ?_, ?_, ?_, ?_⟩⟩
  · show zd X (d + 4) 5 [vR (0, b, 0), vI (nI a1), vI (nI c1), vI m, vI o, vI r] (hh (cm M b S V P) G) = some (some (vI (nI np)), hh (cm M b (uS S 3 (nI (np + 1))) (V) (P8 P np (nI a1) (nI c1) m o r)) G)
    simp only [E5, e5_0, e5_1, e5_2, e5_5, e5_8, e5_9, e5_10, e5_13, e5_16, e5_17, e5_18, e5_21, e5_22, e5_23, e5_25, e5_26, e5_29, e5_31, e5_32, e5_34, e5_36, e5_39, e5_40, e5_43, e5_45, e5_48, e5_50, e5_51, e5_52, e5_53, e5_54, e5_57, e5_60, e5_61, e5_62, e5_64, e5_67, e5_70, e5_72, e5_73, e5_74, e5_77, e5_78, e5_81, e5_82, e5_84, e5_86, e5_87, e5_90, e5_92, e5_93, e5_96, e5_98, e5_99, e5_102, e5_104, e5_106, e5_109, e5_111, e5_113, e5_116, e5_118, e5_119, e5_122, e5_124, e5_125, e5_128, e5_130, e5_131, e5_134, e5_135, e5_136, e5_139, e5_140, e5_141, e5_144, e5_145, e5_148, e5_149, e5_150, zt0, zt1, zn3, not_false_eq_true, toListS, toListN, zk_some, zpi, if_true, if_false, i10, cm_S, cm_V, cm_P, cm_vw, cm_pw, cm_uS, cm_uV, cm_uP, cm_Sf, C2b X _ _ G b nv (show cm M b S V P (0, b, 0) 2 = nI nv from cm_S.trans e2) n5, q, q2, ne1, e3, lt8, h_0, h_1, h_2, h_3, k_4, k_5, C6a, C6c, z8 h_3, cl8 h_3, true_or, or_true, nI_1, uS_s, nI_p, P8]
  · show zd X (d + 9) 162 [vR (7, 0, 0), vI (nI a1), vI (nI c1), vI m, vI o, vI r] (hh (mm M S2 V2 P2 R) G) = some (some (vI (nI np)), hh (mm M (uS S2 3 (nI (np + 1))) (V2) (Q8 P2 np (nI a1) (nI c1) m o r) R) G)
    simp only [E162, e162_0, e162_1, e162_2, e162_5, e162_8, e162_9, e162_10, e162_13, e162_16, e162_17, e162_18, e162_21, e162_22, e162_23, e162_25, e162_26, e162_29, e162_31, e162_32, e162_34, e162_36, e162_39, e162_40, e162_43, e162_44, e162_45, e162_47, e162_50, e162_52, e162_53, e162_54, e162_55, e162_56, e162_59, e162_62, e162_63, e162_64, e162_66, e162_69, e162_72, e162_74, e162_75, e162_76, e162_79, e162_80, e162_81, e162_84, e162_86, e162_87, e162_90, e162_92, e162_93, e162_94, e162_95, e162_96, e162_97, e162_100, e162_102, e162_103, e162_104, e162_105, e162_106, e162_107, e162_110, e162_112, e162_113, e162_114, e162_115, e162_116, e162_117, e162_120, e162_122, e162_123, e162_124, e162_125, e162_126, e162_127, e162_130, e162_132, e162_133, e162_134, e162_135, e162_136, e162_137, e162_140, e162_142, e162_143, e162_144, e162_145, e162_146, e162_148, e162_149, e162_150, e162_153, e162_155, e162_157, e162_158, e162_160, e162_161, e162_162, e162_165, e162_167, e162_169, e162_170, e162_171, e162_172, e162_173, e162_176, e162_177, e162_178, e162_179, e162_180, e162_181, e162_182, e162_183, e162_186, e162_187, e162_188, e162_189, e162_190, zt0, zt1, zn3, not_false_eq_true, toListS, toListN, zk_some, zpi, if_true, if_false, i10, mm_R, mm_0, mm_1, mm_2, mm_3, C132 X _ (mm M S2 V2 P2 R) G _ nv (show mm M S2 V2 P2 R (20, 0, 0) 0 = nI nv from m2) (by omega), q, q2, ne1, w1, t1, m3, eq8, h_0, h_1, h_2, h_x, k_4, k_5, C161a, C161c, C135, niP, ni0, ni1, ni2, ni3, ni4, ni5, ni6, ni7, ni41, wP0 h_3, cP0 h_3, mm_uP0 h_3, wP h_3 (show 1 < 8 by decide), cP h_3 (show 1 < 8 by decide), mm_uP h_3 (show 1 < 8 by decide), mi1, wP h_3 (show 2 < 8 by decide), cP h_3 (show 2 < 8 by decide), mm_uP h_3 (show 2 < 8 by decide), mi2, wP h_3 (show 3 < 8 by decide), cP h_3 (show 3 < 8 by decide), mm_uP h_3 (show 3 < 8 by decide), mi3, wP h_3 (show 4 < 8 by decide), cP h_3 (show 4 < 8 by decide), mm_uP h_3 (show 4 < 8 by decide), mi4, wP h_3 (show 5 < 8 by decide), cP h_3 (show 5 < 8 by decide), mm_uP h_3 (show 5 < 8 by decide), mi5, wP h_3 (show 6 < 8 by decide), cP h_3 (show 6 < 8 by decide), mm_uP h_3 (show 6 < 8 by decide), mi6, wP h_3 (show 7 < 8 by decide), cP h_3 (show 7 < 8 by decide), mm_uP h_3 (show 7 < 8 by decide), mi7, mm_uS1, nI_1, uS_s, nI_p, Q8]
  · rw [nI_int (by omega)]; omega
  · have va := h.1.2.2.2.2.1 a1 ha
    have vc := h.1.2.2.2.2.1 c1 hc
    rw [i_le, show (1 : Int32).toInt = 1 from rfl] at h_1
    rw [i_lt, show (9 : Int32).toInt = 9 from rfl] at h_2
    exact vb_pipe h h_3 ha hc h_0 (hM_v va k_4) (hM_v vc k_5) h_1 (by omega)
  · exact h6
  · obtain ⟨a1', a2', a3'⟩ := a
    refine ⟨fun f hf => ?_, a2', fun p g hp hg _ => P8_c hP p g hp hg⟩
    rcases hf with rfl | rfl | rfl | rfl | rfl
    · exact a1' 2 (by decide)
    · exact Eq.trans (show uS S 3 (nI (np + 1)) 3 = nI (np + 1) from uS_s) (show uS S2 3 (nI (np + 1)) 3 = nI (np + 1) from uS_s).symm
    · exact a1' 4 (by decide)
    · exact a1' 5 (by decide)
    · exact a1' 6 (by decide)
  · show (S 4).toInt ≤ (S 4).toInt + 138105
    omega
