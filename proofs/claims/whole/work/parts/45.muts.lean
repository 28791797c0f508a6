/-! each change of a bench -/
def kd3 (P : tV) (p : Nat) (k f : Int32) : tV := uV (uV (uV P p 5 k) p 6 f) p 7 0
theorem kd3_o {P : tV} {p r g : Nat} {k f : Int32} (h : r ≠ p) : kd3 P p k f r g = P r g := by unfold kd3; rw [uV_j h, uV_j h, uV_j h]
theorem kd3_l {P : tV} {p r g : Nat} {k f : Int32} (h : g < 5) : kd3 P p k f r g = P r g := by unfold kd3; rw [uV_f (by omega), uV_f (by omega), uV_f (by omega)]
theorem kd3_5 {P : tV} {p : Nat} {k f : Int32} : kd3 P p k f p 5 = k := by unfold kd3; rw [uV_f (by decide), uV_f (by decide), uV_s]
theorem kd3_6 {P : tV} {p : Nat} {k f : Int32} : kd3 P p k f p 6 = f := by unfold kd3; rw [uV_f (by decide), uV_s]
theorem kd3_7 {P : tV} {p : Nat} {k f : Int32} : kd3 P p k f p 7 = 0 := uV_s
theorem vb_kind {S : Nat → Int32} {V P : tV} {nv np p l m : Nat} (h : vb (S, V, P) nv np) (hl : l ≤ 5) (hm : m ≤ 9) : vb (S, V, kd3 P p (nI l) (nI m)) nv np := by
  obtain ⟨⟨v1, v2, v3, v4, v5, v6⟩, v7, v8, v9⟩ := h
  refine ⟨⟨v1, v2, v3, v4, v5, fun r hr => ?_⟩, v7, fun r hr => ?_, v9⟩
  · show vP V (kd3 P p (nI l) (nI m)) nv r
    have w0 : vP V P nv r := v6 r hr
    obtain ⟨a1, c1, s1, s2, s3, s4, s5, s6, s7, s8, s9, s10, s11, s12, s13⟩ := w0
    refine ⟨a1, c1, (kd3_l (by decide)).trans s1, (kd3_l (by decide)).trans s2, s3, s4, s5, ?_, ?_, ?_, ?_, ?_, ?_, ?_, ?_⟩
    · rw [kd3_l (by decide)]; exact s6
    · rw [kd3_l (by decide)]; exact s7
    · rw [kd3_l (by decide)]; exact s8
    · rw [kd3_l (by decide)]; exact s9
    all_goals
      by_cases e : r = p
      · subst e
        first | rw [kd3_5, nI_int (by omega)]; omega | rw [kd3_6, nI_int (by omega)]; omega
      · rw [kd3_o e]; assumption
  · show kd3 P p (nI l) (nI m) r 7 = 0 ∨ (kd3 P p (nI l) (nI m) r 7 = 1 ∧ ¬ sSi (kd3 P p (nI l) (nI m)) r = 0)
    by_cases e : r = p
    · subst e
      exact Or.inl kd3_7
    · rw [kd3_o e, sSi_c (P := P) (kd3_o e)]
      exact v8 r hr
theorem i_tri {a b : Int32} (h1 : 0 ≤ a.toInt) (h2 : a.toInt ≤ 5) (h3 : 0 ≤ b.toInt) (h4 : b.toInt ≤ 9) : 0 ≤ (10 * a + b).toInt := by
  have e : (10 * a).toInt = 10 * a.toInt := by
    rw [i_mul_s] <;> rw [show (10 : Int32).toInt = 10 from rfl] <;> omega
  rw [i_add_s] <;> rw [e] <;> omega
theorem mu_kind (X : Nat × (Nat → Int32) × Value) (b : Nat) (x k f : Int32) {B C : zB} {nv np : Nat} (h : vb B nv np) (h6 : B.1 6 = 0) (a : ag nv np B C) : mu X b 7 163 [vI x, vI k, vI f] [vI x, vI k, vI f] B C := by
  obtain ⟨S, V, P⟩ := B
  obtain ⟨S2, V2, P2⟩ := C
  have z6 : S 6 = 0 := h6
  have e2 : S 2 = nI nv := h.1.1
  have e3 : S 3 = nI np := h.1.2.1
  have n5 : nv ≤ 5 := h.1.2.2.1
  have n8 : np ≤ 8 := h.1.2.2.2.1
  have m2 : S2 2 = nI nv := (a.1 2 (by decide)).symm.trans e2
  have m3 : S2 3 = nI np := (a.1 3 (by decide)).symm.trans e3
  have hP : ∀ p g, p < np → g < 8 → P p g = P2 p g := fun p g h1 h2 => a.2.2 p g h1 h2 (fun _ => by rw [h6]; exact out_0 p)
  have hV : ∀ j f, j < nv → f < 5 → V j f = V2 j f := a.2.1
  have aP : agP np 0 P P2 := by have := a.2.2; rw [h6] at this; exact this
  rcases isx_c (n := np) x (by omega) with ⟨q, -⟩ | ⟨p, hp, rfl, q⟩
  · refine ⟨-1, nv, np, (S, V, P), (S2, V2, P2), fun d M G => ?_, fun d M G R h5 => ⟨R, fun _ _ => rfl, ?_⟩, Or.inl ⟨by decide, rfl, rfl⟩⟩
    · show zd X (d + 4) 7 [vR (0, b, 0), vI x, vI k, vI f] (hh (cm M b S V P) G) = some (some (vI (-1)), hh (cm M b S V P) G)
      simp only [E7, e7_0, e7_1, e7_2, e7_5, e7_8, e7_9, e7_10, e7_11, e7_14, e7_17, e7_19, e7_20, e7_21, e7_22, e7_24, e7_27, e7_29, e7_31, e7_34, e7_36, e7_37, e7_38, e7_41, e7_42, e7_43, e7_45, e7_47, e7_49, e7_52, e7_53, e7_55, e7_58, e7_59, e7_61, e7_63, e7_64, e7_67, e7_69, e7_70, e7_73, e7_75, e7_76, e7_79, e7_81, zt0, zt1, zn3, not_false_eq_true, toListS, toListN, zk_some, zpi, if_true, if_false, i10, cm_S, cm_V, cm_P, cm_vw, cm_pw, cm_uS, cm_uV, cm_uP, cm_Sf, C3b X _ _ G b np (show cm M b S V P (0, b, 0) 3 = nI np from cm_S.trans e3) n8, q]
    · show zd X (d + 9) 163 [vR (7, 0, 0), vI x, vI k, vI f] (hh (mm M S2 V2 P2 R) G) = some (some (vI (-1)), hh (mm M S2 V2 P2 R) G)
      simp only [E163, e163_0, e163_1, e163_2, e163_5, e163_8, e163_9, e163_10, e163_11, e163_12, e163_13, e163_16, e163_19, e163_22, e163_24, e163_25, e163_26, e163_27, e163_28, e163_31, e163_34, e163_37, e163_38, e163_39, e163_41, e163_44, e163_45, e163_46, e163_49, e163_51, e163_53, e163_54, e163_57, e163_59, e163_60, e163_61, e163_62, e163_63, e163_64, e163_67, e163_69, e163_70, e163_71, e163_72, e163_73, e163_75, e163_76, e163_79, e163_81, e163_82, e163_83, e163_84, e163_85, e163_86, e163_89, e163_91, e163_92, e163_93, e163_94, e163_95, e163_96, e163_99, e163_101, e163_103, e163_104, e163_105, e163_106, e163_108, zt0, zt1, zn3, not_false_eq_true, toListS, toListN, zk_some, zpi, if_true, if_false, i10, mm_R, mm_0, mm_1, mm_2, mm_3, C133 X _ (mm M S2 V2 P2 R) G _ np (show mm M S2 V2 P2 R (20, 0, 0) 1 = nI np from m3) n8, q]
  · have hp8 : p < 8 := by omega
    rcases inz_c k 5 (by decide) with ⟨g, gn⟩ | ⟨g, l, hl, rfl⟩
    · have g' : inz k 0 5 = 0 := g
      refine ⟨-2, nv, np, (S, V, P), (S2, V2, P2), fun d M G => ?_, fun d M G R h5 => ⟨R, fun _ _ => rfl, ?_⟩, Or.inl ⟨by decide, rfl, rfl⟩⟩
      · show zd X (d + 4) 7 [vR (0, b, 0), vI (nI p), vI k, vI f] (hh (cm M b S V P) G) = some (some (vI (-2)), hh (cm M b S V P) G)
        simp only [E7, e7_0, e7_1, e7_2, e7_5, e7_8, e7_9, e7_10, e7_11, e7_14, e7_17, e7_19, e7_20, e7_21, e7_22, e7_24, e7_27, e7_29, e7_31, e7_34, e7_36, e7_37, e7_38, e7_41, e7_42, e7_43, e7_45, e7_47, e7_49, e7_52, e7_53, e7_55, e7_58, e7_59, e7_61, e7_63, e7_64, e7_67, e7_69, e7_70, e7_73, e7_75, e7_76, e7_79, e7_81, zt0, zt1, zn3, not_false_eq_true, toListS, toListN, zk_some, zpi, if_true, if_false, i10, cm_S, cm_V, cm_P, cm_vw, cm_pw, cm_uS, cm_uV, cm_uP, cm_Sf, C3b X _ _ G b np (show cm M b S V P (0, b, 0) 3 = nI np from cm_S.trans e3) n8, q, C121, g']
      · show zd X (d + 9) 163 [vR (7, 0, 0), vI (nI p), vI k, vI f] (hh (mm M S2 V2 P2 R) G) = some (some (vI (-2)), hh (mm M S2 V2 P2 R) G)
        simp only [E163, e163_0, e163_1, e163_2, e163_5, e163_8, e163_9, e163_10, e163_11, e163_12, e163_13, e163_16, e163_19, e163_22, e163_24, e163_25, e163_26, e163_27, e163_28, e163_31, e163_34, e163_37, e163_38, e163_39, e163_41, e163_44, e163_45, e163_46, e163_49, e163_51, e163_53, e163_54, e163_57, e163_59, e163_60, e163_61, e163_62, e163_63, e163_64, e163_67, e163_69, e163_70, e163_71, e163_72, e163_73, e163_75, e163_76, e163_79, e163_81, e163_82, e163_83, e163_84, e163_85, e163_86, e163_89, e163_91, e163_92, e163_93, e163_94, e163_95, e163_96, e163_99, e163_101, e163_103, e163_104, e163_105, e163_106, e163_108, zt0, zt1, zn3, not_false_eq_true, toListS, toListN, zk_some, zpi, if_true, if_false, i10, mm_R, mm_0, mm_1, mm_2, mm_3, C133 X _ (mm M S2 V2 P2 R) G _ np (show mm M S2 V2 P2 R (20, 0, 0) 1 = nI np from m3) n8, q, C128, j_0, j_5, g']
    · have g' : inz (nI l) 0 5 = 1 := g
      rcases wrg_c f 0 9 (by decide) with ⟨w, w'⟩ | ⟨w, w'⟩ | ⟨w, w', m, -, hm, rfl⟩
      · have y1 : wrg f 0 9 = -4 := w
        have y2 : inz f 0 9 = 0 := w'
        refine ⟨-4, nv, np, (S, V, P), (S2, V2, P2), fun d M G => ?_, fun d M G R h5 => ⟨R, fun _ _ => rfl, ?_⟩, Or.inl ⟨by decide, rfl, rfl⟩⟩
        · show zd X (d + 4) 7 [vR (0, b, 0), vI (nI p), vI (nI l), vI f] (hh (cm M b S V P) G) = some (some (vI (-4)), hh (cm M b S V P) G)
          simp only [E7, e7_0, e7_1, e7_2, e7_5, e7_8, e7_9, e7_10, e7_11, e7_14, e7_17, e7_19, e7_20, e7_21, e7_22, e7_24, e7_27, e7_29, e7_31, e7_34, e7_36, e7_37, e7_38, e7_41, e7_42, e7_43, e7_45, e7_47, e7_49, e7_52, e7_53, e7_55, e7_58, e7_59, e7_61, e7_63, e7_64, e7_67, e7_69, e7_70, e7_73, e7_75, e7_76, e7_79, e7_81, zt0, zt1, zn3, not_false_eq_true, toListS, toListN, zk_some, zpi, if_true, if_false, i10, cm_S, cm_V, cm_P, cm_vw, cm_pw, cm_uS, cm_uV, cm_uP, cm_Sf, C3b X _ _ G b np (show cm M b S V P (0, b, 0) 3 = nI np from cm_S.trans e3) n8, q, C121, g', C118, j_0, k_0, j_9, k_9, y1, q_eq_m4_0]
        · show zd X (d + 9) 163 [vR (7, 0, 0), vI (nI p), vI (nI l), vI f] (hh (mm M S2 V2 P2 R) G) = some (some (vI (-4)), hh (mm M S2 V2 P2 R) G)
          simp only [E163, e163_0, e163_1, e163_2, e163_5, e163_8, e163_9, e163_10, e163_11, e163_12, e163_13, e163_16, e163_19, e163_22, e163_24, e163_25, e163_26, e163_27, e163_28, e163_31, e163_34, e163_37, e163_38, e163_39, e163_41, e163_44, e163_45, e163_46, e163_49, e163_51, e163_53, e163_54, e163_57, e163_59, e163_60, e163_61, e163_62, e163_63, e163_64, e163_67, e163_69, e163_70, e163_71, e163_72, e163_73, e163_75, e163_76, e163_79, e163_81, e163_82, e163_83, e163_84, e163_85, e163_86, e163_89, e163_91, e163_92, e163_93, e163_94, e163_95, e163_96, e163_99, e163_101, e163_103, e163_104, e163_105, e163_106, e163_108, zt0, zt1, zn3, not_false_eq_true, toListS, toListN, zk_some, zpi, if_true, if_false, i10, mm_R, mm_0, mm_1, mm_2, mm_3, C133 X _ (mm M S2 V2 P2 R) G _ np (show mm M S2 V2 P2 R (20, 0, 0) 1 = nI np from m3) n8, q, C128, j_0, j_5, j_9, k_0, k_9, g', y2, C136, y1]
      · have y1 : wrg f 0 9 = -6 := w
        have y2 : inz f 0 9 = 0 := w'
        refine ⟨-6, nv, np, (S, V, P), (S2, V2, P2), fun d M G => ?_, fun d M G R h5 => ⟨R, fun _ _ => rfl, ?_⟩, Or.inl ⟨by decide, rfl, rfl⟩⟩
        · show zd X (d + 4) 7 [vR (0, b, 0), vI (nI p), vI (nI l), vI f] (hh (cm M b S V P) G) = some (some (vI (-6)), hh (cm M b S V P) G)
          simp only [E7, e7_0, e7_1, e7_2, e7_5, e7_8, e7_9, e7_10, e7_11, e7_14, e7_17, e7_19, e7_20, e7_21, e7_22, e7_24, e7_27, e7_29, e7_31, e7_34, e7_36, e7_37, e7_38, e7_41, e7_42, e7_43, e7_45, e7_47, e7_49, e7_52, e7_53, e7_55, e7_58, e7_59, e7_61, e7_63, e7_64, e7_67, e7_69, e7_70, e7_73, e7_75, e7_76, e7_79, e7_81, zt0, zt1, zn3, not_false_eq_true, toListS, toListN, zk_some, zpi, if_true, if_false, i10, cm_S, cm_V, cm_P, cm_vw, cm_pw, cm_uS, cm_uV, cm_uP, cm_Sf, C3b X _ _ G b np (show cm M b S V P (0, b, 0) 3 = nI np from cm_S.trans e3) n8, q, C121, g', C118, j_0, k_0, j_9, k_9, y1, q_eq_m6_0]
        · show zd X (d + 9) 163 [vR (7, 0, 0), vI (nI p), vI (nI l), vI f] (hh (mm M S2 V2 P2 R) G) = some (some (vI (-6)), hh (mm M S2 V2 P2 R) G)
          simp only [E163, e163_0, e163_1, e163_2, e163_5, e163_8, e163_9, e163_10, e163_11, e163_12, e163_13, e163_16, e163_19, e163_22, e163_24, e163_25, e163_26, e163_27, e163_28, e163_31, e163_34, e163_37, e163_38, e163_39, e163_41, e163_44, e163_45, e163_46, e163_49, e163_51, e163_53, e163_54, e163_57, e163_59, e163_60, e163_61, e163_62, e163_63, e163_64, e163_67, e163_69, e163_70, e163_71, e163_72, e163_73, e163_75, e163_76, e163_79, e163_81, e163_82, e163_83, e163_84, e163_85, e163_86, e163_89, e163_91, e163_92, e163_93, e163_94, e163_95, e163_96, e163_99, e163_101, e163_103, e163_104, e163_105, e163_106, e163_108, zt0, zt1, zn3, not_false_eq_true, toListS, toListN, zk_some, zpi, if_true, if_false, i10, mm_R, mm_0, mm_1, mm_2, mm_3, C133 X _ (mm M S2 V2 P2 R) G _ np (show mm M S2 V2 P2 R (20, 0, 0) 1 = nI np from m3) n8, q, C128, j_0, j_5, j_9, k_0, k_9, g', y2, C136, y1]
      · have y1 : wrg (nI m) 0 9 = 0 := w
        have y2 : inz (nI m) 0 9 = 1 := w'
        have vp := h.1.2.2.2.2.2 p hp
        refine ⟨10 * P p 5 + P p 6, nv, np, (S, V, uV (uV (uV P p 5 (nI l)) p 6 (nI m)) p 7 0), (S2, V2, uV (uV (uV P2 p 5 (nI l)) p 6 (nI m)) p 7 0), fun d M G => ?_, fun d M G R h5 => ⟨R, fun _ _ => rfl, ?_⟩, Or.inr ⟨?_, ?_, ?_, ?_, ?_⟩⟩
        · show zd X (d + 4) 7 [vR (0, b, 0), vI (nI p), vI (nI l), vI (nI m)] (hh (cm M b S V P) G) = some (some (vI (10 * P p 5 + P p 6)), hh (cm M b (S) (V) (uV (uV (uV P p 5 (nI l)) p 6 (nI m)) p 7 0)) G)
          simp only [E7, e7_0, e7_1, e7_2, e7_5, e7_8, e7_9, e7_10, e7_11, e7_14, e7_17, e7_19, e7_20, e7_21, e7_22, e7_24, e7_27, e7_29, e7_31, e7_34, e7_36, e7_37, e7_38, e7_41, e7_42, e7_43, e7_45, e7_47, e7_49, e7_52, e7_53, e7_55, e7_58, e7_59, e7_61, e7_63, e7_64, e7_67, e7_69, e7_70, e7_73, e7_75, e7_76, e7_79, e7_81, zt0, zt1, zn3, not_false_eq_true, toListS, toListN, zk_some, zpi, if_true, if_false, i10, cm_S, cm_V, cm_P, cm_vw, cm_pw, cm_uS, cm_uV, cm_uP, cm_Sf, C3b X _ _ G b np (show cm M b S V P (0, b, 0) 3 = nI np from cm_S.trans e3) n8, q, C121, g', C118, j_0, k_0, j_9, k_9, y1, z8 hp8, cl8 hp8, true_or, or_true, uV_s, uV_f, ne_eq, Nat.reduceEqDiff]
        · show zd X (d + 9) 163 [vR (7, 0, 0), vI (nI p), vI (nI l), vI (nI m)] (hh (mm M S2 V2 P2 R) G) = some (some (vI (10 * P p 5 + P p 6)), hh (mm M (S2) (V2) (uV (uV (uV P2 p 5 (nI l)) p 6 (nI m)) p 7 0) R) G)
          simp only [E163, e163_0, e163_1, e163_2, e163_5, e163_8, e163_9, e163_10, e163_11, e163_12, e163_13, e163_16, e163_19, e163_22, e163_24, e163_25, e163_26, e163_27, e163_28, e163_31, e163_34, e163_37, e163_38, e163_39, e163_41, e163_44, e163_45, e163_46, e163_49, e163_51, e163_53, e163_54, e163_57, e163_59, e163_60, e163_61, e163_62, e163_63, e163_64, e163_67, e163_69, e163_70, e163_71, e163_72, e163_73, e163_75, e163_76, e163_79, e163_81, e163_82, e163_83, e163_84, e163_85, e163_86, e163_89, e163_91, e163_92, e163_93, e163_94, e163_95, e163_96, e163_99, e163_101, e163_103, e163_104, e163_105, e163_106, e163_108, zt0, zt1, zn3, not_false_eq_true, toListS, toListN, zk_some, zpi, if_true, if_false, i10, mm_R, mm_0, mm_1, mm_2, mm_3, C133 X _ (mm M S2 V2 P2 R) G _ np (show mm M S2 V2 P2 R (20, 0, 0) 1 = nI np from m3) n8, q, C128, j_0, j_5, j_9, k_0, k_9, g', y2, hP p 5 hp (show 5 < 8 by decide), hP p 6 hp (show 6 < 8 by decide), C135, niP, ni0, ni1, ni2, ni3, ni4, ni5, ni6, ni7, wP0 hp8, cP0 hp8, mm_P0 hp8, mm_uP0 hp8, wP hp8 (show 1 < 8 by decide), cP hp8 (show 1 < 8 by decide), mm_P hp8 (show 1 < 8 by decide), mm_uP hp8 (show 1 < 8 by decide), mi1, wP hp8 (show 2 < 8 by decide), cP hp8 (show 2 < 8 by decide), mm_P hp8 (show 2 < 8 by decide), mm_uP hp8 (show 2 < 8 by decide), mi2, wP hp8 (show 3 < 8 by decide), cP hp8 (show 3 < 8 by decide), mm_P hp8 (show 3 < 8 by decide), mm_uP hp8 (show 3 < 8 by decide), mi3, wP hp8 (show 4 < 8 by decide), cP hp8 (show 4 < 8 by decide), mm_P hp8 (show 4 < 8 by decide), mm_uP hp8 (show 4 < 8 by decide), mi4, wP hp8 (show 5 < 8 by decide), cP hp8 (show 5 < 8 by decide), mm_P hp8 (show 5 < 8 by decide), mm_uP hp8 (show 5 < 8 by decide), mi5, wP hp8 (show 6 < 8 by decide), cP hp8 (show 6 < 8 by decide), mm_P hp8 (show 6 < 8 by decide), mm_uP hp8 (show 6 < 8 by decide), mi6, wP hp8 (show 7 < 8 by decide), cP hp8 (show 7 < 8 by decide), mm_P hp8 (show 7 < 8 by decide), mm_uP hp8 (show 7 < 8 by decide), mi7]
        · obtain ⟨-, -, -, -, -, -, -, -, -, -, -, v1, v2, v3, v4⟩ := vp
          exact i_tri v1 v2 v3 v4
        · exact vb_kind h hl hm
        · exact h6
        · refine ⟨a.1, a.2.1, ?_⟩
          show agP np (S 6) _ _
          rw [z6]
          exact agP_u (agP_u (agP_u aP rfl) rfl) rfl
        · show (S 4).toInt ≤ (S 4).toInt + 138105
          omega
theorem vb_tap {S : Nat → Int32} {V P : tV} {nv np j m : Nat} (h : vb (S, V, P) nv np) (hm : m ≤ 9) : vb (S, uV V j 4 (nI m), P) nv np := by
  obtain ⟨⟨v1, v2, v3, v4, v5, v6⟩, v7, v8, v9⟩ := h
  have ef : ∀ r f, f ≠ 4 → uV V j 4 (nI m) r f = V r f := fun r f hf => uV_f hf
  refine ⟨⟨v1, v2, v3, v4, fun r hr => ?_, fun r hr => ?_⟩, fun r hr => ?_, v8, v9⟩
  · show vV (uV V j 4 (nI m)) r
    have vr : vV V r := v5 r hr
    unfold vV at *
    rw [ef r 0 (by decide), ef r 1 (by decide), ef r 2 (by decide)]
    refine ⟨vr.1, vr.2.1, vr.2.2.1, vr.2.2.2.1, vr.2.2.2.2.1, vr.2.2.2.2.2.1, ?_⟩
    by_cases e : r = j
    · subst e
      rw [uV_s, nI_int (by omega)]
      omega
    · rw [uV_j e]
      exact vr.2.2.2.2.2.2
  · show vP (uV V j 4 (nI m)) P nv r
    have w0 : vP V P nv r := v6 r hr
    unfold vP vM at *
    simp only [ef _ 1 (by decide), ef _ 2 (by decide)]
    exact w0
  · show 0 ≤ wat (uV V j 4 (nI m)) r ∧ wat (uV V j 4 (nI m)) r ≤ brim (uV V j 4 (nI m)) r
    unfold wat brim
    rw [ef r 0 (by decide), ef r 2 (by decide), ef r 3 (by decide)]
    exact v7 r hr
theorem mu_water (X : Nat × (Nat → Int32) × Value) (b : Nat) (x n : Int32) {B C : zB} {nv np : Nat} (h : vb B nv np) (h6 : B.1 6 = 0) (a : ag nv np B C) : mu X b 8 164 [vI x, vI n] [vI x, vI 3, vI n] B C := by
  obtain ⟨S, V, P⟩ := B
  obtain ⟨S2, V2, P2⟩ := C
  have z6 : S 6 = 0 := h6
  have e2 : S 2 = nI nv := h.1.1
  have e3 : S 3 = nI np := h.1.2.1
  have n5 : nv ≤ 5 := h.1.2.2.1
  have n8 : np ≤ 8 := h.1.2.2.2.1
  have m2 : S2 2 = nI nv := (a.1 2 (by decide)).symm.trans e2
  have m3 : S2 3 = nI np := (a.1 3 (by decide)).symm.trans e3
  have hP : ∀ p g, p < np → g < 8 → P p g = P2 p g := fun p g h1 h2 => a.2.2 p g h1 h2 (fun _ => by rw [h6]; exact out_0 p)
  have hV : ∀ j f, j < nv → f < 5 → V j f = V2 j f := a.2.1
  have aP : agP np 0 P P2 := by have := a.2.2; rw [h6] at this; exact this
  rcases isx_c (n := nv) x (by omega) with ⟨q, -⟩ | ⟨j, hj, rfl, q⟩
  · refine ⟨-1, nv, np, (S, V, P), (S2, V2, P2), fun d M G => ?_, fun d M G R h5 => ⟨R, fun _ _ => rfl, ?_⟩, Or.inl ⟨by decide, rfl, rfl⟩⟩
    · show zd X (d + 4) 8 [vR (0, b, 0), vI x, vI n] (hh (cm M b S V P) G) = some (some (vI (-1)), hh (cm M b S V P) G)
      simp only [E8, e8_0, e8_1, e8_2, e8_5, e8_8, e8_9, e8_10, e8_11, e8_14, e8_15, e8_16, e8_17, e8_18, e8_19, e8_20, e8_23, e8_26, e8_28, e8_30, e8_33, e8_35, e8_36, e8_37, e8_40, e8_42, e8_43, e8_44, e8_47, e8_49, zt0, zt1, zn3, not_false_eq_true, toListS, toListN, zk_some, zpi, if_true, if_false, i10, cm_S, cm_V, cm_P, cm_vw, cm_pw, cm_uS, cm_uV, cm_uP, cm_Sf, C2b X _ _ G b nv (show cm M b S V P (0, b, 0) 2 = nI nv from cm_S.trans e2) n5, q]
    · show zd X (d + 9) 164 [vR (7, 0, 0), vI x, vI 3, vI n] (hh (mm M S2 V2 P2 R) G) = some (some (vI (-1)), hh (mm M S2 V2 P2 R) G)
      simp only [E164, e164_0, e164_1, e164_2, e164_5, e164_8, e164_9, e164_10, e164_11, e164_12, e164_15, e164_17, e164_20, e164_21, e164_24, e164_25, e164_28, e164_29, e164_30, e164_31, e164_32, e164_35, e164_36, e164_39, e164_40, e164_41, e164_42, e164_43, e164_45, e164_46, e164_47, e164_48, e164_50, e164_51, e164_54, e164_57, e164_58, e164_59, e164_61, e164_64, e164_65, e164_66, e164_69, e164_70, e164_73, e164_74, e164_75, e164_76, e164_78, e164_79, e164_82, e164_83, e164_86, e164_87, e164_88, e164_89, e164_90, e164_92, zt0, zt1, zn3, not_false_eq_true, toListS, toListN, zk_some, zpi, if_true, if_false, i10, mm_R, mm_0, mm_1, mm_2, mm_3, C132 X _ (mm M S2 V2 P2 R) G _ nv (show mm M S2 V2 P2 R (20, 0, 0) 0 = nI nv from m2) (by omega), q]
  · have hj5 : j < 5 := by omega
    have vj : vV V j := h.1.2.2.2.2.1 j hj
    have hb := brim_v vj
    have sb : (sBr V j).toInt = brim V j := sBr_v vj
    have se : V2 j 0 * V2 j 2 = sBr V j := by unfold sBr; rw [hV j 0 hj (by decide), hV j 2 hj (by decide)]
    obtain ⟨K, hK⟩ : ∃ K : Nat, (sBr V j).toInt = K ∧ K ≤ 270 := ⟨(sBr V j).toInt.toNat, by have := hb.1; omega, by have := hb.2; omega⟩
    rcases wrg_c n 0 K (by omega) with ⟨w, w'⟩ | ⟨w, w'⟩ | ⟨w, w', m, -, hm, rfl⟩
    · have y1 : wrg n 0 K = -4 := w
      have y2 : inz n 0 K = 0 := w'
      refine ⟨-4, nv, np, (S, V, P), (S2, V2, P2), fun d M G => ?_, fun d M G R h5 => ⟨R, fun _ _ => rfl, ?_⟩, Or.inl ⟨by decide, rfl, rfl⟩⟩
      · show zd X (d + 4) 8 [vR (0, b, 0), vI (nI j), vI n] (hh (cm M b S V P) G) = some (some (vI (-4)), hh (cm M b S V P) G)
        simp only [E8, e8_0, e8_1, e8_2, e8_5, e8_8, e8_9, e8_10, e8_11, e8_14, e8_15, e8_16, e8_17, e8_18, e8_19, e8_20, e8_23, e8_26, e8_28, e8_30, e8_33, e8_35, e8_36, e8_37, e8_40, e8_42, e8_43, e8_44, e8_47, e8_49, zt0, zt1, zn3, not_false_eq_true, toListS, toListN, zk_some, zpi, if_true, if_false, i10, cm_S, cm_V, cm_P, cm_vw, cm_pw, cm_uS, cm_uV, cm_uP, cm_Sf, C2b X _ _ G b nv (show cm M b S V P (0, b, 0) 2 = nI nv from cm_S.trans e2) n5, q, z5 hj5, cl5 hj5, C67, C118, j_0, k_0, hK.1, y1, q_eq_m4_0]
      · show zd X (d + 9) 164 [vR (7, 0, 0), vI (nI j), vI 3, vI n] (hh (mm M S2 V2 P2 R) G) = some (some (vI (-4)), hh (mm M S2 V2 P2 R) G)
        simp only [E164, e164_0, e164_1, e164_2, e164_5, e164_8, e164_9, e164_10, e164_11, e164_12, e164_15, e164_17, e164_20, e164_21, e164_24, e164_25, e164_28, e164_29, e164_30, e164_31, e164_32, e164_35, e164_36, e164_39, e164_40, e164_41, e164_42, e164_43, e164_45, e164_46, e164_47, e164_48, e164_50, e164_51, e164_54, e164_57, e164_58, e164_59, e164_61, e164_64, e164_65, e164_66, e164_69, e164_70, e164_73, e164_74, e164_75, e164_76, e164_78, e164_79, e164_82, e164_83, e164_86, e164_87, e164_88, e164_89, e164_90, e164_92, zt0, zt1, zn3, not_false_eq_true, toListS, toListN, zk_some, zpi, if_true, if_false, i10, mm_R, mm_0, mm_1, mm_2, mm_3, C132 X _ (mm M S2 V2 P2 R) G _ nv (show mm M S2 V2 P2 R (20, 0, 0) 0 = nI nv from m2) (by omega), q, C128, j_0, k_0, C136, Int32.toInt_toInt64, se, hK.1, y1, y2, C134, niV, ni0, ni1, ni2, ni3, ni4, wV0 hj5, cV0 hj5, mm_V0 hj5, mm_uV0 hj5, wV hj5 (show 1 < 5 by decide), cV hj5 (show 1 < 5 by decide), mm_V hj5 (show 1 < 5 by decide), mm_uV hj5 (show 1 < 5 by decide), wV hj5 (show 2 < 5 by decide), cV hj5 (show 2 < 5 by decide), mm_V hj5 (show 2 < 5 by decide), mm_uV hj5 (show 2 < 5 by decide), wV hj5 (show 3 < 5 by decide), cV hj5 (show 3 < 5 by decide), mm_V hj5 (show 3 < 5 by decide), mm_uV hj5 (show 3 < 5 by decide), wV hj5 (show 4 < 5 by decide), cV hj5 (show 4 < 5 by decide), mm_V hj5 (show 4 < 5 by decide), mm_uV hj5 (show 4 < 5 by decide), q_lt_3_4, q_le_3_4, q_eq_3_4]
    · have y1 : wrg n 0 K = -6 := w
      have y2 : inz n 0 K = 0 := w'
      refine ⟨-6, nv, np, (S, V, P), (S2, V2, P2), fun d M G => ?_, fun d M G R h5 => ⟨R, fun _ _ => rfl, ?_⟩, Or.inl ⟨by decide, rfl, rfl⟩⟩
      · show zd X (d + 4) 8 [vR (0, b, 0), vI (nI j), vI n] (hh (cm M b S V P) G) = some (some (vI (-6)), hh (cm M b S V P) G)
        simp only [E8, e8_0, e8_1, e8_2, e8_5, e8_8, e8_9, e8_10, e8_11, e8_14, e8_15, e8_16, e8_17, e8_18, e8_19, e8_20, e8_23, e8_26, e8_28, e8_30, e8_33, e8_35, e8_36, e8_37, e8_40, e8_42, e8_43, e8_44, e8_47, e8_49, zt0, zt1, zn3, not_false_eq_true, toListS, toListN, zk_some, zpi, if_true, if_false, i10, cm_S, cm_V, cm_P, cm_vw, cm_pw, cm_uS, cm_uV, cm_uP, cm_Sf, C2b X _ _ G b nv (show cm M b S V P (0, b, 0) 2 = nI nv from cm_S.trans e2) n5, q, z5 hj5, cl5 hj5, C67, C118, j_0, k_0, hK.1, y1, q_eq_m6_0]
      · show zd X (d + 9) 164 [vR (7, 0, 0), vI (nI j), vI 3, vI n] (hh (mm M S2 V2 P2 R) G) = some (some (vI (-6)), hh (mm M S2 V2 P2 R) G)
        simp only [E164, e164_0, e164_1, e164_2, e164_5, e164_8, e164_9, e164_10, e164_11, e164_12, e164_15, e164_17, e164_20, e164_21, e164_24, e164_25, e164_28, e164_29, e164_30, e164_31, e164_32, e164_35, e164_36, e164_39, e164_40, e164_41, e164_42, e164_43, e164_45, e164_46, e164_47, e164_48, e164_50, e164_51, e164_54, e164_57, e164_58, e164_59, e164_61, e164_64, e164_65, e164_66, e164_69, e164_70, e164_73, e164_74, e164_75, e164_76, e164_78, e164_79, e164_82, e164_83, e164_86, e164_87, e164_88, e164_89, e164_90, e164_92, zt0, zt1, zn3, not_false_eq_true, toListS, toListN, zk_some, zpi, if_true, if_false, i10, mm_R, mm_0, mm_1, mm_2, mm_3, C132 X _ (mm M S2 V2 P2 R) G _ nv (show mm M S2 V2 P2 R (20, 0, 0) 0 = nI nv from m2) (by omega), q, C128, j_0, k_0, C136, Int32.toInt_toInt64, se, hK.1, y1, y2, C134, niV, ni0, ni1, ni2, ni3, ni4, wV0 hj5, cV0 hj5, mm_V0 hj5, mm_uV0 hj5, wV hj5 (show 1 < 5 by decide), cV hj5 (show 1 < 5 by decide), mm_V hj5 (show 1 < 5 by decide), mm_uV hj5 (show 1 < 5 by decide), wV hj5 (show 2 < 5 by decide), cV hj5 (show 2 < 5 by decide), mm_V hj5 (show 2 < 5 by decide), mm_uV hj5 (show 2 < 5 by decide), wV hj5 (show 3 < 5 by decide), cV hj5 (show 3 < 5 by decide), mm_V hj5 (show 3 < 5 by decide), mm_uV hj5 (show 3 < 5 by decide), wV hj5 (show 4 < 5 by decide), cV hj5 (show 4 < 5 by decide), mm_V hj5 (show 4 < 5 by decide), mm_uV hj5 (show 4 < 5 by decide), q_lt_3_4, q_le_3_4, q_eq_3_4]
    · have y1 : wrg (nI m) 0 K = 0 := w
      have y2 : inz (nI m) 0 K = 1 := w'
      refine ⟨V j 3, nv, np, (S, uV V j 3 (nI m), P), (S2, uV V2 j 3 (nI m), P2), fun d M G => ?_, fun d M G R h5 => ⟨R, fun _ _ => rfl, ?_⟩, Or.inr ⟨?_, ?_, ?_, ?_, ?_⟩⟩
      · show zd X (d + 4) 8 [vR (0, b, 0), vI (nI j), vI (nI m)] (hh (cm M b S V P) G) = some (some (vI (V j 3)), hh (cm M b (S) (uV V j 3 (nI m)) (P)) G)
        simp only [E8, e8_0, e8_1, e8_2, e8_5, e8_8, e8_9, e8_10, e8_11, e8_14, e8_15, e8_16, e8_17, e8_18, e8_19, e8_20, e8_23, e8_26, e8_28, e8_30, e8_33, e8_35, e8_36, e8_37, e8_40, e8_42, e8_43, e8_44, e8_47, e8_49, zt0, zt1, zn3, not_false_eq_true, toListS, toListN, zk_some, zpi, if_true, if_false, i10, cm_S, cm_V, cm_P, cm_vw, cm_pw, cm_uS, cm_uV, cm_uP, cm_Sf, C2b X _ _ G b nv (show cm M b S V P (0, b, 0) 2 = nI nv from cm_S.trans e2) n5, q, z5 hj5, cl5 hj5, C67, C118, j_0, k_0, hK.1, y1]
      · show zd X (d + 9) 164 [vR (7, 0, 0), vI (nI j), vI 3, vI (nI m)] (hh (mm M S2 V2 P2 R) G) = some (some (vI (V j 3)), hh (mm M (S2) (uV V2 j 3 (nI m)) (P2) R) G)
        simp only [E164, e164_0, e164_1, e164_2, e164_5, e164_8, e164_9, e164_10, e164_11, e164_12, e164_15, e164_17, e164_20, e164_21, e164_24, e164_25, e164_28, e164_29, e164_30, e164_31, e164_32, e164_35, e164_36, e164_39, e164_40, e164_41, e164_42, e164_43, e164_45, e164_46, e164_47, e164_48, e164_50, e164_51, e164_54, e164_57, e164_58, e164_59, e164_61, e164_64, e164_65, e164_66, e164_69, e164_70, e164_73, e164_74, e164_75, e164_76, e164_78, e164_79, e164_82, e164_83, e164_86, e164_87, e164_88, e164_89, e164_90, e164_92, zt0, zt1, zn3, not_false_eq_true, toListS, toListN, zk_some, zpi, if_true, if_false, i10, mm_R, mm_0, mm_1, mm_2, mm_3, C132 X _ (mm M S2 V2 P2 R) G _ nv (show mm M S2 V2 P2 R (20, 0, 0) 0 = nI nv from m2) (by omega), q, C128, j_0, k_0, C136, Int32.toInt_toInt64, se, hK.1, y1, y2, C134, niV, ni0, ni1, ni2, ni3, ni4, wV0 hj5, cV0 hj5, mm_V0 hj5, mm_uV0 hj5, wV hj5 (show 1 < 5 by decide), cV hj5 (show 1 < 5 by decide), mm_V hj5 (show 1 < 5 by decide), mm_uV hj5 (show 1 < 5 by decide), wV hj5 (show 2 < 5 by decide), cV hj5 (show 2 < 5 by decide), mm_V hj5 (show 2 < 5 by decide), mm_uV hj5 (show 2 < 5 by decide), wV hj5 (show 3 < 5 by decide), cV hj5 (show 3 < 5 by decide), mm_V hj5 (show 3 < 5 by decide), mm_uV hj5 (show 3 < 5 by decide), wV hj5 (show 4 < 5 by decide), cV hj5 (show 4 < 5 by decide), mm_V hj5 (show 4 < 5 by decide), mm_uV hj5 (show 4 < 5 by decide), q_lt_3_4, q_le_3_4, q_eq_3_4, hV j 3 hj (show 3 < 5 by decide)]
      · exact (h.2.1 j hj).1
      · obtain ⟨⟨v1, v2, v3, v4, v5, v6⟩, v7, v8, v9⟩ := h
        refine ⟨vC_c rfl rfl (fun r f hf => uV_f hf) (fun _ _ _ => rfl) ⟨v1, v2, v3, v4, v5, v6⟩, fun r hr => ?_, v8, v9⟩
        have eb : brim (uV V j 3 (nI m)) r = brim V r := by unfold brim; rw [uV_f (by decide), uV_f (by decide)]
        show 0 ≤ wat (uV V j 3 (nI m)) r ∧ wat (uV V j 3 (nI m)) r ≤ brim (uV V j 3 (nI m)) r
        rw [wat_u, eb]
        by_cases e : r = j
        · subst e
          rw [if_pos rfl, nI_int (by omega)]
          omega
        · rw [if_neg e]
          exact v7 r hr
      · exact h6
      · exact ⟨a.1, agV_u hV rfl, a.2.2⟩
      · show (S 4).toInt ≤ (S 4).toInt + 138105
        omega
theorem mu_tap (X : Nat × (Nat → Int32) × Value) (b : Nat) (x n : Int32) {B C : zB} {nv np : Nat} (h : vb B nv np) (h6 : B.1 6 = 0) (a : ag nv np B C) : mu X b 9 164 [vI x, vI n] [vI x, vI 4, vI n] B C := by
  obtain ⟨S, V, P⟩ := B
  obtain ⟨S2, V2, P2⟩ := C
  have z6 : S 6 = 0 := h6
  have e2 : S 2 = nI nv := h.1.1
  have e3 : S 3 = nI np := h.1.2.1
  have n5 : nv ≤ 5 := h.1.2.2.1
  have n8 : np ≤ 8 := h.1.2.2.2.1
  have m2 : S2 2 = nI nv := (a.1 2 (by decide)).symm.trans e2
  have m3 : S2 3 = nI np := (a.1 3 (by decide)).symm.trans e3
  have hP : ∀ p g, p < np → g < 8 → P p g = P2 p g := fun p g h1 h2 => a.2.2 p g h1 h2 (fun _ => by rw [h6]; exact out_0 p)
  have hV : ∀ j f, j < nv → f < 5 → V j f = V2 j f := a.2.1
  have aP : agP np 0 P P2 := by have := a.2.2; rw [h6] at this; exact this
  rcases isx_c (n := nv) x (by omega) with ⟨q, -⟩ | ⟨j, hj, rfl, q⟩
  · refine ⟨-1, nv, np, (S, V, P), (S2, V2, P2), fun d M G => ?_, fun d M G R h5 => ⟨R, fun _ _ => rfl, ?_⟩, Or.inl ⟨by decide, rfl, rfl⟩⟩
    · show zd X (d + 4) 9 [vR (0, b, 0), vI x, vI n] (hh (cm M b S V P) G) = some (some (vI (-1)), hh (cm M b S V P) G)
      simp only [E9, e9_0, e9_1, e9_2, e9_5, e9_8, e9_9, e9_10, e9_11, e9_12, e9_14, e9_17, e9_18, e9_19, e9_22, e9_23, e9_24, e9_25, e9_28, e9_29, e9_30, e9_33, e9_35, e9_36, e9_39, e9_40, e9_41, e9_42, e9_45, e9_47, zt0, zt1, zn3, not_false_eq_true, toListS, toListN, zk_some, zpi, if_true, if_false, i10, cm_S, cm_V, cm_P, cm_vw, cm_pw, cm_uS, cm_uV, cm_uP, cm_Sf, C2b X _ _ G b nv (show cm M b S V P (0, b, 0) 2 = nI nv from cm_S.trans e2) n5, q]
    · show zd X (d + 9) 164 [vR (7, 0, 0), vI x, vI 4, vI n] (hh (mm M S2 V2 P2 R) G) = some (some (vI (-1)), hh (mm M S2 V2 P2 R) G)
      simp only [E164, e164_0, e164_1, e164_2, e164_5, e164_8, e164_9, e164_10, e164_11, e164_12, e164_15, e164_17, e164_20, e164_21, e164_24, e164_25, e164_28, e164_29, e164_30, e164_31, e164_32, e164_35, e164_36, e164_39, e164_40, e164_41, e164_42, e164_43, e164_45, e164_46, e164_47, e164_48, e164_50, e164_51, e164_54, e164_57, e164_58, e164_59, e164_61, e164_64, e164_65, e164_66, e164_69, e164_70, e164_73, e164_74, e164_75, e164_76, e164_78, e164_79, e164_82, e164_83, e164_86, e164_87, e164_88, e164_89, e164_90, e164_92, zt0, zt1, zn3, not_false_eq_true, toListS, toListN, zk_some, zpi, if_true, if_false, i10, mm_R, mm_0, mm_1, mm_2, mm_3, C132 X _ (mm M S2 V2 P2 R) G _ nv (show mm M S2 V2 P2 R (20, 0, 0) 0 = nI nv from m2) (by omega), q]
  · have hj5 : j < 5 := by omega
    rcases wrg_c n 0 9 (by omega) with ⟨w, w'⟩ | ⟨w, w'⟩ | ⟨w, w', m, -, hm, rfl⟩
    · have y1 : wrg n 0 9 = -4 := w
      have y2 : inz n 0 9 = 0 := w'
      refine ⟨-4, nv, np, (S, V, P), (S2, V2, P2), fun d M G => ?_, fun d M G R h5 => ⟨R, fun _ _ => rfl, ?_⟩, Or.inl ⟨by decide, rfl, rfl⟩⟩
      · show zd X (d + 4) 9 [vR (0, b, 0), vI (nI j), vI n] (hh (cm M b S V P) G) = some (some (vI (-4)), hh (cm M b S V P) G)
        simp only [E9, e9_0, e9_1, e9_2, e9_5, e9_8, e9_9, e9_10, e9_11, e9_12, e9_14, e9_17, e9_18, e9_19, e9_22, e9_23, e9_24, e9_25, e9_28, e9_29, e9_30, e9_33, e9_35, e9_36, e9_39, e9_40, e9_41, e9_42, e9_45, e9_47, zt0, zt1, zn3, not_false_eq_true, toListS, toListN, zk_some, zpi, if_true, if_false, i10, cm_S, cm_V, cm_P, cm_vw, cm_pw, cm_uS, cm_uV, cm_uP, cm_Sf, C2b X _ _ G b nv (show cm M b S V P (0, b, 0) 2 = nI nv from cm_S.trans e2) n5, q, z5 hj5, cl5 hj5, C118, j_0, k_0, j_9, k_9, y1, q_eq_m4_0]
      · show zd X (d + 9) 164 [vR (7, 0, 0), vI (nI j), vI 4, vI n] (hh (mm M S2 V2 P2 R) G) = some (some (vI (-4)), hh (mm M S2 V2 P2 R) G)
        simp only [E164, e164_0, e164_1, e164_2, e164_5, e164_8, e164_9, e164_10, e164_11, e164_12, e164_15, e164_17, e164_20, e164_21, e164_24, e164_25, e164_28, e164_29, e164_30, e164_31, e164_32, e164_35, e164_36, e164_39, e164_40, e164_41, e164_42, e164_43, e164_45, e164_46, e164_47, e164_48, e164_50, e164_51, e164_54, e164_57, e164_58, e164_59, e164_61, e164_64, e164_65, e164_66, e164_69, e164_70, e164_73, e164_74, e164_75, e164_76, e164_78, e164_79, e164_82, e164_83, e164_86, e164_87, e164_88, e164_89, e164_90, e164_92, zt0, zt1, zn3, not_false_eq_true, toListS, toListN, zk_some, zpi, if_true, if_false, i10, mm_R, mm_0, mm_1, mm_2, mm_3, C132 X _ (mm M S2 V2 P2 R) G _ nv (show mm M S2 V2 P2 R (20, 0, 0) 0 = nI nv from m2) (by omega), q, C128, j_0, k_0, k_9, C136, Int32.toInt_toInt64, y1, y2, C134, niV, ni0, ni1, ni2, ni3, ni4, wV0 hj5, cV0 hj5, mm_V0 hj5, mm_uV0 hj5, wV hj5 (show 1 < 5 by decide), cV hj5 (show 1 < 5 by decide), mm_V hj5 (show 1 < 5 by decide), mm_uV hj5 (show 1 < 5 by decide), wV hj5 (show 2 < 5 by decide), cV hj5 (show 2 < 5 by decide), mm_V hj5 (show 2 < 5 by decide), mm_uV hj5 (show 2 < 5 by decide), wV hj5 (show 3 < 5 by decide), cV hj5 (show 3 < 5 by decide), mm_V hj5 (show 3 < 5 by decide), mm_uV hj5 (show 3 < 5 by decide), wV hj5 (show 4 < 5 by decide), cV hj5 (show 4 < 5 by decide), mm_V hj5 (show 4 < 5 by decide), mm_uV hj5 (show 4 < 5 by decide)]
    · have y1 : wrg n 0 9 = -6 := w
      have y2 : inz n 0 9 = 0 := w'
      refine ⟨-6, nv, np, (S, V, P), (S2, V2, P2), fun d M G => ?_, fun d M G R h5 => ⟨R, fun _ _ => rfl, ?_⟩, Or.inl ⟨by decide, rfl, rfl⟩⟩
      · show zd X (d + 4) 9 [vR (0, b, 0), vI (nI j), vI n] (hh (cm M b S V P) G) = some (some (vI (-6)), hh (cm M b S V P) G)
        simp only [E9, e9_0, e9_1, e9_2, e9_5, e9_8, e9_9, e9_10, e9_11, e9_12, e9_14, e9_17, e9_18, e9_19, e9_22, e9_23, e9_24, e9_25, e9_28, e9_29, e9_30, e9_33, e9_35, e9_36, e9_39, e9_40, e9_41, e9_42, e9_45, e9_47, zt0, zt1, zn3, not_false_eq_true, toListS, toListN, zk_some, zpi, if_true, if_false, i10, cm_S, cm_V, cm_P, cm_vw, cm_pw, cm_uS, cm_uV, cm_uP, cm_Sf, C2b X _ _ G b nv (show cm M b S V P (0, b, 0) 2 = nI nv from cm_S.trans e2) n5, q, z5 hj5, cl5 hj5, C118, j_0, k_0, j_9, k_9, y1, q_eq_m6_0]
      · show zd X (d + 9) 164 [vR (7, 0, 0), vI (nI j), vI 4, vI n] (hh (mm M S2 V2 P2 R) G) = some (some (vI (-6)), hh (mm M S2 V2 P2 R) G)
        simp only [E164, e164_0, e164_1, e164_2, e164_5, e164_8, e164_9, e164_10, e164_11, e164_12, e164_15, e164_17, e164_20, e164_21, e164_24, e164_25, e164_28, e164_29, e164_30, e164_31, e164_32, e164_35, e164_36, e164_39, e164_40, e164_41, e164_42, e164_43, e164_45, e164_46, e164_47, e164_48, e164_50, e164_51, e164_54, e164_57, e164_58, e164_59, e164_61, e164_64, e164_65, e164_66, e164_69, e164_70, e164_73, e164_74, e164_75, e164_76, e164_78, e164_79, e164_82, e164_83, e164_86, e164_87, e164_88, e164_89, e164_90, e164_92, zt0, zt1, zn3, not_false_eq_true, toListS, toListN, zk_some, zpi, if_true, if_false, i10, mm_R, mm_0, mm_1, mm_2, mm_3, C132 X _ (mm M S2 V2 P2 R) G _ nv (show mm M S2 V2 P2 R (20, 0, 0) 0 = nI nv from m2) (by omega), q, C128, j_0, k_0, k_9, C136, Int32.toInt_toInt64, y1, y2, C134, niV, ni0, ni1, ni2, ni3, ni4, wV0 hj5, cV0 hj5, mm_V0 hj5, mm_uV0 hj5, wV hj5 (show 1 < 5 by decide), cV hj5 (show 1 < 5 by decide), mm_V hj5 (show 1 < 5 by decide), mm_uV hj5 (show 1 < 5 by decide), wV hj5 (show 2 < 5 by decide), cV hj5 (show 2 < 5 by decide), mm_V hj5 (show 2 < 5 by decide), mm_uV hj5 (show 2 < 5 by decide), wV hj5 (show 3 < 5 by decide), cV hj5 (show 3 < 5 by decide), mm_V hj5 (show 3 < 5 by decide), mm_uV hj5 (show 3 < 5 by decide), wV hj5 (show 4 < 5 by decide), cV hj5 (show 4 < 5 by decide), mm_V hj5 (show 4 < 5 by decide), mm_uV hj5 (show 4 < 5 by decide)]
    · have y1 : wrg (nI m) 0 9 = 0 := w
      have y2 : inz (nI m) 0 9 = 1 := w'
      refine ⟨V j 4, nv, np, (S, uV V j 4 (nI m), P), (S2, uV V2 j 4 (nI m), P2), fun d M G => ?_, fun d M G R h5 => ⟨R, fun _ _ => rfl, ?_⟩, Or.inr ⟨?_, ?_, ?_, ?_, ?_⟩⟩
      · show zd X (d + 4) 9 [vR (0, b, 0), vI (nI j), vI (nI m)] (hh (cm M b S V P) G) = some (some (vI (V j 4)), hh (cm M b (S) (uV V j 4 (nI m)) (P)) G)
        simp only [E9, e9_0, e9_1, e9_2, e9_5, e9_8, e9_9, e9_10, e9_11, e9_12, e9_14, e9_17, e9_18, e9_19, e9_22, e9_23, e9_24, e9_25, e9_28, e9_29, e9_30, e9_33, e9_35, e9_36, e9_39, e9_40, e9_41, e9_42, e9_45, e9_47, zt0, zt1, zn3, not_false_eq_true, toListS, toListN, zk_some, zpi, if_true, if_false, i10, cm_S, cm_V, cm_P, cm_vw, cm_pw, cm_uS, cm_uV, cm_uP, cm_Sf, C2b X _ _ G b nv (show cm M b S V P (0, b, 0) 2 = nI nv from cm_S.trans e2) n5, q, z5 hj5, cl5 hj5, C118, j_0, k_0, j_9, k_9, y1]
      · show zd X (d + 9) 164 [vR (7, 0, 0), vI (nI j), vI 4, vI (nI m)] (hh (mm M S2 V2 P2 R) G) = some (some (vI (V j 4)), hh (mm M (S2) (uV V2 j 4 (nI m)) (P2) R) G)
        simp only [E164, e164_0, e164_1, e164_2, e164_5, e164_8, e164_9, e164_10, e164_11, e164_12, e164_15, e164_17, e164_20, e164_21, e164_24, e164_25, e164_28, e164_29, e164_30, e164_31, e164_32, e164_35, e164_36, e164_39, e164_40, e164_41, e164_42, e164_43, e164_45, e164_46, e164_47, e164_48, e164_50, e164_51, e164_54, e164_57, e164_58, e164_59, e164_61, e164_64, e164_65, e164_66, e164_69, e164_70, e164_73, e164_74, e164_75, e164_76, e164_78, e164_79, e164_82, e164_83, e164_86, e164_87, e164_88, e164_89, e164_90, e164_92, zt0, zt1, zn3, not_false_eq_true, toListS, toListN, zk_some, zpi, if_true, if_false, i10, mm_R, mm_0, mm_1, mm_2, mm_3, C132 X _ (mm M S2 V2 P2 R) G _ nv (show mm M S2 V2 P2 R (20, 0, 0) 0 = nI nv from m2) (by omega), q, C128, j_0, k_0, k_9, C136, Int32.toInt_toInt64, y1, y2, C134, niV, ni0, ni1, ni2, ni3, ni4, wV0 hj5, cV0 hj5, mm_V0 hj5, mm_uV0 hj5, wV hj5 (show 1 < 5 by decide), cV hj5 (show 1 < 5 by decide), mm_V hj5 (show 1 < 5 by decide), mm_uV hj5 (show 1 < 5 by decide), wV hj5 (show 2 < 5 by decide), cV hj5 (show 2 < 5 by decide), mm_V hj5 (show 2 < 5 by decide), mm_uV hj5 (show 2 < 5 by decide), wV hj5 (show 3 < 5 by decide), cV hj5 (show 3 < 5 by decide), mm_V hj5 (show 3 < 5 by decide), mm_uV hj5 (show 3 < 5 by decide), wV hj5 (show 4 < 5 by decide), cV hj5 (show 4 < 5 by decide), mm_V hj5 (show 4 < 5 by decide), mm_uV hj5 (show 4 < 5 by decide), hV j 4 hj (show 4 < 5 by decide)]
      · have := (h.1.2.2.2.2.1 j hj).2.2.2.2.2.2.1
        exact this
      · exact vb_tap h hm
      · exact h6
      · exact ⟨a.1, agV_u hV rfl, a.2.2⟩
      · show (S 4).toInt ≤ (S 4).toInt + 138105
        omega
theorem bst_s {nv np : Nat} {B : zB} (h : vb B nv np) : ∀ n, ((bst nv np B n).1 4).toInt ≤ (B.1 4).toInt + 1395 * n := by
  intro n
  induction n with
  | zero => show (B.1 4).toInt ≤ _; omega
  | succ n ih =>
    have q := (sStp_v (bst_v h n)).2
    have q4 : ((bst nv np B (n + 1)).1 4).toInt = min 2000000000 (((bst nv np B n).1 4).toInt + ((bst nv np B (n + 1)).1 7).toInt) := q.2.2.1
    have q7 : ((bst nv np B (n + 1)).1 7).toInt ≤ 1395 := q.2.1
    rw [q4]
    omega
theorem L10 (X : Nat × (Nat → Int32) × Value) (d : Nat) (M : zM) (G : zG) (b : Nat) {nv np : Nat} {B : zB} (h : vb B nv np) (n : Nat) (hn : n < 2 ^ 31) (l2 : Int32) : zx X (d + 4) 10 16 [vR (0, b, 0), vI (nI n), vI l2, vI 0] [] (hh (cb M b B) G) = some (some (vI ((bst nv np B n).1 5)), hh (cb M b (bst nv np B n)) G) := by
  have l := zlf (n := n) (f := fun i => zx X (d + 4) 10 16 [vR (0, b, 0), vI (nI n), vI l2, vI (nI i)] [] (hh (cb M b (bst nv np B i)) G)) (fun i hi w ew => by
    have st := B11 X (d + 0) M G b (bst nv np B i) nv np (bst_v h i)
    simp only [e10_16, e10_17, e10_18, nle hn (show i < 2 ^ 31 by omega)]
    rw [if_neg (by omega)]
    simp only [e10_21, e10_22, e10_25, e10_28, zt0, zt1, zn3, not_false_eq_true, toListS, toListN, zk_some, zpi, st, nI_1]
    exact ew) n 0 (by omega)
  rw [nI_0] at l
  refine Eq.trans l ?_
  simp only [e10_16, e10_17, e10_18, nle hn hn]
  rw [if_pos (Nat.le_refl _)]
  simp only [e10_31, e10_32, e10_35, cb_S]
theorem mu_pass (X : Nat × (Nat → Int32) × Value) (b : Nat) (x : Int32) {B C : zB} {nv np : Nat} (h : vb B nv np) (h6 : B.1 6 = 0) (a : ag nv np B C) (vm : vb C nv np) : mu X b 10 165 [vI x] [vI x] B C := by
  rcases wrg_c x 1 99 (by decide) with ⟨w, w'⟩ | ⟨w, w'⟩ | ⟨w, w', m, h1, hm, rfl⟩
  · have y1 : wrg x 1 99 = -4 := w
    have y2 : inz x 1 99 = 0 := w'
    refine ⟨-4, nv, np, B, C, fun d M G => ?_, fun d M G R h5 => ⟨R, fun _ _ => rfl, ?_⟩, Or.inl ⟨by decide, rfl, rfl⟩⟩
    · simp only [e10_0, e10_1, e10_2, e10_4, e10_7, e10_8, e10_9, e10_12, e10_13, E10, zt0, zt1, zn3, not_false_eq_true, toListS, toListN, zk_some, zpi, if_true, if_false, i10, C118, j_1, k_1, j_99, k_99, y1, q_eq_m4_0]
    · simp only [E165, e165_0, e165_1, e165_2, e165_3, e165_6, e165_9, e165_12, e165_13, e165_14, e165_16, e165_19, e165_20, e165_21, e165_22, e165_25, e165_26, e165_29, e165_30, e165_31, zt0, zt1, zn3, not_false_eq_true, toListS, toListN, zk_some, zpi, if_true, if_false, i10, C128, C136, j_1, k_1, j_99, k_99, y1, y2]
  · have y1 : wrg x 1 99 = -6 := w
    have y2 : inz x 1 99 = 0 := w'
    refine ⟨-6, nv, np, B, C, fun d M G => ?_, fun d M G R h5 => ⟨R, fun _ _ => rfl, ?_⟩, Or.inl ⟨by decide, rfl, rfl⟩⟩
    · simp only [e10_0, e10_1, e10_2, e10_4, e10_7, e10_8, e10_9, e10_12, e10_13, E10, zt0, zt1, zn3, not_false_eq_true, toListS, toListN, zk_some, zpi, if_true, if_false, i10, C118, j_1, k_1, j_99, k_99, y1, q_eq_m6_0]
    · simp only [E165, e165_0, e165_1, e165_2, e165_3, e165_6, e165_9, e165_12, e165_13, e165_14, e165_16, e165_19, e165_20, e165_21, e165_22, e165_25, e165_26, e165_29, e165_30, e165_31, zt0, zt1, zn3, not_false_eq_true, toListS, toListN, zk_some, zpi, if_true, if_false, i10, C128, C136, j_1, k_1, j_99, k_99, y1, y2]
  · have y1 : wrg (nI m) 1 99 = 0 := w
    have y2 : inz (nI m) 1 99 = 1 := w'
    refine ⟨(bst nv np B m).1 5, nv, np, bst nv np B m, bst nv np C m, fun d M G => ?_, fun d M G R h5 => ⟨rS nv np C R m, fun f hf => rS_o hf, ?_⟩, Or.inr ⟨?_, bst_v h m, (bst_6 m).trans h6, bst_c h a m, ?_⟩⟩
    · simp only [e10_0, e10_1, e10_2, e10_4, e10_7, e10_8, e10_9, e10_12, e10_13, e10_14, e10_15, E10, zt0, zt1, zn3, not_false_eq_true, toListS, toListN, zk_some, zpi, if_true, if_false, i10, C118, j_1, k_1, j_99, k_99, y1]
      exact L10 X d M G b h m (by omega) _
    · have st := W149 X (d + 0) M G (R := R) vm (h5.trans ((a.1 6 (by decide)).symm.trans h6).symm) m (by omega)
      rw [show (bst nv np B m).1 5 = (bst nv np C m).1 5 from (bst_c h a m).1 5 (by decide)]
      simp only [E165, e165_0, e165_1, e165_2, e165_3, e165_6, e165_9, e165_12, e165_13, e165_14, e165_16, e165_19, e165_20, e165_21, e165_22, e165_25, e165_26, e165_29, e165_30, e165_31, zt0, zt1, zn3, not_false_eq_true, toListS, toListN, zk_some, zpi, if_true, if_false, i10, C128, C136, j_1, k_1, j_99, k_99, y1, y2, st, mb_2, w2, t2]
    · exact (bst_v h m).2.2.2.2.2.1
    · have := bst_s h m
      omega
