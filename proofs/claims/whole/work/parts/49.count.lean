/-! which PIPES RUN, as bits; count -/
def rb (P : tV) : Nat → Int32
  | 0 => 0
  | n + 1 => if P n 7 = 0 then rb P n else rb P n ||| 1 <<< (nI n &&& 31)
theorem rb_c {P Q : tV} : ∀ n, (∀ p, p < n → P p 7 = Q p 7) → rb P n = rb Q n := by
  intro n
  induction n with
  | zero => intro _; rfl
  | succ n ih =>
    intro h
    unfold rb
    rw [ih fun p hp => h p (by omega), h n (by omega)]
theorem C16 (X : Nat × (Nat → Int32) × Value) (d : Nat) (M : zM) (G : zG) (b np : Nat) (h3 : M (0, b, 0) 3 = nI np) (h8 : np ≤ 8) : zd X d 16 [vR (0, b, 0)] (hh M G) = some (some (vI (rb (pw M b) np)), hh M G) := by
  have l := zlf (n := np) (f := fun i => zx X d 16 4 [vR (0, b, 0), vI (rb (pw M b) i), vI (nI i)] [] (hh M G)) (fun i hi w ew => by
    have hi8 : i < 8 := by omega
    simp only [e16_4, e16_5, e16_6, e16_9, h3, nle (show np < 2 ^ 31 by omega) (show i < 2 ^ 31 by omega)]
    rw [if_neg (by omega)]
    simp only [e16_12, e16_13, e16_16, e16_17, e16_18, e16_21, zt0, zt1, zn3, not_false_eq_true, toListS, toListN, zk_some, zpi, z8 hi8, cl8 hi8]
    by_cases q : M (3, b, i) 7 = 0
    · have q' : pw M b i 7 = 0 := q
      rw [if_pos q]
      simp only [e16_30, e16_33, nI_1]
      simp only [rb, if_pos q'] at ew
      exact ew
    · have q' : ¬ pw M b i 7 = 0 := q
      rw [if_neg q]
      simp only [e16_24, e16_25, e16_26, e16_27, e16_28, e16_29, e16_30, e16_33, nI_1]
      simp only [rb, if_neg q'] at ew
      exact ew) np 0 (by omega)
  rw [nI_0] at l
  simp only [E16, e16_0, e16_1, e16_2, e16_3, zt0, zt1, zn3, not_false_eq_true, toListS, toListN, zk_some, zpi]
  refine Eq.trans l ?_
  simp only [e16_4, e16_5, e16_6, e16_9, h3, nle (show np < 2 ^ 31 by omega) (show np < 2 ^ 31 by omega)]
  rw [if_pos (Nat.le_refl _)]
  simp only [e16_36, e16_37]
theorem C189 (X : Nat × (Nat → Int32) × Value) (d : Nat) (M : zM) (G : zG) (B : zB) (R : Nat → Int32) (np : Nat) (h3 : B.1 3 = nI np) (h8 : np ≤ 8) (h01 : ∀ p, p < np → B.2.2 p 7 = 0 ∨ B.2.2 p 7 = 1) : zd X (d + 2) 189 [vR (7, 0, 0)] (hh (mb M B R) G) = some (some (vI (rb B.2.2 np)), hh (mb M B R) G) := by
  have l := zlf (n := np) (f := fun i => zx X (d + 2) 189 4 [vR (7, 0, 0), vI (rb B.2.2 i), vI (nI i)] [] (hh (mb M B R) G)) (fun i hi w ew => by
    have hi8 : i < 8 := by omega
    simp only [e189_4, e189_5, e189_6, e189_9, e189_10, e189_11, w1, t1, mb_1, h3, nle (show np < 2 ^ 31 by omega) (show i < 2 ^ 31 by omega)]
    rw [if_neg (by omega)]
    simp only [e189_14, e189_15, e189_16, e189_17, e189_20, e189_21, e189_22, e189_23, e189_24, e189_27, zt0, zt1, zn3, not_false_eq_true, toListS, toListN, zk_some, zpi, C180 X _ M G B R i hi8, nI_1]
    rcases h01 i hi with q | q
    · simp only [rb, if_pos q] at ew
      rw [q, show (0 : Int32) <<< (nI i &&& 31) = 0 from Int32.zero_shiftLeft, Int32.or_zero]
      exact ew
    · have q' : ¬ B.2.2 i 7 = 0 := by rw [q]; decide
      simp only [rb, if_neg q'] at ew
      rw [q]
      exact ew) np 0 (by omega)
  rw [nI_0] at l
  simp only [E189, e189_0, e189_1, e189_2, e189_3, zt0, zt1, zn3, not_false_eq_true, toListS, toListN, zk_some, zpi]
  refine Eq.trans l ?_
  simp only [e189_4, e189_5, e189_6, e189_9, e189_10, e189_11, w1, t1, mb_1, h3, nle (show np < 2 ^ 31 by omega) (show np < 2 ^ 31 by omega)]
  rw [if_pos (Nat.le_refl _)]
  simp only [e189_30, e189_31]
theorem K40 (X : Nat × (Nat → Int32) × Value) (t : Nat) (M : zM) (G : zG) (w : Int32) (i : Inv t M) : okI X 113 224 [vI w] t M G := by
  obtain ⟨nv, np, s⟩ := ST_of i
  have s' := s
  obtain ⟨n5, n8, e2, e3, m0, m1, v, o6, f5, a, vc, ac, vm⟩ := s'
  rcases inz_c w 5 (by decide) with ⟨g, gn⟩ | ⟨g, l, hl, rfl⟩
  · have z5 : ¬ w = 0 ∧ ¬ w = 1 ∧ ¬ w = 2 ∧ ¬ w = 3 ∧ ¬ w = 4 ∧ ¬ w = 5 := ⟨fun e => gn (by rw [e]; decide), fun e => gn (by rw [e]; decide), fun e => gn (by rw [e]; decide), fun e => gn (by rw [e]; decide), fun e => gn (by rw [e]; decide), fun e => gn (by rw [e]; decide)⟩
    by_cases c : 11 ≤ w.toInt ∧ w.toInt ≤ 16
    · obtain ⟨k, hk⟩ : ∃ k, w = nI k ∧ 11 ≤ k ∧ k ≤ 16 := ⟨w.toInt.toNat, nI_up (by omega), by omega, by omega⟩
      obtain ⟨rfl, hk1, hk2⟩ := hk
      rcases (show k = 11 ∨ k = 12 ∨ k = 13 ∨ k = 14 ∨ k = 15 ∨ k = 16 by omega) with rfl | rfl | rfl | rfl | rfl | rfl
      · show okI X 113 224 [vI 11] t M G
        have er : M (17, 0, 0) 1 = M (23, 0, 0) 1 := i.2.2.2.1 1 (by decide) (by decide)
        have gi : inz 11 11 16 = 1 := rfl
        refine ⟨M (17, 0, 0) 1, M, G, M, G, ?_, ?_, i⟩
        · simp only [E113, e113_0, e113_1, e113_3, e113_6, e113_7, e113_9, e113_12, e113_13, e113_16, e113_17, e113_19, e113_20, e113_21, e113_22, e113_23, e113_60, e113_61, e113_64, e113_67, e113_68, e113_69, e113_72, e113_75, e113_76, e113_77, e113_80, e113_83, e113_84, e113_85, e113_88, e113_91, e113_92, e113_93, e113_96, e113_99, e113_100, e113_101, e113_104, e113_107, e113_108, e113_110, zt0, zt1, zn3, not_false_eq_true, toListS, toListN, zk_some, zpi, if_true, if_false, i10, show ((11 : Int32) < 11) = False by decide, show ((16 : Int32) < 11) = False by decide, show ((11 : Int32) - 10) = 1 by decide, show zin 1 7 = true by decide, show (1 : Int32).toNatClampNeg = 1 by decide]
        · simp only [E224, e224_0, e224_1, e224_40, e224_41, e224_44, e224_45, e224_46, e224_47, e224_48, e224_51, e224_52, e224_53, e224_54, e224_55, e224_58, e224_59, e224_60, e224_61, e224_62, e224_65, e224_66, e224_67, e224_68, e224_69, e224_72, e224_73, e224_74, e224_77, e224_78, e224_79, e224_80, e224_83, e224_86, e224_89, e224_92, e224_93, e224_96, e224_97, e224_99, e224_100, e224_101, e224_104, e224_106, zt0, zt1, zn3, not_false_eq_true, toListS, toListN, zk_some, zpi, if_true, if_false, i10, show ((11 : Int32) = 0) = False by decide, show ((11 : Int32) = 1) = False by decide, show ((11 : Int32) = 2) = False by decide, show ((11 : Int32) = 3) = False by decide, show ((11 : Int32) = 4) = False by decide, show ((11 : Int32) = 5) = False by decide, C128, j_11, j_16, gi, show ((11 : Int32) - 10) = 1 by decide, show zin 1 7 = true by decide, show (1 : Int32).toNatClampNeg = 1 by decide, er]
      · show okI X 113 224 [vI 12] t M G
        have er : M (17, 0, 0) 2 = M (23, 0, 0) 2 := i.2.2.2.1 2 (by decide) (by decide)
        have gi : inz 12 11 16 = 1 := rfl
        refine ⟨M (17, 0, 0) 2, M, G, M, G, ?_, ?_, i⟩
        · simp only [E113, e113_0, e113_1, e113_3, e113_6, e113_7, e113_9, e113_12, e113_13, e113_16, e113_17, e113_19, e113_20, e113_21, e113_22, e113_23, e113_60, e113_61, e113_64, e113_67, e113_68, e113_69, e113_72, e113_75, e113_76, e113_77, e113_80, e113_83, e113_84, e113_85, e113_88, e113_91, e113_92, e113_93, e113_96, e113_99, e113_100, e113_101, e113_104, e113_107, e113_108, e113_110, zt0, zt1, zn3, not_false_eq_true, toListS, toListN, zk_some, zpi, if_true, if_false, i10, show ((12 : Int32) < 11) = False by decide, show ((16 : Int32) < 12) = False by decide, show ((12 : Int32) - 10) = 2 by decide, show zin 2 7 = true by decide, show (2 : Int32).toNatClampNeg = 2 by decide]
        · simp only [E224, e224_0, e224_1, e224_40, e224_41, e224_44, e224_45, e224_46, e224_47, e224_48, e224_51, e224_52, e224_53, e224_54, e224_55, e224_58, e224_59, e224_60, e224_61, e224_62, e224_65, e224_66, e224_67, e224_68, e224_69, e224_72, e224_73, e224_74, e224_77, e224_78, e224_79, e224_80, e224_83, e224_86, e224_89, e224_92, e224_93, e224_96, e224_97, e224_99, e224_100, e224_101, e224_104, e224_106, zt0, zt1, zn3, not_false_eq_true, toListS, toListN, zk_some, zpi, if_true, if_false, i10, show ((12 : Int32) = 0) = False by decide, show ((12 : Int32) = 1) = False by decide, show ((12 : Int32) = 2) = False by decide, show ((12 : Int32) = 3) = False by decide, show ((12 : Int32) = 4) = False by decide, show ((12 : Int32) = 5) = False by decide, C128, j_11, j_16, gi, show ((12 : Int32) - 10) = 2 by decide, show zin 2 7 = true by decide, show (2 : Int32).toNatClampNeg = 2 by decide, er]
      · show okI X 113 224 [vI 13] t M G
        have er : M (17, 0, 0) 3 = M (23, 0, 0) 3 := i.2.2.2.1 3 (by decide) (by decide)
        have gi : inz 13 11 16 = 1 := rfl
        refine ⟨M (17, 0, 0) 3, M, G, M, G, ?_, ?_, i⟩
        · simp only [E113, e113_0, e113_1, e113_3, e113_6, e113_7, e113_9, e113_12, e113_13, e113_16, e113_17, e113_19, e113_20, e113_21, e113_22, e113_23, e113_60, e113_61, e113_64, e113_67, e113_68, e113_69, e113_72, e113_75, e113_76, e113_77, e113_80, e113_83, e113_84, e113_85, e113_88, e113_91, e113_92, e113_93, e113_96, e113_99, e113_100, e113_101, e113_104, e113_107, e113_108, e113_110, zt0, zt1, zn3, not_false_eq_true, toListS, toListN, zk_some, zpi, if_true, if_false, i10, show ((13 : Int32) < 11) = False by decide, show ((16 : Int32) < 13) = False by decide, show ((13 : Int32) - 10) = 3 by decide, show zin 3 7 = true by decide, show (3 : Int32).toNatClampNeg = 3 by decide]
        · simp only [E224, e224_0, e224_1, e224_40, e224_41, e224_44, e224_45, e224_46, e224_47, e224_48, e224_51, e224_52, e224_53, e224_54, e224_55, e224_58, e224_59, e224_60, e224_61, e224_62, e224_65, e224_66, e224_67, e224_68, e224_69, e224_72, e224_73, e224_74, e224_77, e224_78, e224_79, e224_80, e224_83, e224_86, e224_89, e224_92, e224_93, e224_96, e224_97, e224_99, e224_100, e224_101, e224_104, e224_106, zt0, zt1, zn3, not_false_eq_true, toListS, toListN, zk_some, zpi, if_true, if_false, i10, show ((13 : Int32) = 0) = False by decide, show ((13 : Int32) = 1) = False by decide, show ((13 : Int32) = 2) = False by decide, show ((13 : Int32) = 3) = False by decide, show ((13 : Int32) = 4) = False by decide, show ((13 : Int32) = 5) = False by decide, C128, j_11, j_16, gi, show ((13 : Int32) - 10) = 3 by decide, show zin 3 7 = true by decide, show (3 : Int32).toNatClampNeg = 3 by decide, er]
      · show okI X 113 224 [vI 14] t M G
        have er : M (17, 0, 0) 4 = M (23, 0, 0) 4 := i.2.2.2.1 4 (by decide) (by decide)
        have gi : inz 14 11 16 = 1 := rfl
        refine ⟨M (17, 0, 0) 4, M, G, M, G, ?_, ?_, i⟩
        · simp only [E113, e113_0, e113_1, e113_3, e113_6, e113_7, e113_9, e113_12, e113_13, e113_16, e113_17, e113_19, e113_20, e113_21, e113_22, e113_23, e113_60, e113_61, e113_64, e113_67, e113_68, e113_69, e113_72, e113_75, e113_76, e113_77, e113_80, e113_83, e113_84, e113_85, e113_88, e113_91, e113_92, e113_93, e113_96, e113_99, e113_100, e113_101, e113_104, e113_107, e113_108, e113_110, zt0, zt1, zn3, not_false_eq_true, toListS, toListN, zk_some, zpi, if_true, if_false, i10, show ((14 : Int32) < 11) = False by decide, show ((16 : Int32) < 14) = False by decide, show ((14 : Int32) - 10) = 4 by decide, show zin 4 7 = true by decide, show (4 : Int32).toNatClampNeg = 4 by decide]
        · simp only [E224, e224_0, e224_1, e224_40, e224_41, e224_44, e224_45, e224_46, e224_47, e224_48, e224_51, e224_52, e224_53, e224_54, e224_55, e224_58, e224_59, e224_60, e224_61, e224_62, e224_65, e224_66, e224_67, e224_68, e224_69, e224_72, e224_73, e224_74, e224_77, e224_78, e224_79, e224_80, e224_83, e224_86, e224_89, e224_92, e224_93, e224_96, e224_97, e224_99, e224_100, e224_101, e224_104, e224_106, zt0, zt1, zn3, not_false_eq_true, toListS, toListN, zk_some, zpi, if_true, if_false, i10, show ((14 : Int32) = 0) = False by decide, show ((14 : Int32) = 1) = False by decide, show ((14 : Int32) = 2) = False by decide, show ((14 : Int32) = 3) = False by decide, show ((14 : Int32) = 4) = False by decide, show ((14 : Int32) = 5) = False by decide, C128, j_11, j_16, gi, show ((14 : Int32) - 10) = 4 by decide, show zin 4 7 = true by decide, show (4 : Int32).toNatClampNeg = 4 by decide, er]
      · show okI X 113 224 [vI 15] t M G
        have er : M (17, 0, 0) 5 = M (23, 0, 0) 5 := i.2.2.2.1 5 (by decide) (by decide)
        have gi : inz 15 11 16 = 1 := rfl
        refine ⟨M (17, 0, 0) 5, M, G, M, G, ?_, ?_, i⟩
        · simp only [E113, e113_0, e113_1, e113_3, e113_6, e113_7, e113_9, e113_12, e113_13, e113_16, e113_17, e113_19, e113_20, e113_21, e113_22, e113_23, e113_60, e113_61, e113_64, e113_67, e113_68, e113_69, e113_72, e113_75, e113_76, e113_77, e113_80, e113_83, e113_84, e113_85, e113_88, e113_91, e113_92, e113_93, e113_96, e113_99, e113_100, e113_101, e113_104, e113_107, e113_108, e113_110, zt0, zt1, zn3, not_false_eq_true, toListS, toListN, zk_some, zpi, if_true, if_false, i10, show ((15 : Int32) < 11) = False by decide, show ((16 : Int32) < 15) = False by decide, show ((15 : Int32) - 10) = 5 by decide, show zin 5 7 = true by decide, show (5 : Int32).toNatClampNeg = 5 by decide]
        · simp only [E224, e224_0, e224_1, e224_40, e224_41, e224_44, e224_45, e224_46, e224_47, e224_48, e224_51, e224_52, e224_53, e224_54, e224_55, e224_58, e224_59, e224_60, e224_61, e224_62, e224_65, e224_66, e224_67, e224_68, e224_69, e224_72, e224_73, e224_74, e224_77, e224_78, e224_79, e224_80, e224_83, e224_86, e224_89, e224_92, e224_93, e224_96, e224_97, e224_99, e224_100, e224_101, e224_104, e224_106, zt0, zt1, zn3, not_false_eq_true, toListS, toListN, zk_some, zpi, if_true, if_false, i10, show ((15 : Int32) = 0) = False by decide, show ((15 : Int32) = 1) = False by decide, show ((15 : Int32) = 2) = False by decide, show ((15 : Int32) = 3) = False by decide, show ((15 : Int32) = 4) = False by decide, show ((15 : Int32) = 5) = False by decide, C128, j_11, j_16, gi, show ((15 : Int32) - 10) = 5 by decide, show zin 5 7 = true by decide, show (5 : Int32).toNatClampNeg = 5 by decide, er]
      · show okI X 113 224 [vI 16] t M G
        have er : M (17, 0, 0) 6 = M (23, 0, 0) 6 := i.2.2.2.1 6 (by decide) (by decide)
        have gi : inz 16 11 16 = 1 := rfl
        refine ⟨M (17, 0, 0) 6, M, G, M, G, ?_, ?_, i⟩
        · simp only [E113, e113_0, e113_1, e113_3, e113_6, e113_7, e113_9, e113_12, e113_13, e113_16, e113_17, e113_19, e113_20, e113_21, e113_22, e113_23, e113_60, e113_61, e113_64, e113_67, e113_68, e113_69, e113_72, e113_75, e113_76, e113_77, e113_80, e113_83, e113_84, e113_85, e113_88, e113_91, e113_92, e113_93, e113_96, e113_99, e113_100, e113_101, e113_104, e113_107, e113_108, e113_110, zt0, zt1, zn3, not_false_eq_true, toListS, toListN, zk_some, zpi, if_true, if_false, i10, show ((16 : Int32) < 11) = False by decide, show ((16 : Int32) < 16) = False by decide, show ((16 : Int32) - 10) = 6 by decide, show zin 6 7 = true by decide, show (6 : Int32).toNatClampNeg = 6 by decide]
        · simp only [E224, e224_0, e224_1, e224_40, e224_41, e224_44, e224_45, e224_46, e224_47, e224_48, e224_51, e224_52, e224_53, e224_54, e224_55, e224_58, e224_59, e224_60, e224_61, e224_62, e224_65, e224_66, e224_67, e224_68, e224_69, e224_72, e224_73, e224_74, e224_77, e224_78, e224_79, e224_80, e224_83, e224_86, e224_89, e224_92, e224_93, e224_96, e224_97, e224_99, e224_100, e224_101, e224_104, e224_106, zt0, zt1, zn3, not_false_eq_true, toListS, toListN, zk_some, zpi, if_true, if_false, i10, show ((16 : Int32) = 0) = False by decide, show ((16 : Int32) = 1) = False by decide, show ((16 : Int32) = 2) = False by decide, show ((16 : Int32) = 3) = False by decide, show ((16 : Int32) = 4) = False by decide, show ((16 : Int32) = 5) = False by decide, C128, j_11, j_16, gi, show ((16 : Int32) - 10) = 6 by decide, show zin 6 7 = true by decide, show (6 : Int32).toNatClampNeg = 6 by decide, er]
    · have gi : inz w 11 16 = 0 := inz_n c
      refine ⟨-9, M, G, M, G, ?_, ?_, i⟩
      · by_cases c1 : w < 11
        · simp only [E113, e113_0, e113_1, e113_3, e113_6, e113_7, e113_9, e113_12, e113_13, e113_16, e113_17, e113_19, e113_20, e113_21, e113_22, e113_23, e113_60, e113_61, e113_64, e113_67, e113_68, e113_69, e113_72, e113_75, e113_76, e113_77, e113_80, e113_83, e113_84, e113_85, e113_88, e113_91, e113_92, e113_93, e113_96, e113_99, e113_100, e113_101, e113_104, e113_107, e113_108, e113_110, zt0, zt1, zn3, not_false_eq_true, toListS, toListN, zk_some, zpi, if_true, if_false, i10, c1, z5]
        · have c2 : 16 < w := by rw [i_lt, show (16 : Int32).toInt = 16 from rfl]; rw [i_lt, show (11 : Int32).toInt = 11 from rfl] at c1; omega
          simp only [E113, e113_0, e113_1, e113_3, e113_6, e113_7, e113_9, e113_12, e113_13, e113_16, e113_17, e113_19, e113_20, e113_21, e113_22, e113_23, e113_60, e113_61, e113_64, e113_67, e113_68, e113_69, e113_72, e113_75, e113_76, e113_77, e113_80, e113_83, e113_84, e113_85, e113_88, e113_91, e113_92, e113_93, e113_96, e113_99, e113_100, e113_101, e113_104, e113_107, e113_108, e113_110, zt0, zt1, zn3, not_false_eq_true, toListS, toListN, zk_some, zpi, if_true, if_false, i10, c1, c2, z5]
      · simp only [E224, e224_0, e224_1, e224_40, e224_41, e224_44, e224_45, e224_46, e224_47, e224_48, e224_51, e224_52, e224_53, e224_54, e224_55, e224_58, e224_59, e224_60, e224_61, e224_62, e224_65, e224_66, e224_67, e224_68, e224_69, e224_72, e224_73, e224_74, e224_77, e224_78, e224_79, e224_80, e224_83, e224_86, e224_89, e224_92, e224_93, e224_96, e224_97, e224_99, e224_100, e224_101, e224_104, e224_106, zt0, zt1, zn3, not_false_eq_true, toListS, toListN, zk_some, zpi, if_true, if_false, i10, z5, C128, j_11, j_16, gi]
  · rcases (show l = 0 ∨ l = 1 ∨ l = 2 ∨ l = 3 ∨ l = 4 ∨ l = 5 by omega) with rfl | rfl | rfl | rfl | rfl | rfl
    · show okI X 113 224 [vI 0] t M G
      have er : M (20, 0, 0) 0 = M (0, 0, 0) 2 := m0.trans e2.symm
      refine ⟨M (0, 0, 0) 2, M, G, M, G, ?_, ?_, i⟩
      · simp only [E113, e113_0, e113_1, e113_3, e113_6, e113_7, e113_9, e113_12, e113_13, e113_16, e113_17, e113_19, e113_20, e113_21, e113_22, e113_23, e113_60, e113_61, e113_64, e113_67, e113_68, e113_69, e113_72, e113_75, e113_76, e113_77, e113_80, e113_83, e113_84, e113_85, e113_88, e113_91, e113_92, e113_93, e113_96, e113_99, e113_100, e113_101, e113_104, e113_107, e113_108, e113_110, zt0, zt1, zn3, not_false_eq_true, toListS, toListN, zk_some, zpi, if_true, if_false, i10, show ((0 : Int32) < 11) = True by decide, q_lt_0_0, q_le_0_0, q_lt_0_1, q_le_0_1, q_eq_0_1, q_lt_0_2, q_le_0_2, q_eq_0_2, q_lt_0_3, q_le_0_3, q_eq_0_3, q_lt_0_4, q_le_0_4, q_eq_0_4, q_lt_0_5, q_le_0_5, q_eq_0_5]
      · simp only [E224, e224_0, e224_1, e224_40, e224_41, e224_44, e224_45, e224_46, e224_47, e224_48, e224_51, e224_52, e224_53, e224_54, e224_55, e224_58, e224_59, e224_60, e224_61, e224_62, e224_65, e224_66, e224_67, e224_68, e224_69, e224_72, e224_73, e224_74, e224_77, e224_78, e224_79, e224_80, e224_83, e224_86, e224_89, e224_92, e224_93, e224_96, e224_97, e224_99, e224_100, e224_101, e224_104, e224_106, zt0, zt1, zn3, not_false_eq_true, toListS, toListN, zk_some, zpi, if_true, if_false, i10, q_lt_0_0, q_le_0_0, q_lt_0_1, q_le_0_1, q_eq_0_1, q_lt_0_2, q_le_0_2, q_eq_0_2, q_lt_0_3, q_le_0_3, q_eq_0_3, q_lt_0_4, q_le_0_4, q_eq_0_4, q_lt_0_5, q_le_0_5, q_eq_0_5, er, w0, w1, w2, w3, t0, t1, t2, t3]
    · show okI X 113 224 [vI 1] t M G
      have er : M (20, 0, 0) 1 = M (0, 0, 0) 3 := m1.trans e3.symm
      refine ⟨M (0, 0, 0) 3, M, G, M, G, ?_, ?_, i⟩
      · simp only [E113, e113_0, e113_1, e113_3, e113_6, e113_7, e113_9, e113_12, e113_13, e113_16, e113_17, e113_19, e113_20, e113_21, e113_22, e113_23, e113_60, e113_61, e113_64, e113_67, e113_68, e113_69, e113_72, e113_75, e113_76, e113_77, e113_80, e113_83, e113_84, e113_85, e113_88, e113_91, e113_92, e113_93, e113_96, e113_99, e113_100, e113_101, e113_104, e113_107, e113_108, e113_110, zt0, zt1, zn3, not_false_eq_true, toListS, toListN, zk_some, zpi, if_true, if_false, i10, show ((1 : Int32) < 11) = True by decide, q_lt_1_0, q_le_1_0, q_eq_1_0, q_lt_1_1, q_le_1_1, q_lt_1_2, q_le_1_2, q_eq_1_2, q_lt_1_3, q_le_1_3, q_eq_1_3, q_lt_1_4, q_le_1_4, q_eq_1_4, q_lt_1_5, q_le_1_5, q_eq_1_5]
      · simp only [E224, e224_0, e224_1, e224_40, e224_41, e224_44, e224_45, e224_46, e224_47, e224_48, e224_51, e224_52, e224_53, e224_54, e224_55, e224_58, e224_59, e224_60, e224_61, e224_62, e224_65, e224_66, e224_67, e224_68, e224_69, e224_72, e224_73, e224_74, e224_77, e224_78, e224_79, e224_80, e224_83, e224_86, e224_89, e224_92, e224_93, e224_96, e224_97, e224_99, e224_100, e224_101, e224_104, e224_106, zt0, zt1, zn3, not_false_eq_true, toListS, toListN, zk_some, zpi, if_true, if_false, i10, q_lt_1_0, q_le_1_0, q_eq_1_0, q_lt_1_1, q_le_1_1, q_lt_1_2, q_le_1_2, q_eq_1_2, q_lt_1_3, q_le_1_3, q_eq_1_3, q_lt_1_4, q_le_1_4, q_eq_1_4, q_lt_1_5, q_le_1_5, q_eq_1_5, er, w0, w1, w2, w3, t0, t1, t2, t3]
    · show okI X 113 224 [vI 2] t M G
      have er : M (20, 0, 0) 2 = M (0, 0, 0) 5 := (a.1 5 (by decide)).symm
      refine ⟨M (0, 0, 0) 5, M, G, M, G, ?_, ?_, i⟩
      · simp only [E113, e113_0, e113_1, e113_3, e113_6, e113_7, e113_9, e113_12, e113_13, e113_16, e113_17, e113_19, e113_20, e113_21, e113_22, e113_23, e113_60, e113_61, e113_64, e113_67, e113_68, e113_69, e113_72, e113_75, e113_76, e113_77, e113_80, e113_83, e113_84, e113_85, e113_88, e113_91, e113_92, e113_93, e113_96, e113_99, e113_100, e113_101, e113_104, e113_107, e113_108, e113_110, zt0, zt1, zn3, not_false_eq_true, toListS, toListN, zk_some, zpi, if_true, if_false, i10, show ((2 : Int32) < 11) = True by decide, q_lt_2_0, q_le_2_0, q_eq_2_0, q_lt_2_1, q_le_2_1, q_eq_2_1, q_lt_2_2, q_le_2_2, q_lt_2_3, q_le_2_3, q_eq_2_3, q_lt_2_4, q_le_2_4, q_eq_2_4, q_lt_2_5, q_le_2_5, q_eq_2_5]
      · simp only [E224, e224_0, e224_1, e224_40, e224_41, e224_44, e224_45, e224_46, e224_47, e224_48, e224_51, e224_52, e224_53, e224_54, e224_55, e224_58, e224_59, e224_60, e224_61, e224_62, e224_65, e224_66, e224_67, e224_68, e224_69, e224_72, e224_73, e224_74, e224_77, e224_78, e224_79, e224_80, e224_83, e224_86, e224_89, e224_92, e224_93, e224_96, e224_97, e224_99, e224_100, e224_101, e224_104, e224_106, zt0, zt1, zn3, not_false_eq_true, toListS, toListN, zk_some, zpi, if_true, if_false, i10, q_lt_2_0, q_le_2_0, q_eq_2_0, q_lt_2_1, q_le_2_1, q_eq_2_1, q_lt_2_2, q_le_2_2, q_lt_2_3, q_le_2_3, q_eq_2_3, q_lt_2_4, q_le_2_4, q_eq_2_4, q_lt_2_5, q_le_2_5, q_eq_2_5, er, w0, w1, w2, w3, t0, t1, t2, t3]
    · show okI X 113 224 [vI 3] t M G
      have er : M (20, 0, 0) 3 = M (0, 0, 0) 4 := (a.1 4 (by decide)).symm
      refine ⟨M (0, 0, 0) 4, M, G, M, G, ?_, ?_, i⟩
      · simp only [E113, e113_0, e113_1, e113_3, e113_6, e113_7, e113_9, e113_12, e113_13, e113_16, e113_17, e113_19, e113_20, e113_21, e113_22, e113_23, e113_60, e113_61, e113_64, e113_67, e113_68, e113_69, e113_72, e113_75, e113_76, e113_77, e113_80, e113_83, e113_84, e113_85, e113_88, e113_91, e113_92, e113_93, e113_96, e113_99, e113_100, e113_101, e113_104, e113_107, e113_108, e113_110, zt0, zt1, zn3, not_false_eq_true, toListS, toListN, zk_some, zpi, if_true, if_false, i10, show ((3 : Int32) < 11) = True by decide, q_lt_3_0, q_le_3_0, q_eq_3_0, q_lt_3_1, q_le_3_1, q_eq_3_1, q_lt_3_2, q_le_3_2, q_eq_3_2, q_lt_3_3, q_le_3_3, q_lt_3_4, q_le_3_4, q_eq_3_4, q_lt_3_5, q_le_3_5, q_eq_3_5]
      · simp only [E224, e224_0, e224_1, e224_40, e224_41, e224_44, e224_45, e224_46, e224_47, e224_48, e224_51, e224_52, e224_53, e224_54, e224_55, e224_58, e224_59, e224_60, e224_61, e224_62, e224_65, e224_66, e224_67, e224_68, e224_69, e224_72, e224_73, e224_74, e224_77, e224_78, e224_79, e224_80, e224_83, e224_86, e224_89, e224_92, e224_93, e224_96, e224_97, e224_99, e224_100, e224_101, e224_104, e224_106, zt0, zt1, zn3, not_false_eq_true, toListS, toListN, zk_some, zpi, if_true, if_false, i10, q_lt_3_0, q_le_3_0, q_eq_3_0, q_lt_3_1, q_le_3_1, q_eq_3_1, q_lt_3_2, q_le_3_2, q_eq_3_2, q_lt_3_3, q_le_3_3, q_lt_3_4, q_le_3_4, q_eq_3_4, q_lt_3_5, q_le_3_5, q_eq_3_5, er, w0, w1, w2, w3, t0, t1, t2, t3]
    · show okI X 113 224 [vI 4] t M G
      have er : M (7, 0, 0) 8 = M (1, 0, 0) 1 := by obtain ⟨n, -, q1, q2, -⟩ := i.2.2.1; rw [q1, q2]
      refine ⟨M (1, 0, 0) 1, M, G, M, G, ?_, ?_, i⟩
      · simp only [E113, e113_0, e113_1, e113_3, e113_6, e113_7, e113_9, e113_12, e113_13, e113_16, e113_17, e113_19, e113_20, e113_21, e113_22, e113_23, e113_60, e113_61, e113_64, e113_67, e113_68, e113_69, e113_72, e113_75, e113_76, e113_77, e113_80, e113_83, e113_84, e113_85, e113_88, e113_91, e113_92, e113_93, e113_96, e113_99, e113_100, e113_101, e113_104, e113_107, e113_108, e113_110, zt0, zt1, zn3, not_false_eq_true, toListS, toListN, zk_some, zpi, if_true, if_false, i10, show ((4 : Int32) < 11) = True by decide, q_lt_4_0, q_le_4_0, q_eq_4_0, q_lt_4_1, q_le_4_1, q_eq_4_1, q_lt_4_2, q_le_4_2, q_eq_4_2, q_lt_4_3, q_le_4_3, q_eq_4_3, q_lt_4_4, q_le_4_4, q_lt_4_5, q_le_4_5, q_eq_4_5]
      · simp only [E224, e224_0, e224_1, e224_40, e224_41, e224_44, e224_45, e224_46, e224_47, e224_48, e224_51, e224_52, e224_53, e224_54, e224_55, e224_58, e224_59, e224_60, e224_61, e224_62, e224_65, e224_66, e224_67, e224_68, e224_69, e224_72, e224_73, e224_74, e224_77, e224_78, e224_79, e224_80, e224_83, e224_86, e224_89, e224_92, e224_93, e224_96, e224_97, e224_99, e224_100, e224_101, e224_104, e224_106, zt0, zt1, zn3, not_false_eq_true, toListS, toListN, zk_some, zpi, if_true, if_false, i10, q_lt_4_0, q_le_4_0, q_eq_4_0, q_lt_4_1, q_le_4_1, q_eq_4_1, q_lt_4_2, q_le_4_2, q_eq_4_2, q_lt_4_3, q_le_4_3, q_eq_4_3, q_lt_4_4, q_le_4_4, q_lt_4_5, q_le_4_5, q_eq_4_5, er, w0, w1, w2, w3, t0, t1, t2, t3]
    · show okI X 113 224 [vI 5] t M G
      have er : rb (bm M).2.2 np = rb (pw M 0) np := rb_c np fun p hp => (sP s hp (by decide)).symm
      have c189 := C189 X 9 M G (bm M) (M (7, 0, 0)) np vm.1.2.1 n8 (fun p hp => (vm.2.2.1 p hp).imp id And.left)
      rw [mbs M, er] at c189
      refine ⟨rb (pw M 0) np, M, G, M, G, ?_, ?_, i⟩
      · simp only [E113, e113_0, e113_1, e113_3, e113_6, e113_7, e113_9, e113_12, e113_13, e113_16, e113_17, e113_19, e113_20, e113_21, e113_22, e113_23, e113_60, e113_61, e113_64, e113_67, e113_68, e113_69, e113_72, e113_75, e113_76, e113_77, e113_80, e113_83, e113_84, e113_85, e113_88, e113_91, e113_92, e113_93, e113_96, e113_99, e113_100, e113_101, e113_104, e113_107, e113_108, e113_110, zt0, zt1, zn3, not_false_eq_true, toListS, toListN, zk_some, zpi, if_true, if_false, i10, show ((5 : Int32) < 11) = True by decide, q_lt_5_0, q_le_5_0, q_eq_5_0, q_lt_5_1, q_le_5_1, q_eq_5_1, q_lt_5_2, q_le_5_2, q_eq_5_2, q_lt_5_3, q_le_5_3, q_eq_5_3, q_lt_5_4, q_le_5_4, q_eq_5_4, q_lt_5_5, q_le_5_5, C16 X _ M G 0 np e3 n8]
      · simp only [E224, e224_0, e224_1, e224_40, e224_41, e224_44, e224_45, e224_46, e224_47, e224_48, e224_51, e224_52, e224_53, e224_54, e224_55, e224_58, e224_59, e224_60, e224_61, e224_62, e224_65, e224_66, e224_67, e224_68, e224_69, e224_72, e224_73, e224_74, e224_77, e224_78, e224_79, e224_80, e224_83, e224_86, e224_89, e224_92, e224_93, e224_96, e224_97, e224_99, e224_100, e224_101, e224_104, e224_106, zt0, zt1, zn3, not_false_eq_true, toListS, toListN, zk_some, zpi, if_true, if_false, i10, q_lt_5_0, q_le_5_0, q_eq_5_0, q_lt_5_1, q_le_5_1, q_eq_5_1, q_lt_5_2, q_le_5_2, q_eq_5_2, q_lt_5_3, q_le_5_3, q_eq_5_3, q_lt_5_4, q_le_5_4, q_eq_5_4, q_lt_5_5, q_le_5_5, er, c189]
