/-! like; judge -/
def cpO (M : zM) (k : zK) (o p n : Nat) : zM := fun k' f => if k' = k ∧ o ≤ f ∧ f < o + n then M k (p + (f - o)) else M k' f
theorem cpO_0 {M : zM} {k : zK} {o p : Nat} : cpO M k o p 0 = M := by
  funext k' f
  unfold cpO
  rw [if_neg (by omega)]
theorem cpO_r {M : zM} {k : zK} {o p n : Nat} (h : o = p ∨ o + 9 ≤ p ∨ p + 9 ≤ o) (hn : n < 9) : cpO M k o p n k (p + n) = M k (p + n) := by
  unfold cpO
  rw [if_neg (by omega)]
theorem cpO_s {M : zM} {k : zK} {o p n : Nat} : u2 (cpO M k o p n) k (o + n) (M k (p + n)) = cpO M k o p (n + 1) := by
  funext k' f
  unfold u2 cpO
  by_cases h1 : k' = k
  · by_cases h2 : f = o + n
    · rw [if_pos ⟨h1, h2⟩, if_pos ⟨h1, by omega⟩, show p + (f - o) = p + n by omega]
    · rw [if_neg (fun e => h2 e.2)]
      by_cases h3 : o ≤ f ∧ f < o + n
      · rw [if_pos ⟨h1, h3⟩, if_pos ⟨h1, by omega⟩]
      · rw [if_neg (fun e => h3 e.2), if_neg (fun e => h3 (by omega))]
  · rw [if_neg (fun e => h1 e.1), if_neg (fun e => h1 e.1), if_neg (fun e => h1 e.1)]
theorem cpO_n {M : zM} {k k' : zK} {o p n f : Nat} (h : k'.1 ≠ k.1) : cpO M k o p n k' f = M k' f := by unfold cpO; rw [if_neg fun e => h (congrArg Prod.fst e.1)]
theorem cpO_f {M : zM} {k k' : zK} {o p n f : Nat} (h : ¬ (o ≤ f ∧ f < o + n)) : cpO M k o p n k' f = M k' f := by unfold cpO; rw [if_neg fun e => h e.2]
theorem cpO_i {M : zM} {k : zK} {o p n f : Nat} (h : o ≤ f ∧ f < o + n) : cpO M k o p n k f = M k (p + (f - o)) := if_pos ⟨rfl, h⟩
theorem K37 (X : Nat × (Nat → Int32) × Value) (t : Nat) (M : zM) (G : zG) (x y : Int32) (i : Inv t M) : okI X 110 221 [vI x, vI y] t M G := by
  rcases isx_c (n := 3) x (by decide) with ⟨h, -⟩ | ⟨r, hr, rfl, h⟩
  · refine ⟨-1, rfs M 1, G, rfm (rfs M 1) 1, G, ?_, ?_, Inv_rf i⟩
    · simp only [E110, e110_0, e110_1, e110_4, e110_7, e110_8, e110_11, e110_14, e110_15, e110_16, e110_19, e110_20, e110_21, e110_24, e110_25, e110_26, e110_29, e110_32, e110_34, e110_35, e110_36, e110_39, e110_40, e110_41, e110_42, e110_45, e110_46, e110_47, e110_50, e110_51, e110_54, e110_55, e110_56, e110_59, e110_60, e110_61, e110_62, e110_63, e110_66, e110_67, e110_68, e110_71, zt0, zt1, zn3, not_false_eq_true, toListS, toListN, zk_some, zpi, if_true, if_false, i10, C120, h, C114_1, q_lt_m1_0, q_le_m1_0, q_eq_m1_0]
    · simp only [E221, e221_0, e221_1, e221_4, e221_7, e221_8, e221_11, e221_14, e221_15, e221_16, e221_19, e221_20, e221_21, e221_24, e221_25, e221_26, e221_29, e221_31, e221_32, e221_33, e221_36, e221_37, e221_38, e221_41, e221_42, e221_43, e221_44, e221_45, e221_48, e221_49, e221_50, e221_53, e221_54, e221_55, e221_56, e221_57, e221_58, e221_59, e221_61, e221_64, e221_65, e221_68, e221_70, e221_71, e221_72, e221_73, e221_74, e221_75, e221_78, e221_80, e221_81, e221_82, e221_83, e221_84, e221_85, e221_86, e221_89, e221_92, e221_93, e221_96, e221_97, e221_98, zt0, zt1, zn3, not_false_eq_true, toListS, toListN, zk_some, zpi, if_true, if_false, i10, C216, h, C129_1, q_lt_m1_0, q_le_m1_0, q_eq_m1_0]
  rcases isx_c (n := 3) y (by decide) with ⟨g, -⟩ | ⟨q, hq, rfl, g⟩
  · refine ⟨-1, rfs M 1, G, rfm (rfs M 1) 1, G, ?_, ?_, Inv_rf i⟩
    · simp only [E110, e110_0, e110_1, e110_4, e110_7, e110_8, e110_11, e110_14, e110_15, e110_16, e110_19, e110_20, e110_21, e110_24, e110_25, e110_26, e110_29, e110_32, e110_34, e110_35, e110_36, e110_39, e110_40, e110_41, e110_42, e110_45, e110_46, e110_47, e110_50, e110_51, e110_54, e110_55, e110_56, e110_59, e110_60, e110_61, e110_62, e110_63, e110_66, e110_67, e110_68, e110_71, zt0, zt1, zn3, not_false_eq_true, toListS, toListN, zk_some, zpi, if_true, if_false, i10, C120, h, g, C114_1, q_lt_m1_0, q_le_m1_0, q_eq_m1_0]
    · simp only [E221, e221_0, e221_1, e221_4, e221_7, e221_8, e221_11, e221_14, e221_15, e221_16, e221_19, e221_20, e221_21, e221_24, e221_25, e221_26, e221_29, e221_31, e221_32, e221_33, e221_36, e221_37, e221_38, e221_41, e221_42, e221_43, e221_44, e221_45, e221_48, e221_49, e221_50, e221_53, e221_54, e221_55, e221_56, e221_57, e221_58, e221_59, e221_61, e221_64, e221_65, e221_68, e221_70, e221_71, e221_72, e221_73, e221_74, e221_75, e221_78, e221_80, e221_81, e221_82, e221_83, e221_84, e221_85, e221_86, e221_89, e221_92, e221_93, e221_96, e221_97, e221_98, zt0, zt1, zn3, not_false_eq_true, toListS, toListN, zk_some, zpi, if_true, if_false, i10, C216, h, g, C129_1, q_lt_m1_0, q_le_m1_0, q_eq_m1_0]
  obtain ⟨e1, e2⟩ := i.2.2.2.2.2 q hq
  rcases e2 with e2 | ⟨n, hn, e2, e3, ⟨kq', hkq, e4⟩, e5⟩
  · have e2' : M (31, 0, 0) q = -1 := e1.symm.trans e2
    refine ⟨-11, M, G, M, G, ?_, ?_, i⟩
    · simp only [E110, e110_0, e110_1, e110_4, e110_7, e110_8, e110_11, e110_14, e110_15, e110_16, e110_19, e110_20, e110_21, e110_24, e110_25, e110_26, e110_29, e110_32, e110_34, e110_35, e110_36, e110_39, e110_40, e110_41, e110_42, e110_45, e110_46, e110_47, e110_50, e110_51, e110_54, e110_55, e110_56, e110_59, e110_60, e110_61, e110_62, e110_63, e110_66, e110_67, e110_68, e110_71, zt0, zt1, zn3, not_false_eq_true, toListS, toListN, zk_some, zpi, if_true, if_false, i10, C120, h, g, zin_nI (show q < 3 by omega) (show 3 < 2 ^ 31 by decide), nI_clamp (show q < 2 ^ 31 by omega), D61, e2, show ((0 : Int32) ≤ -1) = False by decide]
    · simp only [E221, e221_0, e221_1, e221_4, e221_7, e221_8, e221_11, e221_14, e221_15, e221_16, e221_19, e221_20, e221_21, e221_24, e221_25, e221_26, e221_29, e221_31, e221_32, e221_33, e221_36, e221_37, e221_38, e221_41, e221_42, e221_43, e221_44, e221_45, e221_48, e221_49, e221_50, e221_53, e221_54, e221_55, e221_56, e221_57, e221_58, e221_59, e221_61, e221_64, e221_65, e221_68, e221_70, e221_71, e221_72, e221_73, e221_74, e221_75, e221_78, e221_80, e221_81, e221_82, e221_83, e221_84, e221_85, e221_86, e221_89, e221_92, e221_93, e221_96, e221_97, e221_98, zt0, zt1, zn3, not_false_eq_true, toListS, toListN, zk_some, zpi, if_true, if_false, i10, C216, h, g, zin_nI (show q < 3 by omega) (show 3 < 2 ^ 31 by decide), nI_clamp (show q < 2 ^ 31 by omega), e2', show ((0 : Int32) ≤ -1) = False by decide]
  have e2' : M (31, 0, 0) q = nI n := e1.symm.trans e2
  have p0 : 0 ≤ nI n := by rw [i_le, nI_int (by omega)]; show (0 : Int) ≤ n; omega
  have hlr : n ≤ hln (15, 4 + r, 0) := by rw [hl9]; exact hn
  have hlq : n ≤ hln (15, 4 + q, 0) := by rw [hl9]; exact hn
  have c64 := C64 X 11 M G (4 + r) (4 + q) n e2 hlr hlq
  have lp := zlf (n := 9) (f := fun z => zx X 12 221 58 [vR (7, 0, 0), vI (nI r), vI (nI q), vI (nI z)] [] (hh (cpO (u2 (u2 (u2 (cpK (u2 M (4, 4 + r, 0) 1 (nI n)) (15, 4 + q, 0) (15, 4 + r, 0) n) (16, 0, 0) r (M (16, 0, 0) q)) (30, 0, 0) r (M (30, 0, 0) q)) (31, 0, 0) r (nI n)) (32, 0, 0) (9 * r) (9 * q) z) G)) (fun z hz' w ew => by
    have hz : zin (nI (9 * r + z)) 27 = true := zin_nI (by omega) (by decide)
    have hc : (nI (9 * r + z)).toNatClampNeg = 9 * r + z := nI_clamp (by omega)
    have hzq : zin (nI (9 * q + z)) 27 = true := zin_nI (by omega) (by decide)
    have hcq : (nI (9 * q + z)).toNatClampNeg = 9 * q + z := nI_clamp (by omega)
    have e : ¬ (9 : Int32) ≤ nI z := by rw [show (9 : Int32) = nI 9 from rfl, nle (by decide) (by omega)]; omega
    simp only [e221_58, e221_59, e221_61]
    rw [if_neg e]
    simp only [e221_64, e221_65, e221_68, e221_70, e221_71, e221_72, e221_73, e221_74, e221_75, e221_78, e221_80, e221_81, e221_82, e221_83, e221_84, e221_85, e221_86, e221_89, n9, hz, hc, hzq, hcq, cpO_r (show 9 * r = 9 * q ∨ 9 * r + 9 ≤ 9 * q ∨ 9 * q + 9 ≤ 9 * r by omega) hz', cpO_s, nI_1]
    exact ew) 9 0 (by omega)
  rw [nI_0, cpO_0] at lp
  refine ⟨nI n, u2 (cpK (u2 M (4, 4 + r, 0) 1 (nI n)) (15, 4 + q, 0) (15, 4 + r, 0) n) (16, 0, 0) r (M (16, 0, 0) q), G, cpO (u2 (u2 (u2 (cpK (u2 M (4, 4 + r, 0) 1 (nI n)) (15, 4 + q, 0) (15, 4 + r, 0) n) (16, 0, 0) r (M (16, 0, 0) q)) (30, 0, 0) r (M (30, 0, 0) q)) (31, 0, 0) r (nI n)) (32, 0, 0) (9 * r) (9 * q) 9, G, ?_, ?_, i.1, i.2.1, i.2.2.1, i.2.2.2.1, fun l hl => ?_, fun r' hr' => ?_⟩
  · simp only [E110, e110_0, e110_1, e110_4, e110_7, e110_8, e110_11, e110_14, e110_15, e110_16, e110_19, e110_20, e110_21, e110_24, e110_25, e110_26, e110_29, e110_32, e110_34, e110_35, e110_36, e110_39, e110_40, e110_41, e110_42, e110_45, e110_46, e110_47, e110_50, e110_51, e110_54, e110_55, e110_56, e110_59, e110_60, e110_61, e110_62, e110_63, e110_66, e110_67, e110_68, e110_71, zt0, zt1, zn3, not_false_eq_true, toListS, toListN, zk_some, zpi, if_true, if_false, i10, C120, h, g, zin_nI (show q < 3 by omega) (show 3 < 2 ^ 31 by decide), nI_clamp (show q < 2 ^ 31 by omega), zin_nI (show r < 3 by omega) (show 3 < 2 ^ 31 by decide), nI_clamp (show r < 2 ^ 31 by omega), D61, e2, p0, c64, flR_n, u2_n, cpK_n, cpO_n, ne_eq, Nat.reduceEqDiff, not_false_eq_true, u2_same]
  · have w1 : cpK (u2 M (4, 4 + r, 0) 1 (nI n)) (15, 4 + q, 0) (15, 4 + r, 0) n (31, 0, 0) q = nI n := e2'
    have w2 : u2 (cpK (u2 M (4, 4 + r, 0) 1 (nI n)) (15, 4 + q, 0) (15, 4 + r, 0) n) (16, 0, 0) r (M (16, 0, 0) q) (31, 0, 0) q = nI n := e2'
    have w3 : u2 (cpK (u2 M (4, 4 + r, 0) 1 (nI n)) (15, 4 + q, 0) (15, 4 + r, 0) n) (16, 0, 0) r (M (16, 0, 0) q) (30, 0, 0) q = M (30, 0, 0) q := rfl
    have w4 : u2 (u2 (cpK (u2 M (4, 4 + r, 0) 1 (nI n)) (15, 4 + q, 0) (15, 4 + r, 0) n) (16, 0, 0) r (M (16, 0, 0) q)) (30, 0, 0) r (M (30, 0, 0) q) (31, 0, 0) q = nI n := e2'
    simp only [e221_0, e221_1, e221_4, e221_7, e221_8, e221_11, e221_14, e221_15, e221_16, e221_19, e221_20, e221_21, e221_24, e221_25, e221_26, e221_29, e221_31, e221_32, e221_33, e221_36, e221_37, e221_38, e221_41, e221_42, e221_43, e221_44, e221_45, e221_48, e221_49, e221_50, e221_53, e221_54, e221_55, e221_56, e221_57, E221, zt0, zt1, zn3, not_false_eq_true, toListS, toListN, zk_some, zpi, if_true, if_false, i10, C216, h, g, zin_nI (show q < 3 by omega) (show 3 < 2 ^ 31 by decide), nI_clamp (show q < 2 ^ 31 by omega), zin_nI (show r < 3 by omega) (show 3 < 2 ^ 31 by decide), nI_clamp (show r < 2 ^ 31 by omega), w2, w3, w4, p0]
    refine Eq.trans lp ?_
    simp only [e221_58, e221_59, e221_61]
    rw [if_pos (by decide)]
    simp only [e221_92, e221_93, e221_96, e221_97, e221_98, zin_nI (show r < 3 by omega) (show 3 < 2 ^ 31 by decide), nI_clamp (show r < 2 ^ 31 by omega), flR_n, u2_n, cpK_n, cpO_n, ne_eq, Nat.reduceEqDiff, not_false_eq_true, u2_same]
  · refine cI_o (i.2.2.2.2.1 l hl) ?_ rfl (fun z hz => ?_) (fun z hz => rfl)
    · simp only [flR_n, u2_n, cpK_n, cpO_n, ne_eq, Nat.reduceEqDiff, not_false_eq_true, u2_same, u2_k (k4 hl r).symm]
    · simp only [flR_n, u2_n, cpK_n, cpO_n, ne_eq, Nat.reduceEqDiff, not_false_eq_true, u2_same, cpK_o (k15 hl r).symm]
  · show cJ _ r'
    by_cases e : r' = r
    · subst e
      have q1 : ∀ z, z < n → cpO (u2 (u2 (u2 (cpK (u2 M (4, 4 + r', 0) 1 (nI n)) (15, 4 + q, 0) (15, 4 + r', 0) n) (16, 0, 0) r' (M (16, 0, 0) q)) (30, 0, 0) r' (M (30, 0, 0) q)) (31, 0, 0) r' (nI n)) (32, 0, 0) (9 * r') (9 * q) 9 (15, 4 + r', 0) z = M (15, 4 + q, 0) z := fun z hz => by
        simp only [flR_n, u2_n, cpK_n, cpO_n, ne_eq, Nat.reduceEqDiff, not_false_eq_true, u2_same]
        rw [cpK_i hz]
        simp only [flR_n, u2_n, cpK_n, cpO_n, ne_eq, Nat.reduceEqDiff, not_false_eq_true, u2_same]
      have q2 : ∀ z, z < n → cpO (u2 (u2 (u2 (cpK (u2 M (4, 4 + r', 0) 1 (nI n)) (15, 4 + q, 0) (15, 4 + r', 0) n) (16, 0, 0) r' (M (16, 0, 0) q)) (30, 0, 0) r' (M (30, 0, 0) q)) (31, 0, 0) r' (nI n)) (32, 0, 0) (9 * r') (9 * q) 9 (32, 0, 0) (9 * r' + z) = M (32, 0, 0) (9 * q + z) := fun z hz => by
        rw [cpO_i (by omega), show 9 * q + (9 * r' + z - 9 * r') = 9 * q + z by omega]
        simp only [flR_n, u2_n, cpK_n, cpO_n, ne_eq, Nat.reduceEqDiff, not_false_eq_true, u2_same]
      refine ⟨?_, Or.inr ⟨n, hn, ?_, ?_, ⟨kq', hkq, ?_⟩, fun z hz => ?_⟩⟩
      · simp only [flR_n, u2_n, cpK_n, cpO_n, ne_eq, Nat.reduceEqDiff, not_false_eq_true, u2_same]
      · simp only [flR_n, u2_n, cpK_n, cpO_n, ne_eq, Nat.reduceEqDiff, not_false_eq_true, u2_same]
      · simp only [flR_n, u2_n, cpK_n, cpO_n, ne_eq, Nat.reduceEqDiff, not_false_eq_true, u2_same]
        exact e3
      · simp only [flR_n, u2_n, cpK_n, cpO_n, ne_eq, Nat.reduceEqDiff, not_false_eq_true, u2_same]
        exact e4
      · rw [q1 z hz, q2 z hz]
        exact e5 z hz
    · refine cJ_o (i.2.2.2.2.2 r' hr') ?_ ?_ (fun z hz => ?_) (fun z hz => ?_) ?_ ?_
      · simp only [flR_n, u2_n, cpK_n, cpO_n, ne_eq, Nat.reduceEqDiff, not_false_eq_true, u2_same, u2_k (jq e)]
      · simp only [flR_n, u2_n, cpK_n, cpO_n, ne_eq, Nat.reduceEqDiff, not_false_eq_true, u2_same, u2_f e]
      · simp only [flR_n, u2_n, cpK_n, cpO_n, ne_eq, Nat.reduceEqDiff, not_false_eq_true, u2_same, cpK_o (jq e)]
      · rw [cpO_f (by omega)]
        simp only [flR_n, u2_n, cpK_n, cpO_n, ne_eq, Nat.reduceEqDiff, not_false_eq_true, u2_same]
      · simp only [flR_n, u2_n, cpK_n, cpO_n, ne_eq, Nat.reduceEqDiff, not_false_eq_true, u2_same, u2_f e]
      · simp only [flR_n, u2_n, cpK_n, cpO_n, ne_eq, Nat.reduceEqDiff, not_false_eq_true, u2_same, u2_f e]
def Qj (nv np : Nat) (T : Nat → Int32) (B : zB) (s : Nat) : Bool := decide (¬ T s = -2147483648 ∧ ¬ T s = (bst nv np B s).2.1 0 3)
def jr (n m : Nat) : Int32 := if m = n then -9 else nI m
theorem C47 (X : Nat × (Nat → Int32) × Value) (d : Nat) {M : zM} (G : zG) {nv np : Nat} (s : ST M nv np) (l n : Nat) (hl : l < 4) (hn : n ≤ 20) (e2 : M (4, l, 0) 1 = nI n) (hv : 0 < nv) : ∃ B', zd X (d + 4) 47 [vR (2, 0, 0), vR (0, 0, 0), vR (4, l, 0)] (hh M G) = some (some (vI (jr n (fi (Qj nv np (M (15, l, 0)) (bc M nv np)) 0 n))), hh (cb M 3 B') G) := by
  have vc := s.2.2.2.2.2.2.2.2.2.2.1
  have n5 := s.1
  have hlq : n ≤ hln (15, l, 0) := by rw [hln_r, if_pos hl]; exact hn
  have iv : isx nv 0 = 1 := isx_y (j := 0) hv (by omega)
  have es : ∀ B, cb M 3 B (4, l, 0) 1 = nI n := fun B => e2
  have ep : ∀ (B : zB) (k : Nat), cb M 3 B (15, l, 0) k = M (15, l, 0) k := fun B k => rfl
  have g2 : ∀ k, cb M 3 (bst nv np (bc M nv np) k) (0, 3, 0) 2 = nI nv := fun k => (bst_v vc k).1.1
  have hb := fi_b (Q := Qj nv np (M (15, l, 0)) (bc M nv np)) n 0
  have lp := zsf (n := n) (f := fun k => zx X (d + 4) 47 10 [vR (2, 0, 0), vR (0, 0, 0), vR (4, l, 0), vI (nI k)] [] (hh (cb M 3 (bst nv np (bc M nv np) k)) G)) (Q := Qj nv np (M (15, l, 0)) (bc M nv np)) (fun k hk hQ w ew => by
    have hQ' := of_decide_eq_false hQ
    have c62 := C62 X (d + 3) (cb M 3 (bst nv np (bc M nv np) k)) G l n (nI k) (es _) hlq
    rw [isx_y hk (by omega)] at c62
    have c2 := C2b X (d + 3) (cb M 3 (bst nv np (bc M nv np) k)) G 3 nv (g2 k) n5 0
    rw [iv] at c2
    have hz : zin (nI k) (hln (15, l, 0)) = true := zin_nI (by omega) (by rw [hln_r]; split <;> decide)
    have hc : (nI k).toNatClampNeg = k := nI_clamp (by omega)
    have st := W11 X d M G vc k
    simp only [e47_10, e47_11, e47_12, e47_15, e47_18, e47_19, e47_22, e47_23, e47_26, e47_29, e47_30, e47_33, e47_34, e47_35, e47_37, zt0, zt1, zn3, not_false_eq_true, toListS, toListN, zk_some, zpi, if_true, if_false, i10, c62, c2, hz, hc, ep]
    by_cases q1 : M (15, l, 0) k = -2147483648
    · rw [if_pos q1]
      simp only [e47_63, e47_64, e47_67, e47_70, e47_73, zt0, zt1, zn3, not_false_eq_true, toListS, toListN, zk_some, zpi, st, nI_1]
      exact ew
    · rw [if_neg q1]
      have q2 : M (15, l, 0) k = (bst nv np (bc M nv np) k).2.1 0 3 := by
        by_cases q : M (15, l, 0) k = (bst nv np (bc M nv np) k).2.1 0 3
        · exact q
        · exact absurd ⟨q1, q⟩ hQ'
      simp only [e47_40, e47_41, e47_44, e47_45, e47_46, e47_47, e47_50, e47_53, e47_54, e47_55, e47_58, zt0, zt1, zn3, not_false_eq_true, toListS, toListN, zk_some, zpi, if_true, if_false, i10, hz, hc, ep, show zin 0 5 = true by decide, t0, cb_V]
      rw [if_pos q2]
      simp only [e47_63, e47_64, e47_67, e47_70, e47_73, zt0, zt1, zn3, not_false_eq_true, toListS, toListN, zk_some, zpi, st, nI_1]
      exact ew) n 0 (by omega)
  rw [nI_0] at lp
  generalize hm : fi (Qj nv np (M (15, l, 0)) (bc M nv np)) 0 n = m at lp hb ⊢
  refine ⟨bst nv np (bc M nv np) m, ?_⟩
  simp only [E47, e47_0, e47_1, e47_4, e47_5, e47_8, e47_9, zt0, zt1, zn3, not_false_eq_true, toListS, toListN, zk_some, zpi, T1 X _ G s]
  refine Eq.trans lp ?_
  unfold jr
  by_cases e : m = n
  · subst e
    have c62 := C62 X (d + 3) (cb M 3 (bst nv np (bc M nv np) m)) G l m (nI m) (es _) hlq
    rw [show isx m (nI m) = 0 from inz_n (by rw [nI_int (by omega)]; omega)] at c62
    simp only [e47_10, e47_11, e47_12, e47_15, zt0, zt1, zn3, not_false_eq_true, toListS, toListN, zk_some, zpi, if_true, if_false, i10, c62, e47_76, e47_78, if_pos]
  · have hk : m < n := by omega
    have hQ' := of_decide_eq_true (hm ▸ fi_t (Q := Qj nv np (M (15, l, 0)) (bc M nv np)) n 0 (by rw [hm]; omega))
    have c62 := C62 X (d + 3) (cb M 3 (bst nv np (bc M nv np) m)) G l n (nI m) (es _) hlq
    rw [isx_y hk (by omega)] at c62
    have c2 := C2b X (d + 3) (cb M 3 (bst nv np (bc M nv np) m)) G 3 nv (g2 m) n5 0
    rw [iv] at c2
    have hz : zin (nI m) (hln (15, l, 0)) = true := zin_nI (by omega) (by rw [hln_r]; split <;> decide)
    have hc : (nI m).toNatClampNeg = m := nI_clamp (by omega)
    rw [if_neg e]
    simp only [e47_10, e47_11, e47_12, e47_15, e47_18, e47_19, e47_22, e47_23, e47_26, e47_29, e47_30, e47_33, e47_34, e47_35, e47_37, zt0, zt1, zn3, not_false_eq_true, toListS, toListN, zk_some, zpi, if_true, if_false, i10, c62, c2, hz, hc, ep]
    rw [if_neg hQ'.1]
    simp only [e47_40, e47_41, e47_44, e47_45, e47_46, e47_47, e47_50, e47_53, e47_54, e47_55, e47_58, zt0, zt1, zn3, not_false_eq_true, toListS, toListN, zk_some, zpi, if_true, if_false, i10, hz, hc, ep, show zin 0 5 = true by decide, t0, cb_V]
    rw [if_neg hQ'.2]
    simp only [e47_61, e47_62]
theorem C208 (X : Nat × (Nat → Int32) × Value) (d : Nat) (M : zM) (G : zG) {nv np : Nat} {B : zB} {R : Nat → Int32} (h : vb B nv np) (hR : R 5 = B.1 6) (l n : Nat) (hl : l < 4) (hn : n ≤ 20) (e2 : M (28, 0, 0) l = nI n) : ∃ (k : Nat) (r : Int32) (l4 : zV), zx X (d + 8) 208 43 [vR (7, 0, 0), vI (nI l), vI (-9), vI 0, vN] [] (hh (mb M B R) G) = zx X (d + 8) 208 111 [vR (7, 0, 0), vI (nI l), vI (jr n (fi (Qj nv np (fun k => M (29, 0, 0) (20 * l + k)) B) 0 n)), vI r, l4] [] (hh (mb M (bst nv np B k) (rS nv np B R k)) G) := by
  have hb := fi_b (Q := Qj nv np (fun k => M (29, 0, 0) (20 * l + k)) B) n 0
  have es : ∀ B R, mb M B R (28, 0, 0) l = nI n := fun B R => e2
  have ep : ∀ (B : zB) R (k : Nat), mb M B R (29, 0, 0) k = M (29, 0, 0) k := fun B R k => rfl
  have e7 : ∀ (B : zB) R, mb M B R (20, 0, 0) 7 = B.2.1 0 3 := fun B R => mb_V (j := 0) (f := 3) (by decide) (by decide)
  have L7 : ((4 : Int32) + 5 * 0) + 3 = 7 := by decide
  have z7 : zin 7 93 = true := by decide
  have c7 : (7 : Int32).toNatClampNeg = 7 := by decide
  have lp := zsr (σ := zV) (n := n) (f := fun k l4 => zx X (d + 8) 208 43 [vR (7, 0, 0), vI (nI l), vI (-9), vI (nI k), l4] [] (hh (mb M (bst nv np B k) (rS nv np B R k)) G)) (P := fun _ _ => True) (Q := Qj nv np (fun k => M (29, 0, 0) (20 * l + k)) B) (fun k l4 hk _ hQ => by
    have hQ' := of_decide_eq_false hQ
    have hz : zin (nI (20 * l + k)) 80 = true := zin_nI (by omega) (by decide)
    have hc : (nI (20 * l + k)).toNatClampNeg = 20 * l + k := nI_clamp (by omega)
    have st := W148 X (d + 0) M G h hR k
    refine ⟨vI (M (29, 0, 0) (20 * l + k)), trivial, fun w ew => ?_⟩
    simp only [e208_43, e208_44, e208_45, e208_48, e208_49, e208_50, zin_nI (show l < 4 by omega) (show 4 < 2 ^ 31 by decide), nI_clamp (show l < 2 ^ 31 by omega), es, nle (show n < 2 ^ 31 by omega) (show k < 2 ^ 31 by omega)]
    rw [if_neg (by omega)]
    simp only [e208_53, e208_54, e208_57, e208_58, e208_61, e208_63, e208_64, e208_65, e208_66, e208_67, e208_68, e208_70, e208_72, e208_75, zt0, zt1, zn3, not_false_eq_true, toListS, toListN, zk_some, zpi, if_true, if_false, i10, n20, hz, hc, ep, show ((0 : Int32) ≤ -9) = False by decide]
    by_cases q1 : M (29, 0, 0) (20 * l + k) = -2147483648
    · rw [if_pos q1]
      simp only [e208_98, e208_100, e208_101, e208_102, e208_105, e208_108, zt0, zt1, zn3, not_false_eq_true, toListS, toListN, zk_some, zpi, st, nI_1]
      exact ew
    · rw [if_neg q1]
      have q2 : M (29, 0, 0) (20 * l + k) = (bst nv np B k).2.1 0 3 := by
        by_cases q : M (29, 0, 0) (20 * l + k) = (bst nv np B k).2.1 0 3
        · exact q
        · exact absurd ⟨q1, q⟩ hQ'
      simp only [e208_78, e208_80, e208_81, e208_84, e208_85, e208_88, e208_89, e208_90, e208_91, zt0, zt1, zn3, not_false_eq_true, toListS, toListN, zk_some, zpi, if_true, if_false, i10, C134, L7, z7, c7, e7]
      rw [if_pos q2]
      simp only [e208_98, e208_100, e208_101, e208_102, e208_105, e208_108, zt0, zt1, zn3, not_false_eq_true, toListS, toListN, zk_some, zpi, st, nI_1]
      exact ew) n 0 vN (by omega) trivial
  obtain ⟨l4, -, lp⟩ := lp
  rw [nI_0] at lp
  generalize hm : fi (Qj nv np (fun k => M (29, 0, 0) (20 * l + k)) B) 0 n = m at lp hb ⊢
  unfold jr
  by_cases e : m = n
  · subst e
    refine ⟨m, nI m, l4, lp.trans ?_⟩
    rw [if_pos rfl]
    simp only [e208_43, e208_44, e208_45, e208_48, e208_49, e208_50, zin_nI (show l < 4 by omega) (show 4 < 2 ^ 31 by decide), nI_clamp (show l < 2 ^ 31 by omega), es, nle (show m < 2 ^ 31 by omega) (show m < 2 ^ 31 by omega)]
    rw [if_pos (Nat.le_refl _)]
  · have hk : m < n := by omega
    have hQ' := of_decide_eq_true (hm ▸ fi_t (Q := Qj nv np (fun k => M (29, 0, 0) (20 * l + k)) B) n 0 (by rw [hm]; omega))
    have hz : zin (nI (20 * l + m)) 80 = true := zin_nI (by omega) (by decide)
    have hc : (nI (20 * l + m)).toNatClampNeg = 20 * l + m := nI_clamp (by omega)
    have st := W148 X (d + 0) M G h hR m
    have p0 : 0 ≤ nI m := by rw [i_le, nI_int (by omega)]; show (0 : Int) ≤ m; omega
    refine ⟨m + 1, nI (m + 1), vI (M (29, 0, 0) (20 * l + m)), lp.trans ?_⟩
    rw [if_neg e]
    simp only [e208_43, e208_44, e208_45, e208_48, e208_49, e208_50, zin_nI (show l < 4 by omega) (show 4 < 2 ^ 31 by decide), nI_clamp (show l < 2 ^ 31 by omega), es, nle (show n < 2 ^ 31 by omega) (show m < 2 ^ 31 by omega)]
    rw [if_neg (by omega)]
    simp only [e208_53, e208_54, e208_57, e208_58, e208_61, e208_63, e208_64, e208_65, e208_66, e208_67, e208_68, e208_70, e208_72, e208_75, zt0, zt1, zn3, not_false_eq_true, toListS, toListN, zk_some, zpi, if_true, if_false, i10, n20, hz, hc, ep, show ((0 : Int32) ≤ -9) = False by decide]
    rw [if_neg hQ'.1]
    simp only [e208_78, e208_80, e208_81, e208_84, e208_85, e208_88, e208_89, e208_90, e208_91, zt0, zt1, zn3, not_false_eq_true, toListS, toListN, zk_some, zpi, if_true, if_false, i10, C134, L7, z7, c7, e7]
    rw [if_neg hQ'.2]
    simp only [e208_94, e208_95, e208_100, e208_101, e208_102, e208_105, e208_108, zt0, zt1, zn3, not_false_eq_true, toListS, toListN, zk_some, zpi, st, nI_1]
    simp only [e208_43, e208_44, e208_45, e208_48, e208_49, e208_50, zin_nI (show l < 4 by omega) (show 4 < 2 ^ 31 by decide), nI_clamp (show l < 2 ^ 31 by omega), es]
    by_cases q : nI n ≤ nI (m + 1)
    · rw [if_pos q]
    · rw [if_neg q]
      simp only [e208_53, e208_54]
      rw [if_pos p0]
theorem Qj_c {nv np n : Nat} {T U : Nat → Int32} {B C : zB} (h : vb B nv np) (a : ag nv np B C) (hv : 0 < nv) (e : ∀ k, k < n → T k = U k) : fi (Qj nv np T B) 0 n = fi (Qj nv np U C) 0 n := fi_c _ _ fun k _ hk => by
  unfold Qj
  rw [e k (by omega), (bst_c h a k).2.1 0 3 hv (by decide)]
theorem K28 (X : Nat × (Nat → Int32) × Value) (t : Nat) (M : zM) (G : zG) (x : Int32) (i : Inv t M) : okI X 101 208 [vI x] t M G := by
  obtain ⟨nv, np, s⟩ := ST_of i
  have s' := s
  obtain ⟨n5, n8, v2, v3, m0, m1, v, o6, f5, a, vc, ac, vm⟩ := s'
  rcases isx_c (n := 4) x (by decide) with ⟨h, -⟩ | ⟨l, hl, rfl, h⟩
  · refine ⟨-1, rfs M 1, G, rfm (rfs M 1) 1, G, ?_, ?_, Inv_rf i⟩
    · simp only [E101, e101_0, e101_1, e101_4, e101_7, e101_8, e101_11, e101_12, e101_15, e101_18, e101_19, e101_20, e101_23, e101_24, e101_25, e101_28, e101_29, e101_30, e101_33, e101_36, e101_38, e101_39, e101_40, e101_43, e101_44, e101_47, e101_48, e101_51, e101_52, e101_53, e101_56, zt0, zt1, zn3, not_false_eq_true, toListS, toListN, zk_some, zpi, if_true, if_false, i10, C119, h, C114_1, q_lt_m1_0, q_le_m1_0, q_eq_m1_0]
    · simp only [E208, e208_0, e208_1, e208_4, e208_7, e208_8, e208_11, e208_12, e208_13, e208_16, e208_17, e208_18, e208_21, e208_22, e208_23, e208_26, e208_27, e208_28, e208_31, e208_33, e208_34, e208_36, e208_37, e208_38, e208_41, e208_42, e208_43, e208_44, e208_45, e208_48, e208_49, e208_50, e208_53, e208_54, e208_57, e208_58, e208_61, e208_63, e208_64, e208_65, e208_66, e208_67, e208_68, e208_70, e208_72, e208_75, e208_78, e208_80, e208_81, e208_84, e208_85, e208_88, e208_89, e208_90, e208_91, e208_94, e208_95, e208_98, e208_100, e208_101, e208_102, e208_105, e208_108, e208_111, e208_112, e208_115, e208_116, zt0, zt1, zn3, not_false_eq_true, toListS, toListN, zk_some, zpi, if_true, if_false, i10, C207, h, C129_1, q_lt_m1_0, q_le_m1_0, q_eq_m1_0]
  by_cases hv : nv = 0
  · subst hv
    have iv : isx 0 0 = 0 := rfl
    have m0' : rfs M 1 (20, 0, 0) 0 = 0 := m0
    refine ⟨-1, rfs M 1, G, rfm (rfs M 1) 1, G, ?_, ?_, Inv_rf i⟩
    · simp only [E101, e101_0, e101_1, e101_4, e101_7, e101_8, e101_11, e101_12, e101_15, e101_18, e101_19, e101_20, e101_23, e101_24, e101_25, e101_28, e101_29, e101_30, e101_33, e101_36, e101_38, e101_39, e101_40, e101_43, e101_44, e101_47, e101_48, e101_51, e101_52, e101_53, e101_56, zt0, zt1, zn3, not_false_eq_true, toListS, toListN, zk_some, zpi, if_true, if_false, i10, C119, h, C2x X _ M G 0 v2 n5, iv, C114_1, q_lt_m1_0, q_le_m1_0, q_eq_m1_0]
    · simp only [E208, e208_0, e208_1, e208_4, e208_7, e208_8, e208_11, e208_12, e208_13, e208_16, e208_17, e208_18, e208_21, e208_22, e208_23, e208_26, e208_27, e208_28, e208_31, e208_33, e208_34, e208_36, e208_37, e208_38, e208_41, e208_42, e208_43, e208_44, e208_45, e208_48, e208_49, e208_50, e208_53, e208_54, e208_57, e208_58, e208_61, e208_63, e208_64, e208_65, e208_66, e208_67, e208_68, e208_70, e208_72, e208_75, e208_78, e208_80, e208_81, e208_84, e208_85, e208_88, e208_89, e208_90, e208_91, e208_94, e208_95, e208_98, e208_100, e208_101, e208_102, e208_105, e208_108, e208_111, e208_112, e208_115, e208_116, zt0, zt1, zn3, not_false_eq_true, toListS, toListN, zk_some, zpi, if_true, if_false, i10, C207, h, w0, t0, m0', C129_1, q_lt_m1_0, q_le_m1_0, q_eq_m1_0]
  have hv' : 0 < nv := by omega
  have iv : isx nv 0 = 1 := isx_y (j := 0) hv' (by omega)
  have nz : ¬ nI nv = 0 := by rw [show (0 : Int32) = nI 0 from rfl, neq (by omega) (by decide)]; exact hv
  obtain ⟨e1, e2⟩ := i.2.2.2.2.1 l hl
  rcases e2 with e2 | ⟨n, hn, e2, e3⟩
  · have e2' : M (28, 0, 0) l = -1 := e1.symm.trans e2
    refine ⟨-11, M, G, M, G, ?_, ?_, i⟩
    · simp only [E101, e101_0, e101_1, e101_4, e101_7, e101_8, e101_11, e101_12, e101_15, e101_18, e101_19, e101_20, e101_23, e101_24, e101_25, e101_28, e101_29, e101_30, e101_33, e101_36, e101_38, e101_39, e101_40, e101_43, e101_44, e101_47, e101_48, e101_51, e101_52, e101_53, e101_56, zt0, zt1, zn3, not_false_eq_true, toListS, toListN, zk_some, zpi, if_true, if_false, i10, C119, h, C2x X _ M G nv v2 n5, iv, zin_nI (show l < 4 by omega) (show 4 < 2 ^ 31 by decide), nI_clamp (show l < 2 ^ 31 by omega), D61, e2, show ((0 : Int32) ≤ -1) = False by decide]
    · simp only [E208, e208_0, e208_1, e208_4, e208_7, e208_8, e208_11, e208_12, e208_13, e208_16, e208_17, e208_18, e208_21, e208_22, e208_23, e208_26, e208_27, e208_28, e208_31, e208_33, e208_34, e208_36, e208_37, e208_38, e208_41, e208_42, e208_43, e208_44, e208_45, e208_48, e208_49, e208_50, e208_53, e208_54, e208_57, e208_58, e208_61, e208_63, e208_64, e208_65, e208_66, e208_67, e208_68, e208_70, e208_72, e208_75, e208_78, e208_80, e208_81, e208_84, e208_85, e208_88, e208_89, e208_90, e208_91, e208_94, e208_95, e208_98, e208_100, e208_101, e208_102, e208_105, e208_108, e208_111, e208_112, e208_115, e208_116, zt0, zt1, zn3, not_false_eq_true, toListS, toListN, zk_some, zpi, if_true, if_false, i10, C207, h, w0, t0, m0, nz, zin_nI (show l < 4 by omega) (show 4 < 2 ^ 31 by decide), nI_clamp (show l < 2 ^ 31 by omega), e2', show ((0 : Int32) ≤ -1) = False by decide]
  have e2' : M (28, 0, 0) l = nI n := e1.symm.trans e2
  have p0 : 0 ≤ nI n := by rw [i_le, nI_int (by omega)]; show (0 : Int) ≤ n; omega
  obtain ⟨B', c47⟩ := C47 X 7 G s l n hl hn e2 hv'
  have s2 : sm M (cb M 3 B') := sm_cb (by decide)
  have m0' : cb M 3 B' (20, 0, 0) 0 = nI nv := m0
  obtain ⟨k, r, l4, c208⟩ := C208 X 4 (cpK (cb M 3 B') (20, 0, 0) (21, 0, 0) 93) G (R := cb M 3 B' (7, 0, 0)) vm f5 l n hl hn e2'
  have t5 := T150 X 10 G (M := cb M 3 B')
  rw [show bm (cb M 3 B') = bm M from rfl] at t5
  refine ⟨jr n (fi (Qj nv np (M (15, l, 0)) (bc M nv np)) 0 n), cb M 3 B', G, bk (cb M 3 B') (bst nv np (bm M) k) (rS nv np (bm M) (cb M 3 B' (7, 0, 0)) k), G, ?_, ?_, Inv_c (sm_t s2 (sm_bk (rS_o (by decide)) f5 (rS_o (by decide)))) (Nat.le_refl _) i⟩
  · simp only [E101, e101_0, e101_1, e101_4, e101_7, e101_8, e101_11, e101_12, e101_15, e101_18, e101_19, e101_20, e101_23, e101_24, e101_25, e101_28, e101_29, e101_30, e101_33, e101_36, e101_38, e101_39, e101_40, e101_43, e101_44, e101_47, e101_48, e101_51, e101_52, e101_53, e101_56, zt0, zt1, zn3, not_false_eq_true, toListS, toListN, zk_some, zpi, if_true, if_false, i10, C119, h, C2x X _ M G nv v2 n5, iv, zin_nI (show l < 4 by omega) (show 4 < 2 ^ 31 by decide), nI_clamp (show l < 2 ^ 31 by omega), D61, e2, p0, c47]
  · have e2c : cb M 3 B' (28, 0, 0) l = nI n := e2'
    rw [Qj_c vc ac hv' e3]
    simp only [e208_0, e208_1, e208_4, e208_7, e208_8, e208_11, e208_12, e208_13, e208_16, e208_17, e208_18, e208_21, e208_22, e208_23, e208_26, e208_27, e208_28, e208_31, e208_33, e208_34, e208_36, e208_37, e208_38, e208_41, e208_42, E208, zt0, zt1, zn3, not_false_eq_true, toListS, toListN, zk_some, zpi, if_true, if_false, i10, C207, h, w0, t0, m0', nz, zin_nI (show l < 4 by omega) (show 4 < 2 ^ 31 by decide), nI_clamp (show l < 2 ^ 31 by omega), e2c, p0, t5]
    refine Eq.trans c208 ?_
    simp only [e208_111, e208_112, e208_115, e208_116, zt0, zt1, zn3, not_false_eq_true, toListS, toListN, zk_some, zpi, T151 X _ (cb M 3 B') G]
    rfl
