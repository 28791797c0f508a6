/-! lays; RACKS: rack, racks, racked, like -/
theorem lsum {a b : Int32} : (a.toInt64 + b.toInt64).toInt = a.toInt + b.toInt := by
  have h1 := Int32.toInt_lt a
  have h2 := Int32.toInt_lt b
  have h3 := Int32.le_toInt a
  have h4 := Int32.le_toInt b
  rw [Int64.toInt_add, Int32.toInt_toInt64, Int32.toInt_toInt64, Int.bmod_eq_of_le] <;> omega
/-- w waters laid into a row, from o on -/
def lay (N M : zM) (k : zK) (o w : Nat) : zM := fun k' f => if k' = k ∧ o ≤ f ∧ f < o + w then N (5, 0, f - o) 3 else M k' f
theorem lay_0 {N M : zM} {k : zK} {o : Nat} : lay N M k o 0 = M := by
  funext k' f
  unfold lay
  rw [if_neg (by omega)]
theorem lay_s {N M : zM} {k : zK} {o w : Nat} : u2 (lay N M k o w) k (o + w) (N (5, 0, w) 3) = lay N M k o (w + 1) := by
  funext k' f
  unfold u2 lay
  by_cases h1 : k' = k
  · by_cases h2 : f = o + w
    · rw [if_pos ⟨h1, h2⟩, if_pos ⟨h1, by omega⟩, show f - o = w by omega]
    · rw [if_neg (fun e => h2 e.2)]
      by_cases h3 : o ≤ f ∧ f < o + w
      · rw [if_pos ⟨h1, h3⟩, if_pos ⟨h1, by omega⟩]
      · rw [if_neg (fun e => h3 e.2), if_neg (fun e => h3 (by omega))]
  · rw [if_neg (fun e => h1 e.1), if_neg (fun e => h1 e.1), if_neg (fun e => h1 e.1)]
theorem lay_n {N M : zM} {k k' : zK} {o w f : Nat} (h : k'.1 ≠ k.1) : lay N M k o w k' f = M k' f := by unfold lay; rw [if_neg fun e => h (congrArg Prod.fst e.1)]
theorem lay_o {N M : zM} {k k' : zK} {o w f : Nat} (h : k' ≠ k) : lay N M k o w k' f = M k' f := by unfold lay; rw [if_neg fun e => h e.1]
theorem lay_f {N M : zM} {k k' : zK} {o w f : Nat} (h : ¬ (o ≤ f ∧ f < o + w)) : lay N M k o w k' f = M k' f := by unfold lay; rw [if_neg fun e => h e.2]
theorem lay_i {N M : zM} {k : zK} {o w f : Nat} (h : o ≤ f ∧ f < o + w) : lay N M k o w k f = N (5, 0, f - o) 3 := if_pos ⟨rfl, h⟩
theorem K33 (X : Nat × (Nat → Int32) × Value) (t : Nat) (M : zM) (G : zG) (x y : Int32) (i : Inv t M) : okI X 106 215 [vI x, vI y] t M G := by
  rcases isx_c (n := 4) x (by decide) with ⟨h, -⟩ | ⟨l, hl, rfl, h⟩
  · refine ⟨-1, rfs M 1, G, rfm (rfs M 1) 1, G, ?_, ?_, Inv_rf i⟩
    · simp only [E106, e106_0, e106_1, e106_4, e106_7, e106_8, e106_9, e106_12, e106_13, e106_14, e106_17, e106_18, e106_19, e106_20, e106_21, e106_24, e106_27, e106_29, e106_30, e106_31, e106_33, e106_35, e106_36, e106_39, e106_42, e106_45, e106_46, e106_47, e106_49, e106_50, e106_53, e106_56, e106_58, e106_59, e106_60, e106_63, e106_64, e106_66, e106_67, e106_68, e106_71, e106_74, e106_76, e106_77, e106_80, e106_81, e106_84, e106_87, e106_88, e106_91, e106_94, zt0, zt1, zn3, not_false_eq_true, toListS, toListN, zk_some, zpi, if_true, if_false, i10, C119, h, C114_1, q_lt_m1_0, q_le_m1_0, q_eq_m1_0]
    · simp only [E215, e215_0, e215_1, e215_4, e215_7, e215_8, e215_9, e215_12, e215_13, e215_14, e215_17, e215_18, e215_19, e215_22, e215_24, e215_25, e215_26, e215_27, e215_28, e215_29, e215_32, e215_33, e215_34, e215_37, e215_38, e215_41, e215_42, e215_43, e215_44, e215_45, e215_46, e215_47, e215_50, e215_51, e215_52, e215_53, e215_54, e215_57, e215_59, e215_60, e215_61, e215_64, e215_66, e215_67, e215_68, e215_69, e215_70, e215_71, e215_72, e215_73, e215_76, e215_77, e215_80, e215_81, e215_82, e215_83, e215_84, e215_87, e215_90, e215_91, e215_94, e215_95, e215_96, zt0, zt1, zn3, not_false_eq_true, toListS, toListN, zk_some, zpi, if_true, if_false, i10, C207, h, C129_1, q_lt_m1_0, q_le_m1_0, q_eq_m1_0]
  · obtain ⟨e1, e2⟩ := i.2.2.2.2.1 l hl
    rcases e2 with e2 | ⟨n, hn, e2, e3⟩
    · have e2' : M (28, 0, 0) l = -1 := e1.symm.trans e2
      refine ⟨-11, M, G, M, G, ?_, ?_, i⟩
      · simp only [E106, e106_0, e106_1, e106_4, e106_7, e106_8, e106_9, e106_12, e106_13, e106_14, e106_17, e106_18, e106_19, e106_20, e106_21, e106_24, e106_27, e106_29, e106_30, e106_31, e106_33, e106_35, e106_36, e106_39, e106_42, e106_45, e106_46, e106_47, e106_49, e106_50, e106_53, e106_56, e106_58, e106_59, e106_60, e106_63, e106_64, e106_66, e106_67, e106_68, e106_71, e106_74, e106_76, e106_77, e106_80, e106_81, e106_84, e106_87, e106_88, e106_91, e106_94, zt0, zt1, zn3, not_false_eq_true, toListS, toListN, zk_some, zpi, if_true, if_false, i10, C119, h, zin_nI (show l < 4 by omega) (show 4 < 2 ^ 31 by decide), nI_clamp (show l < 2 ^ 31 by omega), D61, e2, show ((0 : Int32) ≤ -1) = False by decide]
      · simp only [E215, e215_0, e215_1, e215_4, e215_7, e215_8, e215_9, e215_12, e215_13, e215_14, e215_17, e215_18, e215_19, e215_22, e215_24, e215_25, e215_26, e215_27, e215_28, e215_29, e215_32, e215_33, e215_34, e215_37, e215_38, e215_41, e215_42, e215_43, e215_44, e215_45, e215_46, e215_47, e215_50, e215_51, e215_52, e215_53, e215_54, e215_57, e215_59, e215_60, e215_61, e215_64, e215_66, e215_67, e215_68, e215_69, e215_70, e215_71, e215_72, e215_73, e215_76, e215_77, e215_80, e215_81, e215_82, e215_83, e215_84, e215_87, e215_90, e215_91, e215_94, e215_95, e215_96, zt0, zt1, zn3, not_false_eq_true, toListS, toListN, zk_some, zpi, if_true, if_false, i10, C207, h, zin_nI (show l < 4 by omega) (show 4 < 2 ^ 31 by decide), nI_clamp (show l < 2 ^ 31 by omega), e2', show ((0 : Int32) ≤ -1) = False by decide]
    have e2' : M (28, 0, 0) l = nI n := e1.symm.trans e2
    have p0 : 0 ≤ nI n := by rw [i_le, nI_int (by omega)]; show (0 : Int) ≤ n; omega
    have hlq : n ≤ hln (15, l, 0) := by rw [hln_r, if_pos hl]; exact hn
    obtain ⟨nv, np, s⟩ := ST_of i
    have s' := s
    obtain ⟨n5, n8, v2, v3, m0, m1, v, o6, f5, a, vc, ac, vm⟩ := s'
    rcases isx_c (n := n) y (by omega) with ⟨g, gn⟩ | ⟨q, hq, rfl, g⟩
    · by_cases z : nv = 0
      · subst z
        refine ⟨0, M, G, M, G, ?_, ?_, i⟩
        · simp only [e106_0, e106_1, e106_4, e106_7, e106_8, e106_9, e106_12, e106_13, e106_14, e106_17, e106_18, e106_19, e106_20, e106_21, e106_24, e106_27, e106_29, e106_30, e106_31, e106_33, e106_35, e106_36, e106_39, e106_42, E106, zt0, zt1, zn3, not_false_eq_true, toListS, toListN, zk_some, zpi, if_true, if_false, i10, C119, h, zin_nI (show l < 4 by omega) (show 4 < 2 ^ 31 by decide), nI_clamp (show l < 2 ^ 31 by omega), D61, e2, p0, v2, q_le_0_0, show nI 0 = 0 from rfl]
          simp only [e106_87, e106_88, e106_91, e106_94, v2, show nI 0 = 0 from rfl]
        · simp only [e215_0, e215_1, e215_4, e215_7, e215_8, e215_9, e215_12, e215_13, e215_14, e215_17, e215_18, e215_19, e215_22, e215_24, e215_25, e215_26, e215_27, e215_28, e215_29, e215_32, e215_33, e215_34, E215, zt0, zt1, zn3, not_false_eq_true, toListS, toListN, zk_some, zpi, if_true, if_false, i10, C207, h, zin_nI (show l < 4 by omega) (show 4 < 2 ^ 31 by decide), nI_clamp (show l < 2 ^ 31 by omega), e2', p0, w0, t0, m0, q_le_0_0, show nI 0 = 0 from rfl]
          simp only [e215_90, e215_91, e215_94, e215_95, e215_96, w0, t0, m0, show nI 0 = 0 from rfl]
      · have zn : ¬ nI nv ≤ 0 := by rw [show (0 : Int32) = nI 0 from rfl, nle (by omega) (by decide)]; omega
        refine ⟨-13, M, G, M, G, ?_, ?_, i⟩
        · simp only [e106_0, e106_1, e106_4, e106_7, e106_8, e106_9, e106_12, e106_13, e106_14, e106_17, e106_18, e106_19, e106_20, e106_21, e106_24, e106_27, e106_29, e106_30, e106_31, e106_33, e106_35, e106_36, e106_39, e106_42, e106_45, e106_46, e106_47, e106_49, e106_50, e106_53, e106_56, e106_58, E106, zt0, zt1, zn3, not_false_eq_true, toListS, toListN, zk_some, zpi, if_true, if_false, i10, C119, h, zin_nI (show l < 4 by omega) (show 4 < 2 ^ 31 by decide), nI_clamp (show l < 2 ^ 31 by omega), D61, e2, p0, v2, zn, ni_0, C62 X _ _ G l n _ e2 hlq, g]
        · by_cases c1 : y < 0
          · simp only [e215_0, e215_1, e215_4, e215_7, e215_8, e215_9, e215_12, e215_13, e215_14, e215_17, e215_18, e215_19, e215_22, e215_24, e215_25, e215_26, e215_27, e215_28, e215_29, e215_32, e215_33, e215_34, e215_37, e215_38, e215_41, e215_42, e215_43, e215_44, e215_45, e215_46, e215_47, e215_50, e215_51, e215_52, e215_53, e215_54, e215_57, e215_59, E215, zt0, zt1, zn3, not_false_eq_true, toListS, toListN, zk_some, zpi, if_true, if_false, i10, C207, h, zin_nI (show l < 4 by omega) (show 4 < 2 ^ 31 by decide), nI_clamp (show l < 2 ^ 31 by omega), e2', p0, w0, t0, m0, zn, c1]
          · have c2 : ¬ (y.toInt64 + Int32.toInt64 0).toInt < ((nI n).toInt64).toInt := by
              rw [lsum, Int32.toInt_toInt64, nI_int (by omega), show (0 : Int32).toInt = 0 from rfl]
              rw [i_lt, show (0 : Int32).toInt = 0 from rfl] at c1
              omega
            simp only [e215_0, e215_1, e215_4, e215_7, e215_8, e215_9, e215_12, e215_13, e215_14, e215_17, e215_18, e215_19, e215_22, e215_24, e215_25, e215_26, e215_27, e215_28, e215_29, e215_32, e215_33, e215_34, e215_37, e215_38, e215_41, e215_42, e215_43, e215_44, e215_45, e215_46, e215_47, e215_50, e215_51, e215_52, e215_53, e215_54, e215_57, e215_59, E215, zt0, zt1, zn3, not_false_eq_true, toListS, toListN, zk_some, zpi, if_true, if_false, i10, C207, h, zin_nI (show l < 4 by omega) (show 4 < 2 ^ 31 by decide), nI_clamp (show l < 2 ^ 31 by omega), e2', p0, w0, t0, m0, zn, c1, lg_n, c2]
    · have key : ∃ m, m ≤ nv ∧ m = fi (fun w => decide (¬ q + w < n)) 0 nv := ⟨_, Nat.le_trans (fi_b (Q := fun w => decide (¬ q + w < n)) nv 0).2 (by omega), rfl⟩
      obtain ⟨m, hm, em⟩ := key
      have mt : m < nv → ¬ q + m < n := fun hh => by
        have := fi_t (Q := fun w => decide (¬ q + w < n)) nv 0 (by rw [← em]; omega)
        rw [← em] at this
        exact of_decide_eq_true this
      have mn : q + m ≤ n := by
        by_cases z : m = 0
        · omega
        · have := fi_n (Q := fun w => decide (¬ q + w < n)) nv 0 (m - 1) (by omega) (by rw [← em]; omega)
          have := of_decide_eq_false this
          omega
      have lc := zsf (n := nv) (f := fun w => zx X 12 106 33 [vR (6, 0, 0), vI (nI l), vI (nI q), vR (4, l, 0), vI (nI w)] [] (hh (lay M M (15, l, 0) q w) G)) (Q := fun w => decide (¬ q + w < n)) (fun w hw hQ z ez => by
        have hQ' : q + w < n := by have := of_decide_eq_false hQ; omega
        have w5 : w < 5 := by omega
        have hz : zin (nI (q + w)) (hln (15, l, 0)) = true := zin_nI (by omega) (by rw [hln_r]; split <;> decide)
        have hc : (nI (q + w)).toNatClampNeg = q + w := nI_clamp (by omega)
        have c62 := C62 X 11 (lay M M (15, l, 0) q w) G l n (nI (q + w)) ((lay_n (by first | decide | exact (show (4 : Nat) ≠ 15 by decide) | exact (show (15 : Nat) ≠ 29 by decide) | exact (show (29 : Nat) ≠ 15 by decide))).trans e2) hlq
        rw [isx_y hQ' (by omega)] at c62
        simp only [e106_33, e106_35, e106_36, e106_39, e106_42, lay_n, ne_eq, Nat.reduceEqDiff, not_false_eq_true, v2, nle (show nv < 2 ^ 31 by omega) (show w < 2 ^ 31 by omega)]
        rw [if_neg (by omega)]
        simp only [e106_45, e106_46, e106_47, e106_49, e106_50, e106_53, zt0, zt1, zn3, not_false_eq_true, toListS, toListN, zk_some, zpi, if_true, if_false, i10, nI_add, c62]
        simp only [e106_59, e106_60, e106_63, e106_64, e106_66, e106_67, e106_68, e106_71, e106_74, e106_76, e106_77, e106_80, e106_81, e106_84, zt0, zt1, zn3, not_false_eq_true, toListS, toListN, zk_some, zpi, nI_add, hz, hc, z5 w5, cl5 w5, lay_n, ne_eq, Nat.reduceEqDiff, lay_s, nI_1]
        exact ez) nv 0 (by omega)
      have lm := zsf (n := nv) (f := fun w => zx X 12 215 27 [vR (7, 0, 0), vI (nI l), vI (nI q), vI (nI w)] [] (hh (lay M (lay M M (15, l, 0) q m) (29, 0, 0) (20 * l + q) w) G)) (Q := fun w => decide (¬ q + w < n)) (fun w hw hQ z ez => by
        have hQ' : q + w < n := by have := of_decide_eq_false hQ; omega
        have w5 : w < 5 := by omega
        have hz : zin (nI (20 * l + q + w)) 80 = true := zin_nI (by omega) (by decide)
        have hc : (nI (20 * l + q + w)).toNatClampNeg = 20 * l + q + w := nI_clamp (by omega)
        have c1 : ¬ nI q < 0 := nI_pos (by omega)
        have c2 : ((nI q).toInt64 + (nI w).toInt64).toInt < ((nI n).toInt64).toInt := by
          rw [lsum, Int32.toInt_toInt64, nI_int (by omega), nI_int (by omega), nI_int (by omega)]
          omega
        simp only [e215_27, e215_28, e215_29, e215_32, e215_33, e215_34, lay_n, ne_eq, Nat.reduceEqDiff, not_false_eq_true, w0, t0, m0, nle (show nv < 2 ^ 31 by omega) (show w < 2 ^ 31 by omega)]
        rw [if_neg (by omega)]
        simp only [e215_37, e215_38, e215_41, e215_42, e215_43, e215_44, e215_45, e215_46, e215_47, e215_50, e215_51, e215_52, e215_53, e215_54, zt0, zt1, zn3, not_false_eq_true, toListS, toListN, zk_some, zpi, if_true, if_false, i10, c1, zin_nI (show l < 4 by omega) (show 4 < 2 ^ 31 by decide), nI_clamp (show l < 2 ^ 31 by omega), lay_n, ne_eq, Nat.reduceEqDiff, e2', lg_n, c2]
        simp only [e215_60, e215_61, e215_64, e215_66, e215_67, e215_68, e215_69, e215_70, e215_71, e215_72, e215_73, e215_76, e215_77, e215_80, e215_81, e215_82, e215_83, e215_84, e215_87, zt0, zt1, zn3, not_false_eq_true, toListS, toListN, zk_some, zpi, n20a, hz, hc, C134, niV, ni3, wV w5 (show 3 < 5 by decide), cV w5 (show 3 < 5 by decide), lay_n, ne_eq, Nat.reduceEqDiff, rV s hw (show 3 < 5 by decide), lay_s, nI_1]
        exact ez) nv 0 (by omega)
      rw [nI_0, lay_0, ← em] at lc lm
      have z1 : (nI nv ≤ nI m) = (nv ≤ m) := nle (by omega) (by omega)
      have f1 : ∀ (k : Nat), k < 20 → lay M (lay M M (15, l, 0) q m) (29, 0, 0) (20 * l + q) m (15, l, 0) k = lay M M (15, l, 0) q m (15, l, 0) k := fun k _ => lay_n (by first | decide | exact (show (4 : Nat) ≠ 15 by decide) | exact (show (15 : Nat) ≠ 29 by decide) | exact (show (29 : Nat) ≠ 15 by decide))
      have inv : Inv t (lay M (lay M M (15, l, 0) q m) (29, 0, 0) (20 * l + q) m) := by
        refine ⟨i.1, i.2.1, i.2.2.1, i.2.2.2.1, fun l' hl' => ?_, fun r hr => ?_⟩
        · show cI _ l'
          by_cases e : l' = l
          · subst e
            refine ⟨e1, Or.inr ⟨n, hn, e2, fun k hk => ?_⟩⟩
            rw [f1 k (by omega)]
            by_cases c : q ≤ k ∧ k < q + m
            · rw [lay_i c, lay_i (by omega), show 20 * l' + k - (20 * l' + q) = k - q by omega]
            · rw [lay_f c, lay_f (by omega), lay_n (by first | decide | exact (show (4 : Nat) ≠ 15 by decide) | exact (show (15 : Nat) ≠ 29 by decide) | exact (show (29 : Nat) ≠ 15 by decide))]
              exact e3 k hk
          · refine cI_o (i.2.2.2.2.1 l' hl') rfl rfl (fun k hk => ?_) (fun k hk => ?_)
            · simp only [lay_n, ne_eq, Nat.reduceEqDiff, not_false_eq_true, lay_o (kq e)]
            · rw [lay_f (by omega)]
              simp only [lay_n, ne_eq, Nat.reduceEqDiff, not_false_eq_true]
        · refine cJ_o (i.2.2.2.2.2 r hr) rfl rfl (fun k hk => ?_) (fun k hk => rfl) rfl rfl
          simp only [lay_n, ne_eq, Nat.reduceEqDiff, not_false_eq_true, lay_o (k15 hl r)]
      by_cases w : m = nv
      · have z2 : nv ≤ m := by omega
        refine ⟨nI nv, lay M M (15, l, 0) q m, G, lay M (lay M M (15, l, 0) q m) (29, 0, 0) (20 * l + q) m, G, ?_, ?_, inv⟩
        · simp only [e106_0, e106_1, e106_4, e106_7, e106_8, e106_9, e106_12, e106_13, e106_14, e106_17, e106_18, e106_19, e106_20, e106_21, e106_24, e106_27, e106_29, e106_30, e106_31, E106, zt0, zt1, zn3, not_false_eq_true, toListS, toListN, zk_some, zpi, if_true, if_false, i10, C119, h, zin_nI (show l < 4 by omega) (show 4 < 2 ^ 31 by decide), nI_clamp (show l < 2 ^ 31 by omega), D61, e2, p0]
          refine Eq.trans lc ?_
          simp only [e106_33, e106_35, e106_36, e106_39, e106_42, lay_n, ne_eq, Nat.reduceEqDiff, not_false_eq_true, v2, z1]
          rw [if_pos z2]
          simp only [e106_87, e106_88, e106_91, e106_94, lay_n, ne_eq, Nat.reduceEqDiff, not_false_eq_true, v2]
        · have e2'' : lay M M (15, l, 0) q m (28, 0, 0) l = nI n := e2'
          simp only [e215_0, e215_1, e215_4, e215_7, e215_8, e215_9, e215_12, e215_13, e215_14, e215_17, e215_18, e215_19, e215_22, e215_24, e215_25, e215_26, E215, zt0, zt1, zn3, not_false_eq_true, toListS, toListN, zk_some, zpi, if_true, if_false, i10, C207, h, zin_nI (show l < 4 by omega) (show 4 < 2 ^ 31 by decide), nI_clamp (show l < 2 ^ 31 by omega), e2'', p0]
          refine Eq.trans lm ?_
          simp only [e215_27, e215_28, e215_29, e215_32, e215_33, e215_34, lay_n, ne_eq, Nat.reduceEqDiff, not_false_eq_true, w0, t0, m0, z1]
          rw [if_pos z2]
          simp only [e215_90, e215_91, e215_94, e215_95, e215_96, lay_n, ne_eq, Nat.reduceEqDiff, not_false_eq_true, w0, t0, m0]
      · have z2 : ¬ nv ≤ m := by omega
        have mt' := mt (by omega)
        refine ⟨-13, lay M M (15, l, 0) q m, G, lay M (lay M M (15, l, 0) q m) (29, 0, 0) (20 * l + q) m, G, ?_, ?_, inv⟩
        · simp only [e106_0, e106_1, e106_4, e106_7, e106_8, e106_9, e106_12, e106_13, e106_14, e106_17, e106_18, e106_19, e106_20, e106_21, e106_24, e106_27, e106_29, e106_30, e106_31, E106, zt0, zt1, zn3, not_false_eq_true, toListS, toListN, zk_some, zpi, if_true, if_false, i10, C119, h, zin_nI (show l < 4 by omega) (show 4 < 2 ^ 31 by decide), nI_clamp (show l < 2 ^ 31 by omega), D61, e2, p0]
          refine Eq.trans lc ?_
          have c62 := C62 X 11 (lay M M (15, l, 0) q m) G l n (nI (q + m)) ((lay_n (by first | decide | exact (show (4 : Nat) ≠ 15 by decide) | exact (show (15 : Nat) ≠ 29 by decide) | exact (show (29 : Nat) ≠ 15 by decide))).trans e2) hlq
          rw [show isx n (nI (q + m)) = 0 from inz_n (by rw [nI_int (by omega)]; omega)] at c62
          simp only [e106_33, e106_35, e106_36, e106_39, e106_42, lay_n, ne_eq, Nat.reduceEqDiff, not_false_eq_true, v2, z1]
          rw [if_neg z2]
          simp only [e106_45, e106_46, e106_47, e106_49, e106_50, e106_53, e106_56, e106_58, zt0, zt1, zn3, not_false_eq_true, toListS, toListN, zk_some, zpi, if_true, if_false, i10, nI_add, c62]
        · have e2'' : lay M M (15, l, 0) q m (28, 0, 0) l = nI n := e2'
          have c1 : ¬ nI q < 0 := nI_pos (by omega)
          have c2 : ¬ ((nI q).toInt64 + (nI m).toInt64).toInt < ((nI n).toInt64).toInt := by
            rw [lsum, Int32.toInt_toInt64, nI_int (by omega), nI_int (by omega), nI_int (by omega)]
            omega
          simp only [e215_0, e215_1, e215_4, e215_7, e215_8, e215_9, e215_12, e215_13, e215_14, e215_17, e215_18, e215_19, e215_22, e215_24, e215_25, e215_26, E215, zt0, zt1, zn3, not_false_eq_true, toListS, toListN, zk_some, zpi, if_true, if_false, i10, C207, h, zin_nI (show l < 4 by omega) (show 4 < 2 ^ 31 by decide), nI_clamp (show l < 2 ^ 31 by omega), e2'', p0]
          refine Eq.trans lm ?_
          simp only [e215_27, e215_28, e215_29, e215_32, e215_33, e215_34, lay_n, ne_eq, Nat.reduceEqDiff, not_false_eq_true, w0, t0, m0, z1]
          rw [if_neg z2]
          simp only [e215_37, e215_38, e215_41, e215_42, e215_43, e215_44, e215_45, e215_46, e215_47, e215_50, e215_51, e215_52, e215_53, e215_54, e215_57, e215_59, zt0, zt1, zn3, not_false_eq_true, toListS, toListN, zk_some, zpi, if_true, if_false, i10, c1, zin_nI (show l < 4 by omega) (show 4 < 2 ^ 31 by decide), nI_clamp (show l < 2 ^ 31 by omega), lay_n, ne_eq, Nat.reduceEqDiff, e2', lg_n, c2]
