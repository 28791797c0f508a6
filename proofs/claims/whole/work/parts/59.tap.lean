/-! tapBest -/
def sett (B : zB) (j w : Nat) : zB := (B.1, uV B.2.1 j 4 (nI w), B.2.2)
def wtp (nv np : Nat) (B : zB) (j q n w : Nat) : Int32 := (bst nv np (sett B j w) n).2.1 q 3
def bt (W : Nat → Int32) : Nat → Nat × Int32
  | 0 => (0, -1)
  | v + 1 => if (bt W v).2 < W v then (v, W v) else bt W v
theorem bt_v {W : Nat → Int32} (h : ∀ v, v < 10 → 0 ≤ (W v).toInt) : ∀ v, v < 10 → (bt W (v + 1)).2 = W (bt W (v + 1)).1 ∧ (bt W (v + 1)).1 < v + 1 := by
  intro v
  induction v with
  | zero =>
    intro _
    have q : (bt W 0).2 < W 0 := by
      show (-1 : Int32) < W 0
      rw [i_lt, show (-1 : Int32).toInt = -1 from rfl]
      have := h 0 (by decide)
      omega
    have e : bt W (0 + 1) = (0, W 0) := by
      show (if (bt W 0).2 < W 0 then (0, W 0) else bt W 0) = _
      rw [if_pos q]
    rw [e]
    exact ⟨rfl, Nat.lt_succ_self 0⟩
  | succ v ih =>
    intro hv
    have ih' := ih (by omega)
    by_cases q : (bt W (v + 1)).2 < W (v + 1)
    · have e : bt W (v + 1 + 1) = (v + 1, W (v + 1)) := by
        show (if (bt W (v + 1)).2 < W (v + 1) then (v + 1, W (v + 1)) else bt W (v + 1)) = _
        rw [if_pos q]
      rw [e]
      exact ⟨rfl, Nat.lt_succ_self _⟩
    · have e : bt W (v + 1 + 1) = bt W (v + 1) := by
        show (if (bt W (v + 1)).2 < W (v + 1) then (v + 1, W (v + 1)) else bt W (v + 1)) = _
        rw [if_neg q]
      rw [e]
      exact ⟨ih'.1, by omega⟩
theorem wtp_0 {nv np : Nat} {B : zB} (h : vb B nv np) {j q n w : Nat} (hw : w ≤ 9) (hq : q < nv) : vb (sett B j w) nv np ∧ 0 ≤ (wtp nv np B j q n w).toInt := by
  have v1 : vb (sett B j w) nv np := vb_tap (S := B.1) (V := B.2.1) (P := B.2.2) h hw
  exact ⟨v1, ((bst_v v1 n).2.1 q hq).1⟩
theorem C41 (X : Nat × (Nat → Int32) × Value) (d : Nat) {M : zM} (G : zG) {nv np : Nat} (s : ST M nv np) (Z : zB) (j q n w : Nat) (hj : j < nv) (hq : q < nv) (hn : n < 2 ^ 31) (hw : w ≤ 9) : ∃ B', zd X (d + 5) 41 [vR (2, 0, 0), vR (0, 0, 0), vI (nI j), vI (nI w), vI (nI q), vI (nI n)] (hh (cb M 3 Z) G) = some (some (vI (wtp nv np (bm M) j q n w)), hh (cb M 3 B') G) := by
  have n5 := s.1
  have vm := s.2.2.2.2.2.2.2.2.2.2.2.2
  have hj5 : j < 5 := by omega
  have hq5 : q < 5 := by omega
  obtain ⟨z1, z2, z3⟩ := ST_z s Z
  have v1 := (wtp_0 z1 (j := j) (q := q) (n := n) hw hq).1
  have az : ag nv np (sett (cpB nv np Z (gb M 0)) j w) (sett (bm M) j w) := ⟨z2.1, agV_u z2.2.1 rfl, z2.2.2⟩
  have e : wtp nv np (bm M) j q n w = wtp nv np (cpB nv np Z (gb M 0)) j q n w := ((bst_c v1 az n).2.1 q 3 hq (by decide)).symm
  have t1 := T1z X (d + 3) G s Z
  have g2 : cb M 3 (cpB nv np Z (gb M 0)) (0, 3, 0) 2 = nI nv := z1.1.1
  have cu : u2 (cb M 3 (cpB nv np Z (gb M 0))) (5, 3, j) 4 (nI w) = cb M 3 (sett (cpB nv np Z (gb M 0)) j w) := cm_uV
  have c31 := C31 X d M G nv np (sett (cpB nv np Z (gb M 0)) j w) v1 n hn
  refine ⟨bst nv np (sett (cpB nv np Z (gb M 0)) j w) n, ?_⟩
  rw [e]
  simp only [E41, e41_0, e41_1, e41_4, e41_5, e41_8, e41_9, e41_12, e41_13, e41_16, e41_19, e41_20, e41_23, e41_25, e41_28, e41_31, e41_32, e41_33, e41_34, e41_37, e41_40, e41_41, e41_42, e41_43, e41_46, e41_47, e41_49, e41_52, e41_53, e41_56, e41_59, e41_61, e41_62, e41_65, zt0, zt1, zn3, not_false_eq_true, toListS, toListN, zk_some, zpi, if_true, if_false, i10, t1, C2b X _ _ G 3 nv g2 n5, isx_y hj (show nv < 2 ^ 31 by omega), isx_y hq (show nv < 2 ^ 31 by omega), z5 hj5, cl5 hj5, z5 hq5, cl5 hq5, cu, c31, cb_V]
  rfl
theorem C40 (X : Nat × (Nat → Int32) × Value) (d : Nat) {M : zM} (G : zG) {nv np : Nat} (s : ST M nv np) (j q n : Nat) (hj : j < nv) (hq : q < nv) (hn : n < 2 ^ 31) : ∃ B', zd X (d + 6) 40 [vR (2, 0, 0), vR (0, 0, 0), vI (nI j), vI (nI q), vI (nI n)] (hh M G) = some (some (vI (nI (bt (wtp nv np (bm M) j q n) 10).1)), hh (cb M 3 B') G) := by
  have eself : cb M 3 (gb M 3) = M := cb_self M 3
  obtain ⟨⟨Z, l8⟩, -, lp⟩ := zlr (σ := zB × zV) (n := 10) (f := fun w z => zx X (d + 6) 40 9 [vR (2, 0, 0), vR (0, 0, 0), vI (nI j), vI (nI q), vI (nI n), vI (nI (bt (wtp nv np (bm M) j q n) w).1), vI (bt (wtp nv np (bm M) j q n) w).2, vI (nI w), z.2] [] (hh (cb M 3 z.1) G)) (P := fun _ _ => True) (fun w z hw _ => by
    obtain ⟨B', c41⟩ := C41 X d G s z.1 j q n w hj hq hn (by omega)
    refine ⟨(B', vI (wtp nv np (bm M) j q n w)), trivial, fun x ex => ?_⟩
    simp only [e40_9, e40_11, e40_13]
    rw [if_neg (by rw [show (9 : Int32) = nI 9 from rfl, nlt (by decide) (by omega)]; omega)]
    simp only [e40_16, e40_17, e40_18, e40_19, e40_21, e40_22, e40_24, e40_27, e40_29, e40_31, e40_33, zt0, zt1, zn3, not_false_eq_true, toListS, toListN, zk_some, zpi, c41]
    by_cases c : (bt (wtp nv np (bm M) j q n) w).2 < wtp nv np (bm M) j q n w
    · rw [if_neg (by rw [i_lt] at c; rw [i_le]; omega)]
      simp only [e40_36, e40_38, e40_40, e40_42, e40_44, e40_47, nI_1]
      simp only [bt, if_pos c] at ex
      exact ex
    · rw [if_pos (by rw [i_lt] at c; rw [i_le]; omega)]
      simp only [e40_44, e40_47, nI_1]
      simp only [bt, if_neg c] at ex
      exact ex) 10 0 (gb M 3, vN) (by omega) trivial
  rw [nI_0, show bt (wtp nv np (bm M) j q n) 0 = (0, -1) from rfl, nI_0] at lp
  dsimp only at lp
  rw [eself] at lp
  refine ⟨Z, ?_⟩
  simp only [E40, e40_0, e40_1, e40_3, e40_4, e40_6, e40_7]
  refine Eq.trans lp ?_
  simp only [e40_9, e40_11, e40_13]
  rw [if_pos (by decide)]
  simp only [e40_50, e40_52]
theorem C195 (X : Nat × (Nat → Int32) × Value) (d : Nat) {M : zM} (G : zG) {nv np : Nat} (vm : vb (bm M) nv np) (f5 : M (7, 0, 0) 5 = 0) (j q n : Nat) (l4 l5 : Int32) (hj : j < nv) (hq : q < nv) (hn : n < 2 ^ 31) : ∃ (N : zM) (l9 : zV), sm M N ∧ zx X (d + 9) 195 75 [vR (7, 0, 0), vI (nI j), vI (nI q), vI (nI n), vI l4, vI l5, vI 0, vI (-1), vI 0, vN] [] (hh M G) = zx X (d + 9) 195 152 [vR (7, 0, 0), vI (nI j), vI (nI q), vI (nI n), vI l4, vI l5, vI (nI (bt (wtp nv np (bm M) j q n) 10).1), vI (bt (wtp nv np (bm M) j q n) 10).2, vI 10, l9] [] (hh N G) := by
  have n5 := vm.1.2.2.1
  have hj5 : j < 5 := by omega
  have hq5 : q < 5 := by omega
  obtain ⟨⟨N1, l9⟩, hs, lp⟩ := zlr (σ := zM × zV) (n := 10) (f := fun w z => zx X (d + 9) 195 75 [vR (7, 0, 0), vI (nI j), vI (nI q), vI (nI n), vI l4, vI l5, vI (nI (bt (wtp nv np (bm M) j q n) w).1), vI (bt (wtp nv np (bm M) j q n) w).2, vI (nI w), z.2] [] (hh z.1 G)) (P := fun _ z => sm M z.1) (fun w z hw hs => by
    obtain ⟨eb, e5⟩ := smv hs f5
    have t5 := T150 X (d + 7) G (M := z.1)
    rw [eb] at t5
    have v1 := (wtp_0 vm (j := j) (q := q) (n := n) (w := w) (by omega) hq).1
    have mu : u2 (mb (cpK z.1 (20, 0, 0) (21, 0, 0) 93) (bm M) (z.1 (7, 0, 0))) (20, 0, 0) (4 + 5 * j + 4) (nI w) = mb (cpK z.1 (20, 0, 0) (21, 0, 0) 93) (sett (bm M) j w) (z.1 (7, 0, 0)) := mm_uV hj5 (by decide)
    have w149 := W149 X d (cpK z.1 (20, 0, 0) (21, 0, 0) 93) G (R := z.1 (7, 0, 0)) v1 e5 n hn
    have t151 := T151 X (d + 7) z.1 G (bst nv np (sett (bm M) j w) n) (rS nv np (sett (bm M) j w) (z.1 (7, 0, 0)) n)
    have ew : (bst nv np (sett (bm M) j w) n).2.1 q 3 = wtp nv np (bm M) j q n w := rfl
    refine ⟨(bk z.1 (bst nv np (sett (bm M) j w) n) (rS nv np (sett (bm M) j w) (z.1 (7, 0, 0)) n), vI (wtp nv np (bm M) j q n w)), sm_t hs (sm_bk (rS_o (by decide)) e5 (rS_o (by decide))), fun x ex => ?_⟩
    simp only [e195_75, e195_77, e195_79]
    rw [if_neg (by rw [show (9 : Int32) = nI 9 from rfl, nlt (by decide) (by omega)]; omega)]
    simp only [e195_82, e195_83, e195_86, e195_87, e195_90, e195_91, e195_94, e195_95, e195_96, e195_98, e195_99, e195_100, e195_101, e195_104, e195_105, e195_108, e195_109, e195_112, e195_113, e195_114, e195_115, e195_117, e195_118, e195_121, e195_123, e195_125, zt0, zt1, zn3, not_false_eq_true, toListS, toListN, zk_some, zpi, if_true, if_false, i10, t5, C134, niV, ni4, ni3, wV hj5 (show 4 < 5 by decide), cV hj5 (show 4 < 5 by decide), mu, w149, wV hq5 (show 3 < 5 by decide), cV hq5 (show 3 < 5 by decide), mb_V hq5 (show 3 < 5 by decide), ew, t151]
    by_cases c : (bt (wtp nv np (bm M) j q n) w).2 < wtp nv np (bm M) j q n w
    · rw [if_neg (by rw [i_lt] at c; rw [i_le]; omega)]
      simp only [e195_128, e195_130, e195_135, e195_137, e195_139, e195_141, e195_144, e195_146, e195_149, zt0, zt1, zn3, not_false_eq_true, toListS, toListN, zk_some, zpi, C237, imax, if_pos c, nI_1]
      simp only [bt, if_pos c] at ex
      exact ex
    · rw [if_pos (by rw [i_lt] at c; rw [i_le]; omega)]
      simp only [e195_133, e195_135, e195_137, e195_139, e195_141, e195_144, e195_146, e195_149, zt0, zt1, zn3, not_false_eq_true, toListS, toListN, zk_some, zpi, C237, imax, if_neg c, nI_1]
      simp only [bt, if_neg c] at ex
      exact ex) 10 0 (M, vN) (by omega) (sm_r M)
  rw [nI_0, show bt (wtp nv np (bm M) j q n) 0 = (0, -1) from rfl, nI_0] at lp
  refine ⟨N1, l9, hs, lp.trans ?_⟩
  simp only [e195_75, e195_77, e195_79]
  rw [if_pos (by decide)]
  rfl
theorem K20 (X : Nat × (Nat → Int32) × Value) (t : Nat) (M : zM) (G : zG) (x y n z : Int32) (i : Inv t M) : okI X 93 195 [vI x, vI y, vI n, vI z] t M G := by
  obtain ⟨nv, np, s⟩ := ST_of i
  have s' := s
  obtain ⟨n5, n8, e2, e3, m0, m1, v, o6, f5, a, vc, ac, vm⟩ := s'
  rcases isx_c (n := nv) x (by omega) with ⟨h, -⟩ | ⟨j, hj, rfl, h⟩
  · refine ⟨-1, rfs M 1, G, rfm (rfs M 1) 1, G, ?_, ?_, Inv_rf i⟩
    · simp only [E93, e93_0, e93_1, e93_4, e93_5, e93_8, e93_11, e93_12, e93_15, e93_16, e93_19, e93_22, e93_23, e93_24, e93_27, e93_28, e93_29, e93_30, e93_32, e93_35, e93_37, e93_39, e93_42, e93_43, e93_45, e93_48, e93_49, e93_51, e93_54, e93_56, e93_57, e93_60, e93_61, e93_63, e93_66, e93_67, e93_68, e93_71, e93_72, e93_75, e93_76, e93_77, e93_78, e93_81, e93_83, e93_85, e93_88, e93_90, e93_93, e93_94, e93_97, e93_98, e93_101, e93_102, e93_104, e93_105, e93_106, e93_109, zt0, zt1, zn3, not_false_eq_true, toListS, toListN, zk_some, zpi, if_true, if_false, i10, C2x X _ M G nv e2 n5, h, C114_1, q_lt_m1_0, q_le_m1_0, q_eq_m1_0]
    · simp only [E195, e195_0, e195_1, e195_2, e195_5, e195_8, e195_9, e195_10, e195_13, e195_16, e195_17, e195_18, e195_20, e195_23, e195_26, e195_27, e195_29, e195_31, e195_34, e195_36, e195_37, e195_38, e195_39, e195_42, e195_45, e195_47, e195_50, e195_52, e195_54, e195_56, e195_59, e195_60, e195_62, e195_65, e195_66, e195_67, e195_69, e195_70, e195_72, e195_73, e195_75, e195_77, e195_79, e195_82, e195_83, e195_86, e195_87, e195_90, e195_91, e195_94, e195_95, e195_96, e195_98, e195_99, e195_100, e195_101, e195_104, e195_105, e195_108, e195_109, e195_112, e195_113, e195_114, e195_115, e195_117, e195_118, e195_121, e195_123, e195_125, e195_128, e195_130, e195_133, e195_135, e195_137, e195_139, e195_141, e195_144, e195_146, e195_149, e195_152, e195_154, e195_157, e195_159, e195_162, e195_164, zt0, zt1, zn3, not_false_eq_true, toListS, toListN, zk_some, zpi, if_true, if_false, i10, C132 X _ _ G _ nv (show rfs M 1 (20, 0, 0) 0 = nI nv from m0) (by omega), h, C129_1, q_lt_m1_0, q_le_m1_0, q_eq_m1_0]
  rcases isx_c (n := nv) y (by omega) with ⟨q, -⟩ | ⟨p, hp, rfl, q⟩
  · refine ⟨-1, rfs M 1, G, rfm (rfs M 1) 1, G, ?_, ?_, Inv_rf i⟩
    · simp only [E93, e93_0, e93_1, e93_4, e93_5, e93_8, e93_11, e93_12, e93_15, e93_16, e93_19, e93_22, e93_23, e93_24, e93_27, e93_28, e93_29, e93_30, e93_32, e93_35, e93_37, e93_39, e93_42, e93_43, e93_45, e93_48, e93_49, e93_51, e93_54, e93_56, e93_57, e93_60, e93_61, e93_63, e93_66, e93_67, e93_68, e93_71, e93_72, e93_75, e93_76, e93_77, e93_78, e93_81, e93_83, e93_85, e93_88, e93_90, e93_93, e93_94, e93_97, e93_98, e93_101, e93_102, e93_104, e93_105, e93_106, e93_109, zt0, zt1, zn3, not_false_eq_true, toListS, toListN, zk_some, zpi, if_true, if_false, i10, C2x X _ M G nv e2 n5, h, q, C114_1, q_lt_m1_0, q_le_m1_0, q_eq_m1_0]
    · simp only [E195, e195_0, e195_1, e195_2, e195_5, e195_8, e195_9, e195_10, e195_13, e195_16, e195_17, e195_18, e195_20, e195_23, e195_26, e195_27, e195_29, e195_31, e195_34, e195_36, e195_37, e195_38, e195_39, e195_42, e195_45, e195_47, e195_50, e195_52, e195_54, e195_56, e195_59, e195_60, e195_62, e195_65, e195_66, e195_67, e195_69, e195_70, e195_72, e195_73, e195_75, e195_77, e195_79, e195_82, e195_83, e195_86, e195_87, e195_90, e195_91, e195_94, e195_95, e195_96, e195_98, e195_99, e195_100, e195_101, e195_104, e195_105, e195_108, e195_109, e195_112, e195_113, e195_114, e195_115, e195_117, e195_118, e195_121, e195_123, e195_125, e195_128, e195_130, e195_133, e195_135, e195_137, e195_139, e195_141, e195_144, e195_146, e195_149, e195_152, e195_154, e195_157, e195_159, e195_162, e195_164, zt0, zt1, zn3, not_false_eq_true, toListS, toListN, zk_some, zpi, if_true, if_false, i10, C132 X _ _ G _ nv (show rfs M 1 (20, 0, 0) 0 = nI nv from m0) (by omega), h, q, C129_1, q_lt_m1_0, q_le_m1_0, q_eq_m1_0]
  rcases wrg_c n 0 99 (by decide) with ⟨w, -⟩ | ⟨w, -⟩ | ⟨w, -, k, hk1, hk, rfl⟩
  · have w : wrg n 0 99 = -4 := w
    refine ⟨-4, rfs M 4, G, rfm (rfs M 4) 4, G, ?_, ?_, Inv_rf i⟩
    · simp only [E93, e93_0, e93_1, e93_4, e93_5, e93_8, e93_11, e93_12, e93_15, e93_16, e93_19, e93_22, e93_23, e93_24, e93_27, e93_28, e93_29, e93_30, e93_32, e93_35, e93_37, e93_39, e93_42, e93_43, e93_45, e93_48, e93_49, e93_51, e93_54, e93_56, e93_57, e93_60, e93_61, e93_63, e93_66, e93_67, e93_68, e93_71, e93_72, e93_75, e93_76, e93_77, e93_78, e93_81, e93_83, e93_85, e93_88, e93_90, e93_93, e93_94, e93_97, e93_98, e93_101, e93_102, e93_104, e93_105, e93_106, e93_109, zt0, zt1, zn3, not_false_eq_true, toListS, toListN, zk_some, zpi, if_true, if_false, i10, C2x X _ M G nv e2 n5, h, q, C118, w, j_0, k_0, j_99, k_99, C114_4, q_lt_m4_0, q_le_m4_0, q_eq_m4_0]
    · simp only [E195, e195_0, e195_1, e195_2, e195_5, e195_8, e195_9, e195_10, e195_13, e195_16, e195_17, e195_18, e195_20, e195_23, e195_26, e195_27, e195_29, e195_31, e195_34, e195_36, e195_37, e195_38, e195_39, e195_42, e195_45, e195_47, e195_50, e195_52, e195_54, e195_56, e195_59, e195_60, e195_62, e195_65, e195_66, e195_67, e195_69, e195_70, e195_72, e195_73, e195_75, e195_77, e195_79, e195_82, e195_83, e195_86, e195_87, e195_90, e195_91, e195_94, e195_95, e195_96, e195_98, e195_99, e195_100, e195_101, e195_104, e195_105, e195_108, e195_109, e195_112, e195_113, e195_114, e195_115, e195_117, e195_118, e195_121, e195_123, e195_125, e195_128, e195_130, e195_133, e195_135, e195_137, e195_139, e195_141, e195_144, e195_146, e195_149, e195_152, e195_154, e195_157, e195_159, e195_162, e195_164, zt0, zt1, zn3, not_false_eq_true, toListS, toListN, zk_some, zpi, if_true, if_false, i10, C132 X _ _ G _ nv (show rfs M 4 (20, 0, 0) 0 = nI nv from m0) (by omega), h, q, C136, w, j_0, k_0, j_99, k_99, C129_4, q_lt_m4_0, q_le_m4_0, q_eq_m4_0]
  · have w : wrg n 0 99 = -6 := w
    refine ⟨-6, rfs M 6, G, rfm (rfs M 6) 6, G, ?_, ?_, Inv_rf i⟩
    · simp only [E93, e93_0, e93_1, e93_4, e93_5, e93_8, e93_11, e93_12, e93_15, e93_16, e93_19, e93_22, e93_23, e93_24, e93_27, e93_28, e93_29, e93_30, e93_32, e93_35, e93_37, e93_39, e93_42, e93_43, e93_45, e93_48, e93_49, e93_51, e93_54, e93_56, e93_57, e93_60, e93_61, e93_63, e93_66, e93_67, e93_68, e93_71, e93_72, e93_75, e93_76, e93_77, e93_78, e93_81, e93_83, e93_85, e93_88, e93_90, e93_93, e93_94, e93_97, e93_98, e93_101, e93_102, e93_104, e93_105, e93_106, e93_109, zt0, zt1, zn3, not_false_eq_true, toListS, toListN, zk_some, zpi, if_true, if_false, i10, C2x X _ M G nv e2 n5, h, q, C118, w, j_0, k_0, j_99, k_99, C114_6, q_lt_m6_0, q_le_m6_0, q_eq_m6_0]
    · simp only [E195, e195_0, e195_1, e195_2, e195_5, e195_8, e195_9, e195_10, e195_13, e195_16, e195_17, e195_18, e195_20, e195_23, e195_26, e195_27, e195_29, e195_31, e195_34, e195_36, e195_37, e195_38, e195_39, e195_42, e195_45, e195_47, e195_50, e195_52, e195_54, e195_56, e195_59, e195_60, e195_62, e195_65, e195_66, e195_67, e195_69, e195_70, e195_72, e195_73, e195_75, e195_77, e195_79, e195_82, e195_83, e195_86, e195_87, e195_90, e195_91, e195_94, e195_95, e195_96, e195_98, e195_99, e195_100, e195_101, e195_104, e195_105, e195_108, e195_109, e195_112, e195_113, e195_114, e195_115, e195_117, e195_118, e195_121, e195_123, e195_125, e195_128, e195_130, e195_133, e195_135, e195_137, e195_139, e195_141, e195_144, e195_146, e195_149, e195_152, e195_154, e195_157, e195_159, e195_162, e195_164, zt0, zt1, zn3, not_false_eq_true, toListS, toListN, zk_some, zpi, if_true, if_false, i10, C132 X _ _ G _ nv (show rfs M 6 (20, 0, 0) 0 = nI nv from m0) (by omega), h, q, C136, w, j_0, k_0, j_99, k_99, C129_6, q_lt_m6_0, q_le_m6_0, q_eq_m6_0]
  have w : wrg (nI k) 0 99 = 0 := w
  rcases inz_c z 1 (by decide) with ⟨g, gn⟩ | ⟨g, l, hl, rfl⟩
  · have g' : inz z 0 1 = 0 := g
    rcases rng_n (lit := 1) rfl gn with c1 | ⟨c1, c2⟩
    · refine ⟨-2, rfs M 2, G, rfm (rfs M 2) 2, G, ?_, ?_, Inv_rf i⟩
      · simp only [E93, e93_0, e93_1, e93_4, e93_5, e93_8, e93_11, e93_12, e93_15, e93_16, e93_19, e93_22, e93_23, e93_24, e93_27, e93_28, e93_29, e93_30, e93_32, e93_35, e93_37, e93_39, e93_42, e93_43, e93_45, e93_48, e93_49, e93_51, e93_54, e93_56, e93_57, e93_60, e93_61, e93_63, e93_66, e93_67, e93_68, e93_71, e93_72, e93_75, e93_76, e93_77, e93_78, e93_81, e93_83, e93_85, e93_88, e93_90, e93_93, e93_94, e93_97, e93_98, e93_101, e93_102, e93_104, e93_105, e93_106, e93_109, zt0, zt1, zn3, not_false_eq_true, toListS, toListN, zk_some, zpi, if_true, if_false, i10, C2x X _ M G nv e2 n5, h, q, C118, w, j_0, k_0, j_99, k_99, c1, C114_2, q_lt_m2_0, q_le_m2_0, q_eq_m2_0]
      · simp only [E195, e195_0, e195_1, e195_2, e195_5, e195_8, e195_9, e195_10, e195_13, e195_16, e195_17, e195_18, e195_20, e195_23, e195_26, e195_27, e195_29, e195_31, e195_34, e195_36, e195_37, e195_38, e195_39, e195_42, e195_45, e195_47, e195_50, e195_52, e195_54, e195_56, e195_59, e195_60, e195_62, e195_65, e195_66, e195_67, e195_69, e195_70, e195_72, e195_73, e195_75, e195_77, e195_79, e195_82, e195_83, e195_86, e195_87, e195_90, e195_91, e195_94, e195_95, e195_96, e195_98, e195_99, e195_100, e195_101, e195_104, e195_105, e195_108, e195_109, e195_112, e195_113, e195_114, e195_115, e195_117, e195_118, e195_121, e195_123, e195_125, e195_128, e195_130, e195_133, e195_135, e195_137, e195_139, e195_141, e195_144, e195_146, e195_149, e195_152, e195_154, e195_157, e195_159, e195_162, e195_164, zt0, zt1, zn3, not_false_eq_true, toListS, toListN, zk_some, zpi, if_true, if_false, i10, C132 X _ _ G _ nv (show rfs M 2 (20, 0, 0) 0 = nI nv from m0) (by omega), h, q, C136, C128, j_1, w, j_0, k_0, j_99, k_99, g', C129_2, q_lt_m2_0, q_le_m2_0, q_eq_m2_0]
    · refine ⟨-2, rfs M 2, G, rfm (rfs M 2) 2, G, ?_, ?_, Inv_rf i⟩
      · simp only [E93, e93_0, e93_1, e93_4, e93_5, e93_8, e93_11, e93_12, e93_15, e93_16, e93_19, e93_22, e93_23, e93_24, e93_27, e93_28, e93_29, e93_30, e93_32, e93_35, e93_37, e93_39, e93_42, e93_43, e93_45, e93_48, e93_49, e93_51, e93_54, e93_56, e93_57, e93_60, e93_61, e93_63, e93_66, e93_67, e93_68, e93_71, e93_72, e93_75, e93_76, e93_77, e93_78, e93_81, e93_83, e93_85, e93_88, e93_90, e93_93, e93_94, e93_97, e93_98, e93_101, e93_102, e93_104, e93_105, e93_106, e93_109, zt0, zt1, zn3, not_false_eq_true, toListS, toListN, zk_some, zpi, if_true, if_false, i10, C2x X _ M G nv e2 n5, h, q, C118, w, j_0, k_0, j_99, k_99, c1, c2, C114_2, q_lt_m2_0, q_le_m2_0, q_eq_m2_0]
      · simp only [E195, e195_0, e195_1, e195_2, e195_5, e195_8, e195_9, e195_10, e195_13, e195_16, e195_17, e195_18, e195_20, e195_23, e195_26, e195_27, e195_29, e195_31, e195_34, e195_36, e195_37, e195_38, e195_39, e195_42, e195_45, e195_47, e195_50, e195_52, e195_54, e195_56, e195_59, e195_60, e195_62, e195_65, e195_66, e195_67, e195_69, e195_70, e195_72, e195_73, e195_75, e195_77, e195_79, e195_82, e195_83, e195_86, e195_87, e195_90, e195_91, e195_94, e195_95, e195_96, e195_98, e195_99, e195_100, e195_101, e195_104, e195_105, e195_108, e195_109, e195_112, e195_113, e195_114, e195_115, e195_117, e195_118, e195_121, e195_123, e195_125, e195_128, e195_130, e195_133, e195_135, e195_137, e195_139, e195_141, e195_144, e195_146, e195_149, e195_152, e195_154, e195_157, e195_159, e195_162, e195_164, zt0, zt1, zn3, not_false_eq_true, toListS, toListN, zk_some, zpi, if_true, if_false, i10, C132 X _ _ G _ nv (show rfs M 2 (20, 0, 0) 0 = nI nv from m0) (by omega), h, q, C136, C128, j_1, w, j_0, k_0, j_99, k_99, g', C129_2, q_lt_m2_0, q_le_m2_0, q_eq_m2_0]
  obtain ⟨B', c40⟩ := C40 X 5 G s j p k hj hp (by omega)
  have wv : ∀ u, u < 10 → 0 ≤ (wtp nv np (bm M) j p k u).toInt := fun u hu => (wtp_0 vm (by omega) hp).2
  obtain ⟨b1, b2⟩ := bt_v wv 9 (by decide)
  have b1' : (bt (wtp nv np (bm M) j p k) 10).2 = wtp nv np (bm M) j p k (bt (wtp nv np (bm M) j p k) 10).1 := b1
  have b2' : (bt (wtp nv np (bm M) j p k) 10).1 < 10 := b2
  generalize hb : bt (wtp nv np (bm M) j p k) 10 = bb at c40 b1' b2'
  obtain ⟨best, most⟩ := bb
  dsimp only at c40 b1' b2'
  rcases (show l = 0 ∨ l = 1 by omega) with rfl | rfl
  · show okI X 93 195 [vI (nI j), vI (nI p), vI (nI k), vI 0] t M G
    have g' : inz 0 0 1 = 1 := rfl
    have s2 : sm M (cb M 3 B') := sm_cb (by decide)
    obtain ⟨N, l9, hs, c195⟩ := C195 X 3 (M := cb M 3 B') G vm f5 j p k 0 0 hj hp (by omega)
    rw [show bm (cb M 3 B') = bm M from rfl, hb] at c195
    refine ⟨nI best, cb M 3 B', G, N, G, ?_, ?_, Inv_c (sm_t s2 hs) (Nat.le_refl _) i⟩
    · simp only [E93, e93_0, e93_1, e93_4, e93_5, e93_8, e93_11, e93_12, e93_15, e93_16, e93_19, e93_22, e93_23, e93_24, e93_27, e93_28, e93_29, e93_30, e93_32, e93_35, e93_37, e93_39, e93_42, e93_43, e93_45, e93_48, e93_49, e93_51, e93_54, e93_56, e93_57, e93_60, e93_61, e93_63, e93_66, e93_67, e93_68, e93_71, e93_72, e93_75, e93_76, e93_77, e93_78, e93_81, e93_83, e93_85, e93_88, e93_90, e93_93, e93_94, e93_97, e93_98, e93_101, e93_102, e93_104, e93_105, e93_106, e93_109, zt0, zt1, zn3, not_false_eq_true, toListS, toListN, zk_some, zpi, if_true, if_false, i10, C2x X _ M G nv e2 n5, h, q, C118, w, j_0, k_0, j_99, k_99, q_lt_0_0, q_le_0_0, q_lt_0_1, q_le_0_1, q_eq_0_1, c40]
    · simp only [e195_0, e195_1, e195_2, e195_5, e195_8, e195_9, e195_10, e195_13, e195_16, e195_17, e195_18, e195_20, e195_23, e195_26, e195_27, e195_29, e195_31, e195_34, e195_36, e195_37, e195_38, e195_39, e195_42, e195_45, e195_47, e195_50, e195_52, e195_54, e195_56, e195_59, e195_60, e195_62, e195_65, e195_66, e195_67, e195_69, e195_70, e195_72, e195_73, E195, zt0, zt1, zn3, not_false_eq_true, toListS, toListN, zk_some, zpi, if_true, if_false, i10, C132 X _ _ G _ nv (show cb M 3 B' (20, 0, 0) 0 = nI nv from m0) (by omega), h, q, C136, C128, j_1, w, j_0, k_0, j_99, k_99, g']
      refine Eq.trans c195 ?_
      simp only [e195_152, e195_154, e195_157, e195_159, e195_162, e195_164, zt0, zt1, zn3, not_false_eq_true, toListS, toListN, zk_some, zpi, if_true, if_false, i10]
  · show okI X 93 195 [vI (nI j), vI (nI p), vI (nI k), vI 1] t M G
    have g' : inz 1 0 1 = 1 := rfl
    obtain ⟨B2, c41⟩ := C41 X 6 G s B' j p k best hj hp (by omega) (by omega)
    have s2 : sm M (cb M 3 B2) := sm_cb (by decide)
    obtain ⟨N, l9, hs, c195⟩ := C195 X 3 (M := cb M 3 B2) G vm f5 j p k 1 0 hj hp (by omega)
    rw [show bm (cb M 3 B2) = bm M from rfl, hb] at c195
    refine ⟨most, cb M 3 B2, G, N, G, ?_, ?_, Inv_c (sm_t s2 hs) (Nat.le_refl _) i⟩
    · rw [b1']
      simp only [E93, e93_0, e93_1, e93_4, e93_5, e93_8, e93_11, e93_12, e93_15, e93_16, e93_19, e93_22, e93_23, e93_24, e93_27, e93_28, e93_29, e93_30, e93_32, e93_35, e93_37, e93_39, e93_42, e93_43, e93_45, e93_48, e93_49, e93_51, e93_54, e93_56, e93_57, e93_60, e93_61, e93_63, e93_66, e93_67, e93_68, e93_71, e93_72, e93_75, e93_76, e93_77, e93_78, e93_81, e93_83, e93_85, e93_88, e93_90, e93_93, e93_94, e93_97, e93_98, e93_101, e93_102, e93_104, e93_105, e93_106, e93_109, zt0, zt1, zn3, not_false_eq_true, toListS, toListN, zk_some, zpi, if_true, if_false, i10, C2x X _ M G nv e2 n5, h, q, C118, w, j_0, k_0, j_99, k_99, q_lt_1_0, q_le_1_0, q_eq_1_0, q_lt_1_1, q_le_1_1, c40, c41]
    · simp only [e195_0, e195_1, e195_2, e195_5, e195_8, e195_9, e195_10, e195_13, e195_16, e195_17, e195_18, e195_20, e195_23, e195_26, e195_27, e195_29, e195_31, e195_34, e195_36, e195_37, e195_38, e195_39, e195_42, e195_45, e195_47, e195_50, e195_52, e195_54, e195_56, e195_59, e195_60, e195_62, e195_65, e195_66, e195_67, e195_69, e195_70, e195_72, e195_73, E195, zt0, zt1, zn3, not_false_eq_true, toListS, toListN, zk_some, zpi, if_true, if_false, i10, C132 X _ _ G _ nv (show cb M 3 B2 (20, 0, 0) 0 = nI nv from m0) (by omega), h, q, C136, C128, j_1, w, j_0, k_0, j_99, k_99, g']
      refine Eq.trans c195 ?_
      simp only [e195_152, e195_154, e195_157, e195_159, e195_162, e195_164, zt0, zt1, zn3, not_false_eq_true, toListS, toListN, zk_some, zpi, if_true, if_false, i10]
