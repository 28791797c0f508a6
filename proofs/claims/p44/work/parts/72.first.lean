/-! THE LAW, first: water of all, before and behind *passes*; then the image is back -/
/-- what stands once the image is back -/
def PH (M : zM) (n m : Nat) : Prop := vb (gb M 0) n m ∧ M (0, 0, 0) 6 = 0 ∧ M (6, 0, 0) 2 = 1 ∧ vb (gb M 1) n m ∧ M (0, 1, 0) 5 = 0 ∧ M (4, 2, 0) 1 = -1
theorem PH_sm {M M' : zM} {n m : Nat} (h : sm M M') (p : PH M n m) : PH M' n m := by
  obtain ⟨p1, p2, p3, p4, p5, p6⟩ := p
  exact ⟨by rw [gb_c (by decide) h]; exact p1, (h _ _ rfl).trans p2, (h _ _ rfl).trans p3, by rw [gb_c (by decide) h]; exact p4, (h _ _ rfl).trans p5, (h _ _ rfl).trans p6⟩
theorem PH_s {M : zM} {n m : Nat} (p : PH M n m) : ST M n m := ST_h p.1 p.2.1
theorem law_A {X : Nat × (Nat → Int32) × Value} (hx : X.1 ≤ 260) (c1 c2 : Nat) (h1 : c1 ≤ 600000) (h2 : c2 ≤ 7302250) (G : zG) {M : zM} {n m : Nat} (n2 : 2 ≤ n) (n3 : n ≤ 3) (m1 : 1 ≤ m) (m3 : m ≤ 3) (b : BI M n m) : ∃ M' N a5 a6, PH M' n m ∧ 1 ≤ N ∧ N ≤ 16 ∧ zw X c1 c2 9 243 5 [vR (50, 0, 0), vR (6, 0, 0), vN, vN, vN, vN, vN, vN, vN, vN, vN, vN, vN, vN, vN, vN, vN, vN, vN, vN, vN, vN, vN, vN, vN, vN] [] (hh M G) = zw X c1 c2 9 243 100 [vR (50, 0, 0), vR (6, 0, 0), vI (nI n), vI (nI m), vI (nI N), vI a5, vI a6, vI (nI n), vN, vN, vN, vN, vN, vN, vN, vN, vN, vN, vN, vN, vN, vN, vN, vN, vN, vN] [] (hh M' G) := by
  obtain ⟨b1, b2, b3, b4, b6⟩ := b
  have s := ST_h b1 b2
  obtain ⟨k, q, e⟩ := and_n (atv X 7) 15 (by decide)
  have e : atv X 7 &&& 15 = nI k := e
  obtain ⟨N, hN, N1, N2⟩ : ∃ N, N = 1 + k ∧ 1 ≤ N ∧ N ≤ 16 := ⟨_, rfl, by omega, by omega⟩
  have a7 : ∀ h, zd X 8 240 [vR (50, 0, 0), vI 7] h = some (some (vI (atv X 7)), h) := fun h => C240 X hx 8 h 7 (by decide)
  have y0 := Y113_0 X M G s
  have y1 := Y113_1 X M G s
  have y100 := Y100 X M G s
  have L := zlf (n := n) (f := fun v => zw X c1 c2 9 243 42 [vR (50, 0, 0), vR (6, 0, 0), vI (nI n), vI (nI m), vI (nI N), vI (sal (vw M 0) (M (0, 0, 0) 4) n), vI (tpi (vw M 0) v), vI (nI v), vN, vN, vN, vN, vN, vN, vN, vN, vN, vN, vN, vN, vN, vN, vN, vN, vN, vN] [] (hh M G)) (fun v hv w ew => by
    have o4 := Y82_4_8 X M G s.1 s.2.2.1 v hv
    simp only [e243_42, e243_44, e243_45, nle (show n < 2 ^ 31 by omega) (show v < 2 ^ 31 by omega)]
    rw [if_neg (by omega)]
    simp only [e243_48, e243_50, e243_51, e243_53, e243_54, e243_57, e243_58, e243_60, e243_63, h1, h2, toListS, toListN, zk_some, o4, nI_1]
    exact ew) n 0 (by omega)
  rw [nI_0, show tpi (vw M 0) 0 = 0 from rfl] at L
  -- image
  have y111 := Y111 X M G s
  generalize hM1 : u2 (cb M 1 (cpB n m (gb M 1) (gb M 0))) (6, 0, 0) 2 1 = M1 at y111
  have g10 : gb M1 0 = gb M 0 := by rw [← hM1, gb_u2 (by decide), cb_o (by decide)]
  have g11 : gb M1 1 = cpB n m (gb M 1) (gb M 0) := by rw [← hM1, gb_u2 (by decide), gb_cb]
  have o16 : M1 (0, 0, 0) 6 = 0 := (congrArg (fun B : zB => B.1 6) g10).trans b2
  have k16 : M1 (6, 0, 0) 2 = 1 := by rw [← hM1]; exact u2_same
  have l12 : M1 (4, 2, 0) 1 = -1 := by rw [← hM1]; exact b6
  have s1 : ST M1 n m := ST_h (by rw [g10]; exact b1) o16
  -- passes
  have y81 := Y81 X M1 G s1 N N1 (by omega)
  have vB := bst_v b1 N
  have aT := all_t b1 (show ((gb M 0).1 4).toInt = 0 by rw [show (gb M 0).1 4 = 0 from b3]; rfl) N (by omega)
  rw [g10] at y81
  generalize hM2 : cb M1 0 (bst n m (gb M 0) N) = M2 at y81
  have g20 : gb M2 0 = bst n m (gb M 0) N := by rw [← hM2, gb_cb]
  have g21 : gb M2 1 = cpB n m (gb M 1) (gb M 0) := by rw [← hM2, cb_o (by decide), g11]
  have o26 : M2 (0, 0, 0) 6 = 0 := (congrArg (fun B : zB => B.1 6) g20).trans ((bst_6 N).trans b2)
  have k26 : M2 (6, 0, 0) 2 = 1 := by rw [← hM2]; exact k16
  have l22 : M2 (4, 2, 0) 1 = -1 := by rw [← hM2]; exact l12
  have s2 : ST M2 n m := ST_h (by rw [g20]; exact vB) o26
  have y100b := Y100 X M2 G s2
  have eA : sal (vw M2 0) (M2 (0, 0, 0) 4) n = sal (vw M 0) (M (0, 0, 0) 4) n + nI N * tpi (vw M 0) n := by
    rw [show vw M2 0 = (gb M2 0).2.1 from rfl, show M2 (0, 0, 0) 4 = (gb M2 0).1 4 from rfl, g20, aT]
    rfl
  rw [eA] at y100b
  -- on
  have cg : ag n m (gb M 0) (cpB n m (gb M 1) (gb M 0)) := cpB_ag b2
  have v1 : vb (cpB n m (gb M 1) (gb M 0)) n m := ag_v b2 cg b1
  have y112 := Y112 X M2 G (by rw [g21]; exact v1) k26
  generalize hM3 : cb M2 0 (cpB n m (gb M2 0) (gb M2 1)) = M3 at y112
  have g30 : gb M3 0 = cpB n m (gb M2 0) (gb M2 1) := by rw [← hM3, gb_cb]
  have g31 : gb M3 1 = gb M2 1 := by rw [← hM3, cb_o (by decide)]
  have c26 : (gb M2 1).1 6 = 0 := by rw [g21]; rfl
  have p : PH M3 n m := by
    refine ⟨?_, ?_, ?_, ?_, ?_, ?_⟩
    · rw [g30]
      exact ag_v c26 (cpB_ag c26) (by rw [g21]; exact v1)
    · show (gb M3 0).1 6 = 0
      rw [g30]
      rfl
    · rw [← hM3]; exact k26
    · rw [g31, g21]; exact v1
    · show (gb M3 1).1 5 = 0
      rw [g31, g21]
      exact b4
    · rw [← hM3]; exact l22
  refine ⟨M3, N, sal (vw M 0) (M (0, 0, 0) 4) n, tpi (vw M 0) n, p, N1, N2, ?_⟩
  simp only [e243_5, e243_6, e243_7, e243_10, e243_11, e243_12, e243_13, e243_16, e243_17, e243_18, e243_19, e243_21, e243_24, e243_26, e243_27, e243_28, e243_30, e243_31, e243_34, e243_36, e243_37, e243_39, e243_40, h1, h2, toListS, toListN, zk_some, y0, y1, a7, e, p1n, ← hN, y100]
  refine Eq.trans L ?_
  simp only [e243_42, e243_44, e243_45, nle (show n < 2 ^ 31 by omega) (show n < 2 ^ 31 by omega)]
  rw [if_pos (Nat.le_refl _)]
  simp only [e243_66, e243_67, e243_70, e243_71, e243_72, e243_74, e243_77, e243_78, e243_79, e243_82, e243_84, e243_86, e243_88, e243_89, e243_90, h1, h2, toListS, toListN, zk_some, y111, y81, y100b]
  rw [if_pos trivial]
  simp only [e243_95, e243_96, e243_99, h1, h2, toListS, toListN, zk_some, y112]
/-! odds, and what runs over -/
theorem frac_t {c T : Nat} (h : c ≤ T) (hT : 0 < T) : ∃ a b, c / Nat.gcd c T = a ∧ T / Nat.gcd c T = b ∧ 0 < b ∧ b ≤ T ∧ a ≤ b ∧ T % b = 0 ∧ (0 < c → 0 < a) ∧ (c < T → a < b) := by
  have hg : 0 < Nat.gcd c T := Nat.gcd_pos_of_pos_right c hT
  obtain ⟨a, ha⟩ := Nat.gcd_dvd_left c T
  obtain ⟨b, hb⟩ := Nat.gcd_dvd_right c T
  generalize Nat.gcd c T = g at *
  have ea : c / g = a := by rw [ha, Nat.mul_div_cancel_left _ hg]
  have eb : T / g = b := by rw [hb, Nat.mul_div_cancel_left _ hg]
  have b0 : 0 < b := Nat.pos_of_ne_zero fun e => by rw [e, Nat.mul_zero] at hb; omega
  refine ⟨a, b, ea, eb, b0, ?_, ?_, ?_, fun q => ?_, fun q => ?_⟩
  · rw [← eb]; exact Nat.div_le_self _ _
  · rw [← ea, ← eb]; exact Nat.div_le_div_right h
  · rw [hb]; exact Nat.mul_mod_left g b
  · exact Nat.pos_of_ne_zero fun e => by rw [e, Nat.mul_zero] at ha; omega
  · rw [ha, hb] at q
    exact Nat.lt_of_mul_lt_mul_left q
/-- which of them run over in the next STEP, one after another -/
def ovr (Q : Nat → Int32) : Nat → Int32
  | 0 => 0
  | v + 1 => ovr Q v ||| (if Q v = 1 then 1 else 0)
theorem ovr_t (Q : Nat → Int32) : ∀ n, (ovr Q n = 0 ∧ ¬ ∃ j, j < n ∧ Q j = 1) ∨ (ovr Q n = 1 ∧ ∃ j, j < n ∧ Q j = 1) := by
  intro n
  induction n with
  | zero => exact .inl ⟨rfl, fun ⟨j, hj, _⟩ => absurd hj (Nat.not_lt_zero j)⟩
  | succ n ih =>
    show (ovr Q n ||| (if Q n = 1 then 1 else 0) = 0 ∧ _) ∨ (ovr Q n ||| (if Q n = 1 then 1 else 0) = 1 ∧ _)
    by_cases q : Q n = 1
    · rw [if_pos q]
      refine .inr ⟨?_, n, Nat.lt_succ_self n, q⟩
      rcases ih with ⟨e, -⟩ | ⟨e, -⟩ <;> rw [e] <;> decide
    · rw [if_neg q]
      rcases ih with ⟨e, f⟩ | ⟨e, j, hj, f⟩
      · refine .inl ⟨by rw [e]; decide, fun ⟨j, hj, g⟩ => ?_⟩
        by_cases c : j = n
        · rw [c] at g; exact q g
        · exact f ⟨j, by omega, g⟩
      · exact .inr ⟨by rw [e]; decide, j, by omega, f⟩
theorem law_B {X : Nat × (Nat → Int32) × Value} (hx : X.1 ≤ 260) (c1 c2 : Nat) (h1 : c1 ≤ 600000) (h2 : c2 ≤ 7302250) (G : zG) {M : zM} {n m N : Nat} {a5 a6 a7 : Int32} (n2 : 2 ≤ n) (n3 : n ≤ 3) (m1 : 1 ≤ m) (m3 : m ≤ 3) (N2 : N ≤ 16) (p : PH M n m) : ∃ M' t a b x15, sm M M' ∧ zw X c1 c2 9 243 100 [vR (50, 0, 0), vR (6, 0, 0), vI (nI n), vI (nI m), vI (nI N), vI a5, vI a6, vI a7, vN, vN, vN, vN, vN, vN, vN, vN, vN, vN, vN, vN, vN, vN, vN, vN, vN, vN] [] (hh M G) = zw X c1 c2 9 243 262 [vR (50, 0, 0), vR (6, 0, 0), vI (nI n), vI (nI m), vI (nI N), vI a5, vI a6, vI ((bst n m (gb M 0) N).1 4), vI (nI t), vL (lI a), vN, vL (lI b), vN, vL (lI (t ^ m)), vN, vI x15, vI (nI n), vN, vN, vN, vN, vN, vN, vN, vN, vN] [] (hh M' G) := by
  have s := PH_s p
  have B6 : (gb M 0).1 6 = 0 := p.2.1
  obtain ⟨M1, f1, y86⟩ := Y86_2 X M G s N (by omega)
  obtain ⟨k, q, e⟩ := and_n (atv X 7 >>> (4 &&& 31)) 3 (by decide)
  have e : atv X 7 >>> (4 &&& 31) &&& 3 = nI k := e
  obtain ⟨t, ht, t2, t5⟩ : ∃ t, t = 2 + k ∧ 2 ≤ t ∧ t ≤ 5 := ⟨_, rfl, by omega, by omega⟩
  have a7 : ∀ h, zd X 8 240 [vR (50, 0, 0), vI 7] h = some (some (vI (atv X 7)), h) := fun h => C240 X hx 8 h 7 (by decide)
  obtain ⟨M2, f2, y99⟩ := Y99 X M1 G (PH_s (PH_sm f1 p)) t 0 t2 (by omega) (by decide)
  rw [gb_c (by decide) f1, nI_0] at y99
  have f12 := sm_t f1 f2
  obtain ⟨M3, f3, y99b⟩ := Y99 X M2 G (PH_s (PH_sm f12 p)) t 1 t2 (by omega) (by decide)
  rw [gb_c (by decide) f12, ← n1] at y99b
  have f13 := sm_t f12 f3
  have T0 : 0 < t ^ m := Nat.pow_pos (by omega)
  have Tb : ∀ j, j ≤ m → t ^ j ≤ 125 := fun j hj => Nat.le_trans (Nat.pow_le_pow_left t5 j) (Nat.le_trans (Nat.pow_le_pow_right (by decide) (show j ≤ 3 by omega)) (by decide))
  have Tm := Tb m (Nat.le_refl _)
  obtain ⟨o1, o2, o3⟩ := odds_t (nv := n) B6 t2 (by omega) (show m < 4 by omega)
  obtain ⟨a, b, ea, eb, b0, bT, ab, rb, g1, g2⟩ := frac_t o1 T0
  have pa : prt (cas n m (gb M 0) t 1 (2 ^ m)) (t ^ m) 0 = lI a := by rw [← ea]; exact if_pos rfl
  have pb : prt (cas n m (gb M 0) t 1 (2 ^ m)) (t ^ m) 1 = lI b := by rw [← eb]; exact if_neg (by decide)
  rw [pa] at y99
  rw [pb] at y99b
  have L := zlf (n := m) (f := fun k => zw X c1 c2 9 243 150 [vR (50, 0, 0), vR (6, 0, 0), vI (nI n), vI (nI m), vI (nI N), vI a5, vI a6, vI ((bst n m (gb M 0) N).1 4), vI (nI t), vL (lI a), vN, vL (lI b), vN, vL (lI (t ^ k)), vN, vI (nI k), vN, vN, vN, vN, vN, vN, vN, vN, vN, vN] [] (hh M3 G)) (fun k hk w ew => by
    simp only [e243_150, e243_152, e243_153, nle (show m < 2 ^ 31 by omega) (show k < 2 ^ 31 by omega)]
    rw [if_neg (by omega)]
    simp only [e243_156, e243_158, e243_160, e243_161, e243_162, e243_164, e243_167, n_L (show t < 2 ^ 31 by omega), lI_mul, nI_1]
    exact ew) m 0 (by omega)
  rw [nI_0, show lI (t ^ 0) = 1 from rfl] at L
  obtain ⟨M4, f4, L2⟩ := zlr (σ := zM) (n := n) (f := fun v z => zw X c1 c2 9 243 203 [vR (50, 0, 0), vR (6, 0, 0), vI (nI n), vI (nI m), vI (nI N), vI a5, vI a6, vI ((bst n m (gb M 0) N).1 4), vI (nI t), vL (lI a), vN, vL (lI b), vN, vL (lI (t ^ m)), vN, vI (ovr (fun j => fnd (Qov n m (gb M 0) (nI j)) 1 200) v), vI (nI v), vN, vN, vN, vN, vN, vN, vN, vN, vN] [] (hh z G)) (P := fun _ z => sm M z) (fun v z hv hz => by
    obtain ⟨z', fz, y87⟩ := Y87 X z G (PH_s (PH_sm hz p)) v hv
    rw [gb_c (by decide) hz] at y87
    refine ⟨z', sm_t hz fz, fun w ew => ?_⟩
    simp only [e243_203, e243_205, e243_206, nle (show n < 2 ^ 31 by omega) (show v < 2 ^ 31 by omega)]
    rw [if_neg (by omega)]
    simp only [e243_209, e243_211, e243_212, e243_214, e243_217, e243_218, h1, h2, toListS, toListN, zk_some, y87]
    by_cases c : fnd (Qov n m (gb M 0) (nI v)) 1 200 = 1
    · rw [if_pos c]
      simp only [e243_221, e243_222, e243_226, e243_227, e243_229, e243_232, nI_1]
      simp only [ovr, if_pos c] at ew
      exact ew
    · rw [if_neg c]
      simp only [e243_225, e243_226, e243_227, e243_229, e243_232, nI_1]
      simp only [ovr, if_neg c] at ew
      exact ew) n 0 M3 (by omega) f13
  rw [nI_0, show ovr (fun j => fnd (Qov n m (gb M 0) (nI j)) 1 200) 0 = 0 from rfl] at L2
  have ia : (lI a).toInt = a := lI_int (by omega)
  have ib : (lI b).toInt = b := lI_int (by omega)
  have i0 : (0 : Int64).toInt = 0 := rfl
  have t1 : ¬ lg_cmp (lI a) 0 < 0 := by rw [lg_n, ia, i0]; omega
  have t3 : ¬ 0 < lg_cmp (lI a) (lI b) := by rw [lg_p, ia, ib]; omega
  have zb : ¬ lI b = 0 := lI_ne (by omega) (by omega)
  have rm : lI (t ^ m) - lI (t ^ m) / lI b * lI b = 0 := by rw [lI_mod (by omega) (by omega), rb]; rfl
  have t4 : lg_cmp 0 0 = 0 := by rw [lg_z]
  refine ⟨M4, t, a, b, ovr (fun j => fnd (Qov n m (gb M 0) (nI j)) 1 200) n, f4, ?_⟩
  simp only [e243_100, e243_101, e243_103, e243_104, e243_105, e243_108, e243_110, e243_111, e243_112, e243_114, e243_117, e243_118, e243_119, e243_120, e243_121, e243_122, e243_124, e243_125, e243_127, e243_128, e243_129, e243_132, e243_134, e243_135, e243_137, e243_138, e243_139, e243_142, e243_144, e243_145, e243_147, e243_148, h1, h2, toListS, toListN, zk_some, y86, a7, e, p2n, ← ht, y99, y99b]
  refine Eq.trans L ?_
  simp only [e243_150, e243_152, e243_153, nle (show m < 2 ^ 31 by omega) (show m < 2 ^ 31 by omega)]
  rw [if_pos (Nat.le_refl _)]
  simp only [e243_170, e243_172, e243_173, e243_174]
  rw [if_neg t1]
  simp only [e243_177, e243_179, e243_181, e243_182]
  rw [if_neg t3]
  simp only [e243_185, e243_187, e243_189, e243_190, e243_191, e243_192, zb, not_false_eq_true, rm, t4, if_true]
  simp only [e243_197, e243_198, e243_200, e243_201]
  refine Eq.trans L2 ?_
  simp only [e243_203, e243_205, e243_206, nle (show n < 2 ^ 31 by omega) (show n < 2 ^ 31 by omega)]
  rw [if_pos (Nat.le_refl _)]
  simp only [e243_235, e243_237]
  rcases ovr_t (fun j => fnd (Qov n m (gb M 0) (nI j)) 1 200) n with ⟨u, w⟩ | ⟨u, w⟩
  · rw [if_pos u]
    simp only [e243_247, e243_249]
    rw [if_pos u]
    simp only [e243_252, e243_254, e243_256, e243_257]
    have c := g2 (o3 (fun q => w ((over_t n3).mp q)))
    have t6 : ¬ lg_cmp (lI a) (lI b) = 0 := by rw [lg_z, ia, ib]; omega
    rw [if_neg t6]
  · have u0 : ¬ ovr (fun j => fnd (Qov n m (gb M 0) (nI j)) 1 200) n = 0 := by rw [u]; decide
    rw [if_neg u0]
    simp only [e243_240, e243_242, e243_243, e243_244]
    have c := g1 (o2 ((over_t n3).mpr w))
    have t6 : ¬ lg_cmp (lI a) 0 = 0 := by rw [lg_z, ia, i0]; omega
    rw [if_neg t6]
    simp only [e243_247, e243_249]
    rw [if_neg u0]
