/-! dry, meets -/
theorem C2b (X : Nat × (Nat → Int32) × Value) (d : Nat) (M : zM) (G : zG) (b nv : Nat) (h2 : M (0, b, 0) 2 = nI nv) (h5 : nv ≤ 5) (x : Int32) : zd X d 2 [vR (0, b, 0), vI x] (hh M G) = some (some (vI (isx nv x)), hh M G) := by rw [C2, sHv_x h2 h5]
theorem C3b (X : Nat × (Nat → Int32) × Value) (d : Nat) (M : zM) (G : zG) (b np : Nat) (h3 : M (0, b, 0) 3 = nI np) (h8 : np ≤ 8) (x : Int32) : zd X d 3 [vR (0, b, 0), vI x] (hh M G) = some (some (vI (isx np x)), hh M G) := by rw [C3, sHp_x h3 h8]
def Qdr (nv np : Nat) (B : zB) (j s : Nat) : Bool := decide ((bst nv np B s).2.1 j 3 = 0)
theorem L33 (X : Nat × (Nat → Int32) × Value) (d : Nat) (M : zM) (G : zG) (nv np : Nat) (B : zB) (h : vb B nv np) (j : Nat) (hj : j < nv) : ∀ (m i : Nat), i + m = 201 → ∃ B', zx X (d + 4) 33 10 [vR (2, 0, 0), vR (0, 0, 0), vI (nI j), vI (nI i)] [] (hh (cb M 3 (bst nv np B i)) G) = some (some (vI (fnd (Qdr nv np B j) i m)), hh (cb M 3 B') G) := by
  intro m
  induction m with
  | zero =>
    intro i hi
    have : i = 201 := by omega
    subst this
    refine ⟨bst nv np B 201, ?_⟩
    simp only [e33_10, e33_11, e33_14]
    rw [if_pos (by decide)]
    simp only [e33_58, e33_60]
    rfl
  | succ m ih =>
    intro i hi
    have hlt : ¬ (200 : Int32) < nI i := by rw [i_lt, nI_int (by omega), show (200 : Int32).toInt = 200 from rfl]; omega
    have hb := bst_v h i
    have st := B11 X d M G 3 (bst nv np B i) nv np hb
    have g2 : cb M 3 (bst nv np B i) (0, 3, 0) 2 = nI nv := hb.1.1
    have g3 : cb M 3 (bst nv np B i) (0, 3, 0) 3 = nI np := hb.1.2.1
    have n5 : nv ≤ 5 := hb.1.2.2.1
    have n8 : np ≤ 8 := hb.1.2.2.2.1
    obtain ⟨B', ih'⟩ := ih (i + 1) (by omega)
    simp only [e33_10, e33_11, e33_14]
    rw [if_neg hlt]
    simp only [e33_17, e33_18, e33_21, e33_22, e33_25, e33_28, e33_29, e33_32, e33_35, e33_36, e33_37, e33_40, zt0, zt1, zn3, not_false_eq_true, toListS, toListN, zk_some, zpi, if_true, if_false, i10, cb_S, cb_V, cb_P, C2b X _ _ G 3 nv g2 n5, isx_y hj (show nv < 2 ^ 31 by omega), zin_nI (show j < 5 by omega) (show 5 < 2 ^ 31 by decide), nI_clamp (show j < 2 ^ 31 by omega)]
    by_cases q : (bst nv np B i).2.1 j 3 = 0
    · refine ⟨bst nv np B i, ?_⟩
      have q' : (Qdr nv np B j) i = true := decide_eq_true q
      unfold fnd
      rw [if_pos q']
      refine Eq.trans (if_pos q) ?_
      simp only [e33_43, e33_44, zt0, zt1, zn3, not_false_eq_true, toListS, toListN, zk_some, zpi]
    · refine ⟨B', ?_⟩
      have q' : ¬ (Qdr nv np B j) i = true := fun e => q (of_decide_eq_true e)
      unfold fnd
      rw [if_neg q']
      refine Eq.trans (if_neg q) ?_
      simp only [e33_45, e33_46, e33_49, e33_52, e33_55, zt0, zt1, zn3, not_false_eq_true, toListS, toListN, zk_some, zpi, st, nI_1]
      exact ih'
theorem L184 (X : Nat × (Nat → Int32) × Value) (d : Nat) (M : zM) (G : zG) (nv np : Nat) (B : zB) (h : vb B nv np) (h6 : B.1 6 = 0) (j : Nat) (hj : j < nv) : ∀ (m i : Nat) (R : Nat → Int32), i + m = 201 → R 5 = 0 → ∃ B' R' l3, R' 3 = R 3 ∧ R' 8 = R 8 ∧ zx X (d + 8) 184 23 [vR (7, 0, 0), vI (nI j), vI (-9), vI (nI i)] [] (hh (mb M (bst nv np B i) R) G) = zx X (d + 8) 184 65 [vR (7, 0, 0), vI (nI j), vI (fnd (Qdr nv np B j) i m), vI l3] [] (hh (mb M B' R') G) := by
  intro m
  induction m with
  | zero =>
    intro i R hi hR
    have : i = 201 := by omega
    subst this
    refine ⟨bst nv np B 201, R, nI 201, rfl, rfl, ?_⟩
    simp only [e184_23, e184_24, e184_27]
    rw [if_pos (by decide)]
    rfl
  | succ m ih =>
    intro i R hi hR
    have hlt : ¬ (200 : Int32) < nI i := by rw [i_lt, nI_int (by omega), show (200 : Int32).toInt = 200 from rfl]; omega
    have hb := bst_v h i
    have st := B148 X d M G (bst nv np B i) R nv np hb (by rw [hR, bst_6, h6])
    have n5 : nv ≤ 5 := hb.1.2.2.1
    have n8 : np ≤ 8 := hb.1.2.2.2.1
    obtain ⟨B', R', l3, r3, r8, ih'⟩ := ih (i + 1) (uS R 6 ((stp nv np (bst nv np B i)).1 8)) (by omega) ((uS_n (by decide)).trans hR)
    by_cases q : (bst nv np B i).2.1 j 3 = 0
    · have q' : (Qdr nv np B j) i = true := decide_eq_true q
      refine ⟨stp nv np (bst nv np B i), uS R 6 ((stp nv np (bst nv np B i)).1 8), nI (i + 1), rfl, rfl, ?_⟩
      unfold fnd
      rw [if_pos q']
      simp only [e184_23, e184_24, e184_27]
      rw [if_neg hlt]
      simp only [e184_30, e184_31]
      rw [if_neg (by decide)]
      simp only [e184_34, e184_35, e184_38, e184_39, e184_42, e184_43, e184_44, e184_45, zt0, zt1, zn3, not_false_eq_true, toListS, toListN, zk_some, zpi, if_true, if_false, i10, mb_R, mb_0, mb_1, mb_2, mb_3, C134, niV, ni3, wV (show j < 5 by omega) (show 3 < 5 by decide), cV (show j < 5 by omega) (show 3 < 5 by decide), mb_V (show j < 5 by omega) (show 3 < 5 by decide)]
      refine Eq.trans (if_pos q) ?_
      have hl2 : (200 : Int32) < nI (i + 1) ∨ ¬ (200 : Int32) < nI (i + 1) := Classical.em _
      have hge : 0 ≤ nI i := by rw [i_le, nI_int (by omega), show (0 : Int32).toInt = 0 from rfl]; omega
      simp only [e184_48, e184_49, e184_54, e184_55, e184_56, e184_59, e184_62, zt0, zt1, zn3, not_false_eq_true, toListS, toListN, zk_some, zpi, st, nI_1]
      simp only [e184_23, e184_24, e184_27]
      rcases hl2 with hl2 | hl2
      · rw [if_pos hl2]
      · rw [if_neg hl2]
        simp only [e184_30, e184_31]
        rw [if_pos hge]
    · have q' : ¬ (Qdr nv np B j) i = true := fun e => q (of_decide_eq_true e)
      refine ⟨B', R', l3, r3, r8, ?_⟩
      unfold fnd
      rw [if_neg q']
      simp only [e184_23, e184_24, e184_27]
      rw [if_neg hlt]
      simp only [e184_30, e184_31]
      rw [if_neg (by decide)]
      simp only [e184_34, e184_35, e184_38, e184_39, e184_42, e184_43, e184_44, e184_45, zt0, zt1, zn3, not_false_eq_true, toListS, toListN, zk_some, zpi, if_true, if_false, i10, mb_R, mb_0, mb_1, mb_2, mb_3, C134, niV, ni3, wV (show j < 5 by omega) (show 3 < 5 by decide), cV (show j < 5 by omega) (show 3 < 5 by decide), mb_V (show j < 5 by omega) (show 3 < 5 by decide)]
      refine Eq.trans (if_neg q) ?_
      simp only [e184_52, e184_54, e184_55, e184_56, e184_59, e184_62, zt0, zt1, zn3, not_false_eq_true, toListS, toListN, zk_some, zpi, st, nI_1]
      exact ih'
theorem C33 (X : Nat × (Nat → Int32) × Value) (d : Nat) {M : zM} (G : zG) {nv np : Nat} (s : ST M nv np) (j : Nat) (hj : j < nv) : ∃ B', zd X (d + 4) 33 [vR (2, 0, 0), vR (0, 0, 0), vI (nI j)] (hh M G) = some (some (vI (fnd (Qdr nv np (bc M nv np) j) 0 201)), hh (cb M 3 B') G) := by
  have vc := s.2.2.2.2.2.2.2.2.2.2.1
  obtain ⟨B', l⟩ := L33 X d M G nv np (bc M nv np) vc j hj 201 0 (by omega)
  refine ⟨B', ?_⟩
  rw [nI_0] at l
  simp only [E33, e33_0, e33_1, e33_4, e33_5, e33_8, e33_9, zt0, zt1, zn3, not_false_eq_true, toListS, toListN, zk_some, zpi, T1 X _ G s]
  exact l
theorem K15 (X : Nat × (Nat → Int32) × Value) (t : Nat) (M : zM) (G : zG) (x : Int32) (i : Inv t M) : okI X 88 184 [vI x] t M G := by
  obtain ⟨nv, np, s⟩ := ST_of i
  have s' := s
  obtain ⟨n5, n8, e2, e3, m0, m1, v, o6, f5, a, vc, ac, vm⟩ := s'
  rcases isx_c (n := nv) x (by omega) with ⟨h, -⟩ | ⟨j, hj, rfl, h⟩
  · refine ⟨-1, rfs M 1, G, rfm (rfs M 1) 1, G, ?_, ?_, Inv_rf i⟩
    · simp only [E88, e88_0, e88_1, e88_4, e88_5, e88_8, e88_11, e88_12, e88_15, e88_16, e88_19, e88_20, e88_23, e88_26, e88_27, e88_28, e88_31, zt0, zt1, zn3, not_false_eq_true, toListS, toListN, zk_some, zpi, if_true, if_false, i10, C2x X _ M G nv e2 n5, h, C114_1, q_lt_m1_0, q_le_m1_0, q_eq_m1_0]
    · simp only [E184, e184_0, e184_1, e184_2, e184_5, e184_8, e184_9, e184_10, e184_13, e184_14, e184_16, e184_17, e184_18, e184_21, e184_22, e184_23, e184_24, e184_27, e184_30, e184_31, e184_34, e184_35, e184_38, e184_39, e184_42, e184_43, e184_44, e184_45, e184_48, e184_49, e184_52, e184_54, e184_55, e184_56, e184_59, e184_62, e184_65, e184_66, e184_69, e184_70, zt0, zt1, zn3, not_false_eq_true, toListS, toListN, zk_some, zpi, if_true, if_false, i10, C132 X _ _ G _ nv (show rfs M 1 (20, 0, 0) 0 = nI nv from m0) (by omega), h, C129_1, q_lt_m1_0, q_le_m1_0, q_eq_m1_0]
  · obtain ⟨B', cR⟩ := C33 X 7 G s j hj
    have s2 : sm M (cb M 3 B') := sm_cb (by decide)
    have m0' : cb M 3 B' (20, 0, 0) 0 = nI nv := m0
    have m1' : cb M 3 B' (20, 0, 0) 1 = nI np := m1
    obtain ⟨B2, R2, l3, r3, r8, l⟩ := L184 X 4 (cpK (cb M 3 B') (20, 0, 0) (21, 0, 0) 93) G nv np (bm M) vm rfl j hj 201 0 (cb M 3 B' (7, 0, 0)) (by omega) f5
    refine ⟨fnd (Qdr nv np (bc M nv np) j) 0 201, cb M 3 B', G, u2 (cpK (mb (cpK (cb M 3 B') (20, 0, 0) (21, 0, 0) 93) B2 R2) (21, 0, 0) (20, 0, 0) 93) (7, 0, 0) 5 0, G, ?_, ?_, Inv_c (sm_t s2 (sm_back r3 f5 r8)) (Nat.le_refl _) i⟩
    · simp only [E88, e88_0, e88_1, e88_4, e88_5, e88_8, e88_11, e88_12, e88_15, e88_16, e88_19, e88_20, e88_23, e88_26, e88_27, e88_28, e88_31, zt0, zt1, zn3, not_false_eq_true, toListS, toListN, zk_some, zpi, if_true, if_false, i10, C2x X _ M G nv e2 n5, h, cR]
    · have e : fnd (Qdr nv np (bc M nv np) j) 0 201 = fnd (Qdr nv np (bm M) j) 0 201 := fnd_c _ _ fun k _ _ => by
        unfold Qdr
        rw [(bst_c vc ac k).2.1 j 3 hj (by decide)]
      have eb : bm (cb M 3 B') = bm M := rfl
      have t5 := T150 X 10 G (M := cb M 3 B')
      rw [eb] at t5
      rw [nI_0] at l
      rw [e]
      simp only [e184_0, e184_1, e184_2, e184_5, E184, zt0, zt1, zn3, not_false_eq_true, toListS, toListN, zk_some, zpi, if_true, if_false, i10, C132 X _ _ G _ nv m0' (by omega), h]
      simp only [e184_14, e184_16, e184_17, e184_18, e184_21, e184_22, zt0, zt1, zn3, not_false_eq_true, toListS, toListN, zk_some, zpi, t5]
      refine Eq.trans l ?_
      simp only [e184_65, e184_66, e184_69, e184_70, zt0, zt1, zn3, not_false_eq_true, toListS, toListN, zk_some, zpi, C151]
def Qme (nv np : Nat) (B : zB) (j c s : Nat) : Bool := decide (sHt (bst nv np B s).2.1 j * (bst nv np B s).2.1 c 0 - sHt (bst nv np B s).2.1 c * (bst nv np B s).2.1 j 0 = 0)
theorem i_sub0 {x y : Int32} : (x = y) = (x - y = 0) := propext ⟨fun e => by rw [e, Int32.sub_self], fun e => by
  have q := congrArg (· + y) e
  simpa using q⟩
theorem L44 (X : Nat × (Nat → Int32) × Value) (d : Nat) (M : zM) (G : zG) (nv np : Nat) (B : zB) (h : vb B nv np) (j c : Nat) (hj : j < nv) (hc : c < nv) : ∀ (m i : Nat), i + m = 201 → ∃ B', zx X (d + 4) 44 11 [vR (2, 0, 0), vR (0, 0, 0), vI (nI j), vI (nI c), vI (nI i)] [] (hh (cb M 3 (bst nv np B i)) G) = some (some (vI (fnd (Qme nv np B j c) i m)), hh (cb M 3 B') G) := by
  intro m
  induction m with
  | zero =>
    intro i hi
    have : i = 201 := by omega
    subst this
    refine ⟨bst nv np B 201, ?_⟩
    simp only [e44_11, e44_13, e44_16]
    rw [if_pos (by decide)]
    simp only [e44_81, e44_83]
    rfl
  | succ m ih =>
    intro i hi
    have hlt : ¬ (200 : Int32) < nI i := by rw [i_lt, nI_int (by omega), show (200 : Int32).toInt = 200 from rfl]; omega
    have hb := bst_v h i
    have st := B11 X d M G 3 (bst nv np B i) nv np hb
    have g2 : cb M 3 (bst nv np B i) (0, 3, 0) 2 = nI nv := hb.1.1
    have g3 : cb M 3 (bst nv np B i) (0, 3, 0) 3 = nI np := hb.1.2.1
    have n5 : nv ≤ 5 := hb.1.2.2.1
    have n8 : np ≤ 8 := hb.1.2.2.2.1
    have gbv : vw (cb M 3 (bst nv np B i)) 3 = (bst nv np B i).2.1 := cm_vw
    obtain ⟨B', ih'⟩ := ih (i + 1) (by omega)
    simp only [e44_11, e44_13, e44_16]
    rw [if_neg hlt]
    simp only [e44_19, e44_20, e44_23, e44_24, e44_27, e44_30, e44_31, e44_34, e44_35, e44_38, e44_41, e44_42, e44_45, e44_48, e44_49, e44_50, e44_51, e44_54, e44_57, e44_58, e44_59, e44_62, zt0, zt1, zn3, not_false_eq_true, toListS, toListN, zk_some, zpi, if_true, if_false, i10, cb_S, cb_V, cb_P, C2b X _ _ G 3 nv g2 n5, isx_y hj (show nv < 2 ^ 31 by omega), isx_y hc (show nv < 2 ^ 31 by omega), zin_nI (show j < 5 by omega) (show 5 < 2 ^ 31 by decide), nI_clamp (show j < 2 ^ 31 by omega), zin_nI (show c < 5 by omega) (show 5 < 2 ^ 31 by decide), nI_clamp (show c < 2 ^ 31 by omega), C71, gbv]
    by_cases q : sHt (bst nv np B i).2.1 j * (bst nv np B i).2.1 c 0 - sHt (bst nv np B i).2.1 c * (bst nv np B i).2.1 j 0 = 0
    · refine ⟨bst nv np B i, ?_⟩
      have q' : (Qme nv np B j c) i = true := decide_eq_true q
      unfold fnd
      rw [if_pos q']
      refine Eq.trans (if_pos q) ?_
      simp only [e44_65, e44_67, zt0, zt1, zn3, not_false_eq_true, toListS, toListN, zk_some, zpi]
    · refine ⟨B', ?_⟩
      have q' : ¬ (Qme nv np B j c) i = true := fun e => q (of_decide_eq_true e)
      unfold fnd
      rw [if_neg q']
      refine Eq.trans (if_neg q) ?_
      simp only [e44_68, e44_69, e44_72, e44_75, e44_78, zt0, zt1, zn3, not_false_eq_true, toListS, toListN, zk_some, zpi, st, nI_1]
      exact ih'
theorem C137b (X : Nat × (Nat → Int32) × Value) (d : Nat) (M : zM) (G : zG) (B : zB) (R : Nat → Int32) (j : Nat) (hj : j < 5) : zd X (d + 1) 137 [vR (7, 0, 0), vI (nI j)] (hh (mb M B R) G) = some (some (vI (sHt B.2.1 j)), hh (mb M B R) G) := C137 X d M G B.1 B.2.1 B.2.2 R j hj
theorem C200 (X : Nat × (Nat → Int32) × Value) (d : Nat) (M : zM) (G : zG) (B : zB) (R : Nat → Int32) (j c : Nat) (hj : j < 5) (hc : c < 5) : zd X (d + 2) 200 [vR (7, 0, 0), vI (nI j), vI (nI c)] (hh (mb M B R) G) = some (some (vI (if sHt B.2.1 j * B.2.1 c 0 - sHt B.2.1 c * B.2.1 j 0 = 0 then 1 else 0)), hh (mb M B R) G) := by
  simp only [E200, e200_0, e200_1, e200_2, e200_5, e200_6, e200_9, e200_10, e200_13, e200_14, e200_15, e200_16, e200_17, e200_18, e200_19, e200_22, e200_23, e200_26, e200_27, e200_30, e200_31, e200_32, e200_33, e200_34, e200_37, e200_38, e200_41, e200_42, zt0, zt1, zn3, not_false_eq_true, toListS, toListN, zk_some, zpi, if_true, if_false, i10, C137b, C134, niV, ni0, wV0, cV0, mb_V0, hj, hc]
  by_cases q : sHt B.2.1 j * B.2.1 c 0 = sHt B.2.1 c * B.2.1 j 0
  · rw [if_pos q, if_pos (i_sub0 ▸ q)]
  · rw [if_neg q, if_neg (i_sub0 ▸ q)]
theorem q10 {c : Prop} {iP : Decidable c} {α : Type} {iQ : Decidable (@ite Int32 c iP 1 0 = 0)} (a b : α) : @ite α (@ite Int32 c iP 1 0 = 0) iQ a b = @ite α c iP b a := by
  by_cases h : c
  · have e : ¬ @ite Int32 c iP 1 0 = 0 := by rw [if_pos h]; decide
    rw [if_neg e, if_pos h]
  · have e : @ite Int32 c iP 1 0 = 0 := by rw [if_neg h]
    rw [if_pos e, if_neg h]
theorem L201 (X : Nat × (Nat → Int32) × Value) (d : Nat) (M : zM) (G : zG) (nv np : Nat) (B : zB) (h : vb B nv np) (h6 : B.1 6 = 0) (j c : Nat) (hj : j < nv) (hc : c < nv) : ∀ (m i : Nat) (R : Nat → Int32), i + m = 201 → R 5 = 0 → ∃ B' R' l3, R' 3 = R 3 ∧ R' 8 = R 8 ∧ zx X (d + 8) 201 37 [vR (7, 0, 0), vI (nI j), vI (nI c), vI (-9), vI (nI i)] [] (hh (mb M (bst nv np B i) R) G) = zx X (d + 8) 201 76 [vR (7, 0, 0), vI (nI j), vI (nI c), vI (fnd (Qme nv np B j c) i m), vI l3] [] (hh (mb M B' R') G) := by
  intro m
  induction m with
  | zero =>
    intro i R hi hR
    have : i = 201 := by omega
    subst this
    refine ⟨bst nv np B 201, R, nI 201, rfl, rfl, ?_⟩
    simp only [e201_37, e201_39, e201_42]
    rw [if_pos (by decide)]
    rfl
  | succ m ih =>
    intro i R hi hR
    have hlt : ¬ (200 : Int32) < nI i := by rw [i_lt, nI_int (by omega), show (200 : Int32).toInt = 200 from rfl]; omega
    have hb := bst_v h i
    have st := B148 X d M G (bst nv np B i) R nv np hb (by rw [hR, bst_6, h6])
    have n5 : nv ≤ 5 := hb.1.2.2.1
    have n8 : np ≤ 8 := hb.1.2.2.2.1
    obtain ⟨B', R', l3, r3, r8, ih'⟩ := ih (i + 1) (uS R 6 ((stp nv np (bst nv np B i)).1 8)) (by omega) ((uS_n (by decide)).trans hR)
    by_cases q : sHt (bst nv np B i).2.1 j * (bst nv np B i).2.1 c 0 - sHt (bst nv np B i).2.1 c * (bst nv np B i).2.1 j 0 = 0
    · have q' : (Qme nv np B j c) i = true := decide_eq_true q
      refine ⟨stp nv np (bst nv np B i), uS R 6 ((stp nv np (bst nv np B i)).1 8), nI (i + 1), rfl, rfl, ?_⟩
      unfold fnd
      rw [if_pos q']
      simp only [e201_37, e201_39, e201_42]
      rw [if_neg hlt]
      simp only [e201_45, e201_46]
      rw [if_neg (by decide)]
      simp only [e201_49, e201_50, e201_51, e201_52, e201_55, zt0, zt1, zn3, not_false_eq_true, toListS, toListN, zk_some, zpi, if_true, if_false, i10, mb_R, mb_0, mb_1, mb_2, mb_3, C200 X _ _ G _ _ j c (show j < 5 by omega) (show c < 5 by omega), q10]
      refine Eq.trans (if_pos q) ?_
      have hl2 : (200 : Int32) < nI (i + 1) ∨ ¬ (200 : Int32) < nI (i + 1) := Classical.em _
      have hge : 0 ≤ nI i := by rw [i_le, nI_int (by omega), show (0 : Int32).toInt = 0 from rfl]; omega
      simp only [e201_58, e201_60, e201_65, e201_66, e201_67, e201_70, e201_73, zt0, zt1, zn3, not_false_eq_true, toListS, toListN, zk_some, zpi, st, nI_1]
      simp only [e201_37, e201_39, e201_42]
      rcases hl2 with hl2 | hl2
      · rw [if_pos hl2]
      · rw [if_neg hl2]
        simp only [e201_45, e201_46]
        rw [if_pos hge]
    · have q' : ¬ (Qme nv np B j c) i = true := fun e => q (of_decide_eq_true e)
      refine ⟨B', R', l3, r3, r8, ?_⟩
      unfold fnd
      rw [if_neg q']
      simp only [e201_37, e201_39, e201_42]
      rw [if_neg hlt]
      simp only [e201_45, e201_46]
      rw [if_neg (by decide)]
      simp only [e201_49, e201_50, e201_51, e201_52, e201_55, zt0, zt1, zn3, not_false_eq_true, toListS, toListN, zk_some, zpi, if_true, if_false, i10, mb_R, mb_0, mb_1, mb_2, mb_3, C200 X _ _ G _ _ j c (show j < 5 by omega) (show c < 5 by omega), q10]
      refine Eq.trans (if_neg q) ?_
      simp only [e201_63, e201_65, e201_66, e201_67, e201_70, e201_73, zt0, zt1, zn3, not_false_eq_true, toListS, toListN, zk_some, zpi, st, nI_1]
      exact ih'
theorem C44 (X : Nat × (Nat → Int32) × Value) (d : Nat) {M : zM} (G : zG) {nv np : Nat} (s : ST M nv np) (j c : Nat) (hj : j < nv) (hc : c < nv) : ∃ B', zd X (d + 4) 44 [vR (2, 0, 0), vR (0, 0, 0), vI (nI j), vI (nI c)] (hh M G) = some (some (vI (fnd (Qme nv np (bc M nv np) j c) 0 201)), hh (cb M 3 B') G) := by
  have vc := s.2.2.2.2.2.2.2.2.2.2.1
  obtain ⟨B', l⟩ := L44 X d M G nv np (bc M nv np) vc j c hj hc 201 0 (by omega)
  refine ⟨B', ?_⟩
  rw [nI_0] at l
  simp only [E44, e44_0, e44_1, e44_4, e44_5, e44_8, e44_9, zt0, zt1, zn3, not_false_eq_true, toListS, toListN, zk_some, zpi, T1 X _ G s]
  exact l
theorem K23 (X : Nat × (Nat → Int32) × Value) (t : Nat) (M : zM) (G : zG) (x y : Int32) (i : Inv t M) : okI X 96 201 [vI x, vI y] t M G := by
  obtain ⟨nv, np, s⟩ := ST_of i
  have s' := s
  obtain ⟨n5, n8, e2, e3, m0, m1, v, o6, f5, a, vc, ac, vm⟩ := s'
  rcases isx_c (n := nv) x (by omega) with ⟨h, -⟩ | ⟨j, hj, rfl, h⟩
  · refine ⟨-1, rfs M 1, G, rfm (rfs M 1) 1, G, ?_, ?_, Inv_rf i⟩
    · simp only [E96, e96_0, e96_1, e96_4, e96_5, e96_8, e96_11, e96_12, e96_15, e96_16, e96_19, e96_22, e96_23, e96_24, e96_27, e96_28, e96_29, e96_32, e96_33, e96_34, e96_37, e96_38, e96_41, e96_42, e96_43, e96_46, zt0, zt1, zn3, not_false_eq_true, toListS, toListN, zk_some, zpi, if_true, if_false, i10, C2x X _ M G nv e2 n5, h, C114_1, q_lt_m1_0, q_le_m1_0, q_eq_m1_0]
    · simp only [E201, e201_0, e201_1, e201_2, e201_5, e201_8, e201_9, e201_10, e201_13, e201_16, e201_17, e201_18, e201_21, e201_22, e201_23, e201_26, e201_27, e201_29, e201_30, e201_31, e201_34, e201_35, e201_37, e201_39, e201_42, e201_45, e201_46, e201_49, e201_50, e201_51, e201_52, e201_55, e201_58, e201_60, e201_63, e201_65, e201_66, e201_67, e201_70, e201_73, e201_76, e201_77, e201_80, e201_81, zt0, zt1, zn3, not_false_eq_true, toListS, toListN, zk_some, zpi, if_true, if_false, i10, C132 X _ _ G _ nv (show rfs M 1 (20, 0, 0) 0 = nI nv from m0) (by omega), h, C129_1, q_lt_m1_0, q_le_m1_0, q_eq_m1_0]
  rcases isx_c (n := nv) y (by omega) with ⟨h', -⟩ | ⟨c, hc, rfl, h'⟩
  · refine ⟨-1, rfs M 1, G, rfm (rfs M 1) 1, G, ?_, ?_, Inv_rf i⟩
    · simp only [E96, e96_0, e96_1, e96_4, e96_5, e96_8, e96_11, e96_12, e96_15, e96_16, e96_19, e96_22, e96_23, e96_24, e96_27, e96_28, e96_29, e96_32, e96_33, e96_34, e96_37, e96_38, e96_41, e96_42, e96_43, e96_46, zt0, zt1, zn3, not_false_eq_true, toListS, toListN, zk_some, zpi, if_true, if_false, i10, C2x X _ M G nv e2 n5, h, h', C114_1, q_lt_m1_0, q_le_m1_0, q_eq_m1_0]
    · simp only [E201, e201_0, e201_1, e201_2, e201_5, e201_8, e201_9, e201_10, e201_13, e201_16, e201_17, e201_18, e201_21, e201_22, e201_23, e201_26, e201_27, e201_29, e201_30, e201_31, e201_34, e201_35, e201_37, e201_39, e201_42, e201_45, e201_46, e201_49, e201_50, e201_51, e201_52, e201_55, e201_58, e201_60, e201_63, e201_65, e201_66, e201_67, e201_70, e201_73, e201_76, e201_77, e201_80, e201_81, zt0, zt1, zn3, not_false_eq_true, toListS, toListN, zk_some, zpi, if_true, if_false, i10, C132 X _ _ G _ nv (show rfs M 1 (20, 0, 0) 0 = nI nv from m0) (by omega), h, h', C129_1, q_lt_m1_0, q_le_m1_0, q_eq_m1_0]
  by_cases hjc : nI j = nI c
  · refine ⟨-1, rfs M 1, G, rfm (rfs M 1) 1, G, ?_, ?_, Inv_rf i⟩
    · simp only [E96, e96_0, e96_1, e96_4, e96_5, e96_8, e96_11, e96_12, e96_15, e96_16, e96_19, e96_22, e96_23, e96_24, e96_27, e96_28, e96_29, e96_32, e96_33, e96_34, e96_37, e96_38, e96_41, e96_42, e96_43, e96_46, zt0, zt1, zn3, not_false_eq_true, toListS, toListN, zk_some, zpi, if_true, if_false, i10, C2x X _ M G nv e2 n5, h, h', hjc, C114_1, q_lt_m1_0, q_le_m1_0, q_eq_m1_0]
    · simp only [E201, e201_0, e201_1, e201_2, e201_5, e201_8, e201_9, e201_10, e201_13, e201_16, e201_17, e201_18, e201_21, e201_22, e201_23, e201_26, e201_27, e201_29, e201_30, e201_31, e201_34, e201_35, e201_37, e201_39, e201_42, e201_45, e201_46, e201_49, e201_50, e201_51, e201_52, e201_55, e201_58, e201_60, e201_63, e201_65, e201_66, e201_67, e201_70, e201_73, e201_76, e201_77, e201_80, e201_81, zt0, zt1, zn3, not_false_eq_true, toListS, toListN, zk_some, zpi, if_true, if_false, i10, C132 X _ _ G _ nv (show rfs M 1 (20, 0, 0) 0 = nI nv from m0) (by omega), h, h', hjc, C129_1, q_lt_m1_0, q_le_m1_0, q_eq_m1_0]
  · obtain ⟨B', cR⟩ := C44 X 7 G s j c hj hc
    have s2 : sm M (cb M 3 B') := sm_cb (by decide)
    have m0' : cb M 3 B' (20, 0, 0) 0 = nI nv := m0
    have m1' : cb M 3 B' (20, 0, 0) 1 = nI np := m1
    obtain ⟨B2, R2, l3, r3, r8, l⟩ := L201 X 4 (cpK (cb M 3 B') (20, 0, 0) (21, 0, 0) 93) G nv np (bm M) vm rfl j c hj hc 201 0 (cb M 3 B' (7, 0, 0)) (by omega) f5
    refine ⟨fnd (Qme nv np (bc M nv np) j c) 0 201, cb M 3 B', G, u2 (cpK (mb (cpK (cb M 3 B') (20, 0, 0) (21, 0, 0) 93) B2 R2) (21, 0, 0) (20, 0, 0) 93) (7, 0, 0) 5 0, G, ?_, ?_, Inv_c (sm_t s2 (sm_back r3 f5 r8)) (Nat.le_refl _) i⟩
    · simp only [E96, e96_0, e96_1, e96_4, e96_5, e96_8, e96_11, e96_12, e96_15, e96_16, e96_19, e96_22, e96_23, e96_24, e96_27, e96_28, e96_29, e96_32, e96_33, e96_34, e96_37, e96_38, e96_41, e96_42, e96_43, e96_46, zt0, zt1, zn3, not_false_eq_true, toListS, toListN, zk_some, zpi, if_true, if_false, i10, C2x X _ M G nv e2 n5, h, h', hjc, cR]
    · have e : fnd (Qme nv np (bc M nv np) j c) 0 201 = fnd (Qme nv np (bm M) j c) 0 201 := fnd_c _ _ fun k _ _ => by
        unfold Qme sHt
        have q := (bst_c vc ac k).2.1
        rw [q j 0 hj (by decide), q j 1 hj (by decide), q j 3 hj (by decide), q c 0 hc (by decide), q c 1 hc (by decide), q c 3 hc (by decide)]
      have eb : bm (cb M 3 B') = bm M := rfl
      have t5 := T150 X 10 G (M := cb M 3 B')
      rw [eb] at t5
      rw [nI_0] at l
      rw [e]
      simp only [e201_0, e201_1, e201_2, e201_5, e201_8, e201_9, e201_10, e201_13, e201_16, e201_17, e201_18, E201, zt0, zt1, zn3, not_false_eq_true, toListS, toListN, zk_some, zpi, if_true, if_false, i10, C132 X _ _ G _ nv m0' (by omega), h, h', hjc]
      simp only [e201_27, e201_29, e201_30, e201_31, e201_34, e201_35, zt0, zt1, zn3, not_false_eq_true, toListS, toListN, zk_some, zpi, t5]
      refine Eq.trans l ?_
      simp only [e201_76, e201_77, e201_80, e201_81, zt0, zt1, zn3, not_false_eq_true, toListS, toListN, zk_some, zpi, C151]
