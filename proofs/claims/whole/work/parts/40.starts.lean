/-! starts, turns -/
theorem C36 (X : Nat × (Nat → Int32) × Value) (d : Nat) (M : zM) (G : zG) (nv np : Nat) (B : zB) (h : vb B nv np) (p : Nat) (hp : p < np) : zd X (d + 4) 36 [vR (2, 0, 0), vI (nI p)] (hh (cb M 3 B) G) = some (some (vI (if B.2.2 p 7 = 0 then (if (stp nv np B).2.2 p 7 = 0 then 0 else 1) else 0)), hh (cb M 3 (stp nv np B)) G) := by
  have n8 : np ≤ 8 := h.1.2.2.2.1
  have g3 : cb M 3 B (0, 3, 0) 3 = nI np := h.1.2.1
  have st := B11 X d M G 3 B nv np h
  have x1 := (h.2.2.1 p hp).imp id And.left
  have x2 := ((stp_v h).2.2.1 p hp).imp id And.left
  simp only [E36, e36_0, e36_1, e36_4, e36_5, e36_8, e36_11, e36_12, e36_13, e36_14, e36_17, e36_20, e36_21, e36_22, e36_25, e36_26, e36_27, e36_30, e36_33, e36_34, e36_37, e36_38, e36_41, e36_44, e36_45, e36_46, e36_49, e36_52, e36_53, e36_56, e36_57, zt0, zt1, zn3, not_false_eq_true, toListS, toListN, zk_some, zpi, if_true, if_false, i10, C3b X _ _ G 3 np g3 n8, isx_y hp (show np < 2 ^ 31 by omega), zin_nI (show p < 8 by omega) (show 8 < 2 ^ 31 by decide), nI_clamp (show p < 2 ^ 31 by omega), cb_S, cb_V, cb_P, st]
theorem C185 (X : Nat × (Nat → Int32) × Value) (d : Nat) (M : zM) (G : zG) (nv np : Nat) (B : zB) (R : Nat → Int32) (h : vb B nv np) (ho : R 5 = B.1 6) (p : Nat) (hp : p < np) : zd X (d + 8) 185 [vR (7, 0, 0), vI (nI p)] (hh (mb M B R) G) = some (some (vI (if B.2.2 p 7 = 0 then (if (stp nv np B).2.2 p 7 = 0 then 0 else 1) else 0)), hh (mb M (stp nv np B) (uS R 6 ((stp nv np B).1 8))) G) := by
  have n8 : np ≤ 8 := h.1.2.2.2.1
  have st := B148 X d M G B R nv np h ho
  have x1 := (h.2.2.1 p hp).imp id And.left
  have x2 := ((stp_v h).2.2.1 p hp).imp id And.left
  simp only [E185, e185_0, e185_1, e185_2, e185_5, e185_6, e185_7, e185_10, e185_11, e185_14, e185_15, e185_16, e185_19, e185_20, e185_23, e185_24, e185_27, e185_28, zt0, zt1, zn3, not_false_eq_true, toListS, toListN, zk_some, zpi, if_true, if_false, i10, C180 X _ _ G _ _ p (show p < 8 by omega), st]
  rcases x1 with x1 | x1 <;> rcases x2 with x2 | x2 <;> simp only [x1, x2, if_true, if_false, i10, q_eq_0_1]
def sta (nv np : Nat) (B : zB) (p : Nat) : Int32 := if B.2.2 p 7 = 0 then (if (stp nv np B).2.2 p 7 = 0 then 0 else 1) else 0
def Qst (nv np : Nat) (B : zB) (p s : Nat) : Bool := decide (¬ sta nv np (bst nv np B (s - 1)) p = 0)
theorem L34 (X : Nat × (Nat → Int32) × Value) (d : Nat) (M : zM) (G : zG) (nv np : Nat) (B : zB) (h : vb B nv np) (p : Nat) (hp : p < np) : ∀ (m i : Nat), i + m = 200 → ∃ B', zx X (d + 5) 34 10 [vR (2, 0, 0), vR (0, 0, 0), vI (nI p), vI (nI (i + 1))] [] (hh (cb M 3 (bst nv np B i)) G) = some (some (vI (fnd (Qst nv np B p) (i + 1) m)), hh (cb M 3 B') G) := by
  intro m
  induction m with
  | zero =>
    intro i hi
    have : i = 200 := by omega
    subst this
    refine ⟨bst nv np B 200, ?_⟩
    simp only [e34_10, e34_11, e34_14]
    rw [if_pos (by decide)]
    simp only [e34_33, e34_35]
    rfl
  | succ m ih =>
    intro i hi
    have hlt : ¬ (200 : Int32) < nI (i + 1) := by rw [i_lt, nI_int (by omega), show (200 : Int32).toInt = 200 from rfl]; omega
    have st := C36 X d M G nv np (bst nv np B i) (bst_v h i) p hp
    obtain ⟨B', ih'⟩ := ih (i + 1) (by omega)
    simp only [e34_10, e34_11, e34_14]
    rw [if_neg hlt]
    simp only [e34_17, e34_18, e34_19, e34_22, zt0, zt1, zn3, not_false_eq_true, toListS, toListN, zk_some, zpi, st]
    by_cases q : sta nv np (bst nv np B i) p = 0
    · refine ⟨B', ?_⟩
      have q' : ¬ Qst nv np B p (i + 1) = true := fun e => of_decide_eq_true e q
      unfold fnd
      rw [if_neg q']
      refine Eq.trans (if_pos q) ?_
      simp only [e34_27, e34_30, zt0, zt1, zn3, not_false_eq_true, toListS, toListN, zk_some, zpi, nI_1]
      exact ih'
    · refine ⟨bst nv np B (i + 1), ?_⟩
      have q' : Qst nv np B p (i + 1) = true := decide_eq_true q
      unfold fnd
      rw [if_pos q']
      refine Eq.trans (if_neg q) ?_
      simp only [e34_25, e34_26, zt0, zt1, zn3, not_false_eq_true, toListS, toListN, zk_some, zpi]
      rfl
theorem C34 (X : Nat × (Nat → Int32) × Value) (d : Nat) {M : zM} (G : zG) {nv np : Nat} (s : ST M nv np) (p : Nat) (hp : p < np) : ∃ B', zd X (d + 5) 34 [vR (2, 0, 0), vR (0, 0, 0), vI (nI p)] (hh M G) = some (some (vI (fnd (Qst nv np (bc M nv np) p) 1 200)), hh (cb M 3 B') G) := by
  obtain ⟨B', l⟩ := L34 X d M G nv np (bc M nv np) s.2.2.2.2.2.2.2.2.2.2.1 p hp 200 0 (by omega)
  refine ⟨B', ?_⟩
  simp only [E34, e34_0, e34_1, e34_4, e34_5, e34_8, e34_9, zt0, zt1, zn3, not_false_eq_true, toListS, toListN, zk_some, zpi, T1 X _ G s]
  exact l
theorem L186 (X : Nat × (Nat → Int32) × Value) (d : Nat) (M : zM) (G : zG) (nv np : Nat) (B : zB) (h : vb B nv np) (h6 : B.1 6 = 0) (p : Nat) (hp : p < np) : ∀ (m i : Nat) (R : Nat → Int32), i + m = 200 → R 5 = 0 → ∃ B' R' l3, R' 3 = R 3 ∧ R' 8 = R 8 ∧ zx X (d + 9) 186 23 [vR (7, 0, 0), vI (nI p), vI (-9), vI (nI (i + 1))] [] (hh (mb M (bst nv np B i) R) G) = zx X (d + 9) 186 55 [vR (7, 0, 0), vI (nI p), vI (fnd (Qst nv np B p) (i + 1) m), vI l3] [] (hh (mb M B' R') G) := by
  intro m
  induction m with
  | zero =>
    intro i R hi hR
    have : i = 200 := by omega
    subst this
    refine ⟨bst nv np B 200, R, nI (200 + 1), rfl, rfl, ?_⟩
    simp only [e186_23, e186_24, e186_27]
    rw [if_pos (by decide)]
    rfl
  | succ m ih =>
    intro i R hi hR
    have hlt : ¬ (200 : Int32) < nI (i + 1) := by rw [i_lt, nI_int (by omega), show (200 : Int32).toInt = 200 from rfl]; omega
    have st := C185 X d M G nv np (bst nv np B i) R (bst_v h i) (by rw [hR, bst_6, h6]) p hp
    obtain ⟨B', R', l3, r3, r8, ih'⟩ := ih (i + 1) (uS R 6 ((stp nv np (bst nv np B i)).1 8)) (by omega) ((uS_n (by decide)).trans hR)
    by_cases q : sta nv np (bst nv np B i) p = 0
    · have q' : ¬ Qst nv np B p (i + 1) = true := fun e => of_decide_eq_true e q
      refine ⟨B', R', l3, r3, r8, ?_⟩
      unfold fnd
      rw [if_neg q']
      simp only [e186_23, e186_24, e186_27]
      rw [if_neg hlt]
      simp only [e186_30, e186_31]
      rw [if_neg (by decide)]
      simp only [e186_34, e186_35, e186_36, e186_39, zt0, zt1, zn3, not_false_eq_true, toListS, toListN, zk_some, zpi, st]
      refine Eq.trans (if_pos q) ?_
      simp only [e186_46, e186_48, e186_49, e186_52, zt0, zt1, zn3, not_false_eq_true, toListS, toListN, zk_some, zpi, nI_1]
      exact ih'
    · have q' : Qst nv np B p (i + 1) = true := decide_eq_true q
      refine ⟨stp nv np (bst nv np B i), uS R 6 ((stp nv np (bst nv np B i)).1 8), nI (i + 2), rfl, rfl, ?_⟩
      unfold fnd
      rw [if_pos q']
      simp only [e186_23, e186_24, e186_27]
      rw [if_neg hlt]
      simp only [e186_30, e186_31]
      rw [if_neg (by decide)]
      simp only [e186_34, e186_35, e186_36, e186_39, zt0, zt1, zn3, not_false_eq_true, toListS, toListN, zk_some, zpi, st]
      refine Eq.trans (if_neg q) ?_
      have hl2 : (200 : Int32) < nI (i + 2) ∨ ¬ (200 : Int32) < nI (i + 2) := Classical.em _
      have hge : 0 ≤ nI (i + 1) := by rw [i_le, nI_int (by omega), show (0 : Int32).toInt = 0 from rfl]; omega
      simp only [e186_42, e186_43, e186_48, e186_49, e186_52, zt0, zt1, zn3, not_false_eq_true, toListS, toListN, zk_some, zpi, nI_1]
      simp only [e186_23, e186_24, e186_27]
      rcases hl2 with hl2 | hl2
      · rw [if_pos hl2]
      · rw [if_neg hl2]
        simp only [e186_30, e186_31]
        rw [if_pos hge]
theorem sta_c {nv np : Nat} {B C : zB} (h : vb B nv np) (h6 : B.1 6 = 0) (a : ag nv np B C) (p : Nat) (hp : p < np) : sta nv np B p = sta nv np C p := by
  have n8 : np ≤ 8 := h.1.2.2.2.1
  have e1 := a.2.2 p 7 hp (by decide) (fun _ => by rw [h6]; exact out_0 p)
  have e2 := (stp_c h a).1.2.2 p 7 hp (by decide) (fun _ => by rw [show (stp nv np B).1 6 = 0 from sStp_6.trans h6]; exact out_0 p)
  unfold sta
  rw [e1, e2]
theorem K16 (X : Nat × (Nat → Int32) × Value) (t : Nat) (M : zM) (G : zG) (x : Int32) (i : Inv t M) : okI X 89 186 [vI x] t M G := by
  obtain ⟨nv, np, s⟩ := ST_of i
  have s' := s
  obtain ⟨n5, n8, e2, e3, m0, m1, v, o6, f5, a, vc, ac, vm⟩ := s'
  rcases isx_c (n := np) x (by omega) with ⟨h, -⟩ | ⟨p, hp, rfl, h⟩
  · refine ⟨-1, rfs M 1, G, rfm (rfs M 1) 1, G, ?_, ?_, Inv_rf i⟩
    · simp only [E89, e89_0, e89_1, e89_4, e89_5, e89_8, e89_11, e89_12, e89_15, e89_16, e89_19, e89_20, e89_23, e89_26, e89_27, e89_28, e89_31, zt0, zt1, zn3, not_false_eq_true, toListS, toListN, zk_some, zpi, if_true, if_false, i10, C3x X _ M G np e3 n8, h, C114_1, q_lt_m1_0, q_le_m1_0, q_eq_m1_0]
    · simp only [E186, e186_0, e186_1, e186_2, e186_5, e186_8, e186_9, e186_10, e186_13, e186_14, e186_16, e186_17, e186_18, e186_21, e186_22, e186_23, e186_24, e186_27, e186_30, e186_31, e186_34, e186_35, e186_36, e186_39, e186_42, e186_43, e186_46, e186_48, e186_49, e186_52, e186_55, e186_56, e186_59, e186_60, zt0, zt1, zn3, not_false_eq_true, toListS, toListN, zk_some, zpi, if_true, if_false, i10, C133 X _ _ G _ np (show rfs M 1 (20, 0, 0) 1 = nI np from m1) (by omega), h, C129_1, q_lt_m1_0, q_le_m1_0, q_eq_m1_0]
  · obtain ⟨B', cR⟩ := C34 X 6 G s p hp
    have s2 : sm M (cb M 3 B') := sm_cb (by decide)
    have m0' : cb M 3 B' (20, 0, 0) 0 = nI nv := m0
    have m1' : cb M 3 B' (20, 0, 0) 1 = nI np := m1
    obtain ⟨B2, R2, l3, r3, r8, l⟩ := L186 X 3 (cpK (cb M 3 B') (20, 0, 0) (21, 0, 0) 93) G nv np (bm M) vm rfl p hp 200 0 (cb M 3 B' (7, 0, 0)) (by omega) f5
    refine ⟨fnd (Qst nv np (bc M nv np) p) 1 200, cb M 3 B', G, u2 (cpK (mb (cpK (cb M 3 B') (20, 0, 0) (21, 0, 0) 93) B2 R2) (21, 0, 0) (20, 0, 0) 93) (7, 0, 0) 5 0, G, ?_, ?_, Inv_c (sm_t s2 (sm_back r3 f5 r8)) (Nat.le_refl _) i⟩
    · simp only [E89, e89_0, e89_1, e89_4, e89_5, e89_8, e89_11, e89_12, e89_15, e89_16, e89_19, e89_20, e89_23, e89_26, e89_27, e89_28, e89_31, zt0, zt1, zn3, not_false_eq_true, toListS, toListN, zk_some, zpi, if_true, if_false, i10, C3x X _ M G np e3 n8, h, cR]
    · have e : fnd (Qst nv np (bc M nv np) p) 1 200 = fnd (Qst nv np (bm M) p) 1 200 := fnd_c _ _ fun k _ _ => by
        unfold Qst
        rw [sta_c (bst_v vc (k - 1)) (by rw [bst_6]; rfl) (bst_c vc ac (k - 1)) p hp]
      have eb : bm (cb M 3 B') = bm M := rfl
      have t5 := T150 X 10 G (M := cb M 3 B')
      rw [eb] at t5
      rw [e]
      simp only [e186_0, e186_1, e186_2, e186_5, E186, zt0, zt1, zn3, not_false_eq_true, toListS, toListN, zk_some, zpi, if_true, if_false, i10, C133 X _ _ G _ np m1' (by omega), h]
      simp only [e186_14, e186_16, e186_17, e186_18, e186_21, e186_22, zt0, zt1, zn3, not_false_eq_true, toListS, toListN, zk_some, zpi, t5]
      refine Eq.trans l ?_
      simp only [e186_55, e186_56, e186_59, e186_60, zt0, zt1, zn3, not_false_eq_true, toListS, toListN, zk_some, zpi, C151]
