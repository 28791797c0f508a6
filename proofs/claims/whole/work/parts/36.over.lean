/-! THE STATE THAT CALLS BEGIN WITH; searching STEP by STEP -/
def bc (M : zM) (nv np : Nat) : zB := cpB nv np (gb M 3) (gb M 0)
def bm (M : zM) : zB := gr M (20, 0, 0) 0
def ST (M : zM) (nv np : Nat) : Prop := nv ≤ 5 ∧ np ≤ 8 ∧ M (0, 0, 0) 2 = nI nv ∧ M (0, 0, 0) 3 = nI np ∧ M (20, 0, 0) 0 = nI nv ∧ M (20, 0, 0) 1 = nI np ∧ vb (gb M 0) nv np ∧ M (0, 0, 0) 6 = 0 ∧ M (7, 0, 0) 5 = 0 ∧ ag nv np (gb M 0) (bm M) ∧ vb (bc M nv np) nv np ∧ ag nv np (bc M nv np) (bm M) ∧ vb (bm M) nv np
theorem ag_s {nv np : Nat} {B C : zB} (h : B.1 6 = 0) (a : ag nv np B C) : ag nv np C B := by
  obtain ⟨a1, a2, a3⟩ := a
  have e := a1 6 (by decide)
  rw [h] at e a3
  refine ⟨fun f hf => (a1 f hf).symm, fun j f hj hf => (a2 j f hj hf).symm, fun p g hp hg _ => ?_⟩
  exact (a3 p g hp hg (fun _ => out_0 p)).symm
theorem ag_t {nv np : Nat} {B C D : zB} (a : ag nv np B C) (b : ag nv np C D) : ag nv np B D := by
  obtain ⟨a1, a2, a3⟩ := a
  obtain ⟨b1, b2, b3⟩ := b
  rw [← a1 6 (by decide)] at b3
  exact ⟨fun f hf => (a1 f hf).trans (b1 f hf), fun j f hj hf => (a2 j f hj hf).trans (b2 j f hj hf), fun p g hp hg q => (a3 p g hp hg q).trans (b3 p g hp hg q)⟩
theorem ST_of {t : Nat} {M : zM} (i : Inv t M) : ∃ nv np, ST M nv np := by
  obtain ⟨nv, np, n, v, o, a, f, -⟩ := i.1
  have v' := v
  obtain ⟨⟨e2, e3, n5, n8, -⟩, -⟩ := v'
  have g6 : (gb M 0).1 6 = 0 := o
  have c1 : ag nv np (gb M 0) (bc M nv np) := cpB_ag g6
  have vc := ag_v g6 c1 v
  have c2 := ag_t (ag_s g6 c1) a
  exact ⟨nv, np, n5, n8, e2, e3, (a.1 2 (by decide)).symm.trans e2, (a.1 3 (by decide)).symm.trans e3, v, o, f, a, vc, c2, ag_v rfl c2 vc⟩
section TH
variable (X : Nat × (Nat → Int32) × Value) (d : Nat) {M : zM} (G : zG) {nv np : Nat}
theorem T1 (s : ST M nv np) : zd X (d + 1) 1 [vR (0, 3, 0), vR (0, 0, 0)] (hh M G) = some (none, hh (cb M 3 (bc M nv np)) G) := by
  obtain ⟨n5, n8, e2, e3, -, -, v, -⟩ := s
  have q := B1 X d M G 3 0 (gb M 3) (by decide) nv np e2 e3 n5 n8 (fun p hp => (v.2.2.1 p hp).imp id And.left)
  rw [cb_self] at q
  exact q
theorem T150 : zd X (d + 1) 150 [vR (7, 0, 0)] (hh M G) = some (none, hh (mb (cpK M (20, 0, 0) (21, 0, 0) 93) (bm M) (M (7, 0, 0))) G) := by
  have e : mb (cpK M (20, 0, 0) (21, 0, 0) 93) (bm M) (M (7, 0, 0)) = cpK M (20, 0, 0) (21, 0, 0) 93 := mb_self (cpK M (20, 0, 0) (21, 0, 0) 93) 0
  rw [e]
  exact C150 X d M G
end TH
theorem mb_R {M : zM} {B : zB} {R : Nat → Int32} {f : Nat} : mb M B R (7, 0, 0) f = R f := mm_R
def fnd (Q : Nat → Bool) (s : Nat) : Nat → Int32
  | 0 => -9
  | m + 1 => if Q s = true then nI s else fnd Q (s + 1) m
theorem fnd_c {Q Q' : Nat → Bool} : ∀ (m s : Nat), (∀ k, s ≤ k → k < s + m → Q k = Q' k) → fnd Q s m = fnd Q' s m := by
  intro m
  induction m with
  | zero => intro _ _; rfl
  | succ m ih =>
    intro s h
    unfold fnd
    rw [h s (by omega) (by omega), ih (s + 1) fun k h1 h2 => h k (by omega) (by omega)]
/-- a call that both sides answer alike -/
def okI (X : Nat × (Nat → Int32) × Value) (kc km : Nat) (a : List zV) (t : Nat) (M : zM) (G : zG) : Prop := ∃ r M1 G1 M2 G2, zd X 12 kc (vR (6, 0, 0) :: a) (hh M G) = some (some (vI r), hh M1 G1) ∧ zd X 12 km (vR (7, 0, 0) :: a) (hh M1 G1) = some (some (vI r), hh M2 G2) ∧ Inv t M2
def okL (X : Nat × (Nat → Int32) × Value) (kc km : Nat) (a : List zV) (t : Nat) (M : zM) (G : zG) : Prop := ∃ r M1 G1 M2 G2, zd X 12 kc (vR (6, 0, 0) :: a) (hh M G) = some (some (vL r), hh M1 G1) ∧ zd X 12 km (vR (7, 0, 0) :: a) (hh M1 G1) = some (some (vL r), hh M2 G2) ∧ Inv t M2
theorem C2x (X : Nat × (Nat → Int32) × Value) (d : Nat) (M : zM) (G : zG) (nv : Nat) (h2 : M (0, 0, 0) 2 = nI nv) (h5 : nv ≤ 5) (x : Int32) : zd X d 2 [vR (0, 0, 0), vI x] (hh M G) = some (some (vI (isx nv x)), hh M G) := by rw [C2, sHv_x h2 h5]
theorem C3x (X : Nat × (Nat → Int32) × Value) (d : Nat) (M : zM) (G : zG) (np : Nat) (h3 : M (0, 0, 0) 3 = nI np) (h8 : np ≤ 8) (x : Int32) : zd X d 3 [vR (0, 0, 0), vI x] (hh M G) = some (some (vI (isx np x)), hh M G) := by rw [C3, sHp_x h3 h8]
/-! over -/
def Qov (nv np : Nat) (B : zB) (x : Int32) (s : Nat) : Bool := decide ((bst nv np B s).1 8 >>> (x &&& 31) &&& 1 = 1)
theorem L32 (X : Nat × (Nat → Int32) × Value) (d : Nat) (M : zM) (G : zG) (nv np : Nat) (B : zB) (h : vb B nv np) (x : Int32) : ∀ (m i : Nat), i + m = 200 → ∃ B', zx X (d + 4) 32 10 [vR (2, 0, 0), vR (0, 0, 0), vI x, vI (nI (i + 1))] [] (hh (cb M 3 (bst nv np B i)) G) = some (some (vI (fnd (Qov nv np B x) (i + 1) m)), hh (cb M 3 B') G) := by
  intro m
  induction m with
  | zero =>
    intro i hi
    have : i = 200 := by omega
    subst this
    refine ⟨bst nv np B 200, ?_⟩
    simp only [e32_10, e32_11, e32_14]
    rw [if_pos (by decide)]
    simp only [e32_47, e32_49]
    rfl
  | succ m ih =>
    intro i hi
    have hlt : ¬ (200 : Int32) < nI (i + 1) := by rw [i_lt, nI_int (by omega), show (200 : Int32).toInt = 200 from rfl]; omega
    have st := B11 X d M G 3 (bst nv np B i) nv np (bst_v h i)
    obtain ⟨B', ih'⟩ := ih (i + 1) (by omega)
    simp only [e32_10, e32_11, e32_14]
    rw [if_neg hlt]
    simp only [e32_17, e32_18, e32_21, e32_24, e32_25, e32_28, e32_31, e32_32, e32_33, e32_34, e32_35, e32_36, zt0, zt1, zn3, not_false_eq_true, toListS, toListN, zk_some, zpi, cb_S, cb_V, cb_P, st]
    by_cases q : (bst nv np B (i + 1)).1 8 >>> (x &&& 31) &&& 1 = 1
    · refine ⟨stp nv np (bst nv np B i), ?_⟩
      have q' : Qov nv np B x (i + 1) = true := decide_eq_true q
      unfold fnd
      rw [if_pos q']
      refine Eq.trans (if_pos q) ?_
      simp only [e32_39, e32_40, zt0, zt1, zn3, not_false_eq_true, toListS, toListN, zk_some, zpi]
    · refine ⟨B', ?_⟩
      have q' : ¬ Qov nv np B x (i + 1) = true := fun e => q (of_decide_eq_true e)
      unfold fnd
      rw [if_neg q', ← ih']
      refine Eq.trans (if_neg q) ?_
      simp only [e32_41, e32_44, nI_1]
      rfl
theorem C32 (X : Nat × (Nat → Int32) × Value) (d : Nat) {M : zM} (G : zG) {nv np : Nat} (s : ST M nv np) (x : Int32) : ∃ B', zd X (d + 4) 32 [vR (2, 0, 0), vR (0, 0, 0), vI x] (hh M G) = some (some (vI (fnd (Qov nv np (bc M nv np) x) 1 200)), hh (cb M 3 B') G) := by
  obtain ⟨B', l⟩ := L32 X d M G nv np (bc M nv np) s.2.2.2.2.2.2.2.2.2.2.1 x 200 0 (by omega)
  refine ⟨B', ?_⟩
  simp only [E32, e32_0, e32_1, e32_4, e32_5, e32_8, e32_9, zt0, zt1, zn3, not_false_eq_true, toListS, toListN, zk_some, zpi, T1 X _ G s]
  exact l
theorem L183 (X : Nat × (Nat → Int32) × Value) (d : Nat) (M : zM) (G : zG) (nv np : Nat) (B : zB) (h : vb B nv np) (h6 : B.1 6 = 0) (x : Int32) : ∀ (m i : Nat) (R : Nat → Int32), i + m = 200 → R 5 = 0 → ∃ B' R' l3, R' 3 = R 3 ∧ R' 8 = R 8 ∧ zx X (d + 8) 183 23 [vR (7, 0, 0), vI x, vI (-9), vI (nI (i + 1))] [] (hh (mb M (bst nv np B i) R) G) = zx X (d + 8) 183 63 [vR (7, 0, 0), vI x, vI (fnd (Qov nv np B x) (i + 1) m), vI l3] [] (hh (mb M B' R') G) := by
  intro m
  induction m with
  | zero =>
    intro i R hi hR
    have : i = 200 := by omega
    subst this
    refine ⟨bst nv np B 200, R, nI (200 + 1), rfl, rfl, ?_⟩
    simp only [e183_23, e183_24, e183_27]
    rw [if_pos (by decide)]
    rfl
  | succ m ih =>
    intro i R hi hR
    have hlt : ¬ (200 : Int32) < nI (i + 1) := by rw [i_lt, nI_int (by omega), show (200 : Int32).toInt = 200 from rfl]; omega
    have st := B148 X d M G (bst nv np B i) R nv np (bst_v h i) (by rw [hR, bst_6, h6])
    obtain ⟨B', R', l3, r3, r8, ih'⟩ := ih (i + 1) (uS R 6 ((stp nv np (bst nv np B i)).1 8)) (by omega) ((uS_n (by decide)).trans hR)
    by_cases q : (stp nv np (bst nv np B i)).1 8 >>> (x &&& 31) &&& 1 = 1
    · have q' : Qov nv np B x (i + 1) = true := decide_eq_true q
      refine ⟨stp nv np (bst nv np B i), uS R 6 ((stp nv np (bst nv np B i)).1 8), nI (i + 2), rfl, rfl, ?_⟩
      unfold fnd
      rw [if_pos q']
      simp only [e183_23, e183_24, e183_27]
      rw [if_neg hlt]
      simp only [e183_30, e183_31]
      rw [if_neg (by decide)]
      simp only [e183_34, e183_35, e183_38, e183_39, e183_42, e183_43, e183_44, e183_45, e183_46, e183_47, zt0, zt1, zn3, not_false_eq_true, toListS, toListN, zk_some, zpi, st, mb_R, uS_s]
      refine Eq.trans (if_pos q) ?_
      have hl2 : (200 : Int32) < nI (i + 2) ∨ ¬ (200 : Int32) < nI (i + 2) := Classical.em _
      have hge : 0 ≤ nI (i + 1) := by rw [i_le, nI_int (by omega), show (0 : Int32).toInt = 0 from rfl]; omega
      simp only [e183_50, e183_51, e183_54, e183_56, e183_57, e183_60, zt0, zt1, zn3, not_false_eq_true, toListS, toListN, zk_some, zpi, nI_1]
      simp only [e183_23, e183_24, e183_27]
      rcases hl2 with hl2 | hl2
      · rw [if_pos hl2]
      · rw [if_neg hl2]
        simp only [e183_30, e183_31]
        rw [if_pos hge]
    · have q' : ¬ Qov nv np B x (i + 1) = true := fun e => q (of_decide_eq_true e)
      refine ⟨B', R', l3, r3, r8, ?_⟩
      unfold fnd
      rw [if_neg q']
      simp only [e183_23, e183_24, e183_27]
      rw [if_neg hlt]
      simp only [e183_30, e183_31]
      rw [if_neg (by decide)]
      simp only [e183_34, e183_35, e183_38, e183_39, e183_42, e183_43, e183_44, e183_45, e183_46, e183_47, zt0, zt1, zn3, not_false_eq_true, toListS, toListN, zk_some, zpi, st, mb_R, uS_s]
      refine Eq.trans (if_neg q) ?_
      simp only [e183_54, e183_56, e183_57, e183_60, zt0, zt1, zn3, not_false_eq_true, toListS, toListN, zk_some, zpi, nI_1]
      exact ih'
theorem K14 (X : Nat × (Nat → Int32) × Value) (t : Nat) (M : zM) (G : zG) (x : Int32) (i : Inv t M) : okI X 87 183 [vI x] t M G := by
  obtain ⟨nv, np, s⟩ := ST_of i
  have s' := s
  obtain ⟨n5, n8, e2, e3, m0, m1, v, o6, f5, a, vc, ac, vm⟩ := s'
  rcases isx_c (n := nv) x (by omega) with ⟨h, -⟩ | ⟨j, hj, rfl, h⟩
  · refine ⟨-1, rfs M 1, G, rfm (rfs M 1) 1, G, ?_, ?_, Inv_rf i⟩
    · simp only [E87, e87_0, e87_1, e87_4, e87_5, e87_8, e87_11, e87_12, e87_15, e87_16, e87_19, e87_20, e87_23, e87_26, e87_27, e87_28, e87_31, zt0, zt1, zn3, not_false_eq_true, toListS, toListN, zk_some, zpi, C2x X _ M G nv e2 n5, h, C114_1]
      rfl
    · have m0' : rfs M 1 (20, 0, 0) 0 = nI nv := m0
      simp only [E183, e183_0, e183_1, e183_2, e183_5, e183_8, e183_9, e183_10, e183_13, zt0, zt1, zn3, not_false_eq_true, toListS, toListN, zk_some, zpi, C132 X _ _ G _ nv m0' (by omega), h, C129_1]
      rfl
  · obtain ⟨B', c⟩ := C32 X 7 G s (nI j)
    have m0' : cb M 3 B' (20, 0, 0) 0 = nI nv := m0
    have s2 : sm M (cb M 3 B') := sm_cb (by decide)
    obtain ⟨B2, R2, l3, r3, r8, l⟩ := L183 X 4 (cpK (cb M 3 B') (20, 0, 0) (21, 0, 0) 93) G nv np (bm M) vm rfl (nI j) 200 0 (cb M 3 B' (7, 0, 0)) (by omega) f5
    refine ⟨fnd (Qov nv np (bc M nv np) (nI j)) 1 200, cb M 3 B', G, u2 (cpK (mb (cpK (cb M 3 B') (20, 0, 0) (21, 0, 0) 93) B2 R2) (21, 0, 0) (20, 0, 0) 93) (7, 0, 0) 5 0, G, ?_, ?_, Inv_c (sm_t s2 (sm_back r3 f5 r8)) (Nat.le_refl _) i⟩
    · simp only [E87, e87_0, e87_1, e87_4, e87_5, e87_8, e87_11, e87_12, e87_15, e87_16, e87_19, e87_20, e87_23, e87_26, e87_27, e87_28, e87_31, zt0, zt1, zn3, not_false_eq_true, toListS, toListN, zk_some, zpi, C2x X _ M G nv e2 n5, h, c, i10, if_false]
    · have e : fnd (Qov nv np (bc M nv np) (nI j)) 1 200 = fnd (Qov nv np (bm M) (nI j)) 1 200 := fnd_c _ _ fun k h1 _ => by
        obtain ⟨k, rfl⟩ : ∃ q, k = q + 1 := ⟨k - 1, by omega⟩
        unfold Qov
        rw [(bst_78 vc ac k).2]
      have eb : bm (cb M 3 B') = bm M := rfl
      have t5 := T150 X 10 G (M := cb M 3 B')
      rw [eb] at t5
      rw [e]
      simp only [e183_0, e183_1, e183_2, e183_5, E183, zt0, zt1, zn3, not_false_eq_true, toListS, toListN, zk_some, zpi, C132 X _ _ G _ nv m0' (by omega), h, i10, if_false]
      simp only [e183_14, e183_16, e183_17, e183_18, e183_21, e183_22, zt0, zt1, zn3, not_false_eq_true, toListS, toListN, zk_some, zpi, t5]
      refine Eq.trans l ?_
      simp only [e183_63, e183_64, e183_67, e183_68, zt0, zt1, zn3, not_false_eq_true, toListS, toListN, zk_some, zpi, C151]
