/-! LOOPS, said once; STEPS of both sides as one row; turns -/
theorem zlr {σ : Type} {n : Nat} {f : Nat → σ → Option zR} {P : Nat → σ → Prop} (h : ∀ i s, i < n → P i s → ∃ s', P (i + 1) s' ∧ ∀ w, f (i + 1) s' = w → f i s = w) : ∀ (m i : Nat) (s : σ), i + m = n → P i s → ∃ s', P n s' ∧ f i s = f n s' := by
  intro m
  induction m with
  | zero =>
    intro i s hi hp
    have : i = n := by omega
    subst this
    exact ⟨s, hp, rfl⟩
  | succ m ih =>
    intro i s hi hp
    obtain ⟨s1, p1, e1⟩ := h i s (by omega) hp
    obtain ⟨s2, p2, e2⟩ := ih (i + 1) s1 (by omega) p1
    exact ⟨s2, p2, (e1 _ rfl).trans e2⟩
theorem zlf {n : Nat} {f : Nat → Option zR} (h : ∀ i, i < n → ∀ w, f (i + 1) = w → f i = w) : ∀ (m i : Nat), i + m = n → f i = f n := by
  intro m
  induction m with
  | zero =>
    intro i hi
    have : i = n := by omega
    subst this
    rfl
  | succ m ih =>
    intro i hi
    exact (h i (by omega) _ rfl).trans (ih (i + 1) (by omega))
/-- the first from s on, of m, for which Q; s + m if there is none -/
def fi (Q : Nat → Bool) (s : Nat) : Nat → Nat
  | 0 => s
  | m + 1 => if Q s = true then s else fi Q (s + 1) m
theorem fi_b {Q : Nat → Bool} : ∀ (m s : Nat), s ≤ fi Q s m ∧ fi Q s m ≤ s + m := by
  intro m
  induction m with
  | zero => intro s; exact ⟨Nat.le_refl _, Nat.le_refl _⟩
  | succ m ih =>
    intro s
    unfold fi
    by_cases h : Q s = true
    · rw [if_pos h]; omega
    · rw [if_neg h]; have := ih (s + 1); omega
theorem fi_t {Q : Nat → Bool} : ∀ (m s : Nat), fi Q s m < s + m → Q (fi Q s m) = true := by
  intro m
  induction m with
  | zero => intro s h; unfold fi at h; omega
  | succ m ih =>
    intro s h
    unfold fi at h ⊢
    by_cases q : Q s = true
    · rw [if_pos q]; exact q
    · rw [if_neg q] at h ⊢; exact ih (s + 1) (by omega)
theorem fi_n {Q : Nat → Bool} : ∀ (m s k : Nat), s ≤ k → k < fi Q s m → Q k = false := by
  intro m
  induction m with
  | zero => intro s k h1 h2; unfold fi at h2; omega
  | succ m ih =>
    intro s k h1 h2
    unfold fi at h2
    by_cases q : Q s = true
    · rw [if_pos q] at h2; omega
    · rw [if_neg q] at h2
      by_cases e : s = k
      · subst e; exact Bool.not_eq_true _ ▸ q
      · exact ih (s + 1) k (by omega) h2
theorem fi_c {Q Q' : Nat → Bool} : ∀ (m s : Nat), (∀ k, s ≤ k → k < s + m → Q k = Q' k) → fi Q s m = fi Q' s m := by
  intro m
  induction m with
  | zero => intro s _; rfl
  | succ m ih =>
    intro s h
    unfold fi
    rw [h s (by omega) (by omega), ih (s + 1) fun k h1 h2 => h k (by omega) (by omega)]
theorem zsr {σ : Type} {n : Nat} {f : Nat → σ → Option zR} {P : Nat → σ → Prop} {Q : Nat → Bool} (h : ∀ i s, i < n → P i s → Q i = false → ∃ s', P (i + 1) s' ∧ ∀ w, f (i + 1) s' = w → f i s = w) : ∀ (m i : Nat) (s : σ), i + m = n → P i s → ∃ s', P (fi Q i m) s' ∧ f i s = f (fi Q i m) s' := by
  intro m
  induction m with
  | zero => intro i s _ hp; exact ⟨s, hp, rfl⟩
  | succ m ih =>
    intro i s hi hp
    unfold fi
    by_cases q : Q i = true
    · rw [if_pos q]; exact ⟨s, hp, rfl⟩
    · rw [if_neg q]
      obtain ⟨s1, p1, e1⟩ := h i s (by omega) hp (Bool.not_eq_true _ ▸ q)
      obtain ⟨s2, p2, e2⟩ := ih (i + 1) s1 (by omega) p1
      exact ⟨s2, p2, (e1 _ rfl).trans e2⟩
theorem nlt {a b : Nat} (ha : a < 2 ^ 31) (hb : b < 2 ^ 31) : (nI a < nI b) = (a < b) := by rw [i_lt, nI_int ha, nI_int hb]; exact propext (by omega)
theorem nle {a b : Nat} (ha : a < 2 ^ 31) (hb : b < 2 ^ 31) : (nI a ≤ nI b) = (a ≤ b) := by rw [i_le, nI_int ha, nI_int hb]; exact propext (by omega)
theorem neq {a b : Nat} (ha : a < 2 ^ 31) (hb : b < 2 ^ 31) : (nI a = nI b) = (a = b) := propext ⟨fun h => by have := congrArg Int32.toInt h; rw [nI_int ha, nI_int hb] at this; omega, fun h => by rw [h]⟩
/-- thought, and laid back -/
def bk (M : zM) (B : zB) (R : Nat → Int32) : zM := u2 (cpK (mb (cpK M (20, 0, 0) (21, 0, 0) 93) B R) (21, 0, 0) (20, 0, 0) 93) (7, 0, 0) 5 0
theorem sm_bk {M : zM} {B : zB} {R : Nat → Int32} (h3 : R 3 = M (7, 0, 0) 3) (h5 : M (7, 0, 0) 5 = 0) (h8 : R 8 = M (7, 0, 0) 8) : sm M (bk M B R) := sm_back h3 h5 h8
theorem bk_R {M : zM} {B : zB} {R : Nat → Int32} {f : Nat} (h : f ≠ 5) : bk M B R (7, 0, 0) f = R f := by
  unfold bk
  rw [u2_f h]
  exact (if_neg (fun e => nomatch e.1)).trans mb_R
theorem bk_5 {M : zM} {B : zB} {R : Nat → Int32} : bk M B R (7, 0, 0) 5 = 0 := u2_same
def rS (nv np : Nat) (B : zB) (R : Nat → Int32) : Nat → Nat → Int32
  | 0 => R
  | n + 1 => uS R 6 ((bst nv np B (n + 1)).1 8)
theorem rS_o {nv np : Nat} {B : zB} {R : Nat → Int32} {n f : Nat} (h : f ≠ 6) : rS nv np B R n f = R f := by
  cases n with
  | zero => rfl
  | succ n => exact uS_n h
theorem rS_s {nv np : Nat} {B : zB} {R : Nat → Int32} {n : Nat} : uS (rS nv np B R n) 6 ((bst nv np B (n + 1)).1 8) = rS nv np B R (n + 1) := by
  cases n with
  | zero => rfl
  | succ n => exact uS_uS
section WS
variable (X : Nat × (Nat → Int32) × Value) (d : Nat) (M : zM) (G : zG)
theorem W11 {nv np : Nat} {B : zB} (h : vb B nv np) (n : Nat) : zd X (d + 3) 11 [vR (0, 3, 0)] (hh (cb M 3 (bst nv np B n)) G) = some (none, hh (cb M 3 (bst nv np B (n + 1))) G) := B11 X d M G 3 _ nv np (bst_v h n)
theorem W148 {nv np : Nat} {B : zB} {R : Nat → Int32} (h : vb B nv np) (hR : R 5 = B.1 6) (n : Nat) : zd X (d + 7) 148 [vR (7, 0, 0)] (hh (mb M (bst nv np B n) (rS nv np B R n)) G) = some (none, hh (mb M (bst nv np B (n + 1)) (rS nv np B R (n + 1))) G) := by
  have q := B148 X d M G (bst nv np B n) (rS nv np B R n) nv np (bst_v h n) (by rw [rS_o (by decide), hR, bst_6])
  rw [show stp nv np (bst nv np B n) = bst nv np B (n + 1) from rfl, rS_s] at q
  exact q
theorem T151 (B : zB) (R : Nat → Int32) : zd X (d + 1) 151 [vR (7, 0, 0)] (hh (mb (cpK M (20, 0, 0) (21, 0, 0) 93) B R) G) = some (none, hh (bk M B R) G) := C151 X d _ G
end WS
theorem W149 (X : Nat × (Nat → Int32) × Value) (d : Nat) (M : zM) (G : zG) {nv np : Nat} {B : zB} {R : Nat → Int32} (h : vb B nv np) (hR : R 5 = B.1 6) (n : Nat) (hn : n < 2 ^ 31) : zd X (d + 8) 149 [vR (7, 0, 0), vI (nI n)] (hh (mb M B R) G) = some (none, hh (mb M (bst nv np B n) (rS nv np B R n)) G) := by
  have l := zlf (n := n) (f := fun i => zx X (d + 8) 149 2 [vR (7, 0, 0), vI (nI n), vI (nI i)] [] (hh (mb M (bst nv np B i) (rS nv np B R i)) G)) (fun i hi w ew => by
    have st := W148 X d M G h hR i
    simp only [e149_2, e149_3, e149_4, nle hn (show i < 2 ^ 31 by omega)]
    rw [if_neg (by omega)]
    simp only [e149_7, e149_8, e149_11, e149_14, zt0, zt1, zn3, not_false_eq_true, toListS, toListN, zk_some, zpi, st, nI_1]
    exact ew) n 0 (by omega)
  rw [nI_0] at l
  simp only [E149, e149_0, e149_1, zt0, zt1, zn3, not_false_eq_true, toListS, toListN, zk_some, zpi]
  refine Eq.trans l ?_
  simp only [e149_2, e149_3, e149_4, nle hn hn]
  rw [if_pos (Nat.le_refl _)]
  simp only [e149_17]
theorem ni_0 {x : Int32} : x + 0 = x := Int32.add_zero x
def tns (nv np : Nat) (B : zB) (p : Nat) : Nat → Int32
  | 0 => 0
  | n + 1 => if sta nv np (bst nv np B n) p = 0 then tns nv np B p n else tns nv np B p n + 1
theorem tns_c {nv np : Nat} {B C : zB} (h : vb B nv np) (h6 : B.1 6 = 0) (a : ag nv np B C) (p : Nat) (hp : p < np) : ∀ n, tns nv np B p n = tns nv np C p n := by
  intro n
  induction n with
  | zero => rfl
  | succ n ih =>
    unfold tns
    rw [ih, sta_c (bst_v h n) ((bst_6 n).trans h6) (bst_c h a n) p hp]
theorem C35 (X : Nat × (Nat → Int32) × Value) (d : Nat) {M : zM} (G : zG) {nv np : Nat} (s : ST M nv np) (p : Nat) (hp : p < np) (n : Nat) (hn : n < 2 ^ 30) : zd X (d + 5) 35 [vR (2, 0, 0), vR (0, 0, 0), vI (nI p), vI (nI n)] (hh M G) = some (some (vI (tns nv np (bc M nv np) p n)), hh (cb M 3 (bst nv np (bc M nv np) n)) G) := by
  have vc := s.2.2.2.2.2.2.2.2.2.2.1
  have l := zlf (n := n) (f := fun i => zx X (d + 5) 35 14 [vR (2, 0, 0), vR (0, 0, 0), vI (nI p), vI (nI n), vI (tns nv np (bc M nv np) p i), vI (nI (i + 1))] [] (hh (cb M 3 (bst nv np (bc M nv np) i)) G)) (fun i hi w ew => by
    have st : zd X (d + 4) 36 [vR (2, 0, 0), vI (nI p)] (hh (cb M 3 (bst nv np (bc M nv np) i)) G) = some (some (vI (sta nv np (bst nv np (bc M nv np) i) p)), hh (cb M 3 (bst nv np (bc M nv np) (i + 1))) G) := C36 X d M G nv np _ (bst_v vc i) p hp
    simp only [e35_14, e35_16, e35_17, nlt (show n < 2 ^ 31 by omega) (show i + 1 < 2 ^ 31 by omega)]
    rw [if_neg (by omega)]
    simp only [e35_20, e35_21, e35_22, e35_25, zt0, zt1, zn3, not_false_eq_true, toListS, toListN, zk_some, zpi, st]
    by_cases q : sta nv np (bst nv np (bc M nv np) i) p = 0
    · rw [if_pos q]
      simp only [e35_31, e35_34, nI_1]
      simp only [tns, if_pos q] at ew
      exact ew
    · rw [if_neg q]
      simp only [e35_28, e35_31, e35_34, nI_1]
      simp only [tns, if_neg q] at ew
      exact ew) n 0 (by omega)
  rw [show nI (0 + 1) = 1 from rfl] at l
  simp only [E35, e35_0, e35_1, e35_4, e35_5, e35_8, e35_9, e35_11, e35_12, zt0, zt1, zn3, not_false_eq_true, toListS, toListN, zk_some, zpi, T1 X _ G s]
  refine Eq.trans l ?_
  simp only [e35_14, e35_16, e35_17, nlt (show n < 2 ^ 31 by omega) (show n + 1 < 2 ^ 31 by omega)]
  rw [if_pos (by omega)]
  simp only [e35_37, e35_39, zt0, zt1, zn3, not_false_eq_true, toListS, toListN, zk_some, zpi]
theorem C187 (X : Nat × (Nat → Int32) × Value) (d : Nat) (M : zM) (G : zG) {nv np : Nat} {B : zB} {R : Nat → Int32} (h : vb B nv np) (hR : R 5 = B.1 6) (p : Nat) (hp : p < np) (n : Nat) (hn : n < 2 ^ 31) (l3' : Int32) : zx X (d + 9) 187 40 [vR (7, 0, 0), vI (nI p), vI (nI n), vI l3', vI 0, vI 0] [] (hh (mb M B R) G) = zx X (d + 9) 187 70 [vR (7, 0, 0), vI (nI p), vI (nI n), vI l3', vI (tns nv np B p n), vI (nI n)] [] (hh (mb M (bst nv np B n) (rS nv np B R n)) G) := by
  have l := zlf (n := n) (f := fun i => zx X (d + 9) 187 40 [vR (7, 0, 0), vI (nI p), vI (nI n), vI l3', vI (tns nv np B p i), vI (nI i)] [] (hh (mb M (bst nv np B i) (rS nv np B R i)) G)) (fun i hi w ew => by
    have st : zd X (d + 8) 185 [vR (7, 0, 0), vI (nI p)] (hh (mb M (bst nv np B i) (rS nv np B R i)) G) = some (some (vI (sta nv np (bst nv np B i) p)), hh (mb M (bst nv np B (i + 1)) (rS nv np B R (i + 1))) G) := by
      have := C185 X d M G nv np (bst nv np B i) (rS nv np B R i) (bst_v h i) (by rw [rS_o (by decide), hR, bst_6]) p hp
      rw [show stp nv np (bst nv np B i) = bst nv np B (i + 1) from rfl, rS_s] at this
      exact this
    simp only [e187_40, e187_42, e187_43, nle hn (show i < 2 ^ 31 by omega)]
    rw [if_neg (by omega)]
    simp only [e187_46, e187_48, e187_49, e187_50, e187_53, zt0, zt1, zn3, not_false_eq_true, toListS, toListN, zk_some, zpi, st]
    by_cases q : sta nv np (bst nv np B i) p = 0
    · rw [if_pos q]
      simp only [e187_60, e187_61, e187_62, e187_64, e187_67, nI_1, ni_0]
      simp only [tns, if_pos q] at ew
      exact ew
    · rw [if_neg q]
      simp only [e187_56, e187_57, e187_61, e187_62, e187_64, e187_67, nI_1]
      simp only [tns, if_neg q] at ew
      exact ew) n 0 (by omega)
  rw [nI_0] at l
  refine Eq.trans l ?_
  simp only [e187_40, e187_42, e187_43, nle hn hn]
  rw [if_pos (Nat.le_refl _)]
theorem K17 (X : Nat × (Nat → Int32) × Value) (t : Nat) (M : zM) (G : zG) (x n : Int32) (i : Inv t M) : okI X 90 187 [vI x, vI n] t M G := by
  obtain ⟨nv, np, s⟩ := ST_of i
  have s' := s
  obtain ⟨n5, n8, e2, e3, m0, m1, v, o6, f5, a, vc, ac, vm⟩ := s'
  rcases isx_c (n := np) x (by omega) with ⟨h, -⟩ | ⟨p, hp, rfl, h⟩
  · refine ⟨-1, rfs M 1, G, rfm (rfs M 1) 1, G, ?_, ?_, Inv_rf i⟩
    · simp only [E90, e90_0, e90_1, e90_4, e90_5, e90_8, e90_11, e90_12, e90_13, e90_16, e90_17, e90_18, e90_19, e90_21, e90_24, e90_25, e90_26, e90_29, e90_30, e90_31, e90_34, e90_35, e90_36, e90_39, e90_40, e90_43, e90_44, e90_45, e90_48, zt0, zt1, zn3, not_false_eq_true, toListS, toListN, zk_some, zpi, if_true, if_false, i10, C3x X _ M G np e3 n8, h, C114_1, q_lt_m1_0, q_le_m1_0, q_eq_m1_0]
    · simp only [E187, e187_0, e187_1, e187_2, e187_5, e187_8, e187_9, e187_10, e187_12, e187_15, e187_18, e187_19, e187_20, e187_21, e187_24, e187_25, e187_26, e187_29, e187_30, e187_31, e187_33, e187_34, e187_37, e187_38, e187_40, e187_42, e187_43, e187_46, e187_48, e187_49, e187_50, e187_53, e187_56, e187_57, e187_60, e187_61, e187_62, e187_64, e187_67, e187_70, e187_71, e187_74, e187_76, zt0, zt1, zn3, not_false_eq_true, toListS, toListN, zk_some, zpi, if_true, if_false, i10, C133 X _ _ G _ np (show rfs M 1 (20, 0, 0) 1 = nI np from m1) (by omega), h, C129_1, q_lt_m1_0, q_le_m1_0, q_eq_m1_0]
  · rcases wrg_c n 0 99 (by decide) with ⟨q, -⟩ | ⟨q, -⟩ | ⟨q, -, k, -, hk, rfl⟩
    · have q : wrg n 0 99 = -4 := q
      refine ⟨-4, rfs M 4, G, rfm (rfs M 4) 4, G, ?_, ?_, Inv_rf i⟩
      · simp only [E90, e90_0, e90_1, e90_4, e90_5, e90_8, e90_11, e90_12, e90_13, e90_16, e90_17, e90_18, e90_19, e90_21, e90_24, e90_25, e90_26, e90_29, e90_30, e90_31, e90_34, e90_35, e90_36, e90_39, e90_40, e90_43, e90_44, e90_45, e90_48, zt0, zt1, zn3, not_false_eq_true, toListS, toListN, zk_some, zpi, if_true, if_false, i10, C3x X _ M G np e3 n8, h, C118, q, j_0, k_0, j_99, k_99, C114_4, q_lt_m4_0, q_le_m4_0, q_eq_m4_0]
      · simp only [E187, e187_0, e187_1, e187_2, e187_5, e187_8, e187_9, e187_10, e187_12, e187_15, e187_18, e187_19, e187_20, e187_21, e187_24, e187_25, e187_26, e187_29, e187_30, e187_31, e187_33, e187_34, e187_37, e187_38, e187_40, e187_42, e187_43, e187_46, e187_48, e187_49, e187_50, e187_53, e187_56, e187_57, e187_60, e187_61, e187_62, e187_64, e187_67, e187_70, e187_71, e187_74, e187_76, zt0, zt1, zn3, not_false_eq_true, toListS, toListN, zk_some, zpi, if_true, if_false, i10, C133 X _ _ G _ np (show rfs M 4 (20, 0, 0) 1 = nI np from m1) (by omega), h, C136, q, j_0, k_0, j_99, k_99, C129_4, q_lt_m4_0, q_le_m4_0, q_eq_m4_0]
    · have q : wrg n 0 99 = -6 := q
      refine ⟨-6, rfs M 6, G, rfm (rfs M 6) 6, G, ?_, ?_, Inv_rf i⟩
      · simp only [E90, e90_0, e90_1, e90_4, e90_5, e90_8, e90_11, e90_12, e90_13, e90_16, e90_17, e90_18, e90_19, e90_21, e90_24, e90_25, e90_26, e90_29, e90_30, e90_31, e90_34, e90_35, e90_36, e90_39, e90_40, e90_43, e90_44, e90_45, e90_48, zt0, zt1, zn3, not_false_eq_true, toListS, toListN, zk_some, zpi, if_true, if_false, i10, C3x X _ M G np e3 n8, h, C118, q, j_0, k_0, j_99, k_99, C114_6, q_lt_m6_0, q_le_m6_0, q_eq_m6_0]
      · simp only [E187, e187_0, e187_1, e187_2, e187_5, e187_8, e187_9, e187_10, e187_12, e187_15, e187_18, e187_19, e187_20, e187_21, e187_24, e187_25, e187_26, e187_29, e187_30, e187_31, e187_33, e187_34, e187_37, e187_38, e187_40, e187_42, e187_43, e187_46, e187_48, e187_49, e187_50, e187_53, e187_56, e187_57, e187_60, e187_61, e187_62, e187_64, e187_67, e187_70, e187_71, e187_74, e187_76, zt0, zt1, zn3, not_false_eq_true, toListS, toListN, zk_some, zpi, if_true, if_false, i10, C133 X _ _ G _ np (show rfs M 6 (20, 0, 0) 1 = nI np from m1) (by omega), h, C136, q, j_0, k_0, j_99, k_99, C129_6, q_lt_m6_0, q_le_m6_0, q_eq_m6_0]
    · have q : wrg (nI k) 0 99 = 0 := q
      have c35 := C35 X 6 G s p hp k (by omega)
      have s2 : sm M (cb M 3 (bst nv np (bc M nv np) k)) := sm_cb (by decide)
      have m1' : cb M 3 (bst nv np (bc M nv np) k) (20, 0, 0) 1 = nI np := m1
      have t5 := T150 X 10 G (M := cb M 3 (bst nv np (bc M nv np) k))
      have eb : bm (cb M 3 (bst nv np (bc M nv np) k)) = bm M := rfl
      rw [eb] at t5
      have c187 := fun l3 => C187 X 3 (cpK (cb M 3 (bst nv np (bc M nv np) k)) (20, 0, 0) (21, 0, 0) 93) G (R := cb M 3 (bst nv np (bc M nv np) k) (7, 0, 0)) vm f5 p hp k (by omega) l3
      refine ⟨tns nv np (bc M nv np) p k, cb M 3 (bst nv np (bc M nv np) k), G, bk (cb M 3 (bst nv np (bc M nv np) k)) (bst nv np (bm M) k) (rS nv np (bm M) (cb M 3 (bst nv np (bc M nv np) k) (7, 0, 0)) k), G, ?_, ?_, Inv_c (sm_t s2 (sm_bk (rS_o (by decide)) f5 (rS_o (by decide)))) (Nat.le_refl _) i⟩
      · simp only [E90, e90_0, e90_1, e90_4, e90_5, e90_8, e90_11, e90_12, e90_13, e90_16, e90_17, e90_18, e90_19, e90_21, e90_24, e90_25, e90_26, e90_29, e90_30, e90_31, e90_34, e90_35, e90_36, e90_39, e90_40, e90_43, e90_44, e90_45, e90_48, zt0, zt1, zn3, not_false_eq_true, toListS, toListN, zk_some, zpi, if_true, if_false, i10, C3x X _ M G np e3 n8, h, C118, q, j_0, k_0, j_99, k_99, c35]
      · rw [tns_c vc rfl ac p hp k]
        simp only [e187_0, e187_1, e187_2, e187_5, e187_8, e187_9, e187_10, e187_12, e187_15, e187_18, e187_19, e187_20, e187_21, e187_24, e187_25, e187_26, e187_29, e187_30, e187_31, e187_33, e187_34, e187_37, e187_38, E187, zt0, zt1, zn3, not_false_eq_true, toListS, toListN, zk_some, zpi, if_true, if_false, i10, C133 X _ _ G _ np m1' (by omega), h, C136, q, j_0, k_0, j_99, k_99, t5, c187, T151 X _ (cb M 3 (bst nv np (bc M nv np) k)) G]
        simp only [c187, e187_70, e187_71, e187_74, e187_76, zt0, zt1, zn3, not_false_eq_true, toListS, toListN, zk_some, zpi, T151 X _ (cb M 3 (bst nv np (bc M nv np) k)) G]
