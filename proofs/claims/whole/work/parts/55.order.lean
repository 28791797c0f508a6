/-! order -/
theorem noinj : ∀ (n : Nat) (g : Nat → Nat), (∀ i, i < n + 1 → g i < n) → (∀ i j, i < n + 1 → j < n + 1 → g i = g j → i = j) → False := by
  intro n
  induction n with
  | zero => intro g h _; have := h 0 (by omega); omega
  | succ n ih =>
    intro g h inj
    have hc := h (n + 1) (by omega)
    have hne : ∀ i, i < n + 1 → g i ≠ g (n + 1) := fun i hi e => by have := inj i (n + 1) (by omega) (by omega) e; omega
    refine ih (fun i => if g (n + 1) < g i then g i - 1 else g i) (fun i hi => ?_) (fun i j hi hj e => ?_)
    · have h1 := h i (by omega)
      have h2 := hne i hi
      split <;> omega
    · have h1 := hne i hi
      have h2 := hne j hj
      refine inj i j (by omega) (by omega) ?_
      split at e <;> split at e <;> omega
theorem surj (n : Nat) (f : Nat → Nat) (h : ∀ i, i < n → f i < n) (inj : ∀ i j, i < n → j < n → f i = f j → i = j) (k : Nat) (hk : k < n) : ∃ i, i < n ∧ f i = k := by
  by_cases q : ∃ i, i < n ∧ f i = k
  · exact q
  · exfalso
    have hne : ∀ i, i < n → f i ≠ k := fun i hi e => q ⟨i, hi, e⟩
    obtain ⟨m, rfl⟩ : ∃ m, n = m + 1 := ⟨n - 1, by omega⟩
    refine noinj m (fun i => if k < f i then f i - 1 else f i) (fun i hi => ?_) (fun i j hi hj e => ?_)
    · have h1 := h i hi
      have h2 := hne i hi
      split <;> omega
    · have h1 := hne i hi
      have h2 := hne j hj
      refine inj i j hi hj ?_
      split at e <;> split at e <;> omega
def aC (A : Nat → Nat → Bool) (v : Nat) : Nat → Nat
  | 0 => 0
  | n + 1 => if A n v = true then aC A v n + 1 else aC A v n
theorem aC_le {A : Nat → Nat → Bool} {v : Nat} : ∀ n, aC A v n ≤ n := by
  intro n
  induction n with
  | zero => exact Nat.le_refl _
  | succ n ih => unfold aC; split <;> omega
theorem aC_lt {A : Nat → Nat → Bool} {v : Nat} (h : A v v = false) : ∀ n, v < n → aC A v n < n := by
  intro n
  induction n with
  | zero => intro h; omega
  | succ n ih =>
    intro hv
    unfold aC
    by_cases e : v = n
    · subst e
      rw [if_neg (by rw [h]; decide)]
      have := aC_le (A := A) (v := v) v
      omega
    · have := ih (by omega)
      split <;> omega
theorem aC_m {A : Nat → Nat → Bool} {v w : Nat} : ∀ n, (∀ k, k < n → A k v = true → A k w = true) → aC A v n ≤ aC A w n := by
  intro n
  induction n with
  | zero => intro _; exact Nat.le_refl _
  | succ n ih =>
    intro h
    have := ih fun k hk => h k (by omega)
    have q := h n (by omega)
    unfold aC
    by_cases e : A n v = true
    · rw [if_pos e, if_pos (q e)]; omega
    · rw [if_neg e]; split <;> omega
theorem aC_s {A : Nat → Nat → Bool} {v w z : Nat} : ∀ n, (∀ k, k < n → A k v = true → A k w = true) → z < n → A z w = true → A z v = false → aC A v n < aC A w n := by
  intro n
  induction n with
  | zero => intro _ h; omega
  | succ n ih =>
    intro h hz h1 h2
    have q := h n (by omega)
    unfold aC
    by_cases e : z = n
    · subst e
      have := aC_m (A := A) (v := v) (w := w) z fun k hk => h k (by omega)
      rw [if_neg (by rw [h2]; decide), if_pos h1]
      omega
    · have := ih (fun k hk => h k (by omega)) (by omega) h1 h2
      by_cases e : A n v = true
      · rw [if_pos e, if_pos (q e)]; omega
      · rw [if_neg e]; split <;> omega
theorem aC_c {A B : Nat → Nat → Bool} {v : Nat} : ∀ n, (∀ k, k < n → A k v = B k v) → aC A v n = aC B v n := by
  intro n
  induction n with
  | zero => intro _; rfl
  | succ n ih =>
    intro h
    unfold aC
    rw [h n (by omega), ih fun k hk => h k (by omega)]
def hdf (V : tV) (a v : Nat) : Int32 := sHt V a * V v 0 - sHt V v * V a 0
def ahd (V : tV) (a v : Nat) : Bool := decide (0 < hdf V a v ∨ (hdf V a v = 0 ∧ a < v))
theorem hdf_v {V : tV} {nv : Nat} (hV : ∀ j, j < nv → vV V j) (hw : ∀ j, j < nv → 0 ≤ wat V j ∧ wat V j ≤ brim V j) {a v : Nat} (ha : a < nv) (hv : v < nv) : (hdf V a v).toInt = (sHt V a).toInt * (V v 0).toInt - (sHt V v).toInt * (V a 0).toInt ∧ 0 ≤ (sHt V a).toInt ∧ (sHt V a).toInt ≤ 450 := by
  have ea := sHt_v (hV a ha) (hw a ha).1 (by have := brim_v (hV a ha); have := hw a ha; omega)
  have ev := sHt_v (hV v hv) (hw v hv).1 (by have := brim_v (hV v hv); have := hw v hv; omega)
  have ba := brim_v (hV a ha)
  have bv := brim_v (hV v hv)
  have wa := hw a ha
  have wv := hw v hv
  have a1 := (hV a ha).1
  have a2 := (hV a ha).2.1
  have v1 := (hV v hv).1
  have v2 := (hV v hv).2.1
  have m1 := mul_bd (x := (sHt V a).toInt) (y := (V v 0).toInt) (p := 450) (q := 9) (by omega) (by omega) (by omega) (by omega)
  have m2 := mul_bd (x := (sHt V v).toInt) (y := (V a 0).toInt) (p := 450) (q := 9) (by omega) (by omega) (by omega) (by omega)
  have p1 : (sHt V a * V v 0).toInt = (sHt V a).toInt * (V v 0).toInt := i_mul_s (by omega) (by omega)
  have p2 : (sHt V v * V a 0).toInt = (sHt V v).toInt * (V a 0).toInt := i_mul_s (by omega) (by omega)
  refine ⟨?_, by omega, by omega⟩
  unfold hdf
  rw [i_sub_s (by rw [p1, p2]; omega) (by rw [p1, p2]; omega), p1, p2]
theorem ahd_i {V : tV} {nv : Nat} (hV : ∀ j, j < nv → vV V j) (hw : ∀ j, j < nv → 0 ≤ wat V j ∧ wat V j ≤ brim V j) {a v : Nat} (ha : a < nv) (hv : v < nv) : ahd V a v = true ↔ ((sHt V v).toInt * (V a 0).toInt < (sHt V a).toInt * (V v 0).toInt ∨ ((sHt V v).toInt * (V a 0).toInt = (sHt V a).toInt * (V v 0).toInt ∧ a < v)) := by
  have e := (hdf_v hV hw ha hv).1
  unfold ahd
  rw [decide_eq_true_iff, i_lt, show (0 : Int32).toInt = 0 from rfl]
  constructor
  · rintro (h | ⟨h, h'⟩)
    · left; omega
    · right
      rw [h, show (0 : Int32).toInt = 0 from rfl] at e
      exact ⟨by omega, h'⟩
  · rintro (h | ⟨h, h'⟩)
    · left; omega
    · right
      exact ⟨i_ext (by rw [e, show (0 : Int32).toInt = 0 from rfl]; omega), h'⟩
/-- three fractions in order -/
theorem fr_t {h1 h2 h3 a1 a2 a3 : Int} (p1 : 0 < a1) (p2 : 0 < a2) (p3 : 0 < a3) (x : h2 * a1 ≤ h1 * a2) (y : h3 * a2 ≤ h2 * a3) : h3 * a1 ≤ h1 * a3 ∧ (h3 * a1 = h1 * a3 → h2 * a1 = h1 * a2 ∧ h3 * a2 = h2 * a3) := by
  have x' := Int.mul_le_mul_of_nonneg_right x (Int.le_of_lt p3)
  have y' := Int.mul_le_mul_of_nonneg_right y (Int.le_of_lt p1)
  have e1 : h2 * a1 * a3 = h2 * a3 * a1 := by rw [Int.mul_assoc, Int.mul_comm a1 a3, Int.mul_assoc]
  have e2 : h3 * a2 * a1 = h3 * a1 * a2 := by rw [Int.mul_assoc, Int.mul_comm a2 a1, Int.mul_assoc]
  have e3 : h1 * a2 * a3 = h1 * a3 * a2 := by rw [Int.mul_assoc, Int.mul_comm a2 a3, Int.mul_assoc]
  have z : h3 * a1 * a2 ≤ h1 * a3 * a2 := by omega
  refine ⟨Int.le_of_mul_le_mul_right z p2, fun e => ?_⟩
  rw [e] at e2
  have q1 : h2 * a1 * a3 = h1 * a2 * a3 := by omega
  have q2 : h3 * a2 * a1 = h2 * a3 * a1 := by omega
  exact ⟨Int.eq_of_mul_eq_mul_right (by omega) q1, Int.eq_of_mul_eq_mul_right (by omega) q2⟩
theorem ahd_f {V : tV} {v : Nat} : ahd V v v = false := by
  unfold ahd
  refine decide_eq_false ?_
  rintro (h | h)
  · unfold hdf at h
    rw [Int32.sub_self] at h
    exact absurd h (by decide)
  · omega
/-- of which there are k ahead: one, and one alone -/
theorem ord1 {V : tV} {nv : Nat} (hV : ∀ j, j < nv → vV V j) (hw : ∀ j, j < nv → 0 ≤ wat V j ∧ wat V j ≤ brim V j) (k : Nat) (hk : k < nv) : ∃ m, m < nv ∧ aC (ahd V) m nv = k ∧ ∀ j, j < nv → aC (ahd V) j nv = k → j = m := by
  have tr : ∀ a b c, a < nv → b < nv → c < nv → ahd V a b = true → ahd V b c = true → ahd V a c = true := by
    intro a b c ha hb hc h1 h2
    rw [ahd_i hV hw ha hb] at h1
    rw [ahd_i hV hw hb hc] at h2
    rw [ahd_i hV hw ha hc]
    have p1 := (hV a ha).1
    have p2 := (hV b hb).1
    have p3 := (hV c hc).1
    have t := fr_t (h1 := (sHt V a).toInt) (h2 := (sHt V b).toInt) (h3 := (sHt V c).toInt) (a1 := (V a 0).toInt) (a2 := (V b 0).toInt) (a3 := (V c 0).toInt) (by omega) (by omega) (by omega) (by omega) (by omega)
    by_cases e : (sHt V c).toInt * (V a 0).toInt = (sHt V a).toInt * (V c 0).toInt
    · have t2 := t.2 e
      right
      exact ⟨e, by omega⟩
    · left
      omega
  have tot : ∀ a b, a < nv → b < nv → a ≠ b → ahd V a b = true ∨ ahd V b a = true := by
    intro a b ha hb hn
    rw [ahd_i hV hw ha hb, ahd_i hV hw hb ha]
    omega
  have asy : ∀ a b, a < nv → b < nv → ahd V a b = true → ahd V b a = false := by
    intro a b ha hb h
    by_cases q : ahd V b a = true
    · have := tr a b a ha hb ha h q
      rw [ahd_f] at this
      exact absurd this (by decide)
    · exact Bool.not_eq_true _ ▸ q
  have lt : ∀ a b, a < nv → b < nv → ahd V a b = true → aC (ahd V) a nv < aC (ahd V) b nv := fun a b ha hb h =>
    aC_s (z := a) nv (fun k hk q => tr k a b hk ha hb q h) ha h ahd_f
  have inj : ∀ i j, i < nv → j < nv → aC (ahd V) i nv = aC (ahd V) j nv → i = j := by
    intro i j hi hj e
    by_cases q : i = j
    · exact q
    · rcases tot i j hi hj q with h | h
      · have := lt i j hi hj h; omega
      · have := lt j i hj hi h; omega
  obtain ⟨m, hm, em⟩ := surj nv (fun v => aC (ahd V) v nv) (fun v hv => aC_lt ahd_f nv hv) inj k hk
  exact ⟨m, hm, em, fun j hj ej => inj j m hj hm (ej.trans em.symm)⟩
theorem C17 (X : Nat × (Nat → Int32) × Value) (d : Nat) (M : zM) (G : zG) (b nv v : Nat) (h2 : M (0, b, 0) 2 = nI nv) (h5 : nv ≤ 5) (hv : v < nv) : zd X (d + 2) 17 [vR (0, b, 0), vI (nI v)] (hh M G) = some (some (vI (nI (aC (ahd (vw M b)) v nv))), hh M G) := by
  have v5 : v < 5 := by omega
  obtain ⟨l4, -, lp⟩ := zlr (σ := zV) (n := nv) (f := fun k l4 => zx X (d + 2) 17 14 [vR (0, b, 0), vI (nI v), vI (nI (aC (ahd (vw M b)) v k)), vI (nI k), l4] [] (hh M G)) (P := fun _ _ => True) (fun k l4 hk _ => by
    have k5 : k < 5 := by omega
    have q2 : (nI v ≤ nI k) = (v ≤ k) := nle (by omega) (by omega)
    refine ⟨vI (hdf (vw M b) k v), trivial, fun w ew => ?_⟩
    simp only [e17_14, e17_15, e17_16, e17_19, h2, nle (show nv < 2 ^ 31 by omega) (show k < 2 ^ 31 by omega)]
    rw [if_neg (by omega)]
    have c71 : zd X (d + 1) 71 [vR (5, b, k), vR (5, b, v)] (hh M G) = some (some (vI (hdf (vw M b) k v)), hh M G) := C71 X d M G b k v
    simp only [e17_22, e17_23, e17_26, e17_27, e17_28, e17_29, e17_32, e17_33, e17_34, e17_37, e17_39, e17_41, e17_44, e17_46, e17_49, e17_50, e17_51, zt0, zt1, zn3, not_false_eq_true, toListS, toListN, zk_some, zpi, z5 k5, cl5 k5, z5 v5, cl5 v5, c71, q2]
    by_cases p1 : 0 < hdf (vw M b) k v
    · have pa : ahd (vw M b) k v = true := decide_eq_true (Or.inl p1)
      rw [if_pos p1]
      simp only [e17_54, e17_57, e17_60, nI_1]
      simp only [aC, if_pos pa] at ew
      exact ew
    · rw [if_neg p1]
      by_cases p2 : hdf (vw M b) k v = 0
      · rw [if_pos p2]
        by_cases p3 : v ≤ k
        · have pa : ¬ ahd (vw M b) k v = true := fun e => by rcases of_decide_eq_true e with q | q; exact p1 q; omega
          rw [if_pos p3]
          simp only [e17_57, e17_60, nI_1]
          simp only [aC, if_neg pa] at ew
          exact ew
        · have pa : ahd (vw M b) k v = true := decide_eq_true (Or.inr ⟨p2, by omega⟩)
          rw [if_neg p3]
          simp only [e17_54, e17_57, e17_60, nI_1]
          simp only [aC, if_pos pa] at ew
          exact ew
      · have pa : ¬ ahd (vw M b) k v = true := fun e => by rcases of_decide_eq_true e with q | q; exact p1 q; exact p2 q.1
        rw [if_neg p2]
        simp only [e17_57, e17_60, nI_1]
        simp only [aC, if_neg pa] at ew
        exact ew) nv 0 vN (by omega) trivial
  rw [nI_0, show aC (ahd (vw M b)) v 0 = 0 from rfl, nI_0] at lp
  simp only [E17, e17_0, e17_1, e17_2, e17_5, e17_8, e17_9, e17_10, e17_11, e17_12, e17_13, zt0, zt1, zn3, not_false_eq_true, toListS, toListN, zk_some, zpi, if_true, if_false, i10, C2b X _ _ G b nv h2 h5, isx_y hv (show nv < 2 ^ 31 by omega)]
  refine Eq.trans lp ?_
  simp only [e17_14, e17_15, e17_16, e17_19, h2, nle (show nv < 2 ^ 31 by omega) (show nv < 2 ^ 31 by omega)]
  rw [if_pos (Nat.le_refl _)]
  simp only [e17_63, e17_64]
theorem C198 (X : Nat × (Nat → Int32) × Value) (d : Nat) (M : zM) (G : zG) (S : Nat → Int32) (V P : tV) (R : Nat → Int32) (a v : Nat) (ha : a < 5) (hv : v < 5) : zd X (d + 2) 198 [vR (7, 0, 0), vI (nI a), vI (nI v)] (hh (mm M S V P R) G) = some (some (vI (if ahd V a v = true then 1 else 0)), hh (mm M S V P R) G) := by
  have q2 : (nI v ≤ nI a) = (v ≤ a) := nle (by omega) (by omega)
  have c1 := C137 X d M G S V P R a ha
  have c2 := C137 X d M G S V P R v hv
  have fold : sHt V a * V v 0 - sHt V v * V a 0 = hdf V a v := rfl
  simp only [E198, e198_0, e198_1, e198_2, e198_5, e198_6, e198_9, e198_10, e198_13, e198_14, e198_15, e198_16, e198_17, e198_18, e198_19, e198_22, e198_23, e198_26, e198_27, e198_30, e198_31, e198_32, e198_33, e198_34, e198_35, e198_36, e198_37, e198_40, e198_41, e198_44, e198_45, e198_46, zt0, zt1, zn3, not_false_eq_true, toListS, toListN, zk_some, zpi, c1, c2, C134, niV, ni0, wV0 ha, cV0 ha, mm_V0 ha, wV0 hv, cV0 hv, mm_V0 hv, q2, fold]
  by_cases p1 : 0 < hdf V a v
  · rw [if_pos p1, if_pos (show ahd V a v = true from decide_eq_true (Or.inl p1))]
    simp only [e198_49, e198_50, e198_54, zt0, zt1, zn3, not_false_eq_true, toListS, toListN, zk_some, zpi]
  · rw [if_neg p1]
    by_cases p2 : hdf V a v = 0
    · rw [if_pos p2]
      by_cases p3 : v ≤ a
      · rw [if_pos p3, if_neg (show ¬ ahd V a v = true from fun e => by rcases of_decide_eq_true e with q | q; exact p1 q; omega)]
        simp only [e198_53, e198_54, zt0, zt1, zn3, not_false_eq_true, toListS, toListN, zk_some, zpi]
      · rw [if_neg p3, if_pos (show ahd V a v = true from decide_eq_true (Or.inr ⟨p2, by omega⟩))]
        simp only [e198_49, e198_50, e198_54, zt0, zt1, zn3, not_false_eq_true, toListS, toListN, zk_some, zpi]
    · rw [if_neg p2, if_neg (show ¬ ahd V a v = true from fun e => by rcases of_decide_eq_true e with q | q; exact p1 q; exact p2 q.1)]
      simp only [e198_53, e198_54, zt0, zt1, zn3, not_false_eq_true, toListS, toListN, zk_some, zpi]
def lst (Q : Nat → Bool) : Nat → Nat
  | 0 => 0
  | v + 1 => if Q v = true then v else lst Q v
theorem lst_u {Q : Nat → Bool} {m : Nat} : ∀ n, m < n → Q m = true → (∀ j, j < n → Q j = true → j = m) → lst Q n = m := by
  intro n
  induction n with
  | zero => intro h; omega
  | succ n ih =>
    intro h q u
    unfold lst
    by_cases e : Q n = true
    · rw [if_pos e]; exact u n (by omega) e
    · rw [if_neg e]
      have : m ≠ n := fun w => e (w ▸ q)
      exact ih (by omega) q fun j hj => u j (by omega)
theorem K22 (X : Nat × (Nat → Int32) × Value) (t : Nat) (M : zM) (G : zG) (x : Int32) (i : Inv t M) : okI X 95 199 [vI x] t M G := by
  obtain ⟨nv, np, s⟩ := ST_of i
  have s' := s
  obtain ⟨n5, n8, e2, e3, m0, m1, v, o6, f5, a, vc, ac, vm⟩ := s'
  rcases isx_c (n := nv) x (by omega) with ⟨h, -⟩ | ⟨k, hk, rfl, h⟩
  · refine ⟨-1, rfs M 1, G, rfm (rfs M 1) 1, G, ?_, ?_, Inv_rf i⟩
    · simp only [E95, e95_0, e95_1, e95_4, e95_5, e95_8, e95_11, e95_12, e95_13, e95_16, e95_17, e95_18, e95_19, e95_20, e95_21, e95_24, e95_27, e95_30, e95_31, e95_34, e95_35, e95_38, e95_39, e95_42, e95_43, e95_44, e95_47, e95_50, e95_52, zt0, zt1, zn3, not_false_eq_true, toListS, toListN, zk_some, zpi, if_true, if_false, i10, C2x X _ M G nv e2 n5, h, C114_1, q_lt_m1_0, q_le_m1_0, q_eq_m1_0]
    · simp only [E199, e199_0, e199_1, e199_2, e199_5, e199_8, e199_9, e199_10, e199_13, e199_14, e199_15, e199_16, e199_17, e199_18, e199_19, e199_20, e199_23, e199_24, e199_25, e199_28, e199_29, e199_31, e199_32, e199_34, e199_36, e199_37, e199_40, e199_41, e199_42, e199_45, e199_47, e199_49, e199_50, e199_53, e199_54, e199_56, e199_57, e199_60, e199_63, e199_64, e199_67, e199_68, e199_69, e199_71, e199_74, e199_77, e199_79, e199_80, e199_83, e199_84, e199_87, e199_88, e199_89, e199_92, e199_95, e199_96, zt0, zt1, zn3, not_false_eq_true, toListS, toListN, zk_some, zpi, if_true, if_false, i10, C132 X _ _ G _ nv (show rfs M 1 (20, 0, 0) 0 = nI nv from m0) (by omega), h, C129_1, q_lt_m1_0, q_le_m1_0, q_eq_m1_0]
  obtain ⟨m, hm, em, um⟩ := ord1 (V := (bm M).2.1) vm.1.2.2.2.2.1 vm.2.1 k hk
  have ea : ∀ p q, p < nv → q < nv → ahd (vw M 0) p q = ahd (bm M).2.1 p q := fun p q hp hq => by
    unfold ahd hdf
    rw [sHt_c (V := vw M 0) (V' := (bm M).2.1) (j := p) (fun f hf => sV s hp hf), sHt_c (V := vw M 0) (V' := (bm M).2.1) (j := q) (fun f hf => sV s hq hf), show vw M 0 q 0 = (bm M).2.1 q 0 from sV s hq (by decide), show vw M 0 p 0 = (bm M).2.1 p 0 from sV s hp (by decide)]
  have ec : ∀ q, q < nv → aC (ahd (vw M 0)) q nv = aC (ahd (bm M).2.1) q nv := fun q hq => aC_c nv fun p hp => ea p q hp hq
  refine ⟨nI m, M, G, M, G, ?_, ?_, i⟩
  · have lp := zsf (n := nv) (f := fun q => zx X 12 95 19 [vR (6, 0, 0), vI (nI k), vI (nI q)] [] (hh M G)) (Q := fun q => decide (aC (ahd (vw M 0)) q nv = k)) (fun q hq hQ w ew => by
      have hQ' := of_decide_eq_false hQ
      have c17 := C17 X 9 M G 0 nv q e2 n5 hq
      have z := aC_le (A := ahd (vw M 0)) (v := q) nv
      simp only [e95_19, e95_20, e95_21, e95_24, e95_27, e2, nle (show nv < 2 ^ 31 by omega) (show q < 2 ^ 31 by omega)]
      rw [if_neg (by omega)]
      simp only [e95_30, e95_31, e95_34, e95_35, e95_38, e95_39, zt0, zt1, zn3, not_false_eq_true, toListS, toListN, zk_some, zpi, c17, neq (show aC (ahd (vw M 0)) q nv < 2 ^ 31 by omega) (show k < 2 ^ 31 by omega)]
      rw [if_neg hQ']
      simp only [e95_44, e95_47, nI_1]
      exact ew) nv 0 (by omega)
    have hb := fi_b (Q := fun q => decide (aC (ahd (vw M 0)) q nv = k)) nv 0
    have hn := fi_n (Q := fun q => decide (aC (ahd (vw M 0)) q nv = k)) nv 0
    have ht := fi_t (Q := fun q => decide (aC (ahd (vw M 0)) q nv = k)) nv 0
    generalize fi (fun q => decide (aC (ahd (vw M 0)) q nv = k)) 0 nv = z at lp hb hn ht
    have hz : z < nv := by
      by_cases c : z < nv
      · exact c
      · exfalso
        have := of_decide_eq_false (hn m (by omega) (by omega))
        rw [ec m hm] at this
        exact this em
    have ez := of_decide_eq_true (ht (by omega))
    have : z = m := um z hz (by rw [← ec z hz]; exact ez)
    subst this
    have c17 := C17 X 9 M G 0 nv z e2 n5 hz
    rw [ez] at c17
    rw [nI_0] at lp
    simp only [E95, e95_0, e95_1, e95_4, e95_5, e95_8, e95_11, e95_12, e95_13, e95_16, e95_17, e95_18, zt0, zt1, zn3, not_false_eq_true, toListS, toListN, zk_some, zpi, if_true, if_false, i10, C2x X _ M G nv e2 n5, h]
    refine Eq.trans lp ?_
    simp only [e95_19, e95_20, e95_21, e95_24, e95_27, e2, nle (show nv < 2 ^ 31 by omega) (show z < 2 ^ 31 by omega)]
    rw [if_neg (by omega)]
    simp only [e95_30, e95_31, e95_34, e95_35, e95_38, e95_39, zt0, zt1, zn3, not_false_eq_true, toListS, toListN, zk_some, zpi, if_true, if_false, i10, c17, e95_42, e95_43]
  · have inner : ∀ q, q < nv → ∀ (l2 : Int32) (l4 l5 : zV), ∃ l4' : Int32, zx X 12 199 28 [vR (7, 0, 0), vI (nI k), vI l2, vI (nI q), l4, l5] [] (hh M G) = zx X 12 199 77 [vR (7, 0, 0), vI (nI k), vI l2, vI (nI q), vI (nI (aC (ahd (bm M).2.1) q nv)), vI l4'] [] (hh M G) := by
      intro q hq l2 l4 l5
      have lq := zlf (n := nv) (f := fun p => zx X 12 199 34 [vR (7, 0, 0), vI (nI k), vI l2, vI (nI q), vI (nI (aC (ahd (bm M).2.1) q p)), vI (nI p)] [] (hh M G)) (fun p hp w ew => by
        have c198 := C198 X 9 M G (bm M).1 (bm M).2.1 (bm M).2.2 (M (7, 0, 0)) p q (by omega) (by omega)
        rw [show mm M (bm M).1 (bm M).2.1 (bm M).2.2 (M (7, 0, 0)) = M from mbs M] at c198
        simp only [e199_34, e199_36, e199_37, e199_40, e199_41, e199_42, w0, t0, m0, nle (show nv < 2 ^ 31 by omega) (show p < 2 ^ 31 by omega)]
        rw [if_neg (by omega)]
        simp only [e199_45, e199_47, e199_49, e199_50, neq (show p < 2 ^ 31 by omega) (show q < 2 ^ 31 by omega)]
        by_cases e : p = q
        · rw [if_pos e]
          simp only [e199_67, e199_68, e199_69, e199_71, e199_74, nI_1, ni_0]
          simp only [aC, e, ahd_f, Bool.false_eq_true, if_false] at ew
          rw [e]
          exact ew
        · rw [if_neg e]
          simp only [e199_53, e199_54, e199_56, e199_57, e199_60, zt0, zt1, zn3, not_false_eq_true, toListS, toListN, zk_some, zpi, c198]
          by_cases c : ahd (bm M).2.1 p q = true
          · rw [if_pos c, if_neg (by decide)]
            simp only [e199_63, e199_64, e199_68, e199_69, e199_71, e199_74, nI_1]
            simp only [aC, if_pos c] at ew
            exact ew
          · rw [if_neg c, if_pos rfl]
            simp only [e199_67, e199_68, e199_69, e199_71, e199_74, nI_1, ni_0]
            simp only [aC, if_neg c] at ew
            exact ew) nv 0 (by omega)
      refine ⟨nI nv, ?_⟩
      rw [nI_0, show aC (ahd (bm M).2.1) q 0 = 0 from rfl, nI_0] at lq
      simp only [e199_28, e199_29, e199_31, e199_32]
      refine Eq.trans lq ?_
      simp only [e199_34, e199_36, e199_37, e199_40, e199_41, e199_42, w0, t0, m0, nle (show nv < 2 ^ 31 by omega) (show nv < 2 ^ 31 by omega)]
      rw [if_pos (Nat.le_refl _)]
    obtain ⟨⟨l4, l5⟩, -, lp⟩ := zlr (σ := zV × zV) (n := nv) (f := fun q z => zx X 12 199 18 [vR (7, 0, 0), vI (nI k), vI (nI (lst (fun q => decide (aC (ahd (bm M).2.1) q nv = k)) q)), vI (nI q), z.1, z.2] [] (hh M G)) (P := fun _ _ => True) (fun q z hq _ => by
      obtain ⟨l4', e⟩ := inner q hq (nI (lst (fun q => decide (aC (ahd (bm M).2.1) q nv = k)) q)) z.1 z.2
      have zz := aC_le (A := ahd (bm M).2.1) (v := q) nv
      refine ⟨(vI (nI (aC (ahd (bm M).2.1) q nv)), vI l4'), trivial, fun w ew => ?_⟩
      simp only [e199_18, e199_19, e199_20, e199_23, e199_24, e199_25, w0, t0, m0, nle (show nv < 2 ^ 31 by omega) (show q < 2 ^ 31 by omega)]
      rw [if_neg (by omega), e]
      simp only [e199_77, e199_79, e199_80, neq (show aC (ahd (bm M).2.1) q nv < 2 ^ 31 by omega) (show k < 2 ^ 31 by omega)]
      by_cases c : aC (ahd (bm M).2.1) q nv = k
      · rw [if_pos c]
        simp only [e199_83, e199_84, e199_88, e199_89, e199_92, nI_1]
        simp only [lst, decide_eq_true c, if_true] at ew
        exact ew
      · rw [if_neg c]
        simp only [e199_87, e199_88, e199_89, e199_92, nI_1]
        simp only [lst, decide_eq_false c, Bool.false_eq_true, if_false] at ew
        exact ew) nv 0 (vN, vN) (by omega) trivial
    rw [nI_0, show lst (fun q => decide (aC (ahd (bm M).2.1) q nv = k)) 0 = 0 from rfl, nI_0, lst_u nv hm (decide_eq_true em) (fun j hj q => um j hj (of_decide_eq_true q))] at lp
    simp only [E199, e199_0, e199_1, e199_2, e199_5, e199_8, e199_9, e199_10, e199_13, e199_14, e199_15, e199_16, e199_17, zt0, zt1, zn3, not_false_eq_true, toListS, toListN, zk_some, zpi, if_true, if_false, i10, C132 X _ M G _ nv m0 (show nv ≤ 8 by omega), h]
    refine Eq.trans lp ?_
    simp only [e199_18, e199_19, e199_20, e199_23, e199_24, e199_25, w0, t0, m0, nle (show nv < 2 ^ 31 by omega) (show nv < 2 ^ 31 by omega)]
    rw [if_pos (Nat.le_refl _)]
    simp only [e199_95, e199_96]
