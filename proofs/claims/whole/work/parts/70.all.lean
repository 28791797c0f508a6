/-! all statements read -/
def pos (L : Nat → Int32) : Nat → Nat
  | 0 => 0
  | k + 1 => (stk L (pos L k)).2
def Qk (L : Nat → Int32) (n k : Nat) : Bool := !(stk L (pos L k)).1 || decide (n ≤ pos L (k + 1))
def kk (L : Nat → Int32) (n : Nat) : Nat := fi (Qk L n) 0 120
def Ns (L : Nat → Int32) (N : Nat → Int32) : Nat → Nat → Int32
  | 0 => N
  | k + 1 => stN L (pos L k) (Ns L N k)
theorem Qk_f {L : Nat → Int32} {n k : Nat} (h : Qk L n k = false) : (stk L (pos L k)).1 = true ∧ pos L (k + 1) < n := by
  unfold Qk at h
  rw [Bool.or_eq_false_iff, Bool.not_eq_false', decide_eq_false_iff_not] at h
  exact ⟨h.1, by omega⟩
theorem pos_le {T : Nat → Int32} {n : Nat} : ∀ k, pos (lt T n) k ≤ n := by
  intro k
  induction k with
  | zero => exact Nat.zero_le _
  | succ k ih => exact (stk_le ih).2.1
theorem pos_up {T : Nat → Int32} {n : Nat} (k : Nat) : pos (lt T n) k ≤ pos (lt T n) (k + 1) := (stk_le (pos_le k)).1
theorem pos_ge {T : Nat → Int32} {n : Nat} : ∀ k, (∀ j, j < k → Qk (lt T n) n j = false) → k ≤ pos (lt T n) k := by
  intro k
  induction k with
  | zero => intro _; exact Nat.le_refl _
  | succ k ih =>
    intro h
    have := ih fun j hj => h j (by omega)
    have := (stk_le (pos_le (T := T) (n := n) k)).2.2 (Qk_f (h k (by omega))).1
    show k + 1 ≤ (stk (lt T n) (pos (lt T n) k)).2
    omega
theorem kk_p {T : Nat → Int32} {n : Nat} (hn : n ≤ 120) : kk (lt T n) n < 120 ∧ Qk (lt T n) n (kk (lt T n) n) = true ∧ (∀ j, j < kk (lt T n) n → Qk (lt T n) n j = false) ∧ (kk (lt T n) n = 0 ∨ pos (lt T n) (kk (lt T n) n) < n) ∧ ((stk (lt T n) (pos (lt T n) (kk (lt T n) n))).1 = true → n ≤ pos (lt T n) (kk (lt T n) n + 1)) := by
  have b := fi_b (Q := Qk (lt T n) n) 120 0
  have f : ∀ j, j < kk (lt T n) n → Qk (lt T n) n j = false := fun j hj => fi_n 120 0 j (Nat.zero_le _) hj
  have l : kk (lt T n) n < 120 := by
    refine Nat.lt_of_not_le fun h => ?_
    have e : kk (lt T n) n = 120 := Nat.le_antisymm (by have := b.2; unfold kk; omega) h
    rw [e] at f
    have g : 120 ≤ pos (lt T n) (119 + 1) := pos_ge 120 f
    have := (Qk_f (f 119 (by omega))).2
    have := pos_up (T := T) (n := n) 119
    omega
  have t : Qk (lt T n) n (kk (lt T n) n) = true := fi_t 120 0 (by unfold kk at l; omega)
  refine ⟨l, t, f, ?_, fun h => ?_⟩
  · rcases Nat.eq_zero_or_pos (kk (lt T n) n) with h | h
    · exact .inl h
    · right
      have := (Qk_f (f (kk (lt T n) n - 1) (by omega))).2
      rw [show kk (lt T n) n - 1 + 1 = kk (lt T n) n by omega] at this
      exact this
  · unfold Qk at t
    rw [h] at t
    have : decide (n ≤ pos (lt T n) (kk (lt T n) n + 1)) = true := t
    exact of_decide_eq_true this
theorem C22 (X : Nat × (Nat → Int32) × Value) (d : Nat) (M : zM) (G : zG) (n i : Nat) (e : M (1, 0, 0) 1 = nI n) (hn : n ≤ 120) (hi : i ≤ n) (N : Nat → Int32) : zd X d 22 [vR (1, 0, 0)] (hh (rd M (nI i) N) G) = some (some (vI (if n ≤ i then 0 else 1)), hh (rd M (nI i) N) G) := by
  simp only [E22, e22_0, e22_1, e22_4, e22_5, e22_8, e22_11, e22_12, e22_15, e22_16, zt0, zt1, zn3, not_false_eq_true, toListS, toListN, zk_some, zpi, if_true, if_false, i10, rd_p, rd_1, e, nle (show n < 2 ^ 31 by omega) (show i < 2 ^ 31 by omega)]
theorem neg1 {p : Nat} (hp : p ≤ 120) : ¬ (-1000 - nI p : Int32) = 0 ∧ (-1000 - nI p : Int32) < 0 := by
  have h : ∀ p, p ≤ 120 → ¬ (-1000 - nI p : Int32) = 0 ∧ (-1000 - nI p : Int32) < 0 := by
    have : ∀ p, p < 121 → ¬ (-1000 - nI p : Int32) = 0 ∧ (-1000 - nI p : Int32) < 0 := by decide +kernel
    exact fun p hp => this p (by omega)
  exact h p hp
theorem C24 (X : Nat × (Nat → Int32) × Value) (hc : X.2.2.category = 1) (d : Nat) (M : zM) (G : zG) (n : Nat) (e : M (1, 0, 0) 1 = nI n) (hn : n ≤ 120) : ∃ N', zd X (d + 6) 24 [vR (1, 0, 0)] (hh M G) = some (some (vI (if (stk (lt (M (13, 0, 0)) n) (pos (lt (M (13, 0, 0)) n) (kk (lt (M (13, 0, 0)) n) n))).1 = true then 0 else -1000 - nI (pos (lt (M (13, 0, 0)) n) (kk (lt (M (13, 0, 0)) n) n + 1)))), hh (rd M 0 N') G) := by
  obtain ⟨k1, k2, k3, k4, k5⟩ := kk_p (T := M (13, 0, 0)) hn
  have c25 := fun k => C25 X hc d M G n e hn (pos (lt (M (13, 0, 0)) n) k) (Ns (lt (M (13, 0, 0)) n) (M (14, 0, 0)) k) (pos_le k)
  have c22 := fun k => C22 X (d + 5) M G n (pos (lt (M (13, 0, 0)) n) k) e hn (pos_le k) (Ns (lt (M (13, 0, 0)) n) (M (14, 0, 0)) k)
  have st : ∀ k, k < 120 → (k = 0 ∨ pos (lt (M (13, 0, 0)) n) k < n) → ∀ Y, zx X (d + 6) 24 34 [vR (1, 0, 0), vI 0, vI (nI k)] [vI (if (stk (lt (M (13, 0, 0)) n) (pos (lt (M (13, 0, 0)) n) k)).1 = true then 1 else 0)] (hh (rd M (nI (pos (lt (M (13, 0, 0)) n) (k + 1))) (Ns (lt (M (13, 0, 0)) n) (M (14, 0, 0)) (k + 1))) G) = Y → zx X (d + 6) 24 9 [vR (1, 0, 0), vI 0, vI (nI k)] [] (hh (rd M (nI (pos (lt (M (13, 0, 0)) n) k)) (Ns (lt (M (13, 0, 0)) n) (M (14, 0, 0)) k)) G) = Y := fun k hk h0 Y hY => by
    have g1 : ¬ (120 : Int32) < nI k := by rw [i_lt, nI_int (by omega), show (120 : Int32).toInt = 120 from rfl]; omega
    simp only [e24_9, e24_10, e24_12, e24_15, e24_16, e24_19, e24_20, zt0, zt1, zn3, not_false_eq_true, toListS, toListN, zk_some, zpi, if_true, if_false, i10, g1]
    rcases Nat.eq_zero_or_pos k with rfl | kp
    · rw [if_pos nI_0]
      simp only [e24_30, e24_31, zt0, zt1, zn3, not_false_eq_true, toListS, toListN, zk_some, zpi, if_true, if_false, i10, c25]
      exact hY
    · have nz : ¬ nI k = 0 := by rw [show (0 : Int32) = nI 0 from rfl, neq (by omega) (by decide)]; omega
      have pl : ¬ n ≤ pos (lt (M (13, 0, 0)) n) k := by omega
      rw [if_neg nz]
      simp only [e24_23, e24_24, e24_27, e24_30, e24_31, zt0, zt1, zn3, not_false_eq_true, toListS, toListN, zk_some, zpi, if_true, if_false, i10, c22, pl, i10, c25]
      exact hY
  have l := zsf (n := 120) (Q := Qk (lt (M (13, 0, 0)) n) n) (f := fun k => zx X (d + 6) 24 9 [vR (1, 0, 0), vI 0, vI (nI k)] [] (hh (rd M (nI (pos (lt (M (13, 0, 0)) n) k)) (Ns (lt (M (13, 0, 0)) n) (M (14, 0, 0)) k)) G)) (fun k hk hq w ew => by
    obtain ⟨h1, h2⟩ := Qk_f hq
    have := pos_up (T := M (13, 0, 0)) (n := n) k
    refine st k hk (.inr (by omega)) w ?_
    rw [if_pos h1]
    simp only [e24_34, e24_37, e24_40, e24_41, e24_44, e24_45, e24_46, e24_49, zt0, zt1, zn3, not_false_eq_true, toListS, toListN, zk_some, zpi, if_true, if_false, i10, i10, nI_1]
    exact ew) 120 0 (Nat.zero_add _)
  rw [nI_0, show pos (lt (M (13, 0, 0)) n) 0 = 0 from rfl, nI_0] at l
  refine ⟨Ns (lt (M (13, 0, 0)) n) (M (14, 0, 0)) (kk (lt (M (13, 0, 0)) n) n + 1), ?_⟩
  have e0 : u2 M (1, 0, 0) 2 0 = rd M 0 (M (14, 0, 0)) := by
    have := rd_up (M := M) (p := M (1, 0, 0) 2) (N := M (14, 0, 0)) (q := 0)
    rw [rd_self] at this
    exact this
  simp only [e24_0, e24_1, e24_2, e24_3, e24_4, e24_7, e24_8, E24, zt0, zt1, zn3, not_false_eq_true, toListS, toListN, zk_some, zpi, if_true, if_false, i10, e0]
  refine Eq.trans (show _ = _ from l) ?_
  refine st (kk (lt (M (13, 0, 0)) n) n) k1 k4 _ ?_
  have g2 : ¬ (120 : Int32) < nI (kk (lt (M (13, 0, 0)) n) n + 1) := by rw [i_lt, nI_int (by omega), show (120 : Int32).toInt = 120 from rfl]; omega
  have nz : ¬ nI (kk (lt (M (13, 0, 0)) n) n + 1) = 0 := by rw [show (0 : Int32) = nI 0 from rfl, neq (by omega) (by decide)]; omega
  by_cases q : (stk (lt (M (13, 0, 0)) n) (pos (lt (M (13, 0, 0)) n) (kk (lt (M (13, 0, 0)) n) n))).1 = true
  · rw [if_pos q, if_pos q]
    simp only [e24_34, e24_37, e24_40, e24_41, e24_44, e24_45, e24_46, e24_49, zt0, zt1, zn3, not_false_eq_true, toListS, toListN, zk_some, zpi, if_true, if_false, i10, i10, nI_1]
    simp only [e24_9, e24_10, e24_12, e24_15, e24_16, e24_19, e24_20, e24_23, e24_24, e24_27, zt0, zt1, zn3, not_false_eq_true, toListS, toListN, zk_some, zpi, if_true, if_false, i10, g2, nz, c22, k5 q]
    simp only [e24_52, e24_53, e24_54, e24_57, e24_58, zt0, zt1, zn3, not_false_eq_true, toListS, toListN, zk_some, zpi, if_true, if_false, i10, rd_up]
  · rw [if_neg q, if_neg q]
    simp only [e24_34, e24_37, e24_40, e24_41, e24_44, e24_45, e24_46, e24_49, zt0, zt1, zn3, not_false_eq_true, toListS, toListN, zk_some, zpi, if_true, if_false, i10, rd_p, nI_1]
    simp only [e24_9, e24_10, e24_12, e24_15, e24_16, zt0, zt1, zn3, not_false_eq_true, toListS, toListN, zk_some, zpi, if_true, if_false, i10, g2, (neg1 (p := pos (lt (M (13, 0, 0)) n) (kk (lt (M (13, 0, 0)) n) n + 1)) (Nat.le_trans (pos_le _) hn)).1]
    simp only [e24_52, e24_53, e24_54, e24_57, e24_58, zt0, zt1, zn3, not_false_eq_true, toListS, toListN, zk_some, zpi, if_true, if_false, i10, rd_up]
/-- what the model keeps of the first k statements -/
def kp (L : Nat → Int32) (k : Nat) (P : Nat → Int32) : Prop := ∀ a, a < k → P (7 * a) = nI (pos L a) ∧ P (7 * a + 1) = L (pos L a) ∧ ∀ N m, m < (spl (fo (L (pos L a)))).length → P (7 * a + 2 + m) = stN L (pos L a) N m
theorem kp_s {L : Nat → Int32} {k : Nat} {P P' : Nat → Int32} (h : kp L k P) (f : ∀ g, g < 7 * k → P' g = P g) (n1 : P' (7 * k) = nI (pos L k)) (n2 : P' (7 * k + 1) = L (pos L k)) (n3 : ∀ N m, m < (spl (fo (L (pos L k)))).length → P' (7 * k + 2 + m) = stN L (pos L k) N m) : kp L (k + 1) P' := by
  intro a ha
  rcases Nat.lt_or_eq_of_le (Nat.le_of_lt_succ ha) with h1 | rfl
  · obtain ⟨r1, r2, r3⟩ := h a h1
    have l5 : (spl (fo (L (pos L a)))).length ≤ 5 := by
      rcases Nat.lt_or_ge (fo (L (pos L a))) 5 with q | q
      · exact (spl_t _ q).2.1
      · have := fo_5 (L (pos L a))
        rw [show fo (L (pos L a)) = 5 by omega]
        decide
    refine ⟨(f _ (by omega)).trans r1, (f _ (by omega)).trans r2, fun N m hm => (f _ (by omega)).trans (r3 N m hm)⟩
  · exact ⟨n1, n2, n3⟩
theorem T159 (X : Nat × (Nat → Int32) × Value) (hc : X.2.2.category = 1) (d : Nat) (M : zM) (G : zG) (n : Nat) (h8 : M (7, 0, 0) 8 = nI n) (hn : n ≤ 120) : ∃ P' c', zd X (d + 6) 159 [vR (7, 0, 0)] (hh M G) = zx X (d + 6) 159 37 [vR (7, 0, 0), vN] [] (hh (mp M (nI (pos (lt (M (24, 0, 0)) n) (kk (lt (M (24, 0, 0)) n) n + 1))) (if (stk (lt (M (24, 0, 0)) n) (pos (lt (M (24, 0, 0)) n) (kk (lt (M (24, 0, 0)) n) n))).1 = true then 0 else 1) c' P') G) ∧ ((stk (lt (M (24, 0, 0)) n) (pos (lt (M (24, 0, 0)) n) (kk (lt (M (24, 0, 0)) n) n))).1 = true → c' = nI (kk (lt (M (24, 0, 0)) n) n + 1) ∧ kp (lt (M (24, 0, 0)) n) (kk (lt (M (24, 0, 0)) n) n + 1) P') := by
  obtain ⟨k1, k2, k3, k4, k5⟩ := kk_p (T := M (24, 0, 0)) hn
  obtain ⟨P1, hP, l⟩ := zsr (σ := Nat → Int32) (n := 120) (Q := Qk (lt (M (24, 0, 0)) n) n) (f := fun k P => zx X (d + 6) 159 15 [vR (7, 0, 0), vN] [] (hh (mp M (nI (pos (lt (M (24, 0, 0)) n) k)) 0 (nI k) P) G)) (P := fun k P => kp (lt (M (24, 0, 0)) n) k P) (fun k P hk hP hq => by
    obtain ⟨h1, h2⟩ := Qk_f hq
    obtain ⟨P', c', l, f, g⟩ := C157 X hc d M G n h8 hn (pos (lt (M (24, 0, 0)) n) k) k (pos_le k) hk P
    obtain ⟨g0, g1, g2, g3⟩ := g h1
    subst g0
    have m8 : ∀ i e c P, mp M i e c P (7, 0, 0) 8 = nI n := fun i e c P => (mp_7 (by decide)).trans h8
    have lx : (stk (lt (M (24, 0, 0)) n) (pos (lt (M (24, 0, 0)) n) k)).2 < n := h2
    refine ⟨P', kp_s hP f g1 g2 g3, fun w ew => ?_⟩
    simp only [e159_15, e159_16, zt0, zt1, zn3, not_false_eq_true, toListS, toListN, zk_some, zpi, if_true, if_false, i10, l, h1, show ∀ l : List zV, (none : Option zV).toList ++ l = l from fun _ => rfl]
    simp only [e159_19, e159_20, e159_23, e159_26, e159_27, e159_30, e159_31, e159_34, zt0, zt1, zn3, not_false_eq_true, toListS, toListN, zk_some, zpi, if_true, if_false, i10, mp_10, mp_9, m8, nlt (show (stk (lt (M (24, 0, 0)) n) (pos (lt (M (24, 0, 0)) n) k)).2 < 2 ^ 31 by omega) (show n < 2 ^ 31 by omega), lx]
    exact ew) 120 0 (M (26, 0, 0)) (Nat.zero_add _) (fun a ha => absurd ha (Nat.not_lt_zero a))
  have e0 : ∀ x, u2 M (7, 0, 0) 9 x = mp M x (M (7, 0, 0) 10) (M (7, 0, 0) 13) (M (26, 0, 0)) := fun x => by
    have := mp_u9 (M := M) (i := M (7, 0, 0) 9) (e := M (7, 0, 0) 10) (c := M (7, 0, 0) 13) (P := M (26, 0, 0)) (x := x)
    rw [mp_self] at this
    exact this
  obtain ⟨P', c', lc, f, g⟩ := C157 X hc d M G n h8 hn (pos (lt (M (24, 0, 0)) n) (kk (lt (M (24, 0, 0)) n) n)) (kk (lt (M (24, 0, 0)) n) n) (pos_le _) k1 P1
  rw [nI_0, show pos (lt (M (24, 0, 0)) n) 0 = 0 from rfl, nI_0] at l
  refine ⟨P', c', ?_, fun h => ?_⟩
  · simp only [e159_0, e159_1, e159_2, e159_5, e159_6, e159_7, e159_10, e159_11, e159_12, E159, zt0, zt1, zn3, not_false_eq_true, toListS, toListN, zk_some, zpi, if_true, if_false, i10, e0, mp_u10, mp_u13, true_or]
    refine Eq.trans (show _ = _ from l) ?_
    have m8 : ∀ i e c P, mp M i e c P (7, 0, 0) 8 = nI n := fun i e c P => (mp_7 (by decide)).trans h8
    show zx X (d + 6) 159 15 [vR (7, 0, 0), vN] [] (hh (mp M (nI (pos (lt (M (24, 0, 0)) n) (kk (lt (M (24, 0, 0)) n) n))) 0 (nI (kk (lt (M (24, 0, 0)) n) n)) P1) G) = _
    simp only [e159_15, e159_16, e159_19, e159_20, zt0, zt1, zn3, not_false_eq_true, toListS, toListN, zk_some, zpi, if_true, if_false, i10, lc, mp_10, show ∀ l : List zV, (none : Option zV).toList ++ l = l from fun _ => rfl]
    by_cases q : (stk (lt (M (24, 0, 0)) n) (pos (lt (M (24, 0, 0)) n) (kk (lt (M (24, 0, 0)) n) n))).1 = true
    · have lx : ¬ (stk (lt (M (24, 0, 0)) n) (pos (lt (M (24, 0, 0)) n) (kk (lt (M (24, 0, 0)) n) n))).2 < n := Nat.not_lt.mpr (k5 q)
      have ln : (stk (lt (M (24, 0, 0)) n) (pos (lt (M (24, 0, 0)) n) (kk (lt (M (24, 0, 0)) n) n))).2 ≤ n := pos_le (kk (lt (M (24, 0, 0)) n) n + 1)
      simp only [e159_20, e159_23, e159_26, e159_27, e159_30, e159_31, e159_34, zt0, zt1, zn3, not_false_eq_true, toListS, toListN, zk_some, zpi, if_true, if_false, i10, q, mp_10, mp_9, m8, nlt (show (stk (lt (M (24, 0, 0)) n) (pos (lt (M (24, 0, 0)) n) (kk (lt (M (24, 0, 0)) n) n))).2 < 2 ^ 31 by omega) (show n < 2 ^ 31 by omega), lx]
      rfl
    · simp only [e159_20, e159_23, zt0, zt1, zn3, not_false_eq_true, toListS, toListN, zk_some, zpi, if_true, if_false, i10, q, Bool.false_eq_true, i10, mp_10, mp_9]
      rfl
  · obtain ⟨g0, g1, g2, g3⟩ := g h
    exact ⟨g0, kp_s hP f g1 g2 g3⟩
