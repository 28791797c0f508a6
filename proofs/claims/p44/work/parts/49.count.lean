/-! which PIPES RUN, as bits; count -/
def rb (P : tV) : Nat → Int32
  | 0 => 0
  | n + 1 => if P n 7 = 0 then rb P n else rb P n ||| 1 <<< (nI n &&& 31)
theorem rb_c {P Q : tV} : ∀ n, (∀ p, p < n → P p 7 = Q p 7) → rb P n = rb Q n := by
  intro n
  induction n with
  | zero => intro _; rfl
  | succ n ih =>
    intro h
    unfold rb
    rw [ih fun p hp => h p (by omega), h n (by omega)]
theorem C16 (X : Nat × (Nat → Int32) × Value) (d : Nat) (M : zM) (G : zG) (b np : Nat) (h3 : M (0, b, 0) 3 = nI np) (h8 : np ≤ 8) : zd X d 16 [vR (0, b, 0)] (hh M G) = some (some (vI (rb (pw M b) np)), hh M G) := by
  have l := zlf (n := np) (f := fun i => zx X d 16 4 [vR (0, b, 0), vI (rb (pw M b) i), vI (nI i)] [] (hh M G)) (fun i hi w ew => by
    have hi8 : i < 8 := by omega
    simp only [e16_4, e16_5, e16_6, e16_9, h3, nle (show np < 2 ^ 31 by omega) (show i < 2 ^ 31 by omega)]
    rw [if_neg (by omega)]
    simp only [e16_12, e16_13, e16_16, e16_17, e16_18, e16_21, zt0, zt1, zn3, not_false_eq_true, toListS, toListN, zk_some, zpi, z8 hi8, cl8 hi8]
    by_cases q : M (3, b, i) 7 = 0
    · have q' : pw M b i 7 = 0 := q
      rw [if_pos q]
      simp only [e16_30, e16_33, nI_1]
      simp only [rb, if_pos q'] at ew
      exact ew
    · have q' : ¬ pw M b i 7 = 0 := q
      rw [if_neg q]
      simp only [e16_24, e16_25, e16_26, e16_27, e16_28, e16_29, e16_30, e16_33, nI_1]
      simp only [rb, if_neg q'] at ew
      exact ew) np 0 (by omega)
  rw [nI_0] at l
  simp only [E16, e16_0, e16_1, e16_2, e16_3, zt0, zt1, zn3, not_false_eq_true, toListS, toListN, zk_some, zpi]
  refine Eq.trans l ?_
  simp only [e16_4, e16_5, e16_6, e16_9, h3, nle (show np < 2 ^ 31 by omega) (show np < 2 ^ 31 by omega)]
  rw [if_pos (Nat.le_refl _)]
  simp only [e16_36, e16_37]
