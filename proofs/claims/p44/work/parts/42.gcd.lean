/-! the greatest divisor, on both sides; level, goes, of, ofPipe, all -/
def lI (n : Nat) : Int64 := Int64.ofNat n
theorem lI_int {n : Nat} (h : n < 2 ^ 63) : (lI n).toInt = n := Int64.toInt_ofNat_of_lt h
theorem lg_z (x y : Int64) : (lg_cmp x y = 0) = (x.toInt = y.toInt) := by
  have h1 := lg_n x y
  have h2 := lg_p x y
  by_cases a1 : x.toInt < y.toInt
  · rw [← h1] at a1
    exact propext ⟨fun e => absurd a1 (by rw [e]; decide), fun e => by rw [h1] at a1; omega⟩
  · by_cases a2 : y.toInt < x.toInt
    · rw [← h2] at a2
      exact propext ⟨fun e => absurd a2 (by rw [e]; decide), fun e => by rw [h2] at a2; omega⟩
    · have e : x = y := Int64.toInt_inj.mp (by omega)
      subst e
      refine propext ⟨fun _ => rfl, fun _ => ?_⟩
      unfold lg_cmp
      rw [if_neg (fun q => by have := Int64.lt_iff_toInt_lt.mp q; omega), if_pos rfl]
theorem lI_0 : (0 : Int64) = lI 0 := rfl
theorem lI_1 : (1 : Int64) = lI 1 := rfl
theorem lI_ne {b : Nat} (h : b < 2 ^ 63) (h0 : b ≠ 0) : ¬ lI b = 0 := fun e => by
  have q := congrArg Int64.toInt e
  rw [lI_int h, show (0 : Int64).toInt = 0 from rfl] at q
  omega
theorem lI_div {a b : Nat} (ha : a < 2 ^ 63) (hb : b < 2 ^ 63) : lI a / lI b = lI (a / b) := (Int64.ofNat_div ha hb).symm
theorem lI_mod {a b : Nat} (ha : a < 2 ^ 63) (hb : b < 2 ^ 63) : lI a - lI a / lI b * lI b = lI (a % b) := by
  rw [lI_div ha hb]
  unfold lI
  rw [← Int64.ofNat_mul, ← Int64.ofNat_sub _ _ (Nat.div_mul_le_self a b)]
  refine congrArg Int64.ofNat ?_
  have := Nat.div_add_mod a b
  rw [Nat.mul_comm] at this
  omega
theorem lI_up {x : Int32} (h : 0 ≤ x.toInt) : x.toInt64 = lI x.toInt.toNat := by
  have h2 := Int32.toInt_lt x
  refine Int64.toInt_inj.mp ?_
  rw [Int32.toInt_toInt64, lI_int (by omega)]
  omega
theorem gcd_s (a b : Nat) : Nat.gcd b (a % b) = Nat.gcd a b := by rw [Nat.gcd_comm b, ← Nat.gcd_rec, Nat.gcd_comm]
section GC
variable (X : Nat × (Nat → Int32) × Value) (d : Nat) (h : zH)
theorem L124 : ∀ (m i a b : Nat) (l0 l2 : Int64) (l9 : zV), i + m = 128 → b ≤ a → a * b < 2 ^ m → a < 2 ^ 63 → zx X d 124 9 [vL l0, vN, vL l2, vN, vL (lI a), vN, vL (lI b), vN, vI (nI i), l9, vN] [] h = some (some (vL (lI (Nat.gcd a b))), h) := by
  intro m
  induction m with
  | zero =>
    intro i a b l0 l2 l9 hi hba hp ha
    have hi' : i = 128 := by omega
    subst hi'
    have e : b = 0 := by
      rcases Nat.eq_zero_or_pos b with e | e
      · exact e
      · have := Nat.mul_pos (Nat.lt_of_lt_of_le e hba) e
        omega
    subst e
    simp only [e124_9, e124_11, e124_14]
    rw [if_pos (by decide)]
    simp only [e124_45, e124_47, Nat.gcd_zero_right]
  | succ m ih =>
    intro i a b l0 l2 l9 hi hba hp ha
    have hb : b < 2 ^ 63 := by omega
    simp only [e124_9, e124_11, e124_14]
    rw [if_neg (by rw [show (128 : Int32) = nI 128 from rfl, nle (by omega) (by omega)]; omega)]
    simp only [e124_17, e124_19, e124_20, e124_21, lI_0, lg_z, lI_int hb, lI_int (show 0 < 2 ^ 63 by decide)]
    by_cases e : b = 0
    · subst e
      rw [if_pos rfl]
      simp only [e124_45, e124_47, Nat.gcd_zero_right]
    · rw [if_neg (by omega)]
      have hr : a % b < b := Nat.mod_lt _ (by omega)
      have h2 : 2 * (a % b) < a := by
        have q1 := Nat.div_add_mod a b
        have q2 : 1 ≤ a / b := (Nat.le_div_iff_mul_le (by omega)).mpr (by omega)
        have q3 := Nat.mul_le_mul_left b q2
        omega
      have h3 : b * (a % b) < 2 ^ m := by
        have q1 := Nat.mul_lt_mul_of_pos_left h2 (show 0 < b by omega)
        have q2 : b * (2 * (a % b)) = 2 * (b * (a % b)) := Nat.mul_left_comm b 2 (a % b)
        rw [Nat.pow_succ] at hp
        rw [Nat.mul_comm] at hp
        omega
      simp only [e124_24, e124_26, e124_28, e124_29, e124_31, e124_33, e124_35, e124_37, e124_39, e124_42, lI_ne hb e, not_false_eq_true, lI_mod ha hb, nI_1]
      rw [ih (i + 1) b (a % b) l0 l2 _ (by omega) (by omega) h3 hb, gcd_s]
theorem C124 (a b : Nat) (ha : a < 2 ^ 63) (hb : b < 2 ^ 63) : zd X d 124 [vL (lI a), vL (lI b)] h = some (some (vL (lI (Nat.gcd a b))), h) := by
  have hp : a * b < 2 ^ 127 := Nat.lt_of_le_of_lt (Nat.mul_le_mul (Nat.le_of_lt ha) (Nat.le_of_lt hb)) (by decide)
  simp only [E124, e124_0, e124_1, e124_3, e124_4, e124_6, e124_7]
  by_cases q : b ≤ a
  · exact L124 X d h 128 0 a b _ _ _ (by omega) q (Nat.lt_trans hp (by decide)) ha
  · have e : ¬ b = 0 := by omega
    simp only [e124_9, e124_11, e124_14]
    rw [if_neg (by decide)]
    simp only [e124_17, e124_19, e124_20, e124_21, lI_0, lg_z, lI_int hb, lI_int (show 0 < 2 ^ 63 by decide)]
    rw [if_neg (by omega)]
    simp only [e124_24, e124_26, e124_28, e124_29, e124_31, e124_33, e124_35, e124_37, e124_39, e124_42, lI_ne hb e, not_false_eq_true, lI_mod ha hb]
    have l := fun l9 => L124 X d h 127 1 b (a % b) (lI a) (lI b) l9 (by omega) (Nat.le_of_lt (Nat.mod_lt _ (by omega))) (by rw [Nat.mod_eq_of_lt (by omega), Nat.mul_comm]; exact hp) hb
    refine Eq.trans (l _) ?_
    rw [gcd_s]
def prt (a b : Nat) (p : Int32) : Int64 := if p = 0 then lI (a / Nat.gcd a b) else lI (b / Nat.gcd a b)
theorem C123 (a b : Nat) (p : Int32) (ha : a < 2 ^ 63) (hb : b < 2 ^ 63) (h0 : 0 < b) : zd X (d + 1) 123 [vL (lI a), vL (lI b), vI p] h = some (some (vL (prt a b p)), h) := by
  have g0 : 0 < Nat.gcd a b := Nat.gcd_pos_of_pos_right a h0
  have gb : Nat.gcd a b ≤ b := Nat.gcd_le_right a h0
  have g1 : Nat.gcd a b < 2 ^ 63 := by omega
  have gn := lI_ne g1 (by omega)
  simp only [E123, e123_0, e123_1, e123_2, e123_5, e123_7, e123_9, e123_10, e123_11, zt0, zt1, zn3, not_false_eq_true, toListS, toListN, zk_some, zpi, C124 X d h a b ha hb]
  rw [if_pos (Int32.not_lt.mp (by rw [lg_n, lI_int g1, show (1 : Int64).toInt = 1 from rfl]; omega))]
  unfold prt
  simp only [e123_25, e123_27]
  by_cases e : p = 0
  · simp only [if_pos e]
    simp only [e123_30, e123_31, e123_33, e123_34, e123_41, zt0, zt1, zn3, not_false_eq_true, toListS, toListN, zk_some, zpi, gn, lI_div ha g1]
  · simp only [if_neg e]
    simp only [e123_37, e123_38, e123_40, e123_41, zt0, zt1, zn3, not_false_eq_true, toListS, toListN, zk_some, zpi, gn, lI_div hb g1]
end GC
