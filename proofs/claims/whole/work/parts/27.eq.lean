/-! THE CLASS'S STEP IS THE MODEL'S -/
theorem i_ext {a b : Int32} (h : a.toInt = b.toInt) : a = b := Int32.toInt_inj.mp h
theorem i_lt {a b : Int32} : a < b ↔ a.toInt < b.toInt := Int32.lt_iff_toInt_lt
theorem i_le {a b : Int32} : a ≤ b ↔ a.toInt ≤ b.toInt := Int32.le_iff_toInt_le
theorem imin_c (a b : Int32) : imin a b = imin b a := by
  unfold imin
  by_cases h1 : b < a
  · have h2 : ¬ a < b := by rw [i_lt] at *; omega
    rw [if_pos h1, if_neg h2]
  · by_cases h2 : a < b
    · rw [if_neg h1, if_pos h2]
    · rw [if_neg h1, if_neg h2]
      rw [i_lt] at *
      exact i_ext (by omega)
theorem sHd_eq (V : tV) (j : Nat) (m : Int32) : sHd V j m = imax (sHt V j) (m * V j 0) := by
  unfold sHd imax
  by_cases h1 : sHt V j < m * V j 0
  · rw [if_pos h1, if_pos (by rw [i_lt] at h1; rw [i_le]; omega)]
  · rw [if_neg h1]
    split
    · rename_i h2
      rw [i_lt] at h1
      rw [i_le] at h2
      exact i_ext (by omega)
    · rfl
theorem sUn_eq (V P : tV) (p a c : Nat) : sUn V P p a c = nUn V P p a c := by
  unfold sUn nUn
  rw [sHd_eq, sHd_eq]
theorem i_ring1 (b m a w : Int32) : (b - m) * a + w = b * a + w - m * a := by
  rw [Int32.sub_mul, Int32.sub_eq_add_neg, Int32.sub_eq_add_neg, Int32.add_assoc, Int32.add_comm (-(m * a)) w, ← Int32.add_assoc]
theorem sWa_eq (V : tV) (j : Nat) (m : Int32) : sWa V j m = imax 0 (sHt V j - m * V j 0) := by
  unfold sWa imax sHt
  rw [i_ring1]
  by_cases h : V j 1 * V j 0 + V j 3 - m * V j 0 ≤ 0
  · rw [if_pos h, if_neg (by rw [i_le] at h; rw [i_lt]; simp at *; omega)]
  · rw [if_neg h, if_pos (by rw [i_le] at h; rw [i_lt]; simp at *; omega)]
theorem imax_0 (x : Int32) : 0 ≤ (imax 0 x).toInt := by
  unfold imax
  split
  · rename_i h
    rw [i_lt] at h
    simp at h
    omega
  · decide
theorem i_div_nn {u a : Int32} (hu : 0 ≤ u.toInt) (ha : 0 < a.toInt) : 0 ≤ (u / a).toInt := by
  rw [Int32.toInt_div]
  have h1 : 0 ≤ u.toInt.tdiv a.toInt := Int.tdiv_nonneg hu (by omega)
  have h2 : u.toInt.tdiv a.toInt ≤ u.toInt := Int.tdiv_le_self a.toInt hu
  have h3 := Int32.toInt_lt u
  rw [Int.bmod_eq_of_le] <;> omega
