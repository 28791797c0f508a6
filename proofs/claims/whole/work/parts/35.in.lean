/-! WHERE A NUMBER LIES; which vessels and pipes there are, on both sides -/
theorem lg_n (x y : Int64) : (lg_cmp x y < 0) = (x.toInt < y.toInt) := by
  unfold lg_cmp
  by_cases h : y < x
  · have h' := Int64.lt_iff_toInt_lt.mp h
    rw [if_pos h]
    exact propext ⟨fun q => absurd q (by decide), fun q => by omega⟩
  · have h' : ¬ y.toInt < x.toInt := fun q => h (Int64.lt_iff_toInt_lt.mpr q)
    rw [if_neg h]
    by_cases e : x = y
    · subst e
      rw [if_pos rfl]
      exact propext ⟨fun q => absurd q (by decide), fun q => by omega⟩
    · have e' : x.toInt ≠ y.toInt := fun q => e (Int64.toInt_inj.mp q)
      rw [if_neg e]
      exact propext ⟨fun _ => by omega, fun _ => by decide⟩
theorem lg_p (x y : Int64) : (0 < lg_cmp x y) = (y.toInt < x.toInt) := by
  unfold lg_cmp
  by_cases h : y < x
  · have h' := Int64.lt_iff_toInt_lt.mp h
    rw [if_pos h]
    exact propext ⟨fun _ => h', fun _ => by decide⟩
  · have h' : ¬ y.toInt < x.toInt := fun q => h (Int64.lt_iff_toInt_lt.mpr q)
    rw [if_neg h]
    by_cases e : x = y
    · subst e
      rw [if_pos rfl]
      exact propext ⟨fun q => absurd q (by decide), fun q => by omega⟩
    · rw [if_neg e]
      exact propext ⟨fun q => absurd q (by decide), fun q => by omega⟩
def inz (x : Int32) (lo hi : Int) : Int32 := if x.toInt < lo then 0 else if hi < x.toInt then 0 else 1
theorem inz_01 (x : Int32) (lo hi : Int) : inz x lo hi = 0 ∨ inz x lo hi = 1 := by
  unfold inz
  split
  · exact Or.inl rfl
  · exact z01
theorem inz_z (x : Int32) (lo hi : Int) : ztz (vI (inz x lo hi)) = true := by rcases inz_01 x lo hi with h | h <;> rw [h] <;> rfl
theorem inz_y {x : Int32} {lo hi : Int} (h : lo ≤ x.toInt ∧ x.toInt ≤ hi) : inz x lo hi = 1 := by
  unfold inz
  rw [if_neg (by omega), if_neg (by omega)]
theorem inz_n {x : Int32} {lo hi : Int} (h : ¬ (lo ≤ x.toInt ∧ x.toInt ≤ hi)) : inz x lo hi = 0 := by
  unfold inz
  split
  · rfl
  · rw [if_pos (by omega)]
theorem nI_int {a : Nat} (h : a < 2 ^ 31) : (nI a).toInt = a := by
  have h1 := nI_clamp h
  have h2 : ¬ nI a < 0 := nI_pos h
  rw [i_lt, show (0 : Int32).toInt = 0 from rfl] at h2
  have h3 : (nI a).toNatClampNeg = (nI a).toInt.toNat := rfl
  omega
theorem nI_up {x : Int32} (h : 0 ≤ x.toInt) : x = nI x.toInt.toNat := by
  have := Int32.toInt_lt x
  exact i_ext (by rw [nI_int (by omega)]; omega)
/-- is it one of n -/
def isx (n : Nat) (x : Int32) : Int32 := inz x 0 (n - 1)
theorem isx_c {n : Nat} (x : Int32) (hn : n < 2 ^ 31) : (isx n x = 0 ∧ ¬ (0 ≤ x.toInt ∧ x.toInt < n)) ∨ ∃ j, j < n ∧ x = nI j ∧ isx n x = 1 := by
  by_cases h : 0 ≤ x.toInt ∧ x.toInt < n
  · exact Or.inr ⟨x.toInt.toNat, by omega, nI_up h.1, inz_y (by omega)⟩
  · exact Or.inl ⟨inz_n (by omega), h⟩
theorem isx_01 (n : Nat) (x : Int32) : isx n x = 0 ∨ isx n x = 1 := inz_01 ..
theorem isx_z (n : Nat) (x : Int32) : ztz (vI (isx n x)) = true := inz_z ..
theorem isx_y {n j : Nat} (h : j < n) (hn : n < 2 ^ 31) : isx n (nI j) = 1 := inz_y (by rw [nI_int (by omega)]; omega)
theorem sHv_x {S : Nat → Int32} {nv : Nat} (hS : S 2 = nI nv) (h5 : nv ≤ 5) (x : Int32) : sHv S x = isx nv x := by
  unfold sHv isx inz
  rw [hS]
  by_cases h : x < 0
  · rw [if_pos h, if_pos (by rw [i_lt, show (0 : Int32).toInt = 0 from rfl] at h; exact h)]
  · have h' : ¬ x.toInt < 0 := by rw [i_lt, show (0 : Int32).toInt = 0 from rfl] at h; exact h
    rw [if_neg h, if_neg h']
    by_cases q : nI nv ≤ x
    · have q' : (nv : Int) - 1 < x.toInt := by rw [i_le, nI_int (by omega)] at q; omega
      rw [if_pos q, if_pos q']
    · have q' : ¬ (nv : Int) - 1 < x.toInt := by rw [i_le, nI_int (by omega)] at q; omega
      rw [if_neg q, if_neg q']
theorem sHp_x {S : Nat → Int32} {np : Nat} (hS : S 3 = nI np) (h8 : np ≤ 8) (x : Int32) : sHp S x = isx np x := by
  unfold sHp isx inz
  rw [hS]
  by_cases h : x < 0
  · rw [if_pos h, if_pos (by rw [i_lt, show (0 : Int32).toInt = 0 from rfl] at h; exact h)]
  · have h' : ¬ x.toInt < 0 := by rw [i_lt, show (0 : Int32).toInt = 0 from rfl] at h; exact h
    rw [if_neg h, if_neg h']
    by_cases q : nI np ≤ x
    · have q' : (np : Int) - 1 < x.toInt := by rw [i_le, nI_int (by omega)] at q; omega
      rw [if_pos q, if_pos q']
    · have q' : ¬ (np : Int) - 1 < x.toInt := by rw [i_le, nI_int (by omega)] at q; omega
      rw [if_neg q, if_neg q']
section IN
variable (X : Nat × (Nat → Int32) × Value) (d : Nat) (M : zM) (G : zG)
theorem C128 (x : Int32) (a b : Int64) (M : zM) (G : zG) : zd X d 128 [vL x.toInt64, vL a, vL b] (hh M G) = some (some (vI (inz x a.toInt b.toInt)), hh M G) := by
  rw [D128]
  simp only [lg_n, lg_p, Int32.toInt_toInt64]
  rfl
theorem C132 (x : Int32) (n : Nat) (hn : M (20, 0, 0) 0 = nI n) (h8 : n ≤ 8) : zd X (d + 1) 132 [vR (7, 0, 0), vI x] (hh M G) = some (some (vI (isx n x)), hh M G) := by
  have e : (nI n - 1 : Int32).toInt64.toInt = (n : Int) - 1 := by
    rw [Int32.toInt_toInt64, i_sub_s, nI_int (by omega)]
    · rfl
    · rw [nI_int (by omega), show (1 : Int32).toInt = 1 from rfl]; omega
    · rw [nI_int (by omega), show (1 : Int32).toInt = 1 from rfl]; omega
  simp only [E132, e132_0, e132_1, e132_2, e132_3, e132_4, e132_7, e132_8, e132_9, e132_10, e132_11, e132_12, e132_15, zt0, zt1, zn3, not_false_eq_true, toListS, toListN, zk_some, zpi, w0, w1, t0, t1, C128, inz_z, hn, e]
  rfl
theorem C133 (x : Int32) (n : Nat) (hn : M (20, 0, 0) 1 = nI n) (h8 : n ≤ 8) : zd X (d + 1) 133 [vR (7, 0, 0), vI x] (hh M G) = some (some (vI (isx n x)), hh M G) := by
  have e : (nI n - 1 : Int32).toInt64.toInt = (n : Int) - 1 := by
    rw [Int32.toInt_toInt64, i_sub_s, nI_int (by omega)]
    · rfl
    · rw [nI_int (by omega), show (1 : Int32).toInt = 1 from rfl]; omega
    · rw [nI_int (by omega), show (1 : Int32).toInt = 1 from rfl]; omega
  simp only [E133, e133_0, e133_1, e133_2, e133_3, e133_4, e133_7, e133_8, e133_9, e133_10, e133_11, e133_12, e133_15, zt0, zt1, zn3, not_false_eq_true, toListS, toListN, zk_some, zpi, w0, w1, t0, t1, C128, inz_z, hn, e]
  rfl
theorem C207 (x : Int32) : zd X (d + 1) 207 [vI x] (hh M G) = some (some (vI (isx 4 x)), hh M G) := by
  simp only [E207, e207_0, e207_1, e207_2, e207_3, e207_6, e207_9, zt0, zt1, zn3, not_false_eq_true, toListS, toListN, zk_some, zpi, C128, inz_z]
  rfl
theorem C216 (x : Int32) : zd X (d + 1) 216 [vI x] (hh M G) = some (some (vI (isx 3 x)), hh M G) := by
  simp only [E216, e216_0, e216_1, e216_2, e216_3, e216_6, e216_9, zt0, zt1, zn3, not_false_eq_true, toListS, toListN, zk_some, zpi, C128, inz_z]
  rfl
end IN
