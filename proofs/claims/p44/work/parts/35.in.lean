/-! WHERE A NUMBER LIES; which vessels and pipes there are, on both sides -/
theorem lg_n (x y : Int64) : (lg_cmp x y < 0) = (x.toInt < y.toInt) := by
  unfold lg_cmp
  by_cases h : y < x
  · have h' := Int64.lt_iff_toInt_lt.mp h
    rw [if_pos h]
    exact propext ⟨fun q => absurd q (by decide), fun q => by omega⟩
  · have h' : ¬ y.toInt < x.toInt := fun q => h (Int64.lt_iff_toInt_lt.mpr q)
    rw [if_neg h]
    by_cases e : x = y
    · subst e
      rw [if_pos rfl]
      exact propext ⟨fun q => absurd q (by decide), fun q => by omega⟩
    · have e' : x.toInt ≠ y.toInt := fun q => e (Int64.toInt_inj.mp q)
      rw [if_neg e]
      exact propext ⟨fun _ => by omega, fun _ => by decide⟩
theorem lg_p (x y : Int64) : (0 < lg_cmp x y) = (y.toInt < x.toInt) := by
  unfold lg_cmp
  by_cases h : y < x
  · have h' := Int64.lt_iff_toInt_lt.mp h
    rw [if_pos h]
    exact propext ⟨fun _ => h', fun _ => by decide⟩
  · have h' : ¬ y.toInt < x.toInt := fun q => h (Int64.lt_iff_toInt_lt.mpr q)
    rw [if_neg h]
    by_cases e : x = y
    · subst e
      rw [if_pos rfl]
      exact propext ⟨fun q => absurd q (by decide), fun q => by omega⟩
    · rw [if_neg e]
      exact propext ⟨fun q => absurd q (by decide), fun q => by omega⟩
def inz (x : Int32) (lo hi : Int) : Int32 := if x.toInt < lo then 0 else if hi < x.toInt then 0 else 1
theorem inz_01 (x : Int32) (lo hi : Int) : inz x lo hi = 0 ∨ inz x lo hi = 1 := by
  unfold inz
  split
  · exact Or.inl rfl
  · exact z01
theorem inz_z (x : Int32) (lo hi : Int) : ztz (vI (inz x lo hi)) = true := by rcases inz_01 x lo hi with h | h <;> rw [h] <;> rfl
theorem inz_y {x : Int32} {lo hi : Int} (h : lo ≤ x.toInt ∧ x.toInt ≤ hi) : inz x lo hi = 1 := by
  unfold inz
  rw [if_neg (by omega), if_neg (by omega)]
theorem inz_n {x : Int32} {lo hi : Int} (h : ¬ (lo ≤ x.toInt ∧ x.toInt ≤ hi)) : inz x lo hi = 0 := by
  unfold inz
  split
  · rfl
  · rw [if_pos (by omega)]
theorem nI_int {a : Nat} (h : a < 2 ^ 31) : (nI a).toInt = a := by
  have h1 := nI_clamp h
  have h2 : ¬ nI a < 0 := nI_pos h
  rw [i_lt, show (0 : Int32).toInt = 0 from rfl] at h2
  have h3 : (nI a).toNatClampNeg = (nI a).toInt.toNat := rfl
  omega
theorem nI_up {x : Int32} (h : 0 ≤ x.toInt) : x = nI x.toInt.toNat := by
  have := Int32.toInt_lt x
  exact i_ext (by rw [nI_int (by omega)]; omega)
/-- is it one of n -/
def isx (n : Nat) (x : Int32) : Int32 := inz x 0 (n - 1)
theorem isx_c {n : Nat} (x : Int32) (hn : n < 2 ^ 31) : (isx n x = 0 ∧ ¬ (0 ≤ x.toInt ∧ x.toInt < n)) ∨ ∃ j, j < n ∧ x = nI j ∧ isx n x = 1 := by
  by_cases h : 0 ≤ x.toInt ∧ x.toInt < n
  · exact Or.inr ⟨x.toInt.toNat, by omega, nI_up h.1, inz_y (by omega)⟩
  · exact Or.inl ⟨inz_n (by omega), h⟩
theorem isx_01 (n : Nat) (x : Int32) : isx n x = 0 ∨ isx n x = 1 := inz_01 ..
theorem isx_z (n : Nat) (x : Int32) : ztz (vI (isx n x)) = true := inz_z ..
theorem isx_y {n j : Nat} (h : j < n) (hn : n < 2 ^ 31) : isx n (nI j) = 1 := inz_y (by rw [nI_int (by omega)]; omega)
theorem sHv_x {S : Nat → Int32} {nv : Nat} (hS : S 2 = nI nv) (h5 : nv ≤ 5) (x : Int32) : sHv S x = isx nv x := by
  unfold sHv isx inz
  rw [hS]
  by_cases h : x < 0
  · rw [if_pos h, if_pos (by rw [i_lt, show (0 : Int32).toInt = 0 from rfl] at h; exact h)]
  · have h' : ¬ x.toInt < 0 := by rw [i_lt, show (0 : Int32).toInt = 0 from rfl] at h; exact h
    rw [if_neg h, if_neg h']
    by_cases q : nI nv ≤ x
    · have q' : (nv : Int) - 1 < x.toInt := by rw [i_le, nI_int (by omega)] at q; omega
      rw [if_pos q, if_pos q']
    · have q' : ¬ (nv : Int) - 1 < x.toInt := by rw [i_le, nI_int (by omega)] at q; omega
      rw [if_neg q, if_neg q']
theorem sHp_x {S : Nat → Int32} {np : Nat} (hS : S 3 = nI np) (h8 : np ≤ 8) (x : Int32) : sHp S x = isx np x := by
  unfold sHp isx inz
  rw [hS]
  by_cases h : x < 0
  · rw [if_pos h, if_pos (by rw [i_lt, show (0 : Int32).toInt = 0 from rfl] at h; exact h)]
  · have h' : ¬ x.toInt < 0 := by rw [i_lt, show (0 : Int32).toInt = 0 from rfl] at h; exact h
    rw [if_neg h, if_neg h']
    by_cases q : nI np ≤ x
    · have q' : (np : Int) - 1 < x.toInt := by rw [i_le, nI_int (by omega)] at q; omega
      rw [if_pos q, if_pos q']
    · have q' : ¬ (np : Int) - 1 < x.toInt := by rw [i_le, nI_int (by omega)] at q; omega
      rw [if_neg q, if_neg q']
