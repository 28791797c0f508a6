/-! strings -/
theorem C229 (X : Nat × (Nat → Int32) × Value) (d : Nat) (al : Nat) (h11 : al < 11) (h : zH) : zd X d 229 [vR (52, al, 0)] h = some (some (vI 0), h) := by
  simp only [E229, e229_0, e229_3, e229_6, e229_7, e229_10, e229_13, e229_14, zt0, zt1, zn3, not_false_eq_true, toListS, toListN, zk_some, zpi, h11, show ¬ (1 : Int32) = 0 by decide, if_false, show zty8 (vI 0) = true by decide]
theorem C230 (X : Nat × (Nat → Int32) × Value) (d : Nat) (al : Nat) (h11 : al < 11) (h : zH) : zd X d 230 [vR (52, al, 0)] h = some (some (vI 1), h) := by
  simp only [E230, e230_0, e230_3, e230_6, e230_7, e230_10, e230_13, e230_14, e230_17, e230_18, zt0, zt1, zn3, not_false_eq_true, toListS, toListN, zk_some, zpi, h11, show ¬ (1 : Int32) = 0 by decide, if_false, if_true]
theorem C234 (X : Nat × (Nat → Int32) × Value) (hc : X.2.2.category = 1) (d : Nat) (i n : Nat) (hi : i < n) (hn : n < 2 ^ 31) (h : zH) : zd X d 234 [vI (nI i), vI (nI n), .inl X.2.2] h = some (some (vI (nI i)), h) := by
  have g : ¬ nI i < 0 := by rw [i_lt, nI_int (by omega), show (0 : Int32).toInt = 0 from rfl]; omega
  simp only [E234 X _ _ _ X.2.2 hc, e234_0, e234_1, e234_4, e234_5, e234_6, e234_10, e234_11, e234_16, e234_17, g, if_false, nlt (show i < 2 ^ 31 by omega) hn, hi, if_true]
theorem C231 (X : Nat × (Nat → Int32) × Value) (hc : X.2.2.category = 1) (d : Nat) (i n : Nat) (hi : i < n) (hn : n < 2 ^ 31) (h : zH) : zd X (d + 1) 231 [vI (nI i), vI (nI n)] h = some (none, h) := by
  simp only [E231, e231_0, e231_1, e231_2, e231_5, e231_8, e231_9, zt0, zt1, zn3, not_false_eq_true, toListS, toListN, zk_some, zpi, hc, C234 X hc _ i n hi hn]
theorem C225 (X : Nat × (Nat → Int32) × Value) (d : Nat) (al : Nat) (h11 : al < 11) (h : zH) : zd X (d + 1) 225 [vR (52, al, 0)] h = some (some (vI (Int32.ofNat (zsl.getD al 0))), h) := by
  have e : ∀ n, n < 11 → Int32.ofNat (zsl.getD n 0) >>> (0 &&& 31 : Int32) = Int32.ofNat (zsl.getD n 0) := by decide +kernel
  simp only [E225, e225_0, e225_1, e225_4, e225_5, e225_6, e225_9, e225_10, zt0, zt1, zn3, not_false_eq_true, toListS, toListN, zk_some, zpi, h11, C229 X _ al h11, e al h11]
theorem C226 (X : Nat × (Nat → Int32) × Value) (d : Nat) (al : Nat) (h11 : al < 11) (h : zH) : zd X (d + 1) 226 [vR (52, al, 0)] h = some (some (vI (if al = 5 then 1 else 0)), h) := by
  simp only [E226, e226_0, e226_1, e226_4, e226_5, e226_8, e226_9, e226_12, e226_13, zt0, zt1, zn3, not_false_eq_true, toListS, toListN, zk_some, zpi, h11]
  by_cases q : al = 5
  · rw [if_pos (by rw [q]; rfl), if_pos q]
  · have e : ∀ n, n < 11 → n ≠ 5 → ¬ Int32.ofNat (zsl.getD n 0) = 0 := by decide +kernel
    rw [if_neg (e al h11 q), if_neg q]
theorem C232 (X : Nat × (Nat → Int32) × Value) (hc : X.2.2.category = 1) (d : Nat) (al i : Nat) (h11 : al < 11) (hi : i < zsl.getD al 0) (h : zH) : zd X (d + 2) 232 [vR (53, al, 0), vI (nI i)] h = some (some (vI ((zsb.getD al []).getD i 0)), h) := by
  have l31 : ∀ n, n < 11 → zsl.getD n 0 < 11 := by decide +kernel
  have h31 := l31 al h11
  have cl : (nI i).toNatClampNeg = i := nI_clamp (by omega)
  have zi : zin (nI i) (zsl.getD al 0) = true := zin_nI hi (by omega)
  have e : ∀ n, n < 11 → ∀ j, j < 11 → ((((zsb.getD n []).getD j 0) &&& 255).toUInt32 % 65536).toInt32 = (zsb.getD n []).getD j 0 ∧ ztc (vI ((zsb.getD n []).getD j 0)) = true := by decide +kernel
  obtain ⟨e1, e2⟩ := e al h11 i (by omega)
  simp only [E232, e232_0, e232_1, e232_2, e232_3, e232_6, e232_7, e232_8, e232_9, e232_12, e232_13, e232_14, zt0, zt1, zn3, not_false_eq_true, toListS, toListN, zk_some, zpi, h11, show Int32.ofNat (zsl.getD al 0) = nI (zsl.getD al 0) from rfl, C231 X hc _ i _ hi (by omega), zi, cl, e1, e2, show ∀ l : List zV, (none : Option zV).toList ++ l = l from fun _ => rfl]
theorem C227 (X : Nat × (Nat → Int32) × Value) (hc : X.2.2.category = 1) (d : Nat) (al i : Nat) (h11 : al < 11) (hi : i < zsl.getD al 0) (h : zH) : zd X (d + 3) 227 [vR (52, al, 0), vI (nI i)] h = some (some (vI ((zsb.getD al []).getD i 0)), h) := by
  have e : ∀ n, n < 11 → ∀ j, j < 11 → ztc (vI ((zsb.getD n []).getD j 0)) = true := by decide +kernel
  have l31 : ∀ n, n < 11 → zsl.getD n 0 < 11 := by decide +kernel
  have e2 := e al h11 i (by have := l31 al h11; omega)
  simp only [E227, e227_0, e227_1, e227_4, e227_7, e227_8, e227_11, e227_12, e227_15, e227_16, e227_17, e227_20, zt0, zt1, zn3, not_false_eq_true, toListS, toListN, zk_some, zpi, h11, C230 X _ al h11, show ¬ (1 : Int32) = 0 by decide, if_false, C232 X hc _ al i h11 hi, e2]
theorem C228s (X : Nat × (Nat → Int32) × Value) (d : Nat) (h : zH) : zd X d 228 [vR (52, 10, 0), vR (52, 10, 0)] h = some (some (vI 1), h) := by
  simp only [E228, e228_0, e228_1, e228_2, e228_5, e228_6, e228_7, e228_8, e228_11, e228_14, e228_15, e228_18, e228_19, e228_22, e228_25, e228_26, e228_29, e228_30, e228_33, e228_36, e228_37, e228_40, e228_41, e228_44, e228_47, e228_50, e228_51, e228_54, e228_55, zt0, zt1, zn3, not_false_eq_true, toListS, toListN, zk_some, zpi, show (10 : Nat) < 11 by decide, if_true]
theorem C228n (X : Nat × (Nat → Int32) × Value) (d : Nat) (al : Nat) (h5 : 5 ≤ al) (h10 : al < 10) (h : zH) : zd X (d + 1) 228 [vR (52, al, 0), vR (52, 10, 0)] h = some (some (vI 0), h) := by
  have h11 : al < 11 := by omega
  have z : zd X d 233 [vR (53, al, 0), vR (53, 10, 0)] h = some (some (vI 0), h) := by
    rcases (show al = 5 ∨ al = 6 ∨ al = 7 ∨ al = 8 ∨ al = 9 by omega) with rfl | rfl | rfl | rfl | rfl
    · simp only [E233, e233_0, e233_1, e233_2, e233_3, e233_4, e233_7, e233_8, e233_9, e233_10, e233_11, e233_12, e233_15, e233_16, e233_17, e233_18, e233_19, e233_20, e233_21, e233_24, e233_25, e233_26, e233_29, e233_32, e233_33, e233_34, e233_35, zt0, zt1, zn3, not_false_eq_true, toListS, toListN, zk_some, zpi, show (5 : Nat) < 11 by decide, show (10 : Nat) < 11 by decide, show ¬ Int32.ofNat (zsl.getD 5 0) = Int32.ofNat (zsl.getD 10 0) by decide, if_false]
    · simp only [E233, e233_0, e233_1, e233_2, e233_3, e233_4, e233_7, e233_8, e233_9, e233_10, e233_11, e233_12, e233_15, e233_16, e233_17, e233_18, e233_19, e233_20, e233_21, e233_24, e233_25, e233_26, e233_29, e233_32, e233_33, e233_34, e233_35, zt0, zt1, zn3, not_false_eq_true, toListS, toListN, zk_some, zpi, show (6 : Nat) < 11 by decide, show (10 : Nat) < 11 by decide, show ¬ Int32.ofNat (zsl.getD 6 0) = Int32.ofNat (zsl.getD 10 0) by decide, if_false]
    · simp only [E233, e233_0, e233_1, e233_2, e233_3, e233_4, e233_7, e233_8, e233_9, e233_10, e233_11, e233_12, e233_15, e233_16, e233_17, e233_18, e233_19, e233_20, e233_21, e233_24, e233_25, e233_26, e233_29, e233_32, e233_33, e233_34, e233_35, zt0, zt1, zn3, not_false_eq_true, toListS, toListN, zk_some, zpi, show (7 : Nat) < 11 by decide, show (10 : Nat) < 11 by decide, show ¬ Int32.ofNat (zsl.getD 7 0) = Int32.ofNat (zsl.getD 10 0) by decide, if_false]
    · simp only [E233, e233_0, e233_1, e233_2, e233_3, e233_4, e233_7, e233_8, e233_9, e233_10, e233_11, e233_12, e233_15, e233_16, e233_17, e233_18, e233_19, e233_20, e233_21, e233_24, e233_25, e233_26, e233_29, e233_32, e233_33, e233_34, e233_35, zt0, zt1, zn3, not_false_eq_true, toListS, toListN, zk_some, zpi, show (8 : Nat) < 11 by decide, show (10 : Nat) < 11 by decide, show ¬ Int32.ofNat (zsl.getD 8 0) = Int32.ofNat (zsl.getD 10 0) by decide, if_false]
    · simp only [E233, e233_0, e233_1, e233_2, e233_3, e233_4, e233_7, e233_8, e233_9, e233_10, e233_11, e233_12, e233_15, e233_16, e233_17, e233_18, e233_19, e233_20, e233_21, e233_24, e233_25, e233_26, e233_29, e233_32, e233_33, e233_34, e233_35, zt0, zt1, zn3, not_false_eq_true, toListS, toListN, zk_some, zpi, show (9 : Nat) < 11 by decide, show (10 : Nat) < 11 by decide, show Int32.ofNat (zsl.getD 9 0) = 1 by decide, show Int32.ofNat (zsl.getD 10 0) = 1 by decide, if_true, show ¬ (1 : Int32) ≤ 0 by decide, if_false, show zin 0 (zsl.getD 9 0) = true by decide, show zin 0 (zsl.getD 10 0) = true by decide, show ¬ (zsb.getD 9 []).getD (0 : Int32).toNatClampNeg 0 = (zsb.getD 10 []).getD (0 : Int32).toNatClampNeg 0 by decide]
  simp only [E228, e228_0, e228_1, e228_2, e228_5, e228_6, e228_7, e228_8, e228_11, e228_14, e228_15, e228_18, e228_19, e228_22, e228_25, e228_26, e228_29, e228_30, e228_33, e228_36, e228_37, e228_40, e228_41, e228_44, e228_47, e228_50, e228_51, e228_54, e228_55, zt0, zt1, zn3, not_false_eq_true, toListS, toListN, zk_some, zpi, h11, show (10 : Nat) < 11 by decide, show ¬ al = 10 by omega, if_false, show ¬ (1 : Int32) = 0 by decide, if_true, z]
