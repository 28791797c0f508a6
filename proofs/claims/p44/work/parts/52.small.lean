/-! THE MODEL'S ROW of numbers as the same S, V, P -/
theorem ni0 (a : Nat) : nI a + 0 = nI a := by rw [show (0 : Int32) = nI 0 from rfl, nI_add]; rfl
theorem ni1 (a : Nat) : nI a + 1 = nI (a + 1) := nI_1 a
theorem ni2 (a : Nat) : nI a + 2 = nI (a + 2) := nI_add a 2
theorem ni3 (a : Nat) : nI a + 3 = nI (a + 3) := nI_add a 3
theorem ni4 (a : Nat) : nI a + 4 = nI (a + 4) := nI_add a 4
theorem ni5 (a : Nat) : nI a + 5 = nI (a + 5) := nI_add a 5
theorem ni6 (a : Nat) : nI a + 6 = nI (a + 6) := nI_add a 6
theorem ni7 (a : Nat) : nI a + 7 = nI (a + 7) := nI_add a 7
theorem niV (j : Nat) : 4 + 5 * nI j = nI (4 + 5 * j) := by rw [show (4 : Int32) = nI 4 from rfl, show (5 : Int32) = nI 5 from rfl, pk_mul, nI_add]
theorem niP (p : Nat) : 29 + 8 * nI p = nI (29 + 8 * p) := by rw [show (29 : Int32) = nI 29 from rfl, show (8 : Int32) = nI 8 from rfl, pk_mul, nI_add]
theorem cV {j f : Nat} (hj : j < 5) (hf : f < 5) : (nI (4 + 5 * j + f)).toNatClampNeg = 4 + 5 * j + f := nI_clamp (by omega)
theorem cV0 {j : Nat} (hj : j < 5) : (nI (4 + 5 * j)).toNatClampNeg = 4 + 5 * j := nI_clamp (by omega)
theorem cP {p g : Nat} (hp : p < 8) (hg : g < 8) : (nI (29 + 8 * p + g)).toNatClampNeg = 29 + 8 * p + g := nI_clamp (by omega)
theorem cP0 {p : Nat} (hp : p < 8) : (nI (29 + 8 * p)).toNatClampNeg = 29 + 8 * p := nI_clamp (by omega)
theorem wV {j f : Nat} (hj : j < 5) (hf : f < 5) : zin (nI (4 + 5 * j + f)) 93 = true := zin_nI (by omega) (by decide)
theorem wV0 {j : Nat} (hj : j < 5) : zin (nI (4 + 5 * j)) 93 = true := zin_nI (by omega) (by decide)
theorem wP {p g : Nat} (hp : p < 8) (hg : g < 8) : zin (nI (29 + 8 * p + g)) 93 = true := zin_nI (by omega) (by decide)
theorem wP0 {p : Nat} (hp : p < 8) : zin (nI (29 + 8 * p)) 93 = true := zin_nI (by omega) (by decide)
theorem w0 : zin 0 93 = true := by decide
theorem w1 : zin 1 93 = true := by decide
theorem w2 : zin 2 93 = true := by decide
theorem w3 : zin 3 93 = true := by decide
theorem t0 : (0 : Int32).toNatClampNeg = 0 := by decide
theorem t1 : (1 : Int32).toNatClampNeg = 1 := by decide
theorem t2 : (2 : Int32).toNatClampNeg = 2 := by decide
theorem t3 : (3 : Int32).toNatClampNeg = 3 := by decide
