/-! the law: an arm a call -/
theorem lg_self (x : Int64) : lg_cmp x x = 0 := by
  unfold lg_cmp
  simp
theorem A0 (X : Nat × (Nat → Int32) × Value) (c1 c2 s : Nat) (h1 : c1 ≤ 600000) (h2 : c2 ≤ 7302250) (hx : X.1 < 2 ^ 31) (hs : 6 * s + 6 ≤ X.1) (t : Nat) (ht : t ≤ 700) (hc : X.2.2.category = 1) (M : zM) (G : zG) (i : Inv t M) : ∃ M2 G2, zw X c1 c2 13 243 212 [vR (50, 0, 0), vR (6, 0, 0), vR (7, 0, 0), vI (nI (6 * s))] [] (hh M G) = zw X c1 c2 13 243 1510 [vR (50, 0, 0), vR (6, 0, 0), vR (7, 0, 0), vI (nI (6 * s))] [] (hh M2 G2) ∧ Inv (t + 1) M2 := by
  have f1 : nI (6 * s) + 1 = nI (6 * s + 1) := by rw [show (1 : Int32) = nI 1 from rfl, nI_add]
  have z1 := zin_nI (show 6 * s + 1 < X.1 by omega) hx
  have w1 := nI_clamp (show 6 * s + 1 < 2 ^ 31 by omega)
  obtain ⟨r, M1, G1, M2, G2, c, m, j⟩ := K0 X t M G (X.2.1 (6 * s + 1)) i
  refine ⟨M2, G2, ?_, Inv_c (sm_r M2) (by omega) j⟩
  simp only [e243_212, e243_213, e243_214, e243_215, e243_216, e243_217, e243_218, e243_221, e243_222, e243_223, e243_224, e243_225, e243_226, e243_227, e243_230, e243_233, e243_234, zt0, zt1, zn3, not_false_eq_true, toListS, toListN, zk_some, zpi, f1, z1, w1, h1, h2, c, m, lg_self, if_true]
theorem A1 (X : Nat × (Nat → Int32) × Value) (c1 c2 s : Nat) (h1 : c1 ≤ 600000) (h2 : c2 ≤ 7302250) (hx : X.1 < 2 ^ 31) (hs : 6 * s + 6 ≤ X.1) (t : Nat) (ht : t ≤ 700) (hc : X.2.2.category = 1) (M : zM) (G : zG) (i : Inv t M) : ∃ M2 G2, zw X c1 c2 13 243 235 [vR (50, 0, 0), vR (6, 0, 0), vR (7, 0, 0), vI (nI (6 * s))] [] (hh M G) = zw X c1 c2 13 243 1510 [vR (50, 0, 0), vR (6, 0, 0), vR (7, 0, 0), vI (nI (6 * s))] [] (hh M2 G2) ∧ Inv (t + 1) M2 := by
  obtain ⟨r, M1, G1, M2, G2, c, m, j⟩ := K1 X hc t M G i
  refine ⟨M2, G2, ?_, Inv_c (sm_r M2) (by omega) j⟩
  simp only [e243_235, e243_236, e243_239, e243_240, e243_243, e243_246, e243_247, zt0, zt1, zn3, not_false_eq_true, toListS, toListN, zk_some, zpi, h1, h2, c, m, lg_self, if_true]
theorem A2 (X : Nat × (Nat → Int32) × Value) (c1 c2 s : Nat) (h1 : c1 ≤ 600000) (h2 : c2 ≤ 7302250) (hx : X.1 < 2 ^ 31) (hs : 6 * s + 6 ≤ X.1) (t : Nat) (ht : t ≤ 700) (hc : X.2.2.category = 1) (M : zM) (G : zG) (i : Inv t M) : ∃ M2 G2, zw X c1 c2 13 243 248 [vR (50, 0, 0), vR (6, 0, 0), vR (7, 0, 0), vI (nI (6 * s))] [] (hh M G) = zw X c1 c2 13 243 1510 [vR (50, 0, 0), vR (6, 0, 0), vR (7, 0, 0), vI (nI (6 * s))] [] (hh M2 G2) ∧ Inv (t + 1) M2 := by
  have f1 : nI (6 * s) + 1 = nI (6 * s + 1) := by rw [show (1 : Int32) = nI 1 from rfl, nI_add]
  have z1 := zin_nI (show 6 * s + 1 < X.1 by omega) hx
  have w1 := nI_clamp (show 6 * s + 1 < 2 ^ 31 by omega)
  have f2 : nI (6 * s) + 2 = nI (6 * s + 2) := by rw [show (2 : Int32) = nI 2 from rfl, nI_add]
  have z2 := zin_nI (show 6 * s + 2 < X.1 by omega) hx
  have w2 := nI_clamp (show 6 * s + 2 < 2 ^ 31 by omega)
  have f3 : nI (6 * s) + 3 = nI (6 * s + 3) := by rw [show (3 : Int32) = nI 3 from rfl, nI_add]
  have z3 := zin_nI (show 6 * s + 3 < X.1 by omega) hx
  have w3 := nI_clamp (show 6 * s + 3 < 2 ^ 31 by omega)
  obtain ⟨r, M1, G1, M2, G2, c, m, j⟩ := K2 X t M G (X.2.1 (6 * s + 1)) (X.2.1 (6 * s + 2)) (X.2.1 (6 * s + 3)) i
  refine ⟨M2, G2, ?_, Inv_c (sm_r M2) (by omega) j⟩
  simp only [e243_248, e243_249, e243_250, e243_251, e243_252, e243_253, e243_254, e243_255, e243_256, e243_257, e243_258, e243_259, e243_260, e243_261, e243_262, e243_263, e243_264, e243_267, e243_268, e243_269, e243_270, e243_271, e243_272, e243_273, e243_274, e243_275, e243_276, e243_277, e243_278, e243_279, e243_280, e243_281, e243_282, e243_283, e243_286, e243_289, e243_290, zt0, zt1, zn3, not_false_eq_true, toListS, toListN, zk_some, zpi, f1, z1, w1, f2, z2, w2, f3, z3, w3, h1, h2, c, m, lg_self, if_true]
theorem A3 (X : Nat × (Nat → Int32) × Value) (c1 c2 s : Nat) (h1 : c1 ≤ 600000) (h2 : c2 ≤ 7302250) (hx : X.1 < 2 ^ 31) (hs : 6 * s + 6 ≤ X.1) (t : Nat) (ht : t ≤ 700) (hc : X.2.2.category = 1) (M : zM) (G : zG) (i : Inv t M) : ∃ M2 G2, zw X c1 c2 13 243 291 [vR (50, 0, 0), vR (6, 0, 0), vR (7, 0, 0), vI (nI (6 * s))] [] (hh M G) = zw X c1 c2 13 243 1510 [vR (50, 0, 0), vR (6, 0, 0), vR (7, 0, 0), vI (nI (6 * s))] [] (hh M2 G2) ∧ Inv (t + 1) M2 := by
  have f1 : nI (6 * s) + 1 = nI (6 * s + 1) := by rw [show (1 : Int32) = nI 1 from rfl, nI_add]
  have z1 := zin_nI (show 6 * s + 1 < X.1 by omega) hx
  have w1 := nI_clamp (show 6 * s + 1 < 2 ^ 31 by omega)
  have f2 : nI (6 * s) + 2 = nI (6 * s + 2) := by rw [show (2 : Int32) = nI 2 from rfl, nI_add]
  have z2 := zin_nI (show 6 * s + 2 < X.1 by omega) hx
  have w2 := nI_clamp (show 6 * s + 2 < 2 ^ 31 by omega)
  have f3 : nI (6 * s) + 3 = nI (6 * s + 3) := by rw [show (3 : Int32) = nI 3 from rfl, nI_add]
  have z3 := zin_nI (show 6 * s + 3 < X.1 by omega) hx
  have w3 := nI_clamp (show 6 * s + 3 < 2 ^ 31 by omega)
  have f4 : nI (6 * s) + 4 = nI (6 * s + 4) := by rw [show (4 : Int32) = nI 4 from rfl, nI_add]
  have z4 := zin_nI (show 6 * s + 4 < X.1 by omega) hx
  have w4 := nI_clamp (show 6 * s + 4 < 2 ^ 31 by omega)
  have f5 : nI (6 * s) + 5 = nI (6 * s + 5) := by rw [show (5 : Int32) = nI 5 from rfl, nI_add]
  have z5 := zin_nI (show 6 * s + 5 < X.1 by omega) hx
  have w5 := nI_clamp (show 6 * s + 5 < 2 ^ 31 by omega)
  obtain ⟨r, M1, G1, M2, G2, c, m, j⟩ := K3 X t M G (X.2.1 (6 * s + 1)) (X.2.1 (6 * s + 2)) (X.2.1 (6 * s + 3)) (X.2.1 (6 * s + 4)) (X.2.1 (6 * s + 5)) i
  refine ⟨M2, G2, ?_, Inv_c (sm_r M2) (by omega) j⟩
  simp only [e243_291, e243_292, e243_293, e243_294, e243_295, e243_296, e243_297, e243_298, e243_299, e243_300, e243_301, e243_302, e243_303, e243_304, e243_305, e243_306, e243_307, e243_308, e243_309, e243_310, e243_311, e243_312, e243_313, e243_314, e243_315, e243_316, e243_317, e243_320, e243_321, e243_322, e243_323, e243_324, e243_325, e243_326, e243_327, e243_328, e243_329, e243_330, e243_331, e243_332, e243_333, e243_334, e243_335, e243_336, e243_337, e243_338, e243_339, e243_340, e243_341, e243_342, e243_343, e243_344, e243_345, e243_346, e243_349, e243_352, e243_353, zt0, zt1, zn3, not_false_eq_true, toListS, toListN, zk_some, zpi, f1, z1, w1, f2, z2, w2, f3, z3, w3, f4, z4, w4, f5, z5, w5, h1, h2, c, m, lg_self, if_true]
theorem A4 (X : Nat × (Nat → Int32) × Value) (c1 c2 s : Nat) (h1 : c1 ≤ 600000) (h2 : c2 ≤ 7302250) (hx : X.1 < 2 ^ 31) (hs : 6 * s + 6 ≤ X.1) (t : Nat) (ht : t ≤ 700) (hc : X.2.2.category = 1) (M : zM) (G : zG) (i : Inv t M) : ∃ M2 G2, zw X c1 c2 13 243 354 [vR (50, 0, 0), vR (6, 0, 0), vR (7, 0, 0), vI (nI (6 * s))] [] (hh M G) = zw X c1 c2 13 243 1510 [vR (50, 0, 0), vR (6, 0, 0), vR (7, 0, 0), vI (nI (6 * s))] [] (hh M2 G2) ∧ Inv (t + 1) M2 := by
  have f1 : nI (6 * s) + 1 = nI (6 * s + 1) := by rw [show (1 : Int32) = nI 1 from rfl, nI_add]
  have z1 := zin_nI (show 6 * s + 1 < X.1 by omega) hx
  have w1 := nI_clamp (show 6 * s + 1 < 2 ^ 31 by omega)
  have f2 : nI (6 * s) + 2 = nI (6 * s + 2) := by rw [show (2 : Int32) = nI 2 from rfl, nI_add]
  have z2 := zin_nI (show 6 * s + 2 < X.1 by omega) hx
  have w2 := nI_clamp (show 6 * s + 2 < 2 ^ 31 by omega)
  have f3 : nI (6 * s) + 3 = nI (6 * s + 3) := by rw [show (3 : Int32) = nI 3 from rfl, nI_add]
  have z3 := zin_nI (show 6 * s + 3 < X.1 by omega) hx
  have w3 := nI_clamp (show 6 * s + 3 < 2 ^ 31 by omega)
  obtain ⟨r, M1, G1, M2, G2, c, m, j⟩ := K4 X t M G (X.2.1 (6 * s + 1)) (X.2.1 (6 * s + 2)) (X.2.1 (6 * s + 3)) i
  refine ⟨M2, G2, ?_, Inv_c (sm_r M2) (by omega) j⟩
  simp only [e243_354, e243_355, e243_356, e243_357, e243_358, e243_359, e243_360, e243_361, e243_362, e243_363, e243_364, e243_365, e243_366, e243_367, e243_368, e243_369, e243_370, e243_373, e243_374, e243_375, e243_376, e243_377, e243_378, e243_379, e243_380, e243_381, e243_382, e243_383, e243_384, e243_385, e243_386, e243_387, e243_388, e243_389, e243_392, e243_395, e243_396, zt0, zt1, zn3, not_false_eq_true, toListS, toListN, zk_some, zpi, f1, z1, w1, f2, z2, w2, f3, z3, w3, h1, h2, c, m, lg_self, if_true]
theorem A5 (X : Nat × (Nat → Int32) × Value) (c1 c2 s : Nat) (h1 : c1 ≤ 600000) (h2 : c2 ≤ 7302250) (hx : X.1 < 2 ^ 31) (hs : 6 * s + 6 ≤ X.1) (t : Nat) (ht : t ≤ 700) (hc : X.2.2.category = 1) (M : zM) (G : zG) (i : Inv t M) : ∃ M2 G2, zw X c1 c2 13 243 397 [vR (50, 0, 0), vR (6, 0, 0), vR (7, 0, 0), vI (nI (6 * s))] [] (hh M G) = zw X c1 c2 13 243 1510 [vR (50, 0, 0), vR (6, 0, 0), vR (7, 0, 0), vI (nI (6 * s))] [] (hh M2 G2) ∧ Inv (t + 1) M2 := by
  have f1 : nI (6 * s) + 1 = nI (6 * s + 1) := by rw [show (1 : Int32) = nI 1 from rfl, nI_add]
  have z1 := zin_nI (show 6 * s + 1 < X.1 by omega) hx
  have w1 := nI_clamp (show 6 * s + 1 < 2 ^ 31 by omega)
  have f2 : nI (6 * s) + 2 = nI (6 * s + 2) := by rw [show (2 : Int32) = nI 2 from rfl, nI_add]
  have z2 := zin_nI (show 6 * s + 2 < X.1 by omega) hx
  have w2 := nI_clamp (show 6 * s + 2 < 2 ^ 31 by omega)
  obtain ⟨r, M1, G1, M2, G2, c, m, j⟩ := K5 X t M G (X.2.1 (6 * s + 1)) (X.2.1 (6 * s + 2)) i
  refine ⟨M2, G2, ?_, Inv_c (sm_r M2) (by omega) j⟩
  simp only [e243_397, e243_398, e243_399, e243_400, e243_401, e243_402, e243_403, e243_404, e243_405, e243_406, e243_407, e243_408, e243_411, e243_412, e243_413, e243_414, e243_415, e243_416, e243_417, e243_418, e243_419, e243_420, e243_421, e243_422, e243_425, e243_428, e243_429, zt0, zt1, zn3, not_false_eq_true, toListS, toListN, zk_some, zpi, f1, z1, w1, f2, z2, w2, h1, h2, c, m, lg_self, if_true]
theorem A6 (X : Nat × (Nat → Int32) × Value) (c1 c2 s : Nat) (h1 : c1 ≤ 600000) (h2 : c2 ≤ 7302250) (hx : X.1 < 2 ^ 31) (hs : 6 * s + 6 ≤ X.1) (t : Nat) (ht : t ≤ 700) (hc : X.2.2.category = 1) (M : zM) (G : zG) (i : Inv t M) : ∃ M2 G2, zw X c1 c2 13 243 430 [vR (50, 0, 0), vR (6, 0, 0), vR (7, 0, 0), vI (nI (6 * s))] [] (hh M G) = zw X c1 c2 13 243 1510 [vR (50, 0, 0), vR (6, 0, 0), vR (7, 0, 0), vI (nI (6 * s))] [] (hh M2 G2) ∧ Inv (t + 1) M2 := by
  have f1 : nI (6 * s) + 1 = nI (6 * s + 1) := by rw [show (1 : Int32) = nI 1 from rfl, nI_add]
  have z1 := zin_nI (show 6 * s + 1 < X.1 by omega) hx
  have w1 := nI_clamp (show 6 * s + 1 < 2 ^ 31 by omega)
  have f2 : nI (6 * s) + 2 = nI (6 * s + 2) := by rw [show (2 : Int32) = nI 2 from rfl, nI_add]
  have z2 := zin_nI (show 6 * s + 2 < X.1 by omega) hx
  have w2 := nI_clamp (show 6 * s + 2 < 2 ^ 31 by omega)
  obtain ⟨r, M1, G1, M2, G2, c, m, j⟩ := K6 X t M G (X.2.1 (6 * s + 1)) (X.2.1 (6 * s + 2)) i
  refine ⟨M2, G2, ?_, Inv_c (sm_r M2) (by omega) j⟩
  simp only [e243_430, e243_431, e243_432, e243_433, e243_434, e243_435, e243_436, e243_437, e243_438, e243_439, e243_440, e243_441, e243_444, e243_445, e243_446, e243_447, e243_448, e243_449, e243_450, e243_451, e243_452, e243_453, e243_454, e243_455, e243_458, e243_461, e243_462, zt0, zt1, zn3, not_false_eq_true, toListS, toListN, zk_some, zpi, f1, z1, w1, f2, z2, w2, h1, h2, c, m, lg_self, if_true]
theorem A7 (X : Nat × (Nat → Int32) × Value) (c1 c2 s : Nat) (h1 : c1 ≤ 600000) (h2 : c2 ≤ 7302250) (hx : X.1 < 2 ^ 31) (hs : 6 * s + 6 ≤ X.1) (t : Nat) (ht : t ≤ 700) (hc : X.2.2.category = 1) (M : zM) (G : zG) (i : Inv t M) : ∃ M2 G2, zw X c1 c2 13 243 463 [vR (50, 0, 0), vR (6, 0, 0), vR (7, 0, 0), vI (nI (6 * s))] [] (hh M G) = zw X c1 c2 13 243 1510 [vR (50, 0, 0), vR (6, 0, 0), vR (7, 0, 0), vI (nI (6 * s))] [] (hh M2 G2) ∧ Inv (t + 1) M2 := by
  have f1 : nI (6 * s) + 1 = nI (6 * s + 1) := by rw [show (1 : Int32) = nI 1 from rfl, nI_add]
  have z1 := zin_nI (show 6 * s + 1 < X.1 by omega) hx
  have w1 := nI_clamp (show 6 * s + 1 < 2 ^ 31 by omega)
  have f2 : nI (6 * s) + 2 = nI (6 * s + 2) := by rw [show (2 : Int32) = nI 2 from rfl, nI_add]
  have z2 := zin_nI (show 6 * s + 2 < X.1 by omega) hx
  have w2 := nI_clamp (show 6 * s + 2 < 2 ^ 31 by omega)
  obtain ⟨r, M1, G1, M2, G2, c, m, j⟩ := K7 X t M G (X.2.1 (6 * s + 1)) (X.2.1 (6 * s + 2)) i
  refine ⟨M2, G2, ?_, Inv_c (sm_r M2) (by omega) j⟩
  simp only [e243_463, e243_464, e243_465, e243_466, e243_467, e243_468, e243_469, e243_470, e243_471, e243_472, e243_473, e243_474, e243_477, e243_478, e243_479, e243_480, e243_481, e243_482, e243_483, e243_484, e243_485, e243_486, e243_487, e243_488, e243_491, e243_494, e243_495, zt0, zt1, zn3, not_false_eq_true, toListS, toListN, zk_some, zpi, f1, z1, w1, f2, z2, w2, h1, h2, c, m, lg_self, if_true]
theorem A8 (X : Nat × (Nat → Int32) × Value) (c1 c2 s : Nat) (h1 : c1 ≤ 600000) (h2 : c2 ≤ 7302250) (hx : X.1 < 2 ^ 31) (hs : 6 * s + 6 ≤ X.1) (t : Nat) (ht : t ≤ 700) (hc : X.2.2.category = 1) (M : zM) (G : zG) (i : Inv t M) : ∃ M2 G2, zw X c1 c2 13 243 496 [vR (50, 0, 0), vR (6, 0, 0), vR (7, 0, 0), vI (nI (6 * s))] [] (hh M G) = zw X c1 c2 13 243 1510 [vR (50, 0, 0), vR (6, 0, 0), vR (7, 0, 0), vI (nI (6 * s))] [] (hh M2 G2) ∧ Inv (t + 1) M2 := by
  have f1 : nI (6 * s) + 1 = nI (6 * s + 1) := by rw [show (1 : Int32) = nI 1 from rfl, nI_add]
  have z1 := zin_nI (show 6 * s + 1 < X.1 by omega) hx
  have w1 := nI_clamp (show 6 * s + 1 < 2 ^ 31 by omega)
  obtain ⟨r, M1, G1, M2, G2, c, m, j⟩ := K8 X t M G (X.2.1 (6 * s + 1)) i
  refine ⟨M2, G2, ?_, Inv_c (sm_r M2) (by omega) j⟩
  simp only [e243_496, e243_497, e243_498, e243_499, e243_500, e243_501, e243_502, e243_505, e243_506, e243_507, e243_508, e243_509, e243_510, e243_511, e243_514, e243_517, e243_518, zt0, zt1, zn3, not_false_eq_true, toListS, toListN, zk_some, zpi, f1, z1, w1, h1, h2, c, m, lg_self, if_true]
theorem A9 (X : Nat × (Nat → Int32) × Value) (c1 c2 s : Nat) (h1 : c1 ≤ 600000) (h2 : c2 ≤ 7302250) (hx : X.1 < 2 ^ 31) (hs : 6 * s + 6 ≤ X.1) (t : Nat) (ht : t ≤ 700) (hc : X.2.2.category = 1) (M : zM) (G : zG) (i : Inv t M) : ∃ M2 G2, zw X c1 c2 13 243 519 [vR (50, 0, 0), vR (6, 0, 0), vR (7, 0, 0), vI (nI (6 * s))] [] (hh M G) = zw X c1 c2 13 243 1510 [vR (50, 0, 0), vR (6, 0, 0), vR (7, 0, 0), vI (nI (6 * s))] [] (hh M2 G2) ∧ Inv (t + 1) M2 := by
  have f1 : nI (6 * s) + 1 = nI (6 * s + 1) := by rw [show (1 : Int32) = nI 1 from rfl, nI_add]
  have z1 := zin_nI (show 6 * s + 1 < X.1 by omega) hx
  have w1 := nI_clamp (show 6 * s + 1 < 2 ^ 31 by omega)
  have f2 : nI (6 * s) + 2 = nI (6 * s + 2) := by rw [show (2 : Int32) = nI 2 from rfl, nI_add]
  have z2 := zin_nI (show 6 * s + 2 < X.1 by omega) hx
  have w2 := nI_clamp (show 6 * s + 2 < 2 ^ 31 by omega)
  obtain ⟨r, M1, G1, M2, G2, c, m, j⟩ := K9 X t M G (X.2.1 (6 * s + 1)) (X.2.1 (6 * s + 2)) i
  refine ⟨M2, G2, ?_, Inv_c (sm_r M2) (by omega) j⟩
  simp only [e243_519, e243_520, e243_521, e243_522, e243_523, e243_524, e243_525, e243_526, e243_527, e243_528, e243_529, e243_530, e243_533, e243_534, e243_535, e243_536, e243_537, e243_538, e243_539, e243_540, e243_541, e243_542, e243_543, e243_544, e243_547, e243_550, e243_551, zt0, zt1, zn3, not_false_eq_true, toListS, toListN, zk_some, zpi, f1, z1, w1, f2, z2, w2, h1, h2, c, m, lg_self, if_true]
theorem A10 (X : Nat × (Nat → Int32) × Value) (c1 c2 s : Nat) (h1 : c1 ≤ 600000) (h2 : c2 ≤ 7302250) (hx : X.1 < 2 ^ 31) (hs : 6 * s + 6 ≤ X.1) (t : Nat) (ht : t ≤ 700) (hc : X.2.2.category = 1) (M : zM) (G : zG) (i : Inv t M) : ∃ M2 G2, zw X c1 c2 13 243 552 [vR (50, 0, 0), vR (6, 0, 0), vR (7, 0, 0), vI (nI (6 * s))] [] (hh M G) = zw X c1 c2 13 243 1510 [vR (50, 0, 0), vR (6, 0, 0), vR (7, 0, 0), vI (nI (6 * s))] [] (hh M2 G2) ∧ Inv (t + 1) M2 := by
  have f1 : nI (6 * s) + 1 = nI (6 * s + 1) := by rw [show (1 : Int32) = nI 1 from rfl, nI_add]
  have z1 := zin_nI (show 6 * s + 1 < X.1 by omega) hx
  have w1 := nI_clamp (show 6 * s + 1 < 2 ^ 31 by omega)
  have f2 : nI (6 * s) + 2 = nI (6 * s + 2) := by rw [show (2 : Int32) = nI 2 from rfl, nI_add]
  have z2 := zin_nI (show 6 * s + 2 < X.1 by omega) hx
  have w2 := nI_clamp (show 6 * s + 2 < 2 ^ 31 by omega)
  obtain ⟨r, M1, G1, M2, G2, c, m, j⟩ := K10 X t M G (X.2.1 (6 * s + 1)) (X.2.1 (6 * s + 2)) i
  refine ⟨M2, G2, ?_, Inv_c (sm_r M2) (by omega) j⟩
  simp only [e243_552, e243_553, e243_554, e243_555, e243_556, e243_557, e243_558, e243_559, e243_560, e243_561, e243_562, e243_563, e243_566, e243_567, e243_568, e243_569, e243_570, e243_571, e243_572, e243_573, e243_574, e243_575, e243_576, e243_577, e243_580, e243_583, e243_584, zt0, zt1, zn3, not_false_eq_true, toListS, toListN, zk_some, zpi, f1, z1, w1, f2, z2, w2, h1, h2, c, m, lg_self, if_true]
theorem A11 (X : Nat × (Nat → Int32) × Value) (c1 c2 s : Nat) (h1 : c1 ≤ 600000) (h2 : c2 ≤ 7302250) (hx : X.1 < 2 ^ 31) (hs : 6 * s + 6 ≤ X.1) (t : Nat) (ht : t ≤ 700) (hc : X.2.2.category = 1) (M : zM) (G : zG) (i : Inv t M) : ∃ M2 G2, zw X c1 c2 13 243 585 [vR (50, 0, 0), vR (6, 0, 0), vR (7, 0, 0), vI (nI (6 * s))] [] (hh M G) = zw X c1 c2 13 243 1510 [vR (50, 0, 0), vR (6, 0, 0), vR (7, 0, 0), vI (nI (6 * s))] [] (hh M2 G2) ∧ Inv (t + 1) M2 := by
  have f1 : nI (6 * s) + 1 = nI (6 * s + 1) := by rw [show (1 : Int32) = nI 1 from rfl, nI_add]
  have z1 := zin_nI (show 6 * s + 1 < X.1 by omega) hx
  have w1 := nI_clamp (show 6 * s + 1 < 2 ^ 31 by omega)
  have f2 : nI (6 * s) + 2 = nI (6 * s + 2) := by rw [show (2 : Int32) = nI 2 from rfl, nI_add]
  have z2 := zin_nI (show 6 * s + 2 < X.1 by omega) hx
  have w2 := nI_clamp (show 6 * s + 2 < 2 ^ 31 by omega)
  obtain ⟨r, M1, G1, M2, G2, c, m, j⟩ := K11 X t M G (X.2.1 (6 * s + 1)) (X.2.1 (6 * s + 2)) i
  refine ⟨M2, G2, ?_, Inv_c (sm_r M2) (by omega) j⟩
  simp only [e243_585, e243_586, e243_587, e243_588, e243_589, e243_590, e243_591, e243_592, e243_593, e243_594, e243_595, e243_596, e243_599, e243_600, e243_601, e243_602, e243_603, e243_604, e243_605, e243_606, e243_607, e243_608, e243_609, e243_610, e243_613, e243_614, e243_617, e243_618, zt0, zt1, zn3, not_false_eq_true, toListS, toListN, zk_some, zpi, f1, z1, w1, f2, z2, w2, h1, h2, c, m, lg_self, if_true]
theorem A12 (X : Nat × (Nat → Int32) × Value) (c1 c2 s : Nat) (h1 : c1 ≤ 600000) (h2 : c2 ≤ 7302250) (hx : X.1 < 2 ^ 31) (hs : 6 * s + 6 ≤ X.1) (t : Nat) (ht : t ≤ 700) (hc : X.2.2.category = 1) (M : zM) (G : zG) (i : Inv t M) : ∃ M2 G2, zw X c1 c2 13 243 619 [vR (50, 0, 0), vR (6, 0, 0), vR (7, 0, 0), vI (nI (6 * s))] [] (hh M G) = zw X c1 c2 13 243 1510 [vR (50, 0, 0), vR (6, 0, 0), vR (7, 0, 0), vI (nI (6 * s))] [] (hh M2 G2) ∧ Inv (t + 1) M2 := by
  have f1 : nI (6 * s) + 1 = nI (6 * s + 1) := by rw [show (1 : Int32) = nI 1 from rfl, nI_add]
  have z1 := zin_nI (show 6 * s + 1 < X.1 by omega) hx
  have w1 := nI_clamp (show 6 * s + 1 < 2 ^ 31 by omega)
  obtain ⟨r, M1, G1, M2, G2, c, m, j⟩ := K12 X t M G (X.2.1 (6 * s + 1)) i
  refine ⟨M2, G2, ?_, Inv_c (sm_r M2) (by omega) j⟩
  simp only [e243_619, e243_620, e243_621, e243_622, e243_623, e243_624, e243_625, e243_628, e243_629, e243_630, e243_631, e243_632, e243_633, e243_634, e243_637, e243_638, e243_641, e243_642, zt0, zt1, zn3, not_false_eq_true, toListS, toListN, zk_some, zpi, f1, z1, w1, h1, h2, c, m, lg_self, if_true]
theorem A13 (X : Nat × (Nat → Int32) × Value) (c1 c2 s : Nat) (h1 : c1 ≤ 600000) (h2 : c2 ≤ 7302250) (hx : X.1 < 2 ^ 31) (hs : 6 * s + 6 ≤ X.1) (t : Nat) (ht : t ≤ 700) (hc : X.2.2.category = 1) (M : zM) (G : zG) (i : Inv t M) : ∃ M2 G2, zw X c1 c2 13 243 643 [vR (50, 0, 0), vR (6, 0, 0), vR (7, 0, 0), vI (nI (6 * s))] [] (hh M G) = zw X c1 c2 13 243 1510 [vR (50, 0, 0), vR (6, 0, 0), vR (7, 0, 0), vI (nI (6 * s))] [] (hh M2 G2) ∧ Inv (t + 1) M2 := by
  have f1 : nI (6 * s) + 1 = nI (6 * s + 1) := by rw [show (1 : Int32) = nI 1 from rfl, nI_add]
  have z1 := zin_nI (show 6 * s + 1 < X.1 by omega) hx
  have w1 := nI_clamp (show 6 * s + 1 < 2 ^ 31 by omega)
  have f2 : nI (6 * s) + 2 = nI (6 * s + 2) := by rw [show (2 : Int32) = nI 2 from rfl, nI_add]
  have z2 := zin_nI (show 6 * s + 2 < X.1 by omega) hx
  have w2 := nI_clamp (show 6 * s + 2 < 2 ^ 31 by omega)
  have f3 : nI (6 * s) + 3 = nI (6 * s + 3) := by rw [show (3 : Int32) = nI 3 from rfl, nI_add]
  have z3 := zin_nI (show 6 * s + 3 < X.1 by omega) hx
  have w3 := nI_clamp (show 6 * s + 3 < 2 ^ 31 by omega)
  obtain ⟨r, M1, G1, M2, G2, c, m, j⟩ := K13 X t M G (X.2.1 (6 * s + 1)) (X.2.1 (6 * s + 2)) (X.2.1 (6 * s + 3)) i
  refine ⟨M2, G2, ?_, Inv_c (sm_r M2) (by omega) j⟩
  simp only [e243_643, e243_644, e243_645, e243_646, e243_647, e243_648, e243_649, e243_650, e243_651, e243_652, e243_653, e243_654, e243_655, e243_656, e243_657, e243_658, e243_659, e243_662, e243_663, e243_664, e243_665, e243_666, e243_667, e243_668, e243_669, e243_670, e243_671, e243_672, e243_673, e243_674, e243_675, e243_676, e243_677, e243_678, e243_681, e243_684, e243_685, zt0, zt1, zn3, not_false_eq_true, toListS, toListN, zk_some, zpi, f1, z1, w1, f2, z2, w2, f3, z3, w3, h1, h2, c, m, lg_self, if_true]
theorem A14 (X : Nat × (Nat → Int32) × Value) (c1 c2 s : Nat) (h1 : c1 ≤ 600000) (h2 : c2 ≤ 7302250) (hx : X.1 < 2 ^ 31) (hs : 6 * s + 6 ≤ X.1) (t : Nat) (ht : t ≤ 700) (hc : X.2.2.category = 1) (M : zM) (G : zG) (i : Inv t M) : ∃ M2 G2, zw X c1 c2 13 243 686 [vR (50, 0, 0), vR (6, 0, 0), vR (7, 0, 0), vI (nI (6 * s))] [] (hh M G) = zw X c1 c2 13 243 1510 [vR (50, 0, 0), vR (6, 0, 0), vR (7, 0, 0), vI (nI (6 * s))] [] (hh M2 G2) ∧ Inv (t + 1) M2 := by
  have f1 : nI (6 * s) + 1 = nI (6 * s + 1) := by rw [show (1 : Int32) = nI 1 from rfl, nI_add]
  have z1 := zin_nI (show 6 * s + 1 < X.1 by omega) hx
  have w1 := nI_clamp (show 6 * s + 1 < 2 ^ 31 by omega)
  obtain ⟨r, M1, G1, M2, G2, c, m, j⟩ := K14 X t M G (X.2.1 (6 * s + 1)) i
  refine ⟨M2, G2, ?_, Inv_c (sm_r M2) (by omega) j⟩
  simp only [e243_686, e243_687, e243_688, e243_689, e243_690, e243_691, e243_692, e243_695, e243_696, e243_697, e243_698, e243_699, e243_700, e243_701, e243_704, e243_707, e243_708, zt0, zt1, zn3, not_false_eq_true, toListS, toListN, zk_some, zpi, f1, z1, w1, h1, h2, c, m, lg_self, if_true]
theorem A15 (X : Nat × (Nat → Int32) × Value) (c1 c2 s : Nat) (h1 : c1 ≤ 600000) (h2 : c2 ≤ 7302250) (hx : X.1 < 2 ^ 31) (hs : 6 * s + 6 ≤ X.1) (t : Nat) (ht : t ≤ 700) (hc : X.2.2.category = 1) (M : zM) (G : zG) (i : Inv t M) : ∃ M2 G2, zw X c1 c2 13 243 709 [vR (50, 0, 0), vR (6, 0, 0), vR (7, 0, 0), vI (nI (6 * s))] [] (hh M G) = zw X c1 c2 13 243 1510 [vR (50, 0, 0), vR (6, 0, 0), vR (7, 0, 0), vI (nI (6 * s))] [] (hh M2 G2) ∧ Inv (t + 1) M2 := by
  have f1 : nI (6 * s) + 1 = nI (6 * s + 1) := by rw [show (1 : Int32) = nI 1 from rfl, nI_add]
  have z1 := zin_nI (show 6 * s + 1 < X.1 by omega) hx
  have w1 := nI_clamp (show 6 * s + 1 < 2 ^ 31 by omega)
  obtain ⟨r, M1, G1, M2, G2, c, m, j⟩ := K15 X t M G (X.2.1 (6 * s + 1)) i
  refine ⟨M2, G2, ?_, Inv_c (sm_r M2) (by omega) j⟩
  simp only [e243_709, e243_710, e243_711, e243_712, e243_713, e243_714, e243_715, e243_718, e243_719, e243_720, e243_721, e243_722, e243_723, e243_724, e243_727, e243_730, e243_731, zt0, zt1, zn3, not_false_eq_true, toListS, toListN, zk_some, zpi, f1, z1, w1, h1, h2, c, m, lg_self, if_true]
theorem A16 (X : Nat × (Nat → Int32) × Value) (c1 c2 s : Nat) (h1 : c1 ≤ 600000) (h2 : c2 ≤ 7302250) (hx : X.1 < 2 ^ 31) (hs : 6 * s + 6 ≤ X.1) (t : Nat) (ht : t ≤ 700) (hc : X.2.2.category = 1) (M : zM) (G : zG) (i : Inv t M) : ∃ M2 G2, zw X c1 c2 13 243 732 [vR (50, 0, 0), vR (6, 0, 0), vR (7, 0, 0), vI (nI (6 * s))] [] (hh M G) = zw X c1 c2 13 243 1510 [vR (50, 0, 0), vR (6, 0, 0), vR (7, 0, 0), vI (nI (6 * s))] [] (hh M2 G2) ∧ Inv (t + 1) M2 := by
  have f1 : nI (6 * s) + 1 = nI (6 * s + 1) := by rw [show (1 : Int32) = nI 1 from rfl, nI_add]
  have z1 := zin_nI (show 6 * s + 1 < X.1 by omega) hx
  have w1 := nI_clamp (show 6 * s + 1 < 2 ^ 31 by omega)
  obtain ⟨r, M1, G1, M2, G2, c, m, j⟩ := K16 X t M G (X.2.1 (6 * s + 1)) i
  refine ⟨M2, G2, ?_, Inv_c (sm_r M2) (by omega) j⟩
  simp only [e243_732, e243_733, e243_734, e243_735, e243_736, e243_737, e243_738, e243_741, e243_742, e243_743, e243_744, e243_745, e243_746, e243_747, e243_750, e243_753, e243_754, zt0, zt1, zn3, not_false_eq_true, toListS, toListN, zk_some, zpi, f1, z1, w1, h1, h2, c, m, lg_self, if_true]
theorem A17 (X : Nat × (Nat → Int32) × Value) (c1 c2 s : Nat) (h1 : c1 ≤ 600000) (h2 : c2 ≤ 7302250) (hx : X.1 < 2 ^ 31) (hs : 6 * s + 6 ≤ X.1) (t : Nat) (ht : t ≤ 700) (hc : X.2.2.category = 1) (M : zM) (G : zG) (i : Inv t M) : ∃ M2 G2, zw X c1 c2 13 243 755 [vR (50, 0, 0), vR (6, 0, 0), vR (7, 0, 0), vI (nI (6 * s))] [] (hh M G) = zw X c1 c2 13 243 1510 [vR (50, 0, 0), vR (6, 0, 0), vR (7, 0, 0), vI (nI (6 * s))] [] (hh M2 G2) ∧ Inv (t + 1) M2 := by
  have f1 : nI (6 * s) + 1 = nI (6 * s + 1) := by rw [show (1 : Int32) = nI 1 from rfl, nI_add]
  have z1 := zin_nI (show 6 * s + 1 < X.1 by omega) hx
  have w1 := nI_clamp (show 6 * s + 1 < 2 ^ 31 by omega)
  have f2 : nI (6 * s) + 2 = nI (6 * s + 2) := by rw [show (2 : Int32) = nI 2 from rfl, nI_add]
  have z2 := zin_nI (show 6 * s + 2 < X.1 by omega) hx
  have w2 := nI_clamp (show 6 * s + 2 < 2 ^ 31 by omega)
  obtain ⟨r, M1, G1, M2, G2, c, m, j⟩ := K17 X t M G (X.2.1 (6 * s + 1)) (X.2.1 (6 * s + 2)) i
  refine ⟨M2, G2, ?_, Inv_c (sm_r M2) (by omega) j⟩
  simp only [e243_755, e243_756, e243_757, e243_758, e243_759, e243_760, e243_761, e243_762, e243_763, e243_764, e243_765, e243_766, e243_769, e243_770, e243_771, e243_772, e243_773, e243_774, e243_775, e243_776, e243_777, e243_778, e243_779, e243_780, e243_783, e243_786, e243_787, zt0, zt1, zn3, not_false_eq_true, toListS, toListN, zk_some, zpi, f1, z1, w1, f2, z2, w2, h1, h2, c, m, lg_self, if_true]
theorem A18 (X : Nat × (Nat → Int32) × Value) (c1 c2 s : Nat) (h1 : c1 ≤ 600000) (h2 : c2 ≤ 7302250) (hx : X.1 < 2 ^ 31) (hs : 6 * s + 6 ≤ X.1) (t : Nat) (ht : t ≤ 700) (hc : X.2.2.category = 1) (M : zM) (G : zG) (i : Inv t M) : ∃ M2 G2, zw X c1 c2 13 243 788 [vR (50, 0, 0), vR (6, 0, 0), vR (7, 0, 0), vI (nI (6 * s))] [] (hh M G) = zw X c1 c2 13 243 1510 [vR (50, 0, 0), vR (6, 0, 0), vR (7, 0, 0), vI (nI (6 * s))] [] (hh M2 G2) ∧ Inv (t + 1) M2 := by
  have f1 : nI (6 * s) + 1 = nI (6 * s + 1) := by rw [show (1 : Int32) = nI 1 from rfl, nI_add]
  have z1 := zin_nI (show 6 * s + 1 < X.1 by omega) hx
  have w1 := nI_clamp (show 6 * s + 1 < 2 ^ 31 by omega)
  obtain ⟨r, M1, G1, M2, G2, c, m, j⟩ := K18 X t M G (X.2.1 (6 * s + 1)) i
  refine ⟨M2, G2, ?_, Inv_c (sm_r M2) (by omega) j⟩
  simp only [e243_788, e243_789, e243_790, e243_791, e243_792, e243_793, e243_794, e243_797, e243_798, e243_799, e243_800, e243_801, e243_802, e243_803, e243_806, e243_809, e243_810, zt0, zt1, zn3, not_false_eq_true, toListS, toListN, zk_some, zpi, f1, z1, w1, h1, h2, c, m, lg_self, if_true]
theorem A19 (X : Nat × (Nat → Int32) × Value) (c1 c2 s : Nat) (h1 : c1 ≤ 600000) (h2 : c2 ≤ 7302250) (hx : X.1 < 2 ^ 31) (hs : 6 * s + 6 ≤ X.1) (t : Nat) (ht : t ≤ 700) (hc : X.2.2.category = 1) (M : zM) (G : zG) (i : Inv t M) : ∃ M2 G2, zw X c1 c2 13 243 811 [vR (50, 0, 0), vR (6, 0, 0), vR (7, 0, 0), vI (nI (6 * s))] [] (hh M G) = zw X c1 c2 13 243 1510 [vR (50, 0, 0), vR (6, 0, 0), vR (7, 0, 0), vI (nI (6 * s))] [] (hh M2 G2) ∧ Inv (t + 1) M2 := by
  have f1 : nI (6 * s) + 1 = nI (6 * s + 1) := by rw [show (1 : Int32) = nI 1 from rfl, nI_add]
  have z1 := zin_nI (show 6 * s + 1 < X.1 by omega) hx
  have w1 := nI_clamp (show 6 * s + 1 < 2 ^ 31 by omega)
  have f2 : nI (6 * s) + 2 = nI (6 * s + 2) := by rw [show (2 : Int32) = nI 2 from rfl, nI_add]
  have z2 := zin_nI (show 6 * s + 2 < X.1 by omega) hx
  have w2 := nI_clamp (show 6 * s + 2 < 2 ^ 31 by omega)
  have f3 : nI (6 * s) + 3 = nI (6 * s + 3) := by rw [show (3 : Int32) = nI 3 from rfl, nI_add]
  have z3 := zin_nI (show 6 * s + 3 < X.1 by omega) hx
  have w3 := nI_clamp (show 6 * s + 3 < 2 ^ 31 by omega)
  obtain ⟨r, M1, G1, M2, G2, c, m, j⟩ := K19 X t M G (X.2.1 (6 * s + 1)) (X.2.1 (6 * s + 2)) (X.2.1 (6 * s + 3)) i
  refine ⟨M2, G2, ?_, Inv_c (sm_r M2) (by omega) j⟩
  simp only [e243_811, e243_812, e243_813, e243_814, e243_815, e243_816, e243_817, e243_818, e243_819, e243_820, e243_821, e243_822, e243_823, e243_824, e243_825, e243_826, e243_827, e243_830, e243_831, e243_832, e243_833, e243_834, e243_835, e243_836, e243_837, e243_838, e243_839, e243_840, e243_841, e243_842, e243_843, e243_844, e243_845, e243_846, e243_849, e243_852, e243_853, zt0, zt1, zn3, not_false_eq_true, toListS, toListN, zk_some, zpi, f1, z1, w1, f2, z2, w2, f3, z3, w3, h1, h2, c, m, lg_self, if_true]
theorem A20 (X : Nat × (Nat → Int32) × Value) (c1 c2 s : Nat) (h1 : c1 ≤ 600000) (h2 : c2 ≤ 7302250) (hx : X.1 < 2 ^ 31) (hs : 6 * s + 6 ≤ X.1) (t : Nat) (ht : t ≤ 700) (hc : X.2.2.category = 1) (M : zM) (G : zG) (i : Inv t M) : ∃ M2 G2, zw X c1 c2 13 243 854 [vR (50, 0, 0), vR (6, 0, 0), vR (7, 0, 0), vI (nI (6 * s))] [] (hh M G) = zw X c1 c2 13 243 1510 [vR (50, 0, 0), vR (6, 0, 0), vR (7, 0, 0), vI (nI (6 * s))] [] (hh M2 G2) ∧ Inv (t + 1) M2 := by
  have f1 : nI (6 * s) + 1 = nI (6 * s + 1) := by rw [show (1 : Int32) = nI 1 from rfl, nI_add]
  have z1 := zin_nI (show 6 * s + 1 < X.1 by omega) hx
  have w1 := nI_clamp (show 6 * s + 1 < 2 ^ 31 by omega)
  have f2 : nI (6 * s) + 2 = nI (6 * s + 2) := by rw [show (2 : Int32) = nI 2 from rfl, nI_add]
  have z2 := zin_nI (show 6 * s + 2 < X.1 by omega) hx
  have w2 := nI_clamp (show 6 * s + 2 < 2 ^ 31 by omega)
  have f3 : nI (6 * s) + 3 = nI (6 * s + 3) := by rw [show (3 : Int32) = nI 3 from rfl, nI_add]
  have z3 := zin_nI (show 6 * s + 3 < X.1 by omega) hx
  have w3 := nI_clamp (show 6 * s + 3 < 2 ^ 31 by omega)
  have f4 : nI (6 * s) + 4 = nI (6 * s + 4) := by rw [show (4 : Int32) = nI 4 from rfl, nI_add]
  have z4 := zin_nI (show 6 * s + 4 < X.1 by omega) hx
  have w4 := nI_clamp (show 6 * s + 4 < 2 ^ 31 by omega)
  obtain ⟨r, M1, G1, M2, G2, c, m, j⟩ := K20 X t M G (X.2.1 (6 * s + 1)) (X.2.1 (6 * s + 2)) (X.2.1 (6 * s + 3)) (X.2.1 (6 * s + 4)) i
  refine ⟨M2, G2, ?_, Inv_c (sm_r M2) (by omega) j⟩
  simp only [e243_854, e243_855, e243_856, e243_857, e243_858, e243_859, e243_860, e243_861, e243_862, e243_863, e243_864, e243_865, e243_866, e243_867, e243_868, e243_869, e243_870, e243_871, e243_872, e243_873, e243_874, e243_875, e243_878, e243_879, e243_880, e243_881, e243_882, e243_883, e243_884, e243_885, e243_886, e243_887, e243_888, e243_889, e243_890, e243_891, e243_892, e243_893, e243_894, e243_895, e243_896, e243_897, e243_898, e243_899, e243_902, e243_905, e243_906, zt0, zt1, zn3, not_false_eq_true, toListS, toListN, zk_some, zpi, f1, z1, w1, f2, z2, w2, f3, z3, w3, f4, z4, w4, h1, h2, c, m, lg_self, if_true]
theorem A21 (X : Nat × (Nat → Int32) × Value) (c1 c2 s : Nat) (h1 : c1 ≤ 600000) (h2 : c2 ≤ 7302250) (hx : X.1 < 2 ^ 31) (hs : 6 * s + 6 ≤ X.1) (t : Nat) (ht : t ≤ 700) (hc : X.2.2.category = 1) (M : zM) (G : zG) (i : Inv t M) : ∃ M2 G2, zw X c1 c2 13 243 907 [vR (50, 0, 0), vR (6, 0, 0), vR (7, 0, 0), vI (nI (6 * s))] [] (hh M G) = zw X c1 c2 13 243 1510 [vR (50, 0, 0), vR (6, 0, 0), vR (7, 0, 0), vI (nI (6 * s))] [] (hh M2 G2) ∧ Inv (t + 1) M2 := by
  have f1 : nI (6 * s) + 1 = nI (6 * s + 1) := by rw [show (1 : Int32) = nI 1 from rfl, nI_add]
  have z1 := zin_nI (show 6 * s + 1 < X.1 by omega) hx
  have w1 := nI_clamp (show 6 * s + 1 < 2 ^ 31 by omega)
  obtain ⟨r, M1, G1, M2, G2, c, m, j⟩ := K21 X t M G (X.2.1 (6 * s + 1)) i
  refine ⟨M2, G2, ?_, Inv_c (sm_r M2) (by omega) j⟩
  simp only [e243_907, e243_908, e243_909, e243_910, e243_911, e243_912, e243_913, e243_916, e243_917, e243_918, e243_919, e243_920, e243_921, e243_922, e243_925, e243_928, e243_929, zt0, zt1, zn3, not_false_eq_true, toListS, toListN, zk_some, zpi, f1, z1, w1, h1, h2, c, m, lg_self, if_true]
theorem A22 (X : Nat × (Nat → Int32) × Value) (c1 c2 s : Nat) (h1 : c1 ≤ 600000) (h2 : c2 ≤ 7302250) (hx : X.1 < 2 ^ 31) (hs : 6 * s + 6 ≤ X.1) (t : Nat) (ht : t ≤ 700) (hc : X.2.2.category = 1) (M : zM) (G : zG) (i : Inv t M) : ∃ M2 G2, zw X c1 c2 13 243 930 [vR (50, 0, 0), vR (6, 0, 0), vR (7, 0, 0), vI (nI (6 * s))] [] (hh M G) = zw X c1 c2 13 243 1510 [vR (50, 0, 0), vR (6, 0, 0), vR (7, 0, 0), vI (nI (6 * s))] [] (hh M2 G2) ∧ Inv (t + 1) M2 := by
  have f1 : nI (6 * s) + 1 = nI (6 * s + 1) := by rw [show (1 : Int32) = nI 1 from rfl, nI_add]
  have z1 := zin_nI (show 6 * s + 1 < X.1 by omega) hx
  have w1 := nI_clamp (show 6 * s + 1 < 2 ^ 31 by omega)
  obtain ⟨r, M1, G1, M2, G2, c, m, j⟩ := K22 X t M G (X.2.1 (6 * s + 1)) i
  refine ⟨M2, G2, ?_, Inv_c (sm_r M2) (by omega) j⟩
  simp only [e243_930, e243_931, e243_932, e243_933, e243_934, e243_935, e243_936, e243_939, e243_940, e243_941, e243_942, e243_943, e243_944, e243_945, e243_948, e243_951, e243_952, zt0, zt1, zn3, not_false_eq_true, toListS, toListN, zk_some, zpi, f1, z1, w1, h1, h2, c, m, lg_self, if_true]
theorem A23 (X : Nat × (Nat → Int32) × Value) (c1 c2 s : Nat) (h1 : c1 ≤ 600000) (h2 : c2 ≤ 7302250) (hx : X.1 < 2 ^ 31) (hs : 6 * s + 6 ≤ X.1) (t : Nat) (ht : t ≤ 700) (hc : X.2.2.category = 1) (M : zM) (G : zG) (i : Inv t M) : ∃ M2 G2, zw X c1 c2 13 243 953 [vR (50, 0, 0), vR (6, 0, 0), vR (7, 0, 0), vI (nI (6 * s))] [] (hh M G) = zw X c1 c2 13 243 1510 [vR (50, 0, 0), vR (6, 0, 0), vR (7, 0, 0), vI (nI (6 * s))] [] (hh M2 G2) ∧ Inv (t + 1) M2 := by
  have f1 : nI (6 * s) + 1 = nI (6 * s + 1) := by rw [show (1 : Int32) = nI 1 from rfl, nI_add]
  have z1 := zin_nI (show 6 * s + 1 < X.1 by omega) hx
  have w1 := nI_clamp (show 6 * s + 1 < 2 ^ 31 by omega)
  have f2 : nI (6 * s) + 2 = nI (6 * s + 2) := by rw [show (2 : Int32) = nI 2 from rfl, nI_add]
  have z2 := zin_nI (show 6 * s + 2 < X.1 by omega) hx
  have w2 := nI_clamp (show 6 * s + 2 < 2 ^ 31 by omega)
  obtain ⟨r, M1, G1, M2, G2, c, m, j⟩ := K23 X t M G (X.2.1 (6 * s + 1)) (X.2.1 (6 * s + 2)) i
  refine ⟨M2, G2, ?_, Inv_c (sm_r M2) (by omega) j⟩
  simp only [e243_953, e243_954, e243_955, e243_956, e243_957, e243_958, e243_959, e243_960, e243_961, e243_962, e243_963, e243_964, e243_967, e243_968, e243_969, e243_970, e243_971, e243_972, e243_973, e243_974, e243_975, e243_976, e243_977, e243_978, e243_981, e243_984, e243_985, zt0, zt1, zn3, not_false_eq_true, toListS, toListN, zk_some, zpi, f1, z1, w1, f2, z2, w2, h1, h2, c, m, lg_self, if_true]
theorem A24 (X : Nat × (Nat → Int32) × Value) (c1 c2 s : Nat) (h1 : c1 ≤ 600000) (h2 : c2 ≤ 7302250) (hx : X.1 < 2 ^ 31) (hs : 6 * s + 6 ≤ X.1) (t : Nat) (ht : t ≤ 700) (hc : X.2.2.category = 1) (M : zM) (G : zG) (i : Inv t M) : ∃ M2 G2, zw X c1 c2 13 243 986 [vR (50, 0, 0), vR (6, 0, 0), vR (7, 0, 0), vI (nI (6 * s))] [] (hh M G) = zw X c1 c2 13 243 1510 [vR (50, 0, 0), vR (6, 0, 0), vR (7, 0, 0), vI (nI (6 * s))] [] (hh M2 G2) ∧ Inv (t + 1) M2 := by
  have f1 : nI (6 * s) + 1 = nI (6 * s + 1) := by rw [show (1 : Int32) = nI 1 from rfl, nI_add]
  have z1 := zin_nI (show 6 * s + 1 < X.1 by omega) hx
  have w1 := nI_clamp (show 6 * s + 1 < 2 ^ 31 by omega)
  obtain ⟨r, M1, G1, M2, G2, c, m, j⟩ := K24 X t M G (X.2.1 (6 * s + 1)) i
  refine ⟨M2, G2, ?_, Inv_c (sm_r M2) (by omega) j⟩
  simp only [e243_986, e243_987, e243_988, e243_989, e243_990, e243_991, e243_992, e243_995, e243_996, e243_997, e243_998, e243_999, e243_1000, e243_1001, e243_1004, e243_1005, e243_1008, e243_1009, zt0, zt1, zn3, not_false_eq_true, toListS, toListN, zk_some, zpi, f1, z1, w1, h1, h2, c, m, lg_self, if_true]
theorem A25 (X : Nat × (Nat → Int32) × Value) (c1 c2 s : Nat) (h1 : c1 ≤ 600000) (h2 : c2 ≤ 7302250) (hx : X.1 < 2 ^ 31) (hs : 6 * s + 6 ≤ X.1) (t : Nat) (ht : t ≤ 700) (hc : X.2.2.category = 1) (M : zM) (G : zG) (i : Inv t M) : ∃ M2 G2, zw X c1 c2 13 243 1010 [vR (50, 0, 0), vR (6, 0, 0), vR (7, 0, 0), vI (nI (6 * s))] [] (hh M G) = zw X c1 c2 13 243 1510 [vR (50, 0, 0), vR (6, 0, 0), vR (7, 0, 0), vI (nI (6 * s))] [] (hh M2 G2) ∧ Inv (t + 1) M2 := by
  have f1 : nI (6 * s) + 1 = nI (6 * s + 1) := by rw [show (1 : Int32) = nI 1 from rfl, nI_add]
  have z1 := zin_nI (show 6 * s + 1 < X.1 by omega) hx
  have w1 := nI_clamp (show 6 * s + 1 < 2 ^ 31 by omega)
  obtain ⟨r, M1, G1, M2, G2, c, m, j⟩ := K25 X t M G (X.2.1 (6 * s + 1)) i
  refine ⟨M2, G2, ?_, Inv_c (sm_r M2) (by omega) j⟩
  simp only [e243_1010, e243_1011, e243_1012, e243_1013, e243_1014, e243_1015, e243_1016, e243_1019, e243_1020, e243_1021, e243_1022, e243_1023, e243_1024, e243_1025, e243_1028, e243_1029, e243_1032, e243_1033, zt0, zt1, zn3, not_false_eq_true, toListS, toListN, zk_some, zpi, f1, z1, w1, h1, h2, c, m, lg_self, if_true]
theorem A26 (X : Nat × (Nat → Int32) × Value) (c1 c2 s : Nat) (h1 : c1 ≤ 600000) (h2 : c2 ≤ 7302250) (hx : X.1 < 2 ^ 31) (hs : 6 * s + 6 ≤ X.1) (t : Nat) (ht : t ≤ 700) (hc : X.2.2.category = 1) (M : zM) (G : zG) (i : Inv t M) : ∃ M2 G2, zw X c1 c2 13 243 1034 [vR (50, 0, 0), vR (6, 0, 0), vR (7, 0, 0), vI (nI (6 * s))] [] (hh M G) = zw X c1 c2 13 243 1510 [vR (50, 0, 0), vR (6, 0, 0), vR (7, 0, 0), vI (nI (6 * s))] [] (hh M2 G2) ∧ Inv (t + 1) M2 := by
  have f1 : nI (6 * s) + 1 = nI (6 * s + 1) := by rw [show (1 : Int32) = nI 1 from rfl, nI_add]
  have z1 := zin_nI (show 6 * s + 1 < X.1 by omega) hx
  have w1 := nI_clamp (show 6 * s + 1 < 2 ^ 31 by omega)
  have f2 : nI (6 * s) + 2 = nI (6 * s + 2) := by rw [show (2 : Int32) = nI 2 from rfl, nI_add]
  have z2 := zin_nI (show 6 * s + 2 < X.1 by omega) hx
  have w2 := nI_clamp (show 6 * s + 2 < 2 ^ 31 by omega)
  have f3 : nI (6 * s) + 3 = nI (6 * s + 3) := by rw [show (3 : Int32) = nI 3 from rfl, nI_add]
  have z3 := zin_nI (show 6 * s + 3 < X.1 by omega) hx
  have w3 := nI_clamp (show 6 * s + 3 < 2 ^ 31 by omega)
  obtain ⟨r, M1, G1, M2, G2, c, m, j⟩ := K26 X t M G (X.2.1 (6 * s + 1)) (X.2.1 (6 * s + 2)) (X.2.1 (6 * s + 3)) i
  refine ⟨M2, G2, ?_, Inv_c (sm_r M2) (by omega) j⟩
  simp only [e243_1034, e243_1035, e243_1036, e243_1037, e243_1038, e243_1039, e243_1040, e243_1041, e243_1042, e243_1043, e243_1044, e243_1045, e243_1046, e243_1047, e243_1048, e243_1049, e243_1050, e243_1053, e243_1054, e243_1055, e243_1056, e243_1057, e243_1058, e243_1059, e243_1060, e243_1061, e243_1062, e243_1063, e243_1064, e243_1065, e243_1066, e243_1067, e243_1068, e243_1069, e243_1072, e243_1073, e243_1076, e243_1077, zt0, zt1, zn3, not_false_eq_true, toListS, toListN, zk_some, zpi, f1, z1, w1, f2, z2, w2, f3, z3, w3, h1, h2, c, m, lg_self, if_true]
theorem A27 (X : Nat × (Nat → Int32) × Value) (c1 c2 s : Nat) (h1 : c1 ≤ 600000) (h2 : c2 ≤ 7302250) (hx : X.1 < 2 ^ 31) (hs : 6 * s + 6 ≤ X.1) (t : Nat) (ht : t ≤ 700) (hc : X.2.2.category = 1) (M : zM) (G : zG) (i : Inv t M) : ∃ M2 G2, zw X c1 c2 13 243 1078 [vR (50, 0, 0), vR (6, 0, 0), vR (7, 0, 0), vI (nI (6 * s))] [] (hh M G) = zw X c1 c2 13 243 1510 [vR (50, 0, 0), vR (6, 0, 0), vR (7, 0, 0), vI (nI (6 * s))] [] (hh M2 G2) ∧ Inv (t + 1) M2 := by
  obtain ⟨r, M1, G1, M2, G2, c, m, j⟩ := K27 X t M G i
  refine ⟨M2, G2, ?_, Inv_c (sm_r M2) (by omega) j⟩
  simp only [e243_1078, e243_1079, e243_1082, e243_1083, e243_1086, e243_1089, e243_1090, zt0, zt1, zn3, not_false_eq_true, toListS, toListN, zk_some, zpi, h1, h2, c, m, lg_self, if_true]
theorem A28 (X : Nat × (Nat → Int32) × Value) (c1 c2 s : Nat) (h1 : c1 ≤ 600000) (h2 : c2 ≤ 7302250) (hx : X.1 < 2 ^ 31) (hs : 6 * s + 6 ≤ X.1) (t : Nat) (ht : t ≤ 700) (hc : X.2.2.category = 1) (M : zM) (G : zG) (i : Inv t M) : ∃ M2 G2, zw X c1 c2 13 243 1091 [vR (50, 0, 0), vR (6, 0, 0), vR (7, 0, 0), vI (nI (6 * s))] [] (hh M G) = zw X c1 c2 13 243 1510 [vR (50, 0, 0), vR (6, 0, 0), vR (7, 0, 0), vI (nI (6 * s))] [] (hh M2 G2) ∧ Inv (t + 1) M2 := by
  have f1 : nI (6 * s) + 1 = nI (6 * s + 1) := by rw [show (1 : Int32) = nI 1 from rfl, nI_add]
  have z1 := zin_nI (show 6 * s + 1 < X.1 by omega) hx
  have w1 := nI_clamp (show 6 * s + 1 < 2 ^ 31 by omega)
  obtain ⟨r, M1, G1, M2, G2, c, m, j⟩ := K28 X t M G (X.2.1 (6 * s + 1)) i
  refine ⟨M2, G2, ?_, Inv_c (sm_r M2) (by omega) j⟩
  simp only [e243_1091, e243_1092, e243_1093, e243_1094, e243_1095, e243_1096, e243_1097, e243_1100, e243_1101, e243_1102, e243_1103, e243_1104, e243_1105, e243_1106, e243_1109, e243_1112, e243_1113, zt0, zt1, zn3, not_false_eq_true, toListS, toListN, zk_some, zpi, f1, z1, w1, h1, h2, c, m, lg_self, if_true]
theorem A29 (X : Nat × (Nat → Int32) × Value) (c1 c2 s : Nat) (h1 : c1 ≤ 600000) (h2 : c2 ≤ 7302250) (hx : X.1 < 2 ^ 31) (hs : 6 * s + 6 ≤ X.1) (t : Nat) (ht : t ≤ 700) (hc : X.2.2.category = 1) (M : zM) (G : zG) (i : Inv t M) : ∃ M2 G2, zw X c1 c2 13 243 1114 [vR (50, 0, 0), vR (6, 0, 0), vR (7, 0, 0), vI (nI (6 * s))] [] (hh M G) = zw X c1 c2 13 243 1510 [vR (50, 0, 0), vR (6, 0, 0), vR (7, 0, 0), vI (nI (6 * s))] [] (hh M2 G2) ∧ Inv (t + 1) M2 := by
  have f1 : nI (6 * s) + 1 = nI (6 * s + 1) := by rw [show (1 : Int32) = nI 1 from rfl, nI_add]
  have z1 := zin_nI (show 6 * s + 1 < X.1 by omega) hx
  have w1 := nI_clamp (show 6 * s + 1 < 2 ^ 31 by omega)
  have f2 : nI (6 * s) + 2 = nI (6 * s + 2) := by rw [show (2 : Int32) = nI 2 from rfl, nI_add]
  have z2 := zin_nI (show 6 * s + 2 < X.1 by omega) hx
  have w2 := nI_clamp (show 6 * s + 2 < 2 ^ 31 by omega)
  have f3 : nI (6 * s) + 3 = nI (6 * s + 3) := by rw [show (3 : Int32) = nI 3 from rfl, nI_add]
  have z3 := zin_nI (show 6 * s + 3 < X.1 by omega) hx
  have w3 := nI_clamp (show 6 * s + 3 < 2 ^ 31 by omega)
  obtain ⟨r, M1, G1, M2, G2, c, m, j⟩ := K29 X t M G (X.2.1 (6 * s + 1)) (X.2.1 (6 * s + 2)) (X.2.1 (6 * s + 3)) i
  refine ⟨M2, G2, ?_, Inv_c (sm_r M2) (by omega) j⟩
  simp only [e243_1114, e243_1115, e243_1116, e243_1117, e243_1118, e243_1119, e243_1120, e243_1121, e243_1122, e243_1123, e243_1124, e243_1125, e243_1126, e243_1127, e243_1128, e243_1129, e243_1130, e243_1133, e243_1134, e243_1135, e243_1136, e243_1137, e243_1138, e243_1139, e243_1140, e243_1141, e243_1142, e243_1143, e243_1144, e243_1145, e243_1146, e243_1147, e243_1148, e243_1149, e243_1152, e243_1155, e243_1156, zt0, zt1, zn3, not_false_eq_true, toListS, toListN, zk_some, zpi, f1, z1, w1, f2, z2, w2, f3, z3, w3, h1, h2, c, m, lg_self, if_true]
theorem A30 (X : Nat × (Nat → Int32) × Value) (c1 c2 s : Nat) (h1 : c1 ≤ 600000) (h2 : c2 ≤ 7302250) (hx : X.1 < 2 ^ 31) (hs : 6 * s + 6 ≤ X.1) (t : Nat) (ht : t ≤ 700) (hc : X.2.2.category = 1) (M : zM) (G : zG) (i : Inv t M) : ∃ M2 G2, zw X c1 c2 13 243 1157 [vR (50, 0, 0), vR (6, 0, 0), vR (7, 0, 0), vI (nI (6 * s))] [] (hh M G) = zw X c1 c2 13 243 1510 [vR (50, 0, 0), vR (6, 0, 0), vR (7, 0, 0), vI (nI (6 * s))] [] (hh M2 G2) ∧ Inv (t + 1) M2 := by
  have f1 : nI (6 * s) + 1 = nI (6 * s + 1) := by rw [show (1 : Int32) = nI 1 from rfl, nI_add]
  have z1 := zin_nI (show 6 * s + 1 < X.1 by omega) hx
  have w1 := nI_clamp (show 6 * s + 1 < 2 ^ 31 by omega)
  have f2 : nI (6 * s) + 2 = nI (6 * s + 2) := by rw [show (2 : Int32) = nI 2 from rfl, nI_add]
  have z2 := zin_nI (show 6 * s + 2 < X.1 by omega) hx
  have w2 := nI_clamp (show 6 * s + 2 < 2 ^ 31 by omega)
  have f3 : nI (6 * s) + 3 = nI (6 * s + 3) := by rw [show (3 : Int32) = nI 3 from rfl, nI_add]
  have z3 := zin_nI (show 6 * s + 3 < X.1 by omega) hx
  have w3 := nI_clamp (show 6 * s + 3 < 2 ^ 31 by omega)
  obtain ⟨r, M1, G1, M2, G2, c, m, j⟩ := K30 X t M G (X.2.1 (6 * s + 1)) (X.2.1 (6 * s + 2)) (X.2.1 (6 * s + 3)) i ht
  refine ⟨M2, G2, ?_, Inv_c (sm_r M2) (by omega) j⟩
  simp only [e243_1157, e243_1158, e243_1159, e243_1160, e243_1161, e243_1162, e243_1163, e243_1164, e243_1165, e243_1166, e243_1167, e243_1168, e243_1169, e243_1170, e243_1171, e243_1172, e243_1173, e243_1176, e243_1177, e243_1178, e243_1179, e243_1180, e243_1181, e243_1182, e243_1183, e243_1184, e243_1185, e243_1186, e243_1187, e243_1188, e243_1189, e243_1190, e243_1191, e243_1192, e243_1195, e243_1198, e243_1199, zt0, zt1, zn3, not_false_eq_true, toListS, toListN, zk_some, zpi, f1, z1, w1, f2, z2, w2, f3, z3, w3, h1, h2, c, m, lg_self, if_true]
theorem A31 (X : Nat × (Nat → Int32) × Value) (c1 c2 s : Nat) (h1 : c1 ≤ 600000) (h2 : c2 ≤ 7302250) (hx : X.1 < 2 ^ 31) (hs : 6 * s + 6 ≤ X.1) (t : Nat) (ht : t ≤ 700) (hc : X.2.2.category = 1) (M : zM) (G : zG) (i : Inv t M) : ∃ M2 G2, zw X c1 c2 13 243 1200 [vR (50, 0, 0), vR (6, 0, 0), vR (7, 0, 0), vI (nI (6 * s))] [] (hh M G) = zw X c1 c2 13 243 1510 [vR (50, 0, 0), vR (6, 0, 0), vR (7, 0, 0), vI (nI (6 * s))] [] (hh M2 G2) ∧ Inv (t + 1) M2 := by
  have f1 : nI (6 * s) + 1 = nI (6 * s + 1) := by rw [show (1 : Int32) = nI 1 from rfl, nI_add]
  have z1 := zin_nI (show 6 * s + 1 < X.1 by omega) hx
  have w1 := nI_clamp (show 6 * s + 1 < 2 ^ 31 by omega)
  have f2 : nI (6 * s) + 2 = nI (6 * s + 2) := by rw [show (2 : Int32) = nI 2 from rfl, nI_add]
  have z2 := zin_nI (show 6 * s + 2 < X.1 by omega) hx
  have w2 := nI_clamp (show 6 * s + 2 < 2 ^ 31 by omega)
  obtain ⟨r, M1, G1, M2, G2, c, m, j⟩ := K31 X t M G (X.2.1 (6 * s + 1)) (X.2.1 (6 * s + 2)) i
  refine ⟨M2, G2, ?_, Inv_c (sm_r M2) (by omega) j⟩
  simp only [e243_1200, e243_1201, e243_1202, e243_1203, e243_1204, e243_1205, e243_1206, e243_1207, e243_1208, e243_1209, e243_1210, e243_1211, e243_1214, e243_1215, e243_1216, e243_1217, e243_1218, e243_1219, e243_1220, e243_1221, e243_1222, e243_1223, e243_1224, e243_1225, e243_1228, e243_1231, e243_1232, zt0, zt1, zn3, not_false_eq_true, toListS, toListN, zk_some, zpi, f1, z1, w1, f2, z2, w2, h1, h2, c, m, lg_self, if_true]
theorem A32 (X : Nat × (Nat → Int32) × Value) (c1 c2 s : Nat) (h1 : c1 ≤ 600000) (h2 : c2 ≤ 7302250) (hx : X.1 < 2 ^ 31) (hs : 6 * s + 6 ≤ X.1) (t : Nat) (ht : t ≤ 700) (hc : X.2.2.category = 1) (M : zM) (G : zG) (i : Inv t M) : ∃ M2 G2, zw X c1 c2 13 243 1233 [vR (50, 0, 0), vR (6, 0, 0), vR (7, 0, 0), vI (nI (6 * s))] [] (hh M G) = zw X c1 c2 13 243 1510 [vR (50, 0, 0), vR (6, 0, 0), vR (7, 0, 0), vI (nI (6 * s))] [] (hh M2 G2) ∧ Inv (t + 1) M2 := by
  have f1 : nI (6 * s) + 1 = nI (6 * s + 1) := by rw [show (1 : Int32) = nI 1 from rfl, nI_add]
  have z1 := zin_nI (show 6 * s + 1 < X.1 by omega) hx
  have w1 := nI_clamp (show 6 * s + 1 < 2 ^ 31 by omega)
  have f2 : nI (6 * s) + 2 = nI (6 * s + 2) := by rw [show (2 : Int32) = nI 2 from rfl, nI_add]
  have z2 := zin_nI (show 6 * s + 2 < X.1 by omega) hx
  have w2 := nI_clamp (show 6 * s + 2 < 2 ^ 31 by omega)
  have f3 : nI (6 * s) + 3 = nI (6 * s + 3) := by rw [show (3 : Int32) = nI 3 from rfl, nI_add]
  have z3 := zin_nI (show 6 * s + 3 < X.1 by omega) hx
  have w3 := nI_clamp (show 6 * s + 3 < 2 ^ 31 by omega)
  obtain ⟨r, M1, G1, M2, G2, c, m, j⟩ := K32 X t M G (X.2.1 (6 * s + 1)) (X.2.1 (6 * s + 2)) (X.2.1 (6 * s + 3)) i
  refine ⟨M2, G2, ?_, Inv_c (sm_r M2) (by omega) j⟩
  simp only [e243_1233, e243_1234, e243_1235, e243_1236, e243_1237, e243_1238, e243_1239, e243_1240, e243_1241, e243_1242, e243_1243, e243_1244, e243_1245, e243_1246, e243_1247, e243_1248, e243_1249, e243_1252, e243_1253, e243_1254, e243_1255, e243_1256, e243_1257, e243_1258, e243_1259, e243_1260, e243_1261, e243_1262, e243_1263, e243_1264, e243_1265, e243_1266, e243_1267, e243_1268, e243_1271, e243_1274, e243_1275, zt0, zt1, zn3, not_false_eq_true, toListS, toListN, zk_some, zpi, f1, z1, w1, f2, z2, w2, f3, z3, w3, h1, h2, c, m, lg_self, if_true]
theorem A33 (X : Nat × (Nat → Int32) × Value) (c1 c2 s : Nat) (h1 : c1 ≤ 600000) (h2 : c2 ≤ 7302250) (hx : X.1 < 2 ^ 31) (hs : 6 * s + 6 ≤ X.1) (t : Nat) (ht : t ≤ 700) (hc : X.2.2.category = 1) (M : zM) (G : zG) (i : Inv t M) : ∃ M2 G2, zw X c1 c2 13 243 1276 [vR (50, 0, 0), vR (6, 0, 0), vR (7, 0, 0), vI (nI (6 * s))] [] (hh M G) = zw X c1 c2 13 243 1510 [vR (50, 0, 0), vR (6, 0, 0), vR (7, 0, 0), vI (nI (6 * s))] [] (hh M2 G2) ∧ Inv (t + 1) M2 := by
  have f1 : nI (6 * s) + 1 = nI (6 * s + 1) := by rw [show (1 : Int32) = nI 1 from rfl, nI_add]
  have z1 := zin_nI (show 6 * s + 1 < X.1 by omega) hx
  have w1 := nI_clamp (show 6 * s + 1 < 2 ^ 31 by omega)
  have f2 : nI (6 * s) + 2 = nI (6 * s + 2) := by rw [show (2 : Int32) = nI 2 from rfl, nI_add]
  have z2 := zin_nI (show 6 * s + 2 < X.1 by omega) hx
  have w2 := nI_clamp (show 6 * s + 2 < 2 ^ 31 by omega)
  obtain ⟨r, M1, G1, M2, G2, c, m, j⟩ := K33 X t M G (X.2.1 (6 * s + 1)) (X.2.1 (6 * s + 2)) i
  refine ⟨M2, G2, ?_, Inv_c (sm_r M2) (by omega) j⟩
  simp only [e243_1276, e243_1277, e243_1278, e243_1279, e243_1280, e243_1281, e243_1282, e243_1283, e243_1284, e243_1285, e243_1286, e243_1287, e243_1290, e243_1291, e243_1292, e243_1293, e243_1294, e243_1295, e243_1296, e243_1297, e243_1298, e243_1299, e243_1300, e243_1301, e243_1304, e243_1307, e243_1308, zt0, zt1, zn3, not_false_eq_true, toListS, toListN, zk_some, zpi, f1, z1, w1, f2, z2, w2, h1, h2, c, m, lg_self, if_true]
theorem A34 (X : Nat × (Nat → Int32) × Value) (c1 c2 s : Nat) (h1 : c1 ≤ 600000) (h2 : c2 ≤ 7302250) (hx : X.1 < 2 ^ 31) (hs : 6 * s + 6 ≤ X.1) (t : Nat) (ht : t ≤ 700) (hc : X.2.2.category = 1) (M : zM) (G : zG) (i : Inv t M) : ∃ M2 G2, zw X c1 c2 13 243 1309 [vR (50, 0, 0), vR (6, 0, 0), vR (7, 0, 0), vI (nI (6 * s))] [] (hh M G) = zw X c1 c2 13 243 1510 [vR (50, 0, 0), vR (6, 0, 0), vR (7, 0, 0), vI (nI (6 * s))] [] (hh M2 G2) ∧ Inv (t + 1) M2 := by
  have f1 : nI (6 * s) + 1 = nI (6 * s + 1) := by rw [show (1 : Int32) = nI 1 from rfl, nI_add]
  have z1 := zin_nI (show 6 * s + 1 < X.1 by omega) hx
  have w1 := nI_clamp (show 6 * s + 1 < 2 ^ 31 by omega)
  have f2 : nI (6 * s) + 2 = nI (6 * s + 2) := by rw [show (2 : Int32) = nI 2 from rfl, nI_add]
  have z2 := zin_nI (show 6 * s + 2 < X.1 by omega) hx
  have w2 := nI_clamp (show 6 * s + 2 < 2 ^ 31 by omega)
  have f3 : nI (6 * s) + 3 = nI (6 * s + 3) := by rw [show (3 : Int32) = nI 3 from rfl, nI_add]
  have z3 := zin_nI (show 6 * s + 3 < X.1 by omega) hx
  have w3 := nI_clamp (show 6 * s + 3 < 2 ^ 31 by omega)
  obtain ⟨r, M1, G1, M2, G2, c, m, j⟩ := K34 X t M G (X.2.1 (6 * s + 1)) (X.2.1 (6 * s + 2)) (X.2.1 (6 * s + 3)) i
  refine ⟨M2, G2, ?_, Inv_c (sm_r M2) (by omega) j⟩
  simp only [e243_1309, e243_1310, e243_1311, e243_1312, e243_1313, e243_1314, e243_1315, e243_1316, e243_1317, e243_1318, e243_1319, e243_1320, e243_1321, e243_1322, e243_1323, e243_1324, e243_1325, e243_1328, e243_1329, e243_1330, e243_1331, e243_1332, e243_1333, e243_1334, e243_1335, e243_1336, e243_1337, e243_1338, e243_1339, e243_1340, e243_1341, e243_1342, e243_1343, e243_1344, e243_1347, e243_1350, e243_1351, zt0, zt1, zn3, not_false_eq_true, toListS, toListN, zk_some, zpi, f1, z1, w1, f2, z2, w2, f3, z3, w3, h1, h2, c, m, lg_self, if_true]
theorem A35 (X : Nat × (Nat → Int32) × Value) (c1 c2 s : Nat) (h1 : c1 ≤ 600000) (h2 : c2 ≤ 7302250) (hx : X.1 < 2 ^ 31) (hs : 6 * s + 6 ≤ X.1) (t : Nat) (ht : t ≤ 700) (hc : X.2.2.category = 1) (M : zM) (G : zG) (i : Inv t M) : ∃ M2 G2, zw X c1 c2 13 243 1352 [vR (50, 0, 0), vR (6, 0, 0), vR (7, 0, 0), vI (nI (6 * s))] [] (hh M G) = zw X c1 c2 13 243 1510 [vR (50, 0, 0), vR (6, 0, 0), vR (7, 0, 0), vI (nI (6 * s))] [] (hh M2 G2) ∧ Inv (t + 1) M2 := by
  have f1 : nI (6 * s) + 1 = nI (6 * s + 1) := by rw [show (1 : Int32) = nI 1 from rfl, nI_add]
  have z1 := zin_nI (show 6 * s + 1 < X.1 by omega) hx
  have w1 := nI_clamp (show 6 * s + 1 < 2 ^ 31 by omega)
  have f2 : nI (6 * s) + 2 = nI (6 * s + 2) := by rw [show (2 : Int32) = nI 2 from rfl, nI_add]
  have z2 := zin_nI (show 6 * s + 2 < X.1 by omega) hx
  have w2 := nI_clamp (show 6 * s + 2 < 2 ^ 31 by omega)
  have f3 : nI (6 * s) + 3 = nI (6 * s + 3) := by rw [show (3 : Int32) = nI 3 from rfl, nI_add]
  have z3 := zin_nI (show 6 * s + 3 < X.1 by omega) hx
  have w3 := nI_clamp (show 6 * s + 3 < 2 ^ 31 by omega)
  obtain ⟨r, M1, G1, M2, G2, c, m, j⟩ := K35 X t M G (X.2.1 (6 * s + 1)) (X.2.1 (6 * s + 2)) (X.2.1 (6 * s + 3)) i
  refine ⟨M2, G2, ?_, Inv_c (sm_r M2) (by omega) j⟩
  simp only [e243_1352, e243_1353, e243_1354, e243_1355, e243_1356, e243_1357, e243_1358, e243_1359, e243_1360, e243_1361, e243_1362, e243_1363, e243_1364, e243_1365, e243_1366, e243_1367, e243_1368, e243_1371, e243_1372, e243_1373, e243_1374, e243_1375, e243_1376, e243_1377, e243_1378, e243_1379, e243_1380, e243_1381, e243_1382, e243_1383, e243_1384, e243_1385, e243_1386, e243_1387, e243_1390, e243_1393, e243_1394, zt0, zt1, zn3, not_false_eq_true, toListS, toListN, zk_some, zpi, f1, z1, w1, f2, z2, w2, f3, z3, w3, h1, h2, c, m, lg_self, if_true]
theorem A36 (X : Nat × (Nat → Int32) × Value) (c1 c2 s : Nat) (h1 : c1 ≤ 600000) (h2 : c2 ≤ 7302250) (hx : X.1 < 2 ^ 31) (hs : 6 * s + 6 ≤ X.1) (t : Nat) (ht : t ≤ 700) (hc : X.2.2.category = 1) (M : zM) (G : zG) (i : Inv t M) : ∃ M2 G2, zw X c1 c2 13 243 1395 [vR (50, 0, 0), vR (6, 0, 0), vR (7, 0, 0), vI (nI (6 * s))] [] (hh M G) = zw X c1 c2 13 243 1510 [vR (50, 0, 0), vR (6, 0, 0), vR (7, 0, 0), vI (nI (6 * s))] [] (hh M2 G2) ∧ Inv (t + 1) M2 := by
  have f1 : nI (6 * s) + 1 = nI (6 * s + 1) := by rw [show (1 : Int32) = nI 1 from rfl, nI_add]
  have z1 := zin_nI (show 6 * s + 1 < X.1 by omega) hx
  have w1 := nI_clamp (show 6 * s + 1 < 2 ^ 31 by omega)
  have f2 : nI (6 * s) + 2 = nI (6 * s + 2) := by rw [show (2 : Int32) = nI 2 from rfl, nI_add]
  have z2 := zin_nI (show 6 * s + 2 < X.1 by omega) hx
  have w2 := nI_clamp (show 6 * s + 2 < 2 ^ 31 by omega)
  obtain ⟨r, M1, G1, M2, G2, c, m, j⟩ := K36 X t M G (X.2.1 (6 * s + 1)) (X.2.1 (6 * s + 2)) i
  refine ⟨M2, G2, ?_, Inv_c (sm_r M2) (by omega) j⟩
  simp only [e243_1395, e243_1396, e243_1397, e243_1398, e243_1399, e243_1400, e243_1401, e243_1402, e243_1403, e243_1404, e243_1405, e243_1406, e243_1409, e243_1410, e243_1411, e243_1412, e243_1413, e243_1414, e243_1415, e243_1416, e243_1417, e243_1418, e243_1419, e243_1420, e243_1423, e243_1426, e243_1427, zt0, zt1, zn3, not_false_eq_true, toListS, toListN, zk_some, zpi, f1, z1, w1, f2, z2, w2, h1, h2, c, m, lg_self, if_true]
theorem A37 (X : Nat × (Nat → Int32) × Value) (c1 c2 s : Nat) (h1 : c1 ≤ 600000) (h2 : c2 ≤ 7302250) (hx : X.1 < 2 ^ 31) (hs : 6 * s + 6 ≤ X.1) (t : Nat) (ht : t ≤ 700) (hc : X.2.2.category = 1) (M : zM) (G : zG) (i : Inv t M) : ∃ M2 G2, zw X c1 c2 13 243 1428 [vR (50, 0, 0), vR (6, 0, 0), vR (7, 0, 0), vI (nI (6 * s))] [] (hh M G) = zw X c1 c2 13 243 1510 [vR (50, 0, 0), vR (6, 0, 0), vR (7, 0, 0), vI (nI (6 * s))] [] (hh M2 G2) ∧ Inv (t + 1) M2 := by
  have f1 : nI (6 * s) + 1 = nI (6 * s + 1) := by rw [show (1 : Int32) = nI 1 from rfl, nI_add]
  have z1 := zin_nI (show 6 * s + 1 < X.1 by omega) hx
  have w1 := nI_clamp (show 6 * s + 1 < 2 ^ 31 by omega)
  have f2 : nI (6 * s) + 2 = nI (6 * s + 2) := by rw [show (2 : Int32) = nI 2 from rfl, nI_add]
  have z2 := zin_nI (show 6 * s + 2 < X.1 by omega) hx
  have w2 := nI_clamp (show 6 * s + 2 < 2 ^ 31 by omega)
  obtain ⟨r, M1, G1, M2, G2, c, m, j⟩ := K37 X t M G (X.2.1 (6 * s + 1)) (X.2.1 (6 * s + 2)) i
  refine ⟨M2, G2, ?_, Inv_c (sm_r M2) (by omega) j⟩
  simp only [e243_1428, e243_1429, e243_1430, e243_1431, e243_1432, e243_1433, e243_1434, e243_1435, e243_1436, e243_1437, e243_1438, e243_1439, e243_1442, e243_1443, e243_1444, e243_1445, e243_1446, e243_1447, e243_1448, e243_1449, e243_1450, e243_1451, e243_1452, e243_1453, e243_1456, e243_1459, e243_1460, zt0, zt1, zn3, not_false_eq_true, toListS, toListN, zk_some, zpi, f1, z1, w1, f2, z2, w2, h1, h2, c, m, lg_self, if_true]
theorem A38 (X : Nat × (Nat → Int32) × Value) (c1 c2 s : Nat) (h1 : c1 ≤ 600000) (h2 : c2 ≤ 7302250) (hx : X.1 < 2 ^ 31) (hs : 6 * s + 6 ≤ X.1) (t : Nat) (ht : t ≤ 700) (hc : X.2.2.category = 1) (M : zM) (G : zG) (i : Inv t M) : ∃ M2 G2, zw X c1 c2 13 243 1461 [vR (50, 0, 0), vR (6, 0, 0), vR (7, 0, 0), vI (nI (6 * s))] [] (hh M G) = zw X c1 c2 13 243 1510 [vR (50, 0, 0), vR (6, 0, 0), vR (7, 0, 0), vI (nI (6 * s))] [] (hh M2 G2) ∧ Inv (t + 1) M2 := by
  obtain ⟨r, M1, G1, M2, G2, c, m, j⟩ := K38 X t M G i
  refine ⟨M2, G2, ?_, Inv_c (sm_r M2) (by omega) j⟩
  simp only [e243_1461, e243_1462, e243_1465, e243_1466, e243_1469, e243_1472, e243_1473, zt0, zt1, zn3, not_false_eq_true, toListS, toListN, zk_some, zpi, h1, h2, c, m, lg_self, if_true]
theorem A39 (X : Nat × (Nat → Int32) × Value) (c1 c2 s : Nat) (h1 : c1 ≤ 600000) (h2 : c2 ≤ 7302250) (hx : X.1 < 2 ^ 31) (hs : 6 * s + 6 ≤ X.1) (t : Nat) (ht : t ≤ 700) (hc : X.2.2.category = 1) (M : zM) (G : zG) (i : Inv t M) : ∃ M2 G2, zw X c1 c2 13 243 1474 [vR (50, 0, 0), vR (6, 0, 0), vR (7, 0, 0), vI (nI (6 * s))] [] (hh M G) = zw X c1 c2 13 243 1510 [vR (50, 0, 0), vR (6, 0, 0), vR (7, 0, 0), vI (nI (6 * s))] [] (hh M2 G2) ∧ Inv (t + 1) M2 := by
  obtain ⟨r, M1, G1, M2, G2, c, m, j⟩ := K39 X t M G i
  refine ⟨M2, G2, ?_, Inv_c (sm_r M2) (by omega) j⟩
  simp only [e243_1474, e243_1475, e243_1478, e243_1479, e243_1482, e243_1485, e243_1486, zt0, zt1, zn3, not_false_eq_true, toListS, toListN, zk_some, zpi, h1, h2, c, m, lg_self, if_true]
theorem A40 (X : Nat × (Nat → Int32) × Value) (c1 c2 s : Nat) (h1 : c1 ≤ 600000) (h2 : c2 ≤ 7302250) (hx : X.1 < 2 ^ 31) (hs : 6 * s + 6 ≤ X.1) (t : Nat) (ht : t ≤ 700) (hc : X.2.2.category = 1) (M : zM) (G : zG) (i : Inv t M) : ∃ M2 G2, zw X c1 c2 13 243 1487 [vR (50, 0, 0), vR (6, 0, 0), vR (7, 0, 0), vI (nI (6 * s))] [] (hh M G) = zw X c1 c2 13 243 1510 [vR (50, 0, 0), vR (6, 0, 0), vR (7, 0, 0), vI (nI (6 * s))] [] (hh M2 G2) ∧ Inv (t + 1) M2 := by
  have f1 : nI (6 * s) + 1 = nI (6 * s + 1) := by rw [show (1 : Int32) = nI 1 from rfl, nI_add]
  have z1 := zin_nI (show 6 * s + 1 < X.1 by omega) hx
  have w1 := nI_clamp (show 6 * s + 1 < 2 ^ 31 by omega)
  obtain ⟨r, M1, G1, M2, G2, c, m, j⟩ := K40 X t M G (X.2.1 (6 * s + 1)) i
  refine ⟨M2, G2, ?_, Inv_c (sm_r M2) (by omega) j⟩
  simp only [e243_1487, e243_1488, e243_1489, e243_1490, e243_1491, e243_1492, e243_1493, e243_1496, e243_1497, e243_1498, e243_1499, e243_1500, e243_1501, e243_1502, e243_1505, e243_1508, e243_1509, zt0, zt1, zn3, not_false_eq_true, toListS, toListN, zk_some, zpi, f1, z1, w1, h1, h2, c, m, lg_self, if_true]
theorem ARM (X : Nat × (Nat → Int32) × Value) (c1 c2 s : Nat) (h1 : c1 ≤ 600000) (h2 : c2 ≤ 7302250) (hx : X.1 < 2 ^ 31) (hs : 6 * s + 6 ≤ X.1) (t : Nat) (ht : t ≤ 700) (hc : X.2.2.category = 1) (M : zM) (G : zG) (i : Inv t M) : ∃ M2 G2, zw X c1 c2 13 243 27 [vR (50, 0, 0), vR (6, 0, 0), vR (7, 0, 0), vI (nI (6 * s))] [] (hh M G) = zw X c1 c2 13 243 1510 [vR (50, 0, 0), vR (6, 0, 0), vR (7, 0, 0), vI (nI (6 * s))] [] (hh M2 G2) ∧ Inv (t + 1) M2 := by
  have z0 := zin_nI (show 6 * s < X.1 by omega) hx
  have w0 := nI_clamp (show 6 * s < 2 ^ 31 by omega)
  have hd : ∀ Y : zM → zG → Option zR, (∀ sel : Int32, ∃ M2 G2, zw X c1 c2 13 243 33 [vR (50, 0, 0), vR (6, 0, 0), vR (7, 0, 0), vI (nI (6 * s))] [vI sel] (hh M G) = Y M2 G2 ∧ Inv (t + 1) M2) → ∃ M2 G2, zw X c1 c2 13 243 27 [vR (50, 0, 0), vR (6, 0, 0), vR (7, 0, 0), vI (nI (6 * s))] [] (hh M G) = Y M2 G2 ∧ Inv (t + 1) M2 := fun Y hY => by
    obtain ⟨M2, G2, e, j⟩ := hY (X.2.1 (6 * s) &&& 63)
    refine ⟨M2, G2, ?_, j⟩
    simp only [e243_27, e243_28, e243_29, e243_30, e243_32, z0, w0]
    exact e
  refine hd (fun M2 G2 => zw X c1 c2 13 243 1510 [vR (50, 0, 0), vR (6, 0, 0), vR (7, 0, 0), vI (nI (6 * s))] [] (hh M2 G2)) (fun sel => ?_)
  simp only [e243_33]
  by_cases q0 : sel = 0
  · obtain ⟨M2, G2, e, j⟩ := A0 X c1 c2 s h1 h2 hx hs t ht hc M G i
    exact ⟨M2, G2, by simp only [if_pos q0]; exact e, j⟩
  by_cases q1 : sel = 1
  · obtain ⟨M2, G2, e, j⟩ := A1 X c1 c2 s h1 h2 hx hs t ht hc M G i
    exact ⟨M2, G2, by simp only [if_neg q0, if_pos q1]; exact e, j⟩
  by_cases q2 : sel = 2
  · obtain ⟨M2, G2, e, j⟩ := A2 X c1 c2 s h1 h2 hx hs t ht hc M G i
    exact ⟨M2, G2, by simp only [if_neg q0, if_neg q1, if_pos q2]; exact e, j⟩
  by_cases q3 : sel = 3
  · obtain ⟨M2, G2, e, j⟩ := A3 X c1 c2 s h1 h2 hx hs t ht hc M G i
    exact ⟨M2, G2, by simp only [if_neg q0, if_neg q1, if_neg q2, if_pos q3]; exact e, j⟩
  by_cases q4 : sel = 4
  · obtain ⟨M2, G2, e, j⟩ := A4 X c1 c2 s h1 h2 hx hs t ht hc M G i
    exact ⟨M2, G2, by simp only [if_neg q0, if_neg q1, if_neg q2, if_neg q3, if_pos q4]; exact e, j⟩
  by_cases q5 : sel = 5
  · obtain ⟨M2, G2, e, j⟩ := A5 X c1 c2 s h1 h2 hx hs t ht hc M G i
    exact ⟨M2, G2, by simp only [if_neg q0, if_neg q1, if_neg q2, if_neg q3, if_neg q4, if_pos q5]; exact e, j⟩
  by_cases q6 : sel = 6
  · obtain ⟨M2, G2, e, j⟩ := A6 X c1 c2 s h1 h2 hx hs t ht hc M G i
    exact ⟨M2, G2, by simp only [if_neg q0, if_neg q1, if_neg q2, if_neg q3, if_neg q4, if_neg q5, if_pos q6]; exact e, j⟩
  by_cases q7 : sel = 7
  · obtain ⟨M2, G2, e, j⟩ := A7 X c1 c2 s h1 h2 hx hs t ht hc M G i
    exact ⟨M2, G2, by simp only [if_neg q0, if_neg q1, if_neg q2, if_neg q3, if_neg q4, if_neg q5, if_neg q6, if_pos q7]; exact e, j⟩
  by_cases q8 : sel = 8
  · obtain ⟨M2, G2, e, j⟩ := A8 X c1 c2 s h1 h2 hx hs t ht hc M G i
    exact ⟨M2, G2, by simp only [if_neg q0, if_neg q1, if_neg q2, if_neg q3, if_neg q4, if_neg q5, if_neg q6, if_neg q7, if_pos q8]; exact e, j⟩
  by_cases q9 : sel = 9
  · obtain ⟨M2, G2, e, j⟩ := A9 X c1 c2 s h1 h2 hx hs t ht hc M G i
    exact ⟨M2, G2, by simp only [if_neg q0, if_neg q1, if_neg q2, if_neg q3, if_neg q4, if_neg q5, if_neg q6, if_neg q7, if_neg q8, if_pos q9]; exact e, j⟩
  by_cases q10 : sel = 10
  · obtain ⟨M2, G2, e, j⟩ := A10 X c1 c2 s h1 h2 hx hs t ht hc M G i
    exact ⟨M2, G2, by simp only [if_neg q0, if_neg q1, if_neg q2, if_neg q3, if_neg q4, if_neg q5, if_neg q6, if_neg q7, if_neg q8, if_neg q9, if_pos q10]; exact e, j⟩
  by_cases q11 : sel = 11
  · obtain ⟨M2, G2, e, j⟩ := A11 X c1 c2 s h1 h2 hx hs t ht hc M G i
    exact ⟨M2, G2, by simp only [if_neg q0, if_neg q1, if_neg q2, if_neg q3, if_neg q4, if_neg q5, if_neg q6, if_neg q7, if_neg q8, if_neg q9, if_neg q10, if_pos q11]; exact e, j⟩
  by_cases q12 : sel = 12
  · obtain ⟨M2, G2, e, j⟩ := A12 X c1 c2 s h1 h2 hx hs t ht hc M G i
    exact ⟨M2, G2, by simp only [if_neg q0, if_neg q1, if_neg q2, if_neg q3, if_neg q4, if_neg q5, if_neg q6, if_neg q7, if_neg q8, if_neg q9, if_neg q10, if_neg q11, if_pos q12]; exact e, j⟩
  by_cases q13 : sel = 13
  · obtain ⟨M2, G2, e, j⟩ := A13 X c1 c2 s h1 h2 hx hs t ht hc M G i
    exact ⟨M2, G2, by simp only [if_neg q0, if_neg q1, if_neg q2, if_neg q3, if_neg q4, if_neg q5, if_neg q6, if_neg q7, if_neg q8, if_neg q9, if_neg q10, if_neg q11, if_neg q12, if_pos q13]; exact e, j⟩
  by_cases q14 : sel = 14
  · obtain ⟨M2, G2, e, j⟩ := A14 X c1 c2 s h1 h2 hx hs t ht hc M G i
    exact ⟨M2, G2, by simp only [if_neg q0, if_neg q1, if_neg q2, if_neg q3, if_neg q4, if_neg q5, if_neg q6, if_neg q7, if_neg q8, if_neg q9, if_neg q10, if_neg q11, if_neg q12, if_neg q13, if_pos q14]; exact e, j⟩
  by_cases q15 : sel = 15
  · obtain ⟨M2, G2, e, j⟩ := A15 X c1 c2 s h1 h2 hx hs t ht hc M G i
    exact ⟨M2, G2, by simp only [if_neg q0, if_neg q1, if_neg q2, if_neg q3, if_neg q4, if_neg q5, if_neg q6, if_neg q7, if_neg q8, if_neg q9, if_neg q10, if_neg q11, if_neg q12, if_neg q13, if_neg q14, if_pos q15]; exact e, j⟩
  by_cases q16 : sel = 16
  · obtain ⟨M2, G2, e, j⟩ := A16 X c1 c2 s h1 h2 hx hs t ht hc M G i
    exact ⟨M2, G2, by simp only [if_neg q0, if_neg q1, if_neg q2, if_neg q3, if_neg q4, if_neg q5, if_neg q6, if_neg q7, if_neg q8, if_neg q9, if_neg q10, if_neg q11, if_neg q12, if_neg q13, if_neg q14, if_neg q15, if_pos q16]; exact e, j⟩
  by_cases q17 : sel = 17
  · obtain ⟨M2, G2, e, j⟩ := A17 X c1 c2 s h1 h2 hx hs t ht hc M G i
    exact ⟨M2, G2, by simp only [if_neg q0, if_neg q1, if_neg q2, if_neg q3, if_neg q4, if_neg q5, if_neg q6, if_neg q7, if_neg q8, if_neg q9, if_neg q10, if_neg q11, if_neg q12, if_neg q13, if_neg q14, if_neg q15, if_neg q16, if_pos q17]; exact e, j⟩
  by_cases q18 : sel = 18
  · obtain ⟨M2, G2, e, j⟩ := A18 X c1 c2 s h1 h2 hx hs t ht hc M G i
    exact ⟨M2, G2, by simp only [if_neg q0, if_neg q1, if_neg q2, if_neg q3, if_neg q4, if_neg q5, if_neg q6, if_neg q7, if_neg q8, if_neg q9, if_neg q10, if_neg q11, if_neg q12, if_neg q13, if_neg q14, if_neg q15, if_neg q16, if_neg q17, if_pos q18]; exact e, j⟩
  by_cases q19 : sel = 19
  · obtain ⟨M2, G2, e, j⟩ := A19 X c1 c2 s h1 h2 hx hs t ht hc M G i
    exact ⟨M2, G2, by simp only [if_neg q0, if_neg q1, if_neg q2, if_neg q3, if_neg q4, if_neg q5, if_neg q6, if_neg q7, if_neg q8, if_neg q9, if_neg q10, if_neg q11, if_neg q12, if_neg q13, if_neg q14, if_neg q15, if_neg q16, if_neg q17, if_neg q18, if_pos q19]; exact e, j⟩
  by_cases q20 : sel = 20
  · obtain ⟨M2, G2, e, j⟩ := A20 X c1 c2 s h1 h2 hx hs t ht hc M G i
    exact ⟨M2, G2, by simp only [if_neg q0, if_neg q1, if_neg q2, if_neg q3, if_neg q4, if_neg q5, if_neg q6, if_neg q7, if_neg q8, if_neg q9, if_neg q10, if_neg q11, if_neg q12, if_neg q13, if_neg q14, if_neg q15, if_neg q16, if_neg q17, if_neg q18, if_neg q19, if_pos q20]; exact e, j⟩
  by_cases q21 : sel = 21
  · obtain ⟨M2, G2, e, j⟩ := A21 X c1 c2 s h1 h2 hx hs t ht hc M G i
    exact ⟨M2, G2, by simp only [if_neg q0, if_neg q1, if_neg q2, if_neg q3, if_neg q4, if_neg q5, if_neg q6, if_neg q7, if_neg q8, if_neg q9, if_neg q10, if_neg q11, if_neg q12, if_neg q13, if_neg q14, if_neg q15, if_neg q16, if_neg q17, if_neg q18, if_neg q19, if_neg q20, if_pos q21]; exact e, j⟩
  by_cases q22 : sel = 22
  · obtain ⟨M2, G2, e, j⟩ := A22 X c1 c2 s h1 h2 hx hs t ht hc M G i
    exact ⟨M2, G2, by simp only [if_neg q0, if_neg q1, if_neg q2, if_neg q3, if_neg q4, if_neg q5, if_neg q6, if_neg q7, if_neg q8, if_neg q9, if_neg q10, if_neg q11, if_neg q12, if_neg q13, if_neg q14, if_neg q15, if_neg q16, if_neg q17, if_neg q18, if_neg q19, if_neg q20, if_neg q21, if_pos q22]; exact e, j⟩
  by_cases q23 : sel = 23
  · obtain ⟨M2, G2, e, j⟩ := A23 X c1 c2 s h1 h2 hx hs t ht hc M G i
    exact ⟨M2, G2, by simp only [if_neg q0, if_neg q1, if_neg q2, if_neg q3, if_neg q4, if_neg q5, if_neg q6, if_neg q7, if_neg q8, if_neg q9, if_neg q10, if_neg q11, if_neg q12, if_neg q13, if_neg q14, if_neg q15, if_neg q16, if_neg q17, if_neg q18, if_neg q19, if_neg q20, if_neg q21, if_neg q22, if_pos q23]; exact e, j⟩
  by_cases q24 : sel = 24
  · obtain ⟨M2, G2, e, j⟩ := A24 X c1 c2 s h1 h2 hx hs t ht hc M G i
    exact ⟨M2, G2, by simp only [if_neg q0, if_neg q1, if_neg q2, if_neg q3, if_neg q4, if_neg q5, if_neg q6, if_neg q7, if_neg q8, if_neg q9, if_neg q10, if_neg q11, if_neg q12, if_neg q13, if_neg q14, if_neg q15, if_neg q16, if_neg q17, if_neg q18, if_neg q19, if_neg q20, if_neg q21, if_neg q22, if_neg q23, if_pos q24]; exact e, j⟩
  by_cases q25 : sel = 25
  · obtain ⟨M2, G2, e, j⟩ := A25 X c1 c2 s h1 h2 hx hs t ht hc M G i
    exact ⟨M2, G2, by simp only [if_neg q0, if_neg q1, if_neg q2, if_neg q3, if_neg q4, if_neg q5, if_neg q6, if_neg q7, if_neg q8, if_neg q9, if_neg q10, if_neg q11, if_neg q12, if_neg q13, if_neg q14, if_neg q15, if_neg q16, if_neg q17, if_neg q18, if_neg q19, if_neg q20, if_neg q21, if_neg q22, if_neg q23, if_neg q24, if_pos q25]; exact e, j⟩
  by_cases q26 : sel = 26
  · obtain ⟨M2, G2, e, j⟩ := A26 X c1 c2 s h1 h2 hx hs t ht hc M G i
    exact ⟨M2, G2, by simp only [if_neg q0, if_neg q1, if_neg q2, if_neg q3, if_neg q4, if_neg q5, if_neg q6, if_neg q7, if_neg q8, if_neg q9, if_neg q10, if_neg q11, if_neg q12, if_neg q13, if_neg q14, if_neg q15, if_neg q16, if_neg q17, if_neg q18, if_neg q19, if_neg q20, if_neg q21, if_neg q22, if_neg q23, if_neg q24, if_neg q25, if_pos q26]; exact e, j⟩
  by_cases q27 : sel = 27
  · obtain ⟨M2, G2, e, j⟩ := A27 X c1 c2 s h1 h2 hx hs t ht hc M G i
    exact ⟨M2, G2, by simp only [if_neg q0, if_neg q1, if_neg q2, if_neg q3, if_neg q4, if_neg q5, if_neg q6, if_neg q7, if_neg q8, if_neg q9, if_neg q10, if_neg q11, if_neg q12, if_neg q13, if_neg q14, if_neg q15, if_neg q16, if_neg q17, if_neg q18, if_neg q19, if_neg q20, if_neg q21, if_neg q22, if_neg q23, if_neg q24, if_neg q25, if_neg q26, if_pos q27]; exact e, j⟩
  by_cases q28 : sel = 28
  · obtain ⟨M2, G2, e, j⟩ := A28 X c1 c2 s h1 h2 hx hs t ht hc M G i
    exact ⟨M2, G2, by simp only [if_neg q0, if_neg q1, if_neg q2, if_neg q3, if_neg q4, if_neg q5, if_neg q6, if_neg q7, if_neg q8, if_neg q9, if_neg q10, if_neg q11, if_neg q12, if_neg q13, if_neg q14, if_neg q15, if_neg q16, if_neg q17, if_neg q18, if_neg q19, if_neg q20, if_neg q21, if_neg q22, if_neg q23, if_neg q24, if_neg q25, if_neg q26, if_neg q27, if_pos q28]; exact e, j⟩
  by_cases q29 : sel = 29
  · obtain ⟨M2, G2, e, j⟩ := A29 X c1 c2 s h1 h2 hx hs t ht hc M G i
    exact ⟨M2, G2, by simp only [if_neg q0, if_neg q1, if_neg q2, if_neg q3, if_neg q4, if_neg q5, if_neg q6, if_neg q7, if_neg q8, if_neg q9, if_neg q10, if_neg q11, if_neg q12, if_neg q13, if_neg q14, if_neg q15, if_neg q16, if_neg q17, if_neg q18, if_neg q19, if_neg q20, if_neg q21, if_neg q22, if_neg q23, if_neg q24, if_neg q25, if_neg q26, if_neg q27, if_neg q28, if_pos q29]; exact e, j⟩
  by_cases q30 : sel = 30
  · obtain ⟨M2, G2, e, j⟩ := A30 X c1 c2 s h1 h2 hx hs t ht hc M G i
    exact ⟨M2, G2, by simp only [if_neg q0, if_neg q1, if_neg q2, if_neg q3, if_neg q4, if_neg q5, if_neg q6, if_neg q7, if_neg q8, if_neg q9, if_neg q10, if_neg q11, if_neg q12, if_neg q13, if_neg q14, if_neg q15, if_neg q16, if_neg q17, if_neg q18, if_neg q19, if_neg q20, if_neg q21, if_neg q22, if_neg q23, if_neg q24, if_neg q25, if_neg q26, if_neg q27, if_neg q28, if_neg q29, if_pos q30]; exact e, j⟩
  by_cases q31 : sel = 31
  · obtain ⟨M2, G2, e, j⟩ := A31 X c1 c2 s h1 h2 hx hs t ht hc M G i
    exact ⟨M2, G2, by simp only [if_neg q0, if_neg q1, if_neg q2, if_neg q3, if_neg q4, if_neg q5, if_neg q6, if_neg q7, if_neg q8, if_neg q9, if_neg q10, if_neg q11, if_neg q12, if_neg q13, if_neg q14, if_neg q15, if_neg q16, if_neg q17, if_neg q18, if_neg q19, if_neg q20, if_neg q21, if_neg q22, if_neg q23, if_neg q24, if_neg q25, if_neg q26, if_neg q27, if_neg q28, if_neg q29, if_neg q30, if_pos q31]; exact e, j⟩
  by_cases q32 : sel = 32
  · obtain ⟨M2, G2, e, j⟩ := A32 X c1 c2 s h1 h2 hx hs t ht hc M G i
    exact ⟨M2, G2, by simp only [if_neg q0, if_neg q1, if_neg q2, if_neg q3, if_neg q4, if_neg q5, if_neg q6, if_neg q7, if_neg q8, if_neg q9, if_neg q10, if_neg q11, if_neg q12, if_neg q13, if_neg q14, if_neg q15, if_neg q16, if_neg q17, if_neg q18, if_neg q19, if_neg q20, if_neg q21, if_neg q22, if_neg q23, if_neg q24, if_neg q25, if_neg q26, if_neg q27, if_neg q28, if_neg q29, if_neg q30, if_neg q31, if_pos q32]; exact e, j⟩
  by_cases q33 : sel = 33
  · obtain ⟨M2, G2, e, j⟩ := A33 X c1 c2 s h1 h2 hx hs t ht hc M G i
    exact ⟨M2, G2, by simp only [if_neg q0, if_neg q1, if_neg q2, if_neg q3, if_neg q4, if_neg q5, if_neg q6, if_neg q7, if_neg q8, if_neg q9, if_neg q10, if_neg q11, if_neg q12, if_neg q13, if_neg q14, if_neg q15, if_neg q16, if_neg q17, if_neg q18, if_neg q19, if_neg q20, if_neg q21, if_neg q22, if_neg q23, if_neg q24, if_neg q25, if_neg q26, if_neg q27, if_neg q28, if_neg q29, if_neg q30, if_neg q31, if_neg q32, if_pos q33]; exact e, j⟩
  by_cases q34 : sel = 34
  · obtain ⟨M2, G2, e, j⟩ := A34 X c1 c2 s h1 h2 hx hs t ht hc M G i
    exact ⟨M2, G2, by simp only [if_neg q0, if_neg q1, if_neg q2, if_neg q3, if_neg q4, if_neg q5, if_neg q6, if_neg q7, if_neg q8, if_neg q9, if_neg q10, if_neg q11, if_neg q12, if_neg q13, if_neg q14, if_neg q15, if_neg q16, if_neg q17, if_neg q18, if_neg q19, if_neg q20, if_neg q21, if_neg q22, if_neg q23, if_neg q24, if_neg q25, if_neg q26, if_neg q27, if_neg q28, if_neg q29, if_neg q30, if_neg q31, if_neg q32, if_neg q33, if_pos q34]; exact e, j⟩
  by_cases q35 : sel = 35
  · obtain ⟨M2, G2, e, j⟩ := A35 X c1 c2 s h1 h2 hx hs t ht hc M G i
    exact ⟨M2, G2, by simp only [if_neg q0, if_neg q1, if_neg q2, if_neg q3, if_neg q4, if_neg q5, if_neg q6, if_neg q7, if_neg q8, if_neg q9, if_neg q10, if_neg q11, if_neg q12, if_neg q13, if_neg q14, if_neg q15, if_neg q16, if_neg q17, if_neg q18, if_neg q19, if_neg q20, if_neg q21, if_neg q22, if_neg q23, if_neg q24, if_neg q25, if_neg q26, if_neg q27, if_neg q28, if_neg q29, if_neg q30, if_neg q31, if_neg q32, if_neg q33, if_neg q34, if_pos q35]; exact e, j⟩
  by_cases q36 : sel = 36
  · obtain ⟨M2, G2, e, j⟩ := A36 X c1 c2 s h1 h2 hx hs t ht hc M G i
    exact ⟨M2, G2, by simp only [if_neg q0, if_neg q1, if_neg q2, if_neg q3, if_neg q4, if_neg q5, if_neg q6, if_neg q7, if_neg q8, if_neg q9, if_neg q10, if_neg q11, if_neg q12, if_neg q13, if_neg q14, if_neg q15, if_neg q16, if_neg q17, if_neg q18, if_neg q19, if_neg q20, if_neg q21, if_neg q22, if_neg q23, if_neg q24, if_neg q25, if_neg q26, if_neg q27, if_neg q28, if_neg q29, if_neg q30, if_neg q31, if_neg q32, if_neg q33, if_neg q34, if_neg q35, if_pos q36]; exact e, j⟩
  by_cases q37 : sel = 37
  · obtain ⟨M2, G2, e, j⟩ := A37 X c1 c2 s h1 h2 hx hs t ht hc M G i
    exact ⟨M2, G2, by simp only [if_neg q0, if_neg q1, if_neg q2, if_neg q3, if_neg q4, if_neg q5, if_neg q6, if_neg q7, if_neg q8, if_neg q9, if_neg q10, if_neg q11, if_neg q12, if_neg q13, if_neg q14, if_neg q15, if_neg q16, if_neg q17, if_neg q18, if_neg q19, if_neg q20, if_neg q21, if_neg q22, if_neg q23, if_neg q24, if_neg q25, if_neg q26, if_neg q27, if_neg q28, if_neg q29, if_neg q30, if_neg q31, if_neg q32, if_neg q33, if_neg q34, if_neg q35, if_neg q36, if_pos q37]; exact e, j⟩
  by_cases q38 : sel = 38
  · obtain ⟨M2, G2, e, j⟩ := A38 X c1 c2 s h1 h2 hx hs t ht hc M G i
    exact ⟨M2, G2, by simp only [if_neg q0, if_neg q1, if_neg q2, if_neg q3, if_neg q4, if_neg q5, if_neg q6, if_neg q7, if_neg q8, if_neg q9, if_neg q10, if_neg q11, if_neg q12, if_neg q13, if_neg q14, if_neg q15, if_neg q16, if_neg q17, if_neg q18, if_neg q19, if_neg q20, if_neg q21, if_neg q22, if_neg q23, if_neg q24, if_neg q25, if_neg q26, if_neg q27, if_neg q28, if_neg q29, if_neg q30, if_neg q31, if_neg q32, if_neg q33, if_neg q34, if_neg q35, if_neg q36, if_neg q37, if_pos q38]; exact e, j⟩
  by_cases q39 : sel = 39
  · obtain ⟨M2, G2, e, j⟩ := A39 X c1 c2 s h1 h2 hx hs t ht hc M G i
    exact ⟨M2, G2, by simp only [if_neg q0, if_neg q1, if_neg q2, if_neg q3, if_neg q4, if_neg q5, if_neg q6, if_neg q7, if_neg q8, if_neg q9, if_neg q10, if_neg q11, if_neg q12, if_neg q13, if_neg q14, if_neg q15, if_neg q16, if_neg q17, if_neg q18, if_neg q19, if_neg q20, if_neg q21, if_neg q22, if_neg q23, if_neg q24, if_neg q25, if_neg q26, if_neg q27, if_neg q28, if_neg q29, if_neg q30, if_neg q31, if_neg q32, if_neg q33, if_neg q34, if_neg q35, if_neg q36, if_neg q37, if_neg q38, if_pos q39]; exact e, j⟩
  by_cases q40 : sel = 40
  · obtain ⟨M2, G2, e, j⟩ := A40 X c1 c2 s h1 h2 hx hs t ht hc M G i
    exact ⟨M2, G2, by simp only [if_neg q0, if_neg q1, if_neg q2, if_neg q3, if_neg q4, if_neg q5, if_neg q6, if_neg q7, if_neg q8, if_neg q9, if_neg q10, if_neg q11, if_neg q12, if_neg q13, if_neg q14, if_neg q15, if_neg q16, if_neg q17, if_neg q18, if_neg q19, if_neg q20, if_neg q21, if_neg q22, if_neg q23, if_neg q24, if_neg q25, if_neg q26, if_neg q27, if_neg q28, if_neg q29, if_neg q30, if_neg q31, if_neg q32, if_neg q33, if_neg q34, if_neg q35, if_neg q36, if_neg q37, if_neg q38, if_neg q39, if_pos q40]; exact e, j⟩
  exact ⟨M, G, by simp only [if_neg q0, if_neg q1, if_neg q2, if_neg q3, if_neg q4, if_neg q5, if_neg q6, if_neg q7, if_neg q8, if_neg q9, if_neg q10, if_neg q11, if_neg q12, if_neg q13, if_neg q14, if_neg q15, if_neg q16, if_neg q17, if_neg q18, if_neg q19, if_neg q20, if_neg q21, if_neg q22, if_neg q23, if_neg q24, if_neg q25, if_neg q26, if_neg q27, if_neg q28, if_neg q29, if_neg q30, if_neg q31, if_neg q32, if_neg q33, if_neg q34, if_neg q35, if_neg q36, if_neg q37, if_neg q38, if_neg q39, if_neg q40], Inv_c (sm_r M) (by omega) i⟩
theorem LOOP (X : Nat × (Nat → Int32) × Value) (c1 c2 : Nat) (h1 : c1 ≤ 600000) (h2 : c2 ≤ 7302250) (hx : X.1 ≤ 4200) (hc : X.2.2.category = 1) : ∀ (k s : Nat) (M : zM) (G : zG), 6 * s ≤ X.1 → X.1 ≤ 6 * s + k → Inv s M → ∃ M' G', zw X c1 c2 13 243 18 [vR (50, 0, 0), vR (6, 0, 0), vR (7, 0, 0), vI (nI (6 * s))] [] (hh M G) = some (some (vI 1), hh M' G') := by
  have fin : ∀ (s : Nat) (M : zM) (G : zG), 6 * s ≤ X.1 → X.1 < 6 * s + 6 → ∃ M' G', zw X c1 c2 13 243 18 [vR (50, 0, 0), vR (6, 0, 0), vR (7, 0, 0), vI (nI (6 * s))] [] (hh M G) = some (some (vI 1), hh M' G') := fun s M G hs hn => by
    refine ⟨M, G, ?_⟩
    have e : (Int32.ofNat X.1 - 6 : Int32) < nI (6 * s) := by
      rw [i_lt, show Int32.ofNat X.1 = nI X.1 from rfl, i_sub_s (by rw [nI_int (by omega), show (6 : Int32).toInt = 6 from rfl]; omega) (by rw [nI_int (by omega), show (6 : Int32).toInt = 6 from rfl]; omega), nI_int (by omega), nI_int (by omega), show (6 : Int32).toInt = 6 from rfl]
      omega
    simp only [e243_18, e243_19, e243_20, e243_21, e243_23, e243_24]
    refine Eq.trans (if_pos e) ?_
    simp only [e243_1516, e243_1517, zt0, zt1, zn3, not_false_eq_true, toListS, toListN, zk_some, zpi, h1, h2]
  intro k
  induction k with
  | zero => intro s M G hs hk i; exact fin s M G hs (by omega)
  | succ k ih =>
    intro s M G hs hk i
    by_cases hn : X.1 < 6 * s + 6
    · exact fin s M G hs hn
    · have e : ¬ (Int32.ofNat X.1 - 6 : Int32) < nI (6 * s) := by
        rw [i_lt, show Int32.ofNat X.1 = nI X.1 from rfl, i_sub_s (by rw [nI_int (by omega), show (6 : Int32).toInt = 6 from rfl]; omega) (by rw [nI_int (by omega), show (6 : Int32).toInt = 6 from rfl]; omega), nI_int (by omega), nI_int (by omega), show (6 : Int32).toInt = 6 from rfl]
        omega
      obtain ⟨M2, G2, ea, j⟩ := ARM X c1 c2 s h1 h2 (by omega) (by omega) s (by omega) hc M G i
      obtain ⟨M', G', el⟩ := ih (s + 1) M2 G2 (by omega) (by omega) j
      refine ⟨M', G', ?_⟩
      simp only [e243_18, e243_19, e243_20, e243_21, e243_23, e243_24]
      refine Eq.trans (if_neg e) (ea.trans ?_)
      have f6 : nI (6 * s) + 6 = nI (6 * (s + 1)) := by rw [show (6 : Int32) = nI 6 from rfl, nI_add, show 6 * s + 6 = 6 * (s + 1) by omega]
      simp only [e243_1510, e243_1513, f6]
      exact el
