/-! SMALL NUMBERS COMPARED; where a number lies, told by its refusal; n STEPS on both sides -/
theorem q_lt_m16_0 : ((-16 : Int32) < 0) = True := by decide
theorem q_le_m16_0 : ((-16 : Int32) ≤ 0) = True := by decide
theorem q_eq_m16_0 : ((-16 : Int32) = 0) = False := by decide
theorem q_lt_m16_1 : ((-16 : Int32) < 1) = True := by decide
theorem q_le_m16_1 : ((-16 : Int32) ≤ 1) = True := by decide
theorem q_eq_m16_1 : ((-16 : Int32) = 1) = False := by decide
theorem q_lt_m16_2 : ((-16 : Int32) < 2) = True := by decide
theorem q_le_m16_2 : ((-16 : Int32) ≤ 2) = True := by decide
theorem q_eq_m16_2 : ((-16 : Int32) = 2) = False := by decide
theorem q_lt_m16_3 : ((-16 : Int32) < 3) = True := by decide
theorem q_le_m16_3 : ((-16 : Int32) ≤ 3) = True := by decide
theorem q_eq_m16_3 : ((-16 : Int32) = 3) = False := by decide
theorem q_lt_m16_4 : ((-16 : Int32) < 4) = True := by decide
theorem q_le_m16_4 : ((-16 : Int32) ≤ 4) = True := by decide
theorem q_eq_m16_4 : ((-16 : Int32) = 4) = False := by decide
theorem q_lt_m16_5 : ((-16 : Int32) < 5) = True := by decide
theorem q_le_m16_5 : ((-16 : Int32) ≤ 5) = True := by decide
theorem q_eq_m16_5 : ((-16 : Int32) = 5) = False := by decide
theorem q_lt_m16_6 : ((-16 : Int32) < 6) = True := by decide
theorem q_le_m16_6 : ((-16 : Int32) ≤ 6) = True := by decide
theorem q_eq_m16_6 : ((-16 : Int32) = 6) = False := by decide
theorem q_lt_m16_7 : ((-16 : Int32) < 7) = True := by decide
theorem q_le_m16_7 : ((-16 : Int32) ≤ 7) = True := by decide
theorem q_eq_m16_7 : ((-16 : Int32) = 7) = False := by decide
theorem q_lt_m16_8 : ((-16 : Int32) < 8) = True := by decide
theorem q_le_m16_8 : ((-16 : Int32) ≤ 8) = True := by decide
theorem q_eq_m16_8 : ((-16 : Int32) = 8) = False := by decide
theorem q_lt_m16_9 : ((-16 : Int32) < 9) = True := by decide
theorem q_le_m16_9 : ((-16 : Int32) ≤ 9) = True := by decide
theorem q_eq_m16_9 : ((-16 : Int32) = 9) = False := by decide
theorem q_lt_m16_10 : ((-16 : Int32) < 10) = True := by decide
theorem q_le_m16_10 : ((-16 : Int32) ≤ 10) = True := by decide
theorem q_eq_m16_10 : ((-16 : Int32) = 10) = False := by decide
theorem q_lt_m15_0 : ((-15 : Int32) < 0) = True := by decide
theorem q_le_m15_0 : ((-15 : Int32) ≤ 0) = True := by decide
theorem q_eq_m15_0 : ((-15 : Int32) = 0) = False := by decide
theorem q_lt_m15_1 : ((-15 : Int32) < 1) = True := by decide
theorem q_le_m15_1 : ((-15 : Int32) ≤ 1) = True := by decide
theorem q_eq_m15_1 : ((-15 : Int32) = 1) = False := by decide
theorem q_lt_m15_2 : ((-15 : Int32) < 2) = True := by decide
theorem q_le_m15_2 : ((-15 : Int32) ≤ 2) = True := by decide
theorem q_eq_m15_2 : ((-15 : Int32) = 2) = False := by decide
theorem q_lt_m15_3 : ((-15 : Int32) < 3) = True := by decide
theorem q_le_m15_3 : ((-15 : Int32) ≤ 3) = True := by decide
theorem q_eq_m15_3 : ((-15 : Int32) = 3) = False := by decide
theorem q_lt_m15_4 : ((-15 : Int32) < 4) = True := by decide
theorem q_le_m15_4 : ((-15 : Int32) ≤ 4) = True := by decide
theorem q_eq_m15_4 : ((-15 : Int32) = 4) = False := by decide
theorem q_lt_m15_5 : ((-15 : Int32) < 5) = True := by decide
theorem q_le_m15_5 : ((-15 : Int32) ≤ 5) = True := by decide
theorem q_eq_m15_5 : ((-15 : Int32) = 5) = False := by decide
theorem q_lt_m15_6 : ((-15 : Int32) < 6) = True := by decide
theorem q_le_m15_6 : ((-15 : Int32) ≤ 6) = True := by decide
theorem q_eq_m15_6 : ((-15 : Int32) = 6) = False := by decide
theorem q_lt_m15_7 : ((-15 : Int32) < 7) = True := by decide
theorem q_le_m15_7 : ((-15 : Int32) ≤ 7) = True := by decide
theorem q_eq_m15_7 : ((-15 : Int32) = 7) = False := by decide
theorem q_lt_m15_8 : ((-15 : Int32) < 8) = True := by decide
theorem q_le_m15_8 : ((-15 : Int32) ≤ 8) = True := by decide
theorem q_eq_m15_8 : ((-15 : Int32) = 8) = False := by decide
theorem q_lt_m15_9 : ((-15 : Int32) < 9) = True := by decide
theorem q_le_m15_9 : ((-15 : Int32) ≤ 9) = True := by decide
theorem q_eq_m15_9 : ((-15 : Int32) = 9) = False := by decide
theorem q_lt_m15_10 : ((-15 : Int32) < 10) = True := by decide
theorem q_le_m15_10 : ((-15 : Int32) ≤ 10) = True := by decide
theorem q_eq_m15_10 : ((-15 : Int32) = 10) = False := by decide
theorem q_lt_m14_0 : ((-14 : Int32) < 0) = True := by decide
theorem q_le_m14_0 : ((-14 : Int32) ≤ 0) = True := by decide
theorem q_eq_m14_0 : ((-14 : Int32) = 0) = False := by decide
theorem q_lt_m14_1 : ((-14 : Int32) < 1) = True := by decide
theorem q_le_m14_1 : ((-14 : Int32) ≤ 1) = True := by decide
theorem q_eq_m14_1 : ((-14 : Int32) = 1) = False := by decide
theorem q_lt_m14_2 : ((-14 : Int32) < 2) = True := by decide
theorem q_le_m14_2 : ((-14 : Int32) ≤ 2) = True := by decide
theorem q_eq_m14_2 : ((-14 : Int32) = 2) = False := by decide
theorem q_lt_m14_3 : ((-14 : Int32) < 3) = True := by decide
theorem q_le_m14_3 : ((-14 : Int32) ≤ 3) = True := by decide
theorem q_eq_m14_3 : ((-14 : Int32) = 3) = False := by decide
theorem q_lt_m14_4 : ((-14 : Int32) < 4) = True := by decide
theorem q_le_m14_4 : ((-14 : Int32) ≤ 4) = True := by decide
theorem q_eq_m14_4 : ((-14 : Int32) = 4) = False := by decide
theorem q_lt_m14_5 : ((-14 : Int32) < 5) = True := by decide
theorem q_le_m14_5 : ((-14 : Int32) ≤ 5) = True := by decide
theorem q_eq_m14_5 : ((-14 : Int32) = 5) = False := by decide
theorem q_lt_m14_6 : ((-14 : Int32) < 6) = True := by decide
theorem q_le_m14_6 : ((-14 : Int32) ≤ 6) = True := by decide
theorem q_eq_m14_6 : ((-14 : Int32) = 6) = False := by decide
theorem q_lt_m14_7 : ((-14 : Int32) < 7) = True := by decide
theorem q_le_m14_7 : ((-14 : Int32) ≤ 7) = True := by decide
theorem q_eq_m14_7 : ((-14 : Int32) = 7) = False := by decide
theorem q_lt_m14_8 : ((-14 : Int32) < 8) = True := by decide
theorem q_le_m14_8 : ((-14 : Int32) ≤ 8) = True := by decide
theorem q_eq_m14_8 : ((-14 : Int32) = 8) = False := by decide
theorem q_lt_m14_9 : ((-14 : Int32) < 9) = True := by decide
theorem q_le_m14_9 : ((-14 : Int32) ≤ 9) = True := by decide
theorem q_eq_m14_9 : ((-14 : Int32) = 9) = False := by decide
theorem q_lt_m14_10 : ((-14 : Int32) < 10) = True := by decide
theorem q_le_m14_10 : ((-14 : Int32) ≤ 10) = True := by decide
theorem q_eq_m14_10 : ((-14 : Int32) = 10) = False := by decide
theorem q_lt_m13_0 : ((-13 : Int32) < 0) = True := by decide
theorem q_le_m13_0 : ((-13 : Int32) ≤ 0) = True := by decide
theorem q_eq_m13_0 : ((-13 : Int32) = 0) = False := by decide
theorem q_lt_m13_1 : ((-13 : Int32) < 1) = True := by decide
theorem q_le_m13_1 : ((-13 : Int32) ≤ 1) = True := by decide
theorem q_eq_m13_1 : ((-13 : Int32) = 1) = False := by decide
theorem q_lt_m13_2 : ((-13 : Int32) < 2) = True := by decide
theorem q_le_m13_2 : ((-13 : Int32) ≤ 2) = True := by decide
theorem q_eq_m13_2 : ((-13 : Int32) = 2) = False := by decide
theorem q_lt_m13_3 : ((-13 : Int32) < 3) = True := by decide
theorem q_le_m13_3 : ((-13 : Int32) ≤ 3) = True := by decide
theorem q_eq_m13_3 : ((-13 : Int32) = 3) = False := by decide
theorem q_lt_m13_4 : ((-13 : Int32) < 4) = True := by decide
theorem q_le_m13_4 : ((-13 : Int32) ≤ 4) = True := by decide
theorem q_eq_m13_4 : ((-13 : Int32) = 4) = False := by decide
theorem q_lt_m13_5 : ((-13 : Int32) < 5) = True := by decide
theorem q_le_m13_5 : ((-13 : Int32) ≤ 5) = True := by decide
theorem q_eq_m13_5 : ((-13 : Int32) = 5) = False := by decide
theorem q_lt_m13_6 : ((-13 : Int32) < 6) = True := by decide
theorem q_le_m13_6 : ((-13 : Int32) ≤ 6) = True := by decide
theorem q_eq_m13_6 : ((-13 : Int32) = 6) = False := by decide
theorem q_lt_m13_7 : ((-13 : Int32) < 7) = True := by decide
theorem q_le_m13_7 : ((-13 : Int32) ≤ 7) = True := by decide
theorem q_eq_m13_7 : ((-13 : Int32) = 7) = False := by decide
theorem q_lt_m13_8 : ((-13 : Int32) < 8) = True := by decide
theorem q_le_m13_8 : ((-13 : Int32) ≤ 8) = True := by decide
theorem q_eq_m13_8 : ((-13 : Int32) = 8) = False := by decide
theorem q_lt_m13_9 : ((-13 : Int32) < 9) = True := by decide
theorem q_le_m13_9 : ((-13 : Int32) ≤ 9) = True := by decide
theorem q_eq_m13_9 : ((-13 : Int32) = 9) = False := by decide
theorem q_lt_m13_10 : ((-13 : Int32) < 10) = True := by decide
theorem q_le_m13_10 : ((-13 : Int32) ≤ 10) = True := by decide
theorem q_eq_m13_10 : ((-13 : Int32) = 10) = False := by decide
theorem q_lt_m12_0 : ((-12 : Int32) < 0) = True := by decide
theorem q_le_m12_0 : ((-12 : Int32) ≤ 0) = True := by decide
theorem q_eq_m12_0 : ((-12 : Int32) = 0) = False := by decide
theorem q_lt_m12_1 : ((-12 : Int32) < 1) = True := by decide
theorem q_le_m12_1 : ((-12 : Int32) ≤ 1) = True := by decide
theorem q_eq_m12_1 : ((-12 : Int32) = 1) = False := by decide
theorem q_lt_m12_2 : ((-12 : Int32) < 2) = True := by decide
theorem q_le_m12_2 : ((-12 : Int32) ≤ 2) = True := by decide
theorem q_eq_m12_2 : ((-12 : Int32) = 2) = False := by decide
theorem q_lt_m12_3 : ((-12 : Int32) < 3) = True := by decide
theorem q_le_m12_3 : ((-12 : Int32) ≤ 3) = True := by decide
theorem q_eq_m12_3 : ((-12 : Int32) = 3) = False := by decide
theorem q_lt_m12_4 : ((-12 : Int32) < 4) = True := by decide
theorem q_le_m12_4 : ((-12 : Int32) ≤ 4) = True := by decide
theorem q_eq_m12_4 : ((-12 : Int32) = 4) = False := by decide
theorem q_lt_m12_5 : ((-12 : Int32) < 5) = True := by decide
theorem q_le_m12_5 : ((-12 : Int32) ≤ 5) = True := by decide
theorem q_eq_m12_5 : ((-12 : Int32) = 5) = False := by decide
theorem q_lt_m12_6 : ((-12 : Int32) < 6) = True := by decide
theorem q_le_m12_6 : ((-12 : Int32) ≤ 6) = True := by decide
theorem q_eq_m12_6 : ((-12 : Int32) = 6) = False := by decide
theorem q_lt_m12_7 : ((-12 : Int32) < 7) = True := by decide
theorem q_le_m12_7 : ((-12 : Int32) ≤ 7) = True := by decide
theorem q_eq_m12_7 : ((-12 : Int32) = 7) = False := by decide
theorem q_lt_m12_8 : ((-12 : Int32) < 8) = True := by decide
theorem q_le_m12_8 : ((-12 : Int32) ≤ 8) = True := by decide
theorem q_eq_m12_8 : ((-12 : Int32) = 8) = False := by decide
theorem q_lt_m12_9 : ((-12 : Int32) < 9) = True := by decide
theorem q_le_m12_9 : ((-12 : Int32) ≤ 9) = True := by decide
theorem q_eq_m12_9 : ((-12 : Int32) = 9) = False := by decide
theorem q_lt_m12_10 : ((-12 : Int32) < 10) = True := by decide
theorem q_le_m12_10 : ((-12 : Int32) ≤ 10) = True := by decide
theorem q_eq_m12_10 : ((-12 : Int32) = 10) = False := by decide
theorem q_lt_m11_0 : ((-11 : Int32) < 0) = True := by decide
theorem q_le_m11_0 : ((-11 : Int32) ≤ 0) = True := by decide
theorem q_eq_m11_0 : ((-11 : Int32) = 0) = False := by decide
theorem q_lt_m11_1 : ((-11 : Int32) < 1) = True := by decide
theorem q_le_m11_1 : ((-11 : Int32) ≤ 1) = True := by decide
theorem q_eq_m11_1 : ((-11 : Int32) = 1) = False := by decide
theorem q_lt_m11_2 : ((-11 : Int32) < 2) = True := by decide
theorem q_le_m11_2 : ((-11 : Int32) ≤ 2) = True := by decide
theorem q_eq_m11_2 : ((-11 : Int32) = 2) = False := by decide
theorem q_lt_m11_3 : ((-11 : Int32) < 3) = True := by decide
theorem q_le_m11_3 : ((-11 : Int32) ≤ 3) = True := by decide
theorem q_eq_m11_3 : ((-11 : Int32) = 3) = False := by decide
theorem q_lt_m11_4 : ((-11 : Int32) < 4) = True := by decide
theorem q_le_m11_4 : ((-11 : Int32) ≤ 4) = True := by decide
theorem q_eq_m11_4 : ((-11 : Int32) = 4) = False := by decide
theorem q_lt_m11_5 : ((-11 : Int32) < 5) = True := by decide
theorem q_le_m11_5 : ((-11 : Int32) ≤ 5) = True := by decide
theorem q_eq_m11_5 : ((-11 : Int32) = 5) = False := by decide
theorem q_lt_m11_6 : ((-11 : Int32) < 6) = True := by decide
theorem q_le_m11_6 : ((-11 : Int32) ≤ 6) = True := by decide
theorem q_eq_m11_6 : ((-11 : Int32) = 6) = False := by decide
theorem q_lt_m11_7 : ((-11 : Int32) < 7) = True := by decide
theorem q_le_m11_7 : ((-11 : Int32) ≤ 7) = True := by decide
theorem q_eq_m11_7 : ((-11 : Int32) = 7) = False := by decide
theorem q_lt_m11_8 : ((-11 : Int32) < 8) = True := by decide
theorem q_le_m11_8 : ((-11 : Int32) ≤ 8) = True := by decide
theorem q_eq_m11_8 : ((-11 : Int32) = 8) = False := by decide
theorem q_lt_m11_9 : ((-11 : Int32) < 9) = True := by decide
theorem q_le_m11_9 : ((-11 : Int32) ≤ 9) = True := by decide
theorem q_eq_m11_9 : ((-11 : Int32) = 9) = False := by decide
theorem q_lt_m11_10 : ((-11 : Int32) < 10) = True := by decide
theorem q_le_m11_10 : ((-11 : Int32) ≤ 10) = True := by decide
theorem q_eq_m11_10 : ((-11 : Int32) = 10) = False := by decide
theorem q_lt_m10_0 : ((-10 : Int32) < 0) = True := by decide
theorem q_le_m10_0 : ((-10 : Int32) ≤ 0) = True := by decide
theorem q_eq_m10_0 : ((-10 : Int32) = 0) = False := by decide
theorem q_lt_m10_1 : ((-10 : Int32) < 1) = True := by decide
theorem q_le_m10_1 : ((-10 : Int32) ≤ 1) = True := by decide
theorem q_eq_m10_1 : ((-10 : Int32) = 1) = False := by decide
theorem q_lt_m10_2 : ((-10 : Int32) < 2) = True := by decide
theorem q_le_m10_2 : ((-10 : Int32) ≤ 2) = True := by decide
theorem q_eq_m10_2 : ((-10 : Int32) = 2) = False := by decide
theorem q_lt_m10_3 : ((-10 : Int32) < 3) = True := by decide
theorem q_le_m10_3 : ((-10 : Int32) ≤ 3) = True := by decide
theorem q_eq_m10_3 : ((-10 : Int32) = 3) = False := by decide
theorem q_lt_m10_4 : ((-10 : Int32) < 4) = True := by decide
theorem q_le_m10_4 : ((-10 : Int32) ≤ 4) = True := by decide
theorem q_eq_m10_4 : ((-10 : Int32) = 4) = False := by decide
theorem q_lt_m10_5 : ((-10 : Int32) < 5) = True := by decide
theorem q_le_m10_5 : ((-10 : Int32) ≤ 5) = True := by decide
theorem q_eq_m10_5 : ((-10 : Int32) = 5) = False := by decide
theorem q_lt_m10_6 : ((-10 : Int32) < 6) = True := by decide
theorem q_le_m10_6 : ((-10 : Int32) ≤ 6) = True := by decide
theorem q_eq_m10_6 : ((-10 : Int32) = 6) = False := by decide
theorem q_lt_m10_7 : ((-10 : Int32) < 7) = True := by decide
theorem q_le_m10_7 : ((-10 : Int32) ≤ 7) = True := by decide
theorem q_eq_m10_7 : ((-10 : Int32) = 7) = False := by decide
theorem q_lt_m10_8 : ((-10 : Int32) < 8) = True := by decide
theorem q_le_m10_8 : ((-10 : Int32) ≤ 8) = True := by decide
theorem q_eq_m10_8 : ((-10 : Int32) = 8) = False := by decide
theorem q_lt_m10_9 : ((-10 : Int32) < 9) = True := by decide
theorem q_le_m10_9 : ((-10 : Int32) ≤ 9) = True := by decide
theorem q_eq_m10_9 : ((-10 : Int32) = 9) = False := by decide
theorem q_lt_m10_10 : ((-10 : Int32) < 10) = True := by decide
theorem q_le_m10_10 : ((-10 : Int32) ≤ 10) = True := by decide
theorem q_eq_m10_10 : ((-10 : Int32) = 10) = False := by decide
theorem q_lt_m9_0 : ((-9 : Int32) < 0) = True := by decide
theorem q_le_m9_0 : ((-9 : Int32) ≤ 0) = True := by decide
theorem q_eq_m9_0 : ((-9 : Int32) = 0) = False := by decide
theorem q_lt_m9_1 : ((-9 : Int32) < 1) = True := by decide
theorem q_le_m9_1 : ((-9 : Int32) ≤ 1) = True := by decide
theorem q_eq_m9_1 : ((-9 : Int32) = 1) = False := by decide
theorem q_lt_m9_2 : ((-9 : Int32) < 2) = True := by decide
theorem q_le_m9_2 : ((-9 : Int32) ≤ 2) = True := by decide
theorem q_eq_m9_2 : ((-9 : Int32) = 2) = False := by decide
theorem q_lt_m9_3 : ((-9 : Int32) < 3) = True := by decide
theorem q_le_m9_3 : ((-9 : Int32) ≤ 3) = True := by decide
theorem q_eq_m9_3 : ((-9 : Int32) = 3) = False := by decide
theorem q_lt_m9_4 : ((-9 : Int32) < 4) = True := by decide
theorem q_le_m9_4 : ((-9 : Int32) ≤ 4) = True := by decide
theorem q_eq_m9_4 : ((-9 : Int32) = 4) = False := by decide
theorem q_lt_m9_5 : ((-9 : Int32) < 5) = True := by decide
theorem q_le_m9_5 : ((-9 : Int32) ≤ 5) = True := by decide
theorem q_eq_m9_5 : ((-9 : Int32) = 5) = False := by decide
theorem q_lt_m9_6 : ((-9 : Int32) < 6) = True := by decide
theorem q_le_m9_6 : ((-9 : Int32) ≤ 6) = True := by decide
theorem q_eq_m9_6 : ((-9 : Int32) = 6) = False := by decide
theorem q_lt_m9_7 : ((-9 : Int32) < 7) = True := by decide
theorem q_le_m9_7 : ((-9 : Int32) ≤ 7) = True := by decide
theorem q_eq_m9_7 : ((-9 : Int32) = 7) = False := by decide
theorem q_lt_m9_8 : ((-9 : Int32) < 8) = True := by decide
theorem q_le_m9_8 : ((-9 : Int32) ≤ 8) = True := by decide
theorem q_eq_m9_8 : ((-9 : Int32) = 8) = False := by decide
theorem q_lt_m9_9 : ((-9 : Int32) < 9) = True := by decide
theorem q_le_m9_9 : ((-9 : Int32) ≤ 9) = True := by decide
theorem q_eq_m9_9 : ((-9 : Int32) = 9) = False := by decide
theorem q_lt_m9_10 : ((-9 : Int32) < 10) = True := by decide
theorem q_le_m9_10 : ((-9 : Int32) ≤ 10) = True := by decide
theorem q_eq_m9_10 : ((-9 : Int32) = 10) = False := by decide
theorem q_lt_m8_0 : ((-8 : Int32) < 0) = True := by decide
theorem q_le_m8_0 : ((-8 : Int32) ≤ 0) = True := by decide
theorem q_eq_m8_0 : ((-8 : Int32) = 0) = False := by decide
theorem q_lt_m8_1 : ((-8 : Int32) < 1) = True := by decide
theorem q_le_m8_1 : ((-8 : Int32) ≤ 1) = True := by decide
theorem q_eq_m8_1 : ((-8 : Int32) = 1) = False := by decide
theorem q_lt_m8_2 : ((-8 : Int32) < 2) = True := by decide
theorem q_le_m8_2 : ((-8 : Int32) ≤ 2) = True := by decide
theorem q_eq_m8_2 : ((-8 : Int32) = 2) = False := by decide
theorem q_lt_m8_3 : ((-8 : Int32) < 3) = True := by decide
theorem q_le_m8_3 : ((-8 : Int32) ≤ 3) = True := by decide
theorem q_eq_m8_3 : ((-8 : Int32) = 3) = False := by decide
theorem q_lt_m8_4 : ((-8 : Int32) < 4) = True := by decide
theorem q_le_m8_4 : ((-8 : Int32) ≤ 4) = True := by decide
theorem q_eq_m8_4 : ((-8 : Int32) = 4) = False := by decide
theorem q_lt_m8_5 : ((-8 : Int32) < 5) = True := by decide
theorem q_le_m8_5 : ((-8 : Int32) ≤ 5) = True := by decide
theorem q_eq_m8_5 : ((-8 : Int32) = 5) = False := by decide
theorem q_lt_m8_6 : ((-8 : Int32) < 6) = True := by decide
theorem q_le_m8_6 : ((-8 : Int32) ≤ 6) = True := by decide
theorem q_eq_m8_6 : ((-8 : Int32) = 6) = False := by decide
theorem q_lt_m8_7 : ((-8 : Int32) < 7) = True := by decide
theorem q_le_m8_7 : ((-8 : Int32) ≤ 7) = True := by decide
theorem q_eq_m8_7 : ((-8 : Int32) = 7) = False := by decide
theorem q_lt_m8_8 : ((-8 : Int32) < 8) = True := by decide
theorem q_le_m8_8 : ((-8 : Int32) ≤ 8) = True := by decide
theorem q_eq_m8_8 : ((-8 : Int32) = 8) = False := by decide
theorem q_lt_m8_9 : ((-8 : Int32) < 9) = True := by decide
theorem q_le_m8_9 : ((-8 : Int32) ≤ 9) = True := by decide
theorem q_eq_m8_9 : ((-8 : Int32) = 9) = False := by decide
theorem q_lt_m8_10 : ((-8 : Int32) < 10) = True := by decide
theorem q_le_m8_10 : ((-8 : Int32) ≤ 10) = True := by decide
theorem q_eq_m8_10 : ((-8 : Int32) = 10) = False := by decide
theorem q_lt_m7_0 : ((-7 : Int32) < 0) = True := by decide
theorem q_le_m7_0 : ((-7 : Int32) ≤ 0) = True := by decide
theorem q_eq_m7_0 : ((-7 : Int32) = 0) = False := by decide
theorem q_lt_m7_1 : ((-7 : Int32) < 1) = True := by decide
theorem q_le_m7_1 : ((-7 : Int32) ≤ 1) = True := by decide
theorem q_eq_m7_1 : ((-7 : Int32) = 1) = False := by decide
theorem q_lt_m7_2 : ((-7 : Int32) < 2) = True := by decide
theorem q_le_m7_2 : ((-7 : Int32) ≤ 2) = True := by decide
theorem q_eq_m7_2 : ((-7 : Int32) = 2) = False := by decide
theorem q_lt_m7_3 : ((-7 : Int32) < 3) = True := by decide
theorem q_le_m7_3 : ((-7 : Int32) ≤ 3) = True := by decide
theorem q_eq_m7_3 : ((-7 : Int32) = 3) = False := by decide
theorem q_lt_m7_4 : ((-7 : Int32) < 4) = True := by decide
theorem q_le_m7_4 : ((-7 : Int32) ≤ 4) = True := by decide
theorem q_eq_m7_4 : ((-7 : Int32) = 4) = False := by decide
theorem q_lt_m7_5 : ((-7 : Int32) < 5) = True := by decide
theorem q_le_m7_5 : ((-7 : Int32) ≤ 5) = True := by decide
theorem q_eq_m7_5 : ((-7 : Int32) = 5) = False := by decide
theorem q_lt_m7_6 : ((-7 : Int32) < 6) = True := by decide
theorem q_le_m7_6 : ((-7 : Int32) ≤ 6) = True := by decide
theorem q_eq_m7_6 : ((-7 : Int32) = 6) = False := by decide
theorem q_lt_m7_7 : ((-7 : Int32) < 7) = True := by decide
theorem q_le_m7_7 : ((-7 : Int32) ≤ 7) = True := by decide
theorem q_eq_m7_7 : ((-7 : Int32) = 7) = False := by decide
theorem q_lt_m7_8 : ((-7 : Int32) < 8) = True := by decide
theorem q_le_m7_8 : ((-7 : Int32) ≤ 8) = True := by decide
theorem q_eq_m7_8 : ((-7 : Int32) = 8) = False := by decide
theorem q_lt_m7_9 : ((-7 : Int32) < 9) = True := by decide
theorem q_le_m7_9 : ((-7 : Int32) ≤ 9) = True := by decide
theorem q_eq_m7_9 : ((-7 : Int32) = 9) = False := by decide
theorem q_lt_m7_10 : ((-7 : Int32) < 10) = True := by decide
theorem q_le_m7_10 : ((-7 : Int32) ≤ 10) = True := by decide
theorem q_eq_m7_10 : ((-7 : Int32) = 10) = False := by decide
theorem q_lt_m6_0 : ((-6 : Int32) < 0) = True := by decide
theorem q_le_m6_0 : ((-6 : Int32) ≤ 0) = True := by decide
theorem q_eq_m6_0 : ((-6 : Int32) = 0) = False := by decide
theorem q_lt_m6_1 : ((-6 : Int32) < 1) = True := by decide
theorem q_le_m6_1 : ((-6 : Int32) ≤ 1) = True := by decide
theorem q_eq_m6_1 : ((-6 : Int32) = 1) = False := by decide
theorem q_lt_m6_2 : ((-6 : Int32) < 2) = True := by decide
theorem q_le_m6_2 : ((-6 : Int32) ≤ 2) = True := by decide
theorem q_eq_m6_2 : ((-6 : Int32) = 2) = False := by decide
theorem q_lt_m6_3 : ((-6 : Int32) < 3) = True := by decide
theorem q_le_m6_3 : ((-6 : Int32) ≤ 3) = True := by decide
theorem q_eq_m6_3 : ((-6 : Int32) = 3) = False := by decide
theorem q_lt_m6_4 : ((-6 : Int32) < 4) = True := by decide
theorem q_le_m6_4 : ((-6 : Int32) ≤ 4) = True := by decide
theorem q_eq_m6_4 : ((-6 : Int32) = 4) = False := by decide
theorem q_lt_m6_5 : ((-6 : Int32) < 5) = True := by decide
theorem q_le_m6_5 : ((-6 : Int32) ≤ 5) = True := by decide
theorem q_eq_m6_5 : ((-6 : Int32) = 5) = False := by decide
theorem q_lt_m6_6 : ((-6 : Int32) < 6) = True := by decide
theorem q_le_m6_6 : ((-6 : Int32) ≤ 6) = True := by decide
theorem q_eq_m6_6 : ((-6 : Int32) = 6) = False := by decide
theorem q_lt_m6_7 : ((-6 : Int32) < 7) = True := by decide
theorem q_le_m6_7 : ((-6 : Int32) ≤ 7) = True := by decide
theorem q_eq_m6_7 : ((-6 : Int32) = 7) = False := by decide
theorem q_lt_m6_8 : ((-6 : Int32) < 8) = True := by decide
theorem q_le_m6_8 : ((-6 : Int32) ≤ 8) = True := by decide
theorem q_eq_m6_8 : ((-6 : Int32) = 8) = False := by decide
theorem q_lt_m6_9 : ((-6 : Int32) < 9) = True := by decide
theorem q_le_m6_9 : ((-6 : Int32) ≤ 9) = True := by decide
theorem q_eq_m6_9 : ((-6 : Int32) = 9) = False := by decide
theorem q_lt_m6_10 : ((-6 : Int32) < 10) = True := by decide
theorem q_le_m6_10 : ((-6 : Int32) ≤ 10) = True := by decide
theorem q_eq_m6_10 : ((-6 : Int32) = 10) = False := by decide
theorem q_lt_m5_0 : ((-5 : Int32) < 0) = True := by decide
theorem q_le_m5_0 : ((-5 : Int32) ≤ 0) = True := by decide
theorem q_eq_m5_0 : ((-5 : Int32) = 0) = False := by decide
theorem q_lt_m5_1 : ((-5 : Int32) < 1) = True := by decide
theorem q_le_m5_1 : ((-5 : Int32) ≤ 1) = True := by decide
theorem q_eq_m5_1 : ((-5 : Int32) = 1) = False := by decide
theorem q_lt_m5_2 : ((-5 : Int32) < 2) = True := by decide
theorem q_le_m5_2 : ((-5 : Int32) ≤ 2) = True := by decide
theorem q_eq_m5_2 : ((-5 : Int32) = 2) = False := by decide
theorem q_lt_m5_3 : ((-5 : Int32) < 3) = True := by decide
theorem q_le_m5_3 : ((-5 : Int32) ≤ 3) = True := by decide
theorem q_eq_m5_3 : ((-5 : Int32) = 3) = False := by decide
theorem q_lt_m5_4 : ((-5 : Int32) < 4) = True := by decide
theorem q_le_m5_4 : ((-5 : Int32) ≤ 4) = True := by decide
theorem q_eq_m5_4 : ((-5 : Int32) = 4) = False := by decide
theorem q_lt_m5_5 : ((-5 : Int32) < 5) = True := by decide
theorem q_le_m5_5 : ((-5 : Int32) ≤ 5) = True := by decide
theorem q_eq_m5_5 : ((-5 : Int32) = 5) = False := by decide
theorem q_lt_m5_6 : ((-5 : Int32) < 6) = True := by decide
theorem q_le_m5_6 : ((-5 : Int32) ≤ 6) = True := by decide
theorem q_eq_m5_6 : ((-5 : Int32) = 6) = False := by decide
theorem q_lt_m5_7 : ((-5 : Int32) < 7) = True := by decide
theorem q_le_m5_7 : ((-5 : Int32) ≤ 7) = True := by decide
theorem q_eq_m5_7 : ((-5 : Int32) = 7) = False := by decide
theorem q_lt_m5_8 : ((-5 : Int32) < 8) = True := by decide
theorem q_le_m5_8 : ((-5 : Int32) ≤ 8) = True := by decide
theorem q_eq_m5_8 : ((-5 : Int32) = 8) = False := by decide
theorem q_lt_m5_9 : ((-5 : Int32) < 9) = True := by decide
theorem q_le_m5_9 : ((-5 : Int32) ≤ 9) = True := by decide
theorem q_eq_m5_9 : ((-5 : Int32) = 9) = False := by decide
theorem q_lt_m5_10 : ((-5 : Int32) < 10) = True := by decide
theorem q_le_m5_10 : ((-5 : Int32) ≤ 10) = True := by decide
theorem q_eq_m5_10 : ((-5 : Int32) = 10) = False := by decide
theorem q_lt_m4_0 : ((-4 : Int32) < 0) = True := by decide
theorem q_le_m4_0 : ((-4 : Int32) ≤ 0) = True := by decide
theorem q_eq_m4_0 : ((-4 : Int32) = 0) = False := by decide
theorem q_lt_m4_1 : ((-4 : Int32) < 1) = True := by decide
theorem q_le_m4_1 : ((-4 : Int32) ≤ 1) = True := by decide
theorem q_eq_m4_1 : ((-4 : Int32) = 1) = False := by decide
theorem q_lt_m4_2 : ((-4 : Int32) < 2) = True := by decide
theorem q_le_m4_2 : ((-4 : Int32) ≤ 2) = True := by decide
theorem q_eq_m4_2 : ((-4 : Int32) = 2) = False := by decide
theorem q_lt_m4_3 : ((-4 : Int32) < 3) = True := by decide
theorem q_le_m4_3 : ((-4 : Int32) ≤ 3) = True := by decide
theorem q_eq_m4_3 : ((-4 : Int32) = 3) = False := by decide
theorem q_lt_m4_4 : ((-4 : Int32) < 4) = True := by decide
theorem q_le_m4_4 : ((-4 : Int32) ≤ 4) = True := by decide
theorem q_eq_m4_4 : ((-4 : Int32) = 4) = False := by decide
theorem q_lt_m4_5 : ((-4 : Int32) < 5) = True := by decide
theorem q_le_m4_5 : ((-4 : Int32) ≤ 5) = True := by decide
theorem q_eq_m4_5 : ((-4 : Int32) = 5) = False := by decide
theorem q_lt_m4_6 : ((-4 : Int32) < 6) = True := by decide
theorem q_le_m4_6 : ((-4 : Int32) ≤ 6) = True := by decide
theorem q_eq_m4_6 : ((-4 : Int32) = 6) = False := by decide
theorem q_lt_m4_7 : ((-4 : Int32) < 7) = True := by decide
theorem q_le_m4_7 : ((-4 : Int32) ≤ 7) = True := by decide
theorem q_eq_m4_7 : ((-4 : Int32) = 7) = False := by decide
theorem q_lt_m4_8 : ((-4 : Int32) < 8) = True := by decide
theorem q_le_m4_8 : ((-4 : Int32) ≤ 8) = True := by decide
theorem q_eq_m4_8 : ((-4 : Int32) = 8) = False := by decide
theorem q_lt_m4_9 : ((-4 : Int32) < 9) = True := by decide
theorem q_le_m4_9 : ((-4 : Int32) ≤ 9) = True := by decide
theorem q_eq_m4_9 : ((-4 : Int32) = 9) = False := by decide
theorem q_lt_m4_10 : ((-4 : Int32) < 10) = True := by decide
theorem q_le_m4_10 : ((-4 : Int32) ≤ 10) = True := by decide
theorem q_eq_m4_10 : ((-4 : Int32) = 10) = False := by decide
theorem q_lt_m3_0 : ((-3 : Int32) < 0) = True := by decide
theorem q_le_m3_0 : ((-3 : Int32) ≤ 0) = True := by decide
theorem q_eq_m3_0 : ((-3 : Int32) = 0) = False := by decide
theorem q_lt_m3_1 : ((-3 : Int32) < 1) = True := by decide
theorem q_le_m3_1 : ((-3 : Int32) ≤ 1) = True := by decide
theorem q_eq_m3_1 : ((-3 : Int32) = 1) = False := by decide
theorem q_lt_m3_2 : ((-3 : Int32) < 2) = True := by decide
theorem q_le_m3_2 : ((-3 : Int32) ≤ 2) = True := by decide
theorem q_eq_m3_2 : ((-3 : Int32) = 2) = False := by decide
theorem q_lt_m3_3 : ((-3 : Int32) < 3) = True := by decide
theorem q_le_m3_3 : ((-3 : Int32) ≤ 3) = True := by decide
theorem q_eq_m3_3 : ((-3 : Int32) = 3) = False := by decide
theorem q_lt_m3_4 : ((-3 : Int32) < 4) = True := by decide
theorem q_le_m3_4 : ((-3 : Int32) ≤ 4) = True := by decide
theorem q_eq_m3_4 : ((-3 : Int32) = 4) = False := by decide
theorem q_lt_m3_5 : ((-3 : Int32) < 5) = True := by decide
theorem q_le_m3_5 : ((-3 : Int32) ≤ 5) = True := by decide
theorem q_eq_m3_5 : ((-3 : Int32) = 5) = False := by decide
theorem q_lt_m3_6 : ((-3 : Int32) < 6) = True := by decide
theorem q_le_m3_6 : ((-3 : Int32) ≤ 6) = True := by decide
theorem q_eq_m3_6 : ((-3 : Int32) = 6) = False := by decide
theorem q_lt_m3_7 : ((-3 : Int32) < 7) = True := by decide
theorem q_le_m3_7 : ((-3 : Int32) ≤ 7) = True := by decide
theorem q_eq_m3_7 : ((-3 : Int32) = 7) = False := by decide
theorem q_lt_m3_8 : ((-3 : Int32) < 8) = True := by decide
theorem q_le_m3_8 : ((-3 : Int32) ≤ 8) = True := by decide
theorem q_eq_m3_8 : ((-3 : Int32) = 8) = False := by decide
theorem q_lt_m3_9 : ((-3 : Int32) < 9) = True := by decide
theorem q_le_m3_9 : ((-3 : Int32) ≤ 9) = True := by decide
theorem q_eq_m3_9 : ((-3 : Int32) = 9) = False := by decide
theorem q_lt_m3_10 : ((-3 : Int32) < 10) = True := by decide
theorem q_le_m3_10 : ((-3 : Int32) ≤ 10) = True := by decide
theorem q_eq_m3_10 : ((-3 : Int32) = 10) = False := by decide
theorem q_lt_m2_0 : ((-2 : Int32) < 0) = True := by decide
theorem q_le_m2_0 : ((-2 : Int32) ≤ 0) = True := by decide
theorem q_eq_m2_0 : ((-2 : Int32) = 0) = False := by decide
theorem q_lt_m2_1 : ((-2 : Int32) < 1) = True := by decide
theorem q_le_m2_1 : ((-2 : Int32) ≤ 1) = True := by decide
theorem q_eq_m2_1 : ((-2 : Int32) = 1) = False := by decide
theorem q_lt_m2_2 : ((-2 : Int32) < 2) = True := by decide
theorem q_le_m2_2 : ((-2 : Int32) ≤ 2) = True := by decide
theorem q_eq_m2_2 : ((-2 : Int32) = 2) = False := by decide
theorem q_lt_m2_3 : ((-2 : Int32) < 3) = True := by decide
theorem q_le_m2_3 : ((-2 : Int32) ≤ 3) = True := by decide
theorem q_eq_m2_3 : ((-2 : Int32) = 3) = False := by decide
theorem q_lt_m2_4 : ((-2 : Int32) < 4) = True := by decide
theorem q_le_m2_4 : ((-2 : Int32) ≤ 4) = True := by decide
theorem q_eq_m2_4 : ((-2 : Int32) = 4) = False := by decide
theorem q_lt_m2_5 : ((-2 : Int32) < 5) = True := by decide
theorem q_le_m2_5 : ((-2 : Int32) ≤ 5) = True := by decide
theorem q_eq_m2_5 : ((-2 : Int32) = 5) = False := by decide
theorem q_lt_m2_6 : ((-2 : Int32) < 6) = True := by decide
theorem q_le_m2_6 : ((-2 : Int32) ≤ 6) = True := by decide
theorem q_eq_m2_6 : ((-2 : Int32) = 6) = False := by decide
theorem q_lt_m2_7 : ((-2 : Int32) < 7) = True := by decide
theorem q_le_m2_7 : ((-2 : Int32) ≤ 7) = True := by decide
theorem q_eq_m2_7 : ((-2 : Int32) = 7) = False := by decide
theorem q_lt_m2_8 : ((-2 : Int32) < 8) = True := by decide
theorem q_le_m2_8 : ((-2 : Int32) ≤ 8) = True := by decide
theorem q_eq_m2_8 : ((-2 : Int32) = 8) = False := by decide
theorem q_lt_m2_9 : ((-2 : Int32) < 9) = True := by decide
theorem q_le_m2_9 : ((-2 : Int32) ≤ 9) = True := by decide
theorem q_eq_m2_9 : ((-2 : Int32) = 9) = False := by decide
theorem q_lt_m2_10 : ((-2 : Int32) < 10) = True := by decide
theorem q_le_m2_10 : ((-2 : Int32) ≤ 10) = True := by decide
theorem q_eq_m2_10 : ((-2 : Int32) = 10) = False := by decide
theorem q_lt_m1_0 : ((-1 : Int32) < 0) = True := by decide
theorem q_le_m1_0 : ((-1 : Int32) ≤ 0) = True := by decide
theorem q_eq_m1_0 : ((-1 : Int32) = 0) = False := by decide
theorem q_lt_m1_1 : ((-1 : Int32) < 1) = True := by decide
theorem q_le_m1_1 : ((-1 : Int32) ≤ 1) = True := by decide
theorem q_eq_m1_1 : ((-1 : Int32) = 1) = False := by decide
theorem q_lt_m1_2 : ((-1 : Int32) < 2) = True := by decide
theorem q_le_m1_2 : ((-1 : Int32) ≤ 2) = True := by decide
theorem q_eq_m1_2 : ((-1 : Int32) = 2) = False := by decide
theorem q_lt_m1_3 : ((-1 : Int32) < 3) = True := by decide
theorem q_le_m1_3 : ((-1 : Int32) ≤ 3) = True := by decide
theorem q_eq_m1_3 : ((-1 : Int32) = 3) = False := by decide
theorem q_lt_m1_4 : ((-1 : Int32) < 4) = True := by decide
theorem q_le_m1_4 : ((-1 : Int32) ≤ 4) = True := by decide
theorem q_eq_m1_4 : ((-1 : Int32) = 4) = False := by decide
theorem q_lt_m1_5 : ((-1 : Int32) < 5) = True := by decide
theorem q_le_m1_5 : ((-1 : Int32) ≤ 5) = True := by decide
theorem q_eq_m1_5 : ((-1 : Int32) = 5) = False := by decide
theorem q_lt_m1_6 : ((-1 : Int32) < 6) = True := by decide
theorem q_le_m1_6 : ((-1 : Int32) ≤ 6) = True := by decide
theorem q_eq_m1_6 : ((-1 : Int32) = 6) = False := by decide
theorem q_lt_m1_7 : ((-1 : Int32) < 7) = True := by decide
theorem q_le_m1_7 : ((-1 : Int32) ≤ 7) = True := by decide
theorem q_eq_m1_7 : ((-1 : Int32) = 7) = False := by decide
theorem q_lt_m1_8 : ((-1 : Int32) < 8) = True := by decide
theorem q_le_m1_8 : ((-1 : Int32) ≤ 8) = True := by decide
theorem q_eq_m1_8 : ((-1 : Int32) = 8) = False := by decide
theorem q_lt_m1_9 : ((-1 : Int32) < 9) = True := by decide
theorem q_le_m1_9 : ((-1 : Int32) ≤ 9) = True := by decide
theorem q_eq_m1_9 : ((-1 : Int32) = 9) = False := by decide
theorem q_lt_m1_10 : ((-1 : Int32) < 10) = True := by decide
theorem q_le_m1_10 : ((-1 : Int32) ≤ 10) = True := by decide
theorem q_eq_m1_10 : ((-1 : Int32) = 10) = False := by decide
theorem q_lt_0_0 : ((0 : Int32) < 0) = False := by decide
theorem q_le_0_0 : ((0 : Int32) ≤ 0) = True := by decide
theorem q_lt_0_1 : ((0 : Int32) < 1) = True := by decide
theorem q_le_0_1 : ((0 : Int32) ≤ 1) = True := by decide
theorem q_eq_0_1 : ((0 : Int32) = 1) = False := by decide
theorem q_lt_0_2 : ((0 : Int32) < 2) = True := by decide
theorem q_le_0_2 : ((0 : Int32) ≤ 2) = True := by decide
theorem q_eq_0_2 : ((0 : Int32) = 2) = False := by decide
theorem q_lt_0_3 : ((0 : Int32) < 3) = True := by decide
theorem q_le_0_3 : ((0 : Int32) ≤ 3) = True := by decide
theorem q_eq_0_3 : ((0 : Int32) = 3) = False := by decide
theorem q_lt_0_4 : ((0 : Int32) < 4) = True := by decide
theorem q_le_0_4 : ((0 : Int32) ≤ 4) = True := by decide
theorem q_eq_0_4 : ((0 : Int32) = 4) = False := by decide
theorem q_lt_0_5 : ((0 : Int32) < 5) = True := by decide
theorem q_le_0_5 : ((0 : Int32) ≤ 5) = True := by decide
theorem q_eq_0_5 : ((0 : Int32) = 5) = False := by decide
theorem q_lt_0_6 : ((0 : Int32) < 6) = True := by decide
theorem q_le_0_6 : ((0 : Int32) ≤ 6) = True := by decide
theorem q_eq_0_6 : ((0 : Int32) = 6) = False := by decide
theorem q_lt_0_7 : ((0 : Int32) < 7) = True := by decide
theorem q_le_0_7 : ((0 : Int32) ≤ 7) = True := by decide
theorem q_eq_0_7 : ((0 : Int32) = 7) = False := by decide
theorem q_lt_0_8 : ((0 : Int32) < 8) = True := by decide
theorem q_le_0_8 : ((0 : Int32) ≤ 8) = True := by decide
theorem q_eq_0_8 : ((0 : Int32) = 8) = False := by decide
theorem q_lt_0_9 : ((0 : Int32) < 9) = True := by decide
theorem q_le_0_9 : ((0 : Int32) ≤ 9) = True := by decide
theorem q_eq_0_9 : ((0 : Int32) = 9) = False := by decide
theorem q_lt_0_10 : ((0 : Int32) < 10) = True := by decide
theorem q_le_0_10 : ((0 : Int32) ≤ 10) = True := by decide
theorem q_eq_0_10 : ((0 : Int32) = 10) = False := by decide
theorem q_lt_1_0 : ((1 : Int32) < 0) = False := by decide
theorem q_le_1_0 : ((1 : Int32) ≤ 0) = False := by decide
theorem q_eq_1_0 : ((1 : Int32) = 0) = False := by decide
theorem q_lt_1_1 : ((1 : Int32) < 1) = False := by decide
theorem q_le_1_1 : ((1 : Int32) ≤ 1) = True := by decide
theorem q_lt_1_2 : ((1 : Int32) < 2) = True := by decide
theorem q_le_1_2 : ((1 : Int32) ≤ 2) = True := by decide
theorem q_eq_1_2 : ((1 : Int32) = 2) = False := by decide
theorem q_lt_1_3 : ((1 : Int32) < 3) = True := by decide
theorem q_le_1_3 : ((1 : Int32) ≤ 3) = True := by decide
theorem q_eq_1_3 : ((1 : Int32) = 3) = False := by decide
theorem q_lt_1_4 : ((1 : Int32) < 4) = True := by decide
theorem q_le_1_4 : ((1 : Int32) ≤ 4) = True := by decide
theorem q_eq_1_4 : ((1 : Int32) = 4) = False := by decide
theorem q_lt_1_5 : ((1 : Int32) < 5) = True := by decide
theorem q_le_1_5 : ((1 : Int32) ≤ 5) = True := by decide
theorem q_eq_1_5 : ((1 : Int32) = 5) = False := by decide
theorem q_lt_1_6 : ((1 : Int32) < 6) = True := by decide
theorem q_le_1_6 : ((1 : Int32) ≤ 6) = True := by decide
theorem q_eq_1_6 : ((1 : Int32) = 6) = False := by decide
theorem q_lt_1_7 : ((1 : Int32) < 7) = True := by decide
theorem q_le_1_7 : ((1 : Int32) ≤ 7) = True := by decide
theorem q_eq_1_7 : ((1 : Int32) = 7) = False := by decide
theorem q_lt_1_8 : ((1 : Int32) < 8) = True := by decide
theorem q_le_1_8 : ((1 : Int32) ≤ 8) = True := by decide
theorem q_eq_1_8 : ((1 : Int32) = 8) = False := by decide
theorem q_lt_1_9 : ((1 : Int32) < 9) = True := by decide
theorem q_le_1_9 : ((1 : Int32) ≤ 9) = True := by decide
theorem q_eq_1_9 : ((1 : Int32) = 9) = False := by decide
theorem q_lt_1_10 : ((1 : Int32) < 10) = True := by decide
theorem q_le_1_10 : ((1 : Int32) ≤ 10) = True := by decide
theorem q_eq_1_10 : ((1 : Int32) = 10) = False := by decide
theorem q_lt_2_0 : ((2 : Int32) < 0) = False := by decide
theorem q_le_2_0 : ((2 : Int32) ≤ 0) = False := by decide
theorem q_eq_2_0 : ((2 : Int32) = 0) = False := by decide
theorem q_lt_2_1 : ((2 : Int32) < 1) = False := by decide
theorem q_le_2_1 : ((2 : Int32) ≤ 1) = False := by decide
theorem q_eq_2_1 : ((2 : Int32) = 1) = False := by decide
theorem q_lt_2_2 : ((2 : Int32) < 2) = False := by decide
theorem q_le_2_2 : ((2 : Int32) ≤ 2) = True := by decide
theorem q_lt_2_3 : ((2 : Int32) < 3) = True := by decide
theorem q_le_2_3 : ((2 : Int32) ≤ 3) = True := by decide
theorem q_eq_2_3 : ((2 : Int32) = 3) = False := by decide
theorem q_lt_2_4 : ((2 : Int32) < 4) = True := by decide
theorem q_le_2_4 : ((2 : Int32) ≤ 4) = True := by decide
theorem q_eq_2_4 : ((2 : Int32) = 4) = False := by decide
theorem q_lt_2_5 : ((2 : Int32) < 5) = True := by decide
theorem q_le_2_5 : ((2 : Int32) ≤ 5) = True := by decide
theorem q_eq_2_5 : ((2 : Int32) = 5) = False := by decide
theorem q_lt_2_6 : ((2 : Int32) < 6) = True := by decide
theorem q_le_2_6 : ((2 : Int32) ≤ 6) = True := by decide
theorem q_eq_2_6 : ((2 : Int32) = 6) = False := by decide
theorem q_lt_2_7 : ((2 : Int32) < 7) = True := by decide
theorem q_le_2_7 : ((2 : Int32) ≤ 7) = True := by decide
theorem q_eq_2_7 : ((2 : Int32) = 7) = False := by decide
theorem q_lt_2_8 : ((2 : Int32) < 8) = True := by decide
theorem q_le_2_8 : ((2 : Int32) ≤ 8) = True := by decide
theorem q_eq_2_8 : ((2 : Int32) = 8) = False := by decide
theorem q_lt_2_9 : ((2 : Int32) < 9) = True := by decide
theorem q_le_2_9 : ((2 : Int32) ≤ 9) = True := by decide
theorem q_eq_2_9 : ((2 : Int32) = 9) = False := by decide
theorem q_lt_2_10 : ((2 : Int32) < 10) = True := by decide
theorem q_le_2_10 : ((2 : Int32) ≤ 10) = True := by decide
theorem q_eq_2_10 : ((2 : Int32) = 10) = False := by decide
theorem q_lt_3_0 : ((3 : Int32) < 0) = False := by decide
theorem q_le_3_0 : ((3 : Int32) ≤ 0) = False := by decide
theorem q_eq_3_0 : ((3 : Int32) = 0) = False := by decide
theorem q_lt_3_1 : ((3 : Int32) < 1) = False := by decide
theorem q_le_3_1 : ((3 : Int32) ≤ 1) = False := by decide
theorem q_eq_3_1 : ((3 : Int32) = 1) = False := by decide
theorem q_lt_3_2 : ((3 : Int32) < 2) = False := by decide
theorem q_le_3_2 : ((3 : Int32) ≤ 2) = False := by decide
theorem q_eq_3_2 : ((3 : Int32) = 2) = False := by decide
theorem q_lt_3_3 : ((3 : Int32) < 3) = False := by decide
theorem q_le_3_3 : ((3 : Int32) ≤ 3) = True := by decide
theorem q_lt_3_4 : ((3 : Int32) < 4) = True := by decide
theorem q_le_3_4 : ((3 : Int32) ≤ 4) = True := by decide
theorem q_eq_3_4 : ((3 : Int32) = 4) = False := by decide
theorem q_lt_3_5 : ((3 : Int32) < 5) = True := by decide
theorem q_le_3_5 : ((3 : Int32) ≤ 5) = True := by decide
theorem q_eq_3_5 : ((3 : Int32) = 5) = False := by decide
theorem q_lt_3_6 : ((3 : Int32) < 6) = True := by decide
theorem q_le_3_6 : ((3 : Int32) ≤ 6) = True := by decide
theorem q_eq_3_6 : ((3 : Int32) = 6) = False := by decide
theorem q_lt_3_7 : ((3 : Int32) < 7) = True := by decide
theorem q_le_3_7 : ((3 : Int32) ≤ 7) = True := by decide
theorem q_eq_3_7 : ((3 : Int32) = 7) = False := by decide
theorem q_lt_3_8 : ((3 : Int32) < 8) = True := by decide
theorem q_le_3_8 : ((3 : Int32) ≤ 8) = True := by decide
theorem q_eq_3_8 : ((3 : Int32) = 8) = False := by decide
theorem q_lt_3_9 : ((3 : Int32) < 9) = True := by decide
theorem q_le_3_9 : ((3 : Int32) ≤ 9) = True := by decide
theorem q_eq_3_9 : ((3 : Int32) = 9) = False := by decide
theorem q_lt_3_10 : ((3 : Int32) < 10) = True := by decide
theorem q_le_3_10 : ((3 : Int32) ≤ 10) = True := by decide
theorem q_eq_3_10 : ((3 : Int32) = 10) = False := by decide
theorem q_lt_4_0 : ((4 : Int32) < 0) = False := by decide
theorem q_le_4_0 : ((4 : Int32) ≤ 0) = False := by decide
theorem q_eq_4_0 : ((4 : Int32) = 0) = False := by decide
theorem q_lt_4_1 : ((4 : Int32) < 1) = False := by decide
theorem q_le_4_1 : ((4 : Int32) ≤ 1) = False := by decide
theorem q_eq_4_1 : ((4 : Int32) = 1) = False := by decide
theorem q_lt_4_2 : ((4 : Int32) < 2) = False := by decide
theorem q_le_4_2 : ((4 : Int32) ≤ 2) = False := by decide
theorem q_eq_4_2 : ((4 : Int32) = 2) = False := by decide
theorem q_lt_4_3 : ((4 : Int32) < 3) = False := by decide
theorem q_le_4_3 : ((4 : Int32) ≤ 3) = False := by decide
theorem q_eq_4_3 : ((4 : Int32) = 3) = False := by decide
theorem q_lt_4_4 : ((4 : Int32) < 4) = False := by decide
theorem q_le_4_4 : ((4 : Int32) ≤ 4) = True := by decide
theorem q_lt_4_5 : ((4 : Int32) < 5) = True := by decide
theorem q_le_4_5 : ((4 : Int32) ≤ 5) = True := by decide
theorem q_eq_4_5 : ((4 : Int32) = 5) = False := by decide
theorem q_lt_4_6 : ((4 : Int32) < 6) = True := by decide
theorem q_le_4_6 : ((4 : Int32) ≤ 6) = True := by decide
theorem q_eq_4_6 : ((4 : Int32) = 6) = False := by decide
theorem q_lt_4_7 : ((4 : Int32) < 7) = True := by decide
theorem q_le_4_7 : ((4 : Int32) ≤ 7) = True := by decide
theorem q_eq_4_7 : ((4 : Int32) = 7) = False := by decide
theorem q_lt_4_8 : ((4 : Int32) < 8) = True := by decide
theorem q_le_4_8 : ((4 : Int32) ≤ 8) = True := by decide
theorem q_eq_4_8 : ((4 : Int32) = 8) = False := by decide
theorem q_lt_4_9 : ((4 : Int32) < 9) = True := by decide
theorem q_le_4_9 : ((4 : Int32) ≤ 9) = True := by decide
theorem q_eq_4_9 : ((4 : Int32) = 9) = False := by decide
theorem q_lt_4_10 : ((4 : Int32) < 10) = True := by decide
theorem q_le_4_10 : ((4 : Int32) ≤ 10) = True := by decide
theorem q_eq_4_10 : ((4 : Int32) = 10) = False := by decide
theorem q_lt_5_0 : ((5 : Int32) < 0) = False := by decide
theorem q_le_5_0 : ((5 : Int32) ≤ 0) = False := by decide
theorem q_eq_5_0 : ((5 : Int32) = 0) = False := by decide
theorem q_lt_5_1 : ((5 : Int32) < 1) = False := by decide
theorem q_le_5_1 : ((5 : Int32) ≤ 1) = False := by decide
theorem q_eq_5_1 : ((5 : Int32) = 1) = False := by decide
theorem q_lt_5_2 : ((5 : Int32) < 2) = False := by decide
theorem q_le_5_2 : ((5 : Int32) ≤ 2) = False := by decide
theorem q_eq_5_2 : ((5 : Int32) = 2) = False := by decide
theorem q_lt_5_3 : ((5 : Int32) < 3) = False := by decide
theorem q_le_5_3 : ((5 : Int32) ≤ 3) = False := by decide
theorem q_eq_5_3 : ((5 : Int32) = 3) = False := by decide
theorem q_lt_5_4 : ((5 : Int32) < 4) = False := by decide
theorem q_le_5_4 : ((5 : Int32) ≤ 4) = False := by decide
theorem q_eq_5_4 : ((5 : Int32) = 4) = False := by decide
theorem q_lt_5_5 : ((5 : Int32) < 5) = False := by decide
theorem q_le_5_5 : ((5 : Int32) ≤ 5) = True := by decide
theorem q_lt_5_6 : ((5 : Int32) < 6) = True := by decide
theorem q_le_5_6 : ((5 : Int32) ≤ 6) = True := by decide
theorem q_eq_5_6 : ((5 : Int32) = 6) = False := by decide
theorem q_lt_5_7 : ((5 : Int32) < 7) = True := by decide
theorem q_le_5_7 : ((5 : Int32) ≤ 7) = True := by decide
theorem q_eq_5_7 : ((5 : Int32) = 7) = False := by decide
theorem q_lt_5_8 : ((5 : Int32) < 8) = True := by decide
theorem q_le_5_8 : ((5 : Int32) ≤ 8) = True := by decide
theorem q_eq_5_8 : ((5 : Int32) = 8) = False := by decide
theorem q_lt_5_9 : ((5 : Int32) < 9) = True := by decide
theorem q_le_5_9 : ((5 : Int32) ≤ 9) = True := by decide
theorem q_eq_5_9 : ((5 : Int32) = 9) = False := by decide
theorem q_lt_5_10 : ((5 : Int32) < 10) = True := by decide
theorem q_le_5_10 : ((5 : Int32) ≤ 10) = True := by decide
theorem q_eq_5_10 : ((5 : Int32) = 10) = False := by decide
theorem q_lt_6_0 : ((6 : Int32) < 0) = False := by decide
theorem q_le_6_0 : ((6 : Int32) ≤ 0) = False := by decide
theorem q_eq_6_0 : ((6 : Int32) = 0) = False := by decide
theorem q_lt_6_1 : ((6 : Int32) < 1) = False := by decide
theorem q_le_6_1 : ((6 : Int32) ≤ 1) = False := by decide
theorem q_eq_6_1 : ((6 : Int32) = 1) = False := by decide
theorem q_lt_6_2 : ((6 : Int32) < 2) = False := by decide
theorem q_le_6_2 : ((6 : Int32) ≤ 2) = False := by decide
theorem q_eq_6_2 : ((6 : Int32) = 2) = False := by decide
theorem q_lt_6_3 : ((6 : Int32) < 3) = False := by decide
theorem q_le_6_3 : ((6 : Int32) ≤ 3) = False := by decide
theorem q_eq_6_3 : ((6 : Int32) = 3) = False := by decide
theorem q_lt_6_4 : ((6 : Int32) < 4) = False := by decide
theorem q_le_6_4 : ((6 : Int32) ≤ 4) = False := by decide
theorem q_eq_6_4 : ((6 : Int32) = 4) = False := by decide
theorem q_lt_6_5 : ((6 : Int32) < 5) = False := by decide
theorem q_le_6_5 : ((6 : Int32) ≤ 5) = False := by decide
theorem q_eq_6_5 : ((6 : Int32) = 5) = False := by decide
theorem q_lt_6_6 : ((6 : Int32) < 6) = False := by decide
theorem q_le_6_6 : ((6 : Int32) ≤ 6) = True := by decide
theorem q_lt_6_7 : ((6 : Int32) < 7) = True := by decide
theorem q_le_6_7 : ((6 : Int32) ≤ 7) = True := by decide
theorem q_eq_6_7 : ((6 : Int32) = 7) = False := by decide
theorem q_lt_6_8 : ((6 : Int32) < 8) = True := by decide
theorem q_le_6_8 : ((6 : Int32) ≤ 8) = True := by decide
theorem q_eq_6_8 : ((6 : Int32) = 8) = False := by decide
theorem q_lt_6_9 : ((6 : Int32) < 9) = True := by decide
theorem q_le_6_9 : ((6 : Int32) ≤ 9) = True := by decide
theorem q_eq_6_9 : ((6 : Int32) = 9) = False := by decide
theorem q_lt_6_10 : ((6 : Int32) < 10) = True := by decide
theorem q_le_6_10 : ((6 : Int32) ≤ 10) = True := by decide
theorem q_eq_6_10 : ((6 : Int32) = 10) = False := by decide
theorem q_lt_7_0 : ((7 : Int32) < 0) = False := by decide
theorem q_le_7_0 : ((7 : Int32) ≤ 0) = False := by decide
theorem q_eq_7_0 : ((7 : Int32) = 0) = False := by decide
theorem q_lt_7_1 : ((7 : Int32) < 1) = False := by decide
theorem q_le_7_1 : ((7 : Int32) ≤ 1) = False := by decide
theorem q_eq_7_1 : ((7 : Int32) = 1) = False := by decide
theorem q_lt_7_2 : ((7 : Int32) < 2) = False := by decide
theorem q_le_7_2 : ((7 : Int32) ≤ 2) = False := by decide
theorem q_eq_7_2 : ((7 : Int32) = 2) = False := by decide
theorem q_lt_7_3 : ((7 : Int32) < 3) = False := by decide
theorem q_le_7_3 : ((7 : Int32) ≤ 3) = False := by decide
theorem q_eq_7_3 : ((7 : Int32) = 3) = False := by decide
theorem q_lt_7_4 : ((7 : Int32) < 4) = False := by decide
theorem q_le_7_4 : ((7 : Int32) ≤ 4) = False := by decide
theorem q_eq_7_4 : ((7 : Int32) = 4) = False := by decide
theorem q_lt_7_5 : ((7 : Int32) < 5) = False := by decide
theorem q_le_7_5 : ((7 : Int32) ≤ 5) = False := by decide
theorem q_eq_7_5 : ((7 : Int32) = 5) = False := by decide
theorem q_lt_7_6 : ((7 : Int32) < 6) = False := by decide
theorem q_le_7_6 : ((7 : Int32) ≤ 6) = False := by decide
theorem q_eq_7_6 : ((7 : Int32) = 6) = False := by decide
theorem q_lt_7_7 : ((7 : Int32) < 7) = False := by decide
theorem q_le_7_7 : ((7 : Int32) ≤ 7) = True := by decide
theorem q_lt_7_8 : ((7 : Int32) < 8) = True := by decide
theorem q_le_7_8 : ((7 : Int32) ≤ 8) = True := by decide
theorem q_eq_7_8 : ((7 : Int32) = 8) = False := by decide
theorem q_lt_7_9 : ((7 : Int32) < 9) = True := by decide
theorem q_le_7_9 : ((7 : Int32) ≤ 9) = True := by decide
theorem q_eq_7_9 : ((7 : Int32) = 9) = False := by decide
theorem q_lt_7_10 : ((7 : Int32) < 10) = True := by decide
theorem q_le_7_10 : ((7 : Int32) ≤ 10) = True := by decide
theorem q_eq_7_10 : ((7 : Int32) = 10) = False := by decide
theorem q_lt_8_0 : ((8 : Int32) < 0) = False := by decide
theorem q_le_8_0 : ((8 : Int32) ≤ 0) = False := by decide
theorem q_eq_8_0 : ((8 : Int32) = 0) = False := by decide
theorem q_lt_8_1 : ((8 : Int32) < 1) = False := by decide
theorem q_le_8_1 : ((8 : Int32) ≤ 1) = False := by decide
theorem q_eq_8_1 : ((8 : Int32) = 1) = False := by decide
theorem q_lt_8_2 : ((8 : Int32) < 2) = False := by decide
theorem q_le_8_2 : ((8 : Int32) ≤ 2) = False := by decide
theorem q_eq_8_2 : ((8 : Int32) = 2) = False := by decide
theorem q_lt_8_3 : ((8 : Int32) < 3) = False := by decide
theorem q_le_8_3 : ((8 : Int32) ≤ 3) = False := by decide
theorem q_eq_8_3 : ((8 : Int32) = 3) = False := by decide
theorem q_lt_8_4 : ((8 : Int32) < 4) = False := by decide
theorem q_le_8_4 : ((8 : Int32) ≤ 4) = False := by decide
theorem q_eq_8_4 : ((8 : Int32) = 4) = False := by decide
theorem q_lt_8_5 : ((8 : Int32) < 5) = False := by decide
theorem q_le_8_5 : ((8 : Int32) ≤ 5) = False := by decide
theorem q_eq_8_5 : ((8 : Int32) = 5) = False := by decide
theorem q_lt_8_6 : ((8 : Int32) < 6) = False := by decide
theorem q_le_8_6 : ((8 : Int32) ≤ 6) = False := by decide
theorem q_eq_8_6 : ((8 : Int32) = 6) = False := by decide
theorem q_lt_8_7 : ((8 : Int32) < 7) = False := by decide
theorem q_le_8_7 : ((8 : Int32) ≤ 7) = False := by decide
theorem q_eq_8_7 : ((8 : Int32) = 7) = False := by decide
theorem q_lt_8_8 : ((8 : Int32) < 8) = False := by decide
theorem q_le_8_8 : ((8 : Int32) ≤ 8) = True := by decide
theorem q_lt_8_9 : ((8 : Int32) < 9) = True := by decide
theorem q_le_8_9 : ((8 : Int32) ≤ 9) = True := by decide
theorem q_eq_8_9 : ((8 : Int32) = 9) = False := by decide
theorem q_lt_8_10 : ((8 : Int32) < 10) = True := by decide
theorem q_le_8_10 : ((8 : Int32) ≤ 10) = True := by decide
theorem q_eq_8_10 : ((8 : Int32) = 10) = False := by decide
theorem q_lt_9_0 : ((9 : Int32) < 0) = False := by decide
theorem q_le_9_0 : ((9 : Int32) ≤ 0) = False := by decide
theorem q_eq_9_0 : ((9 : Int32) = 0) = False := by decide
theorem q_lt_9_1 : ((9 : Int32) < 1) = False := by decide
theorem q_le_9_1 : ((9 : Int32) ≤ 1) = False := by decide
theorem q_eq_9_1 : ((9 : Int32) = 1) = False := by decide
theorem q_lt_9_2 : ((9 : Int32) < 2) = False := by decide
theorem q_le_9_2 : ((9 : Int32) ≤ 2) = False := by decide
theorem q_eq_9_2 : ((9 : Int32) = 2) = False := by decide
theorem q_lt_9_3 : ((9 : Int32) < 3) = False := by decide
theorem q_le_9_3 : ((9 : Int32) ≤ 3) = False := by decide
theorem q_eq_9_3 : ((9 : Int32) = 3) = False := by decide
theorem q_lt_9_4 : ((9 : Int32) < 4) = False := by decide
theorem q_le_9_4 : ((9 : Int32) ≤ 4) = False := by decide
theorem q_eq_9_4 : ((9 : Int32) = 4) = False := by decide
theorem q_lt_9_5 : ((9 : Int32) < 5) = False := by decide
theorem q_le_9_5 : ((9 : Int32) ≤ 5) = False := by decide
theorem q_eq_9_5 : ((9 : Int32) = 5) = False := by decide
theorem q_lt_9_6 : ((9 : Int32) < 6) = False := by decide
theorem q_le_9_6 : ((9 : Int32) ≤ 6) = False := by decide
theorem q_eq_9_6 : ((9 : Int32) = 6) = False := by decide
theorem q_lt_9_7 : ((9 : Int32) < 7) = False := by decide
theorem q_le_9_7 : ((9 : Int32) ≤ 7) = False := by decide
theorem q_eq_9_7 : ((9 : Int32) = 7) = False := by decide
theorem q_lt_9_8 : ((9 : Int32) < 8) = False := by decide
theorem q_le_9_8 : ((9 : Int32) ≤ 8) = False := by decide
theorem q_eq_9_8 : ((9 : Int32) = 8) = False := by decide
theorem q_lt_9_9 : ((9 : Int32) < 9) = False := by decide
theorem q_le_9_9 : ((9 : Int32) ≤ 9) = True := by decide
theorem q_lt_9_10 : ((9 : Int32) < 10) = True := by decide
theorem q_le_9_10 : ((9 : Int32) ≤ 10) = True := by decide
theorem q_eq_9_10 : ((9 : Int32) = 10) = False := by decide
theorem q_lt_10_0 : ((10 : Int32) < 0) = False := by decide
theorem q_le_10_0 : ((10 : Int32) ≤ 0) = False := by decide
theorem q_eq_10_0 : ((10 : Int32) = 0) = False := by decide
theorem q_lt_10_1 : ((10 : Int32) < 1) = False := by decide
theorem q_le_10_1 : ((10 : Int32) ≤ 1) = False := by decide
theorem q_eq_10_1 : ((10 : Int32) = 1) = False := by decide
theorem q_lt_10_2 : ((10 : Int32) < 2) = False := by decide
theorem q_le_10_2 : ((10 : Int32) ≤ 2) = False := by decide
theorem q_eq_10_2 : ((10 : Int32) = 2) = False := by decide
theorem q_lt_10_3 : ((10 : Int32) < 3) = False := by decide
theorem q_le_10_3 : ((10 : Int32) ≤ 3) = False := by decide
theorem q_eq_10_3 : ((10 : Int32) = 3) = False := by decide
theorem q_lt_10_4 : ((10 : Int32) < 4) = False := by decide
theorem q_le_10_4 : ((10 : Int32) ≤ 4) = False := by decide
theorem q_eq_10_4 : ((10 : Int32) = 4) = False := by decide
theorem q_lt_10_5 : ((10 : Int32) < 5) = False := by decide
theorem q_le_10_5 : ((10 : Int32) ≤ 5) = False := by decide
theorem q_eq_10_5 : ((10 : Int32) = 5) = False := by decide
theorem q_lt_10_6 : ((10 : Int32) < 6) = False := by decide
theorem q_le_10_6 : ((10 : Int32) ≤ 6) = False := by decide
theorem q_eq_10_6 : ((10 : Int32) = 6) = False := by decide
theorem q_lt_10_7 : ((10 : Int32) < 7) = False := by decide
theorem q_le_10_7 : ((10 : Int32) ≤ 7) = False := by decide
theorem q_eq_10_7 : ((10 : Int32) = 7) = False := by decide
theorem q_lt_10_8 : ((10 : Int32) < 8) = False := by decide
theorem q_le_10_8 : ((10 : Int32) ≤ 8) = False := by decide
theorem q_eq_10_8 : ((10 : Int32) = 8) = False := by decide
theorem q_lt_10_9 : ((10 : Int32) < 9) = False := by decide
theorem q_le_10_9 : ((10 : Int32) ≤ 9) = False := by decide
theorem q_eq_10_9 : ((10 : Int32) = 9) = False := by decide
theorem q_lt_10_10 : ((10 : Int32) < 10) = False := by decide
theorem q_le_10_10 : ((10 : Int32) ≤ 10) = True := by decide
theorem j_0 : Int64.toInt 0 = 0 := rfl
theorem k_0 : Int32.toInt 0 = 0 := rfl
theorem j_1 : Int64.toInt 1 = 1 := rfl
theorem k_1 : Int32.toInt 1 = 1 := rfl
theorem j_2 : Int64.toInt 2 = 2 := rfl
theorem k_2 : Int32.toInt 2 = 2 := rfl
theorem j_3 : Int64.toInt 3 = 3 := rfl
theorem k_3 : Int32.toInt 3 = 3 := rfl
theorem j_4 : Int64.toInt 4 = 4 := rfl
theorem k_4 : Int32.toInt 4 = 4 := rfl
theorem j_5 : Int64.toInt 5 = 5 := rfl
theorem k_5 : Int32.toInt 5 = 5 := rfl
theorem j_8 : Int64.toInt 8 = 8 := rfl
theorem k_8 : Int32.toInt 8 = 8 := rfl
theorem j_9 : Int64.toInt 9 = 9 := rfl
theorem k_9 : Int32.toInt 9 = 9 := rfl
theorem j_10 : Int64.toInt 10 = 10 := rfl
theorem k_10 : Int32.toInt 10 = 10 := rfl
theorem j_11 : Int64.toInt 11 = 11 := rfl
theorem k_11 : Int32.toInt 11 = 11 := rfl
theorem j_16 : Int64.toInt 16 = 16 := rfl
theorem k_16 : Int32.toInt 16 = 16 := rfl
theorem j_19 : Int64.toInt 19 = 19 := rfl
theorem k_19 : Int32.toInt 19 = 19 := rfl
theorem j_20 : Int64.toInt 20 = 20 := rfl
theorem k_20 : Int32.toInt 20 = 20 := rfl
theorem j_30 : Int64.toInt 30 = 30 := rfl
theorem k_30 : Int32.toInt 30 = 30 := rfl
theorem j_60 : Int64.toInt 60 = 60 := rfl
theorem k_60 : Int32.toInt 60 = 60 := rfl
theorem j_99 : Int64.toInt 99 = 99 := rfl
theorem k_99 : Int32.toInt 99 = 99 := rfl
theorem j_200 : Int64.toInt 200 = 200 := rfl
theorem k_200 : Int32.toInt 200 = 200 := rfl
def wrg (x : Int32) (lo hi : Int) : Int32 := if x.toInt < lo then -4 else if hi < x.toInt then -6 else 0
theorem wrg_c (x : Int32) (lo hi : Nat) (hh : hi < 2 ^ 31) : (wrg x lo hi = -4 ∧ inz x lo hi = 0) ∨ (wrg x lo hi = -6 ∧ inz x lo hi = 0) ∨ (wrg x lo hi = 0 ∧ inz x lo hi = 1 ∧ ∃ k, lo ≤ k ∧ k ≤ hi ∧ x = nI k) := by
  unfold wrg
  by_cases h1 : x.toInt < lo
  · rw [if_pos h1]
    exact Or.inl ⟨rfl, inz_n (by omega)⟩
  · rw [if_neg h1]
    by_cases h2 : (hi : Int) < x.toInt
    · rw [if_pos h2]
      exact Or.inr (Or.inl ⟨rfl, inz_n (by omega)⟩)
    · rw [if_neg h2]
      exact Or.inr (Or.inr ⟨rfl, inz_y (by omega), x.toInt.toNat, by omega, by omega, nI_up (by omega)⟩)
theorem inz_c (x : Int32) (hi : Nat) (hh : hi < 2 ^ 31) : (inz x 0 hi = 0 ∧ ¬ (0 ≤ x.toInt ∧ x.toInt ≤ hi)) ∨ (inz x 0 hi = 1 ∧ ∃ k, k ≤ hi ∧ x = nI k) := by
  by_cases h : 0 ≤ x.toInt ∧ x.toInt ≤ hi
  · exact Or.inr ⟨inz_y h, x.toInt.toNat, by omega, nI_up h.1⟩
  · exact Or.inl ⟨inz_n h, h⟩
theorem wrg_e (x lo hi : Int32) : (if lo ≤ x then if x ≤ hi then (0 : Int32) else -6 else -4) = wrg x lo.toInt hi.toInt := by
  unfold wrg
  by_cases h1 : lo ≤ x
  · have h1' := i_le.mp h1
    rw [if_pos h1, if_neg (show ¬ x.toInt < lo.toInt by omega)]
    by_cases h2 : x ≤ hi
    · have h2' := i_le.mp h2
      rw [if_pos h2, if_neg (show ¬ hi.toInt < x.toInt by omega)]
    · have h2' : ¬ x.toInt ≤ hi.toInt := fun e => h2 (i_le.mpr e)
      rw [if_neg h2, if_pos (show hi.toInt < x.toInt by omega)]
  · have h1' : ¬ lo.toInt ≤ x.toInt := fun e => h1 (i_le.mpr e)
    rw [if_neg h1, if_pos (show x.toInt < lo.toInt by omega)]
section SN
variable (X : Nat × (Nat → Int32) × Value) (d : Nat) (M : zM) (G : zG)
theorem C118 (x lo hi : Int32) : zd X d 118 [vI x, vI lo, vI hi] (hh M G) = some (some (vI (wrg x lo.toInt hi.toInt)), hh M G) := by rw [D118, wrg_e]
theorem C136 (x lo hi : Int32) : zd X d 136 [vI x, vI lo, vI hi] (hh M G) = some (some (vI (wrg x lo.toInt hi.toInt)), hh M G) := by rw [D136, wrg_e]
theorem L31 (nv np : Nat) (B : zB) (h : vb B nv np) (n : Nat) (hn : n < 2 ^ 31) : ∀ (m i : Nat), i + m = n → zx X (d + 4) 31 2 [vR (2, 0, 0), vI (nI n), vI (nI i)] [] (hh (cb M 3 (bst nv np B i)) G) = some (none, hh (cb M 3 (bst nv np B n)) G) := by
  intro m
  induction m with
  | zero =>
    intro i hi
    have : i = n := by omega
    subst this
    simp only [e31_2, e31_3, e31_4]
    rw [if_pos (nI_le (Nat.le_refl _) hn)]
    simp only [e31_20]
  | succ m ih =>
    intro i hi
    have hlt : ¬ nI n ≤ nI i := nI_ge (by omega) hn
    have st := B11 X d M G 3 (bst nv np B i) nv np (bst_v h i)
    simp only [e31_2, e31_3, e31_4]
    rw [if_neg hlt]
    simp only [e31_7, e31_8, e31_11, e31_14, e31_17, zt0, zt1, zn3, not_false_eq_true, toListS, toListN, zk_some, zpi, st, nI_1]
    exact ih (i + 1) (by omega)
theorem C31 (nv np : Nat) (B : zB) (h : vb B nv np) (n : Nat) (hn : n < 2 ^ 31) : zd X (d + 4) 31 [vR (2, 0, 0), vI (nI n)] (hh (cb M 3 B) G) = some (none, hh (cb M 3 (bst nv np B n)) G) := by
  have l := L31 X d M G nv np B h n hn n 0 (by omega)
  rw [nI_0] at l
  simp only [E31, e31_0, e31_1, zt0, zt1, zn3, not_false_eq_true, toListS, toListN, zk_some, zpi]
  exact l
theorem C30 {nv np : Nat} (s : ST M nv np) (n : Nat) (hn : n < 2 ^ 31) : zd X (d + 5) 30 [vR (2, 0, 0), vR (0, 0, 0), vI (nI n)] (hh M G) = some (some (vR (0, 3, 0)), hh (cb M 3 (bst nv np (bc M nv np) n)) G) := by
  simp only [E30, e30_0, e30_1, e30_4, e30_5, e30_8, e30_9, e30_10, e30_13, e30_14, e30_17, zt0, zt1, zn3, not_false_eq_true, toListS, toListN, zk_some, zpi, T1 X _ G s, C31 X d M G nv np _ s.2.2.2.2.2.2.2.2.2.2.1 n hn]
theorem L149 (nv np : Nat) (B : zB) (h : vb B nv np) (n : Nat) (hn : n < 2 ^ 31) : ∀ (m i : Nat) (R : Nat → Int32), i + m = n → R 5 = B.1 6 → ∃ R', R' 3 = R 3 ∧ R' 5 = R 5 ∧ R' 8 = R 8 ∧ R' 17 = R 17 ∧ zx X (d + 8) 149 2 [vR (7, 0, 0), vI (nI n), vI (nI i)] [] (hh (mb M (bst nv np B i) R) G) = some (none, hh (mb M (bst nv np B n) R') G) := by
  intro m
  induction m with
  | zero =>
    intro i R hi hR
    have : i = n := by omega
    subst this
    refine ⟨R, rfl, rfl, rfl, rfl, ?_⟩
    simp only [e149_2, e149_3, e149_4]
    rw [if_pos (nI_le (Nat.le_refl _) hn)]
    simp only [e149_17]
  | succ m ih =>
    intro i R hi hR
    have hlt : ¬ nI n ≤ nI i := nI_ge (by omega) hn
    have st := B148 X d M G (bst nv np B i) R nv np (bst_v h i) (by rw [hR, bst_6])
    obtain ⟨R', r3, r5, r8, r17, ih'⟩ := ih (i + 1) (uS R 6 ((stp nv np (bst nv np B i)).1 8)) (by omega) ((uS_n (by decide)).trans hR)
    refine ⟨R', r3, r5, r8, r17, ?_⟩
    simp only [e149_2, e149_3, e149_4]
    rw [if_neg hlt]
    simp only [e149_7, e149_8, e149_11, e149_14, zt0, zt1, zn3, not_false_eq_true, toListS, toListN, zk_some, zpi, st, nI_1]
    exact ih'
theorem C149 (nv np : Nat) (B : zB) (h : vb B nv np) (n : Nat) (hn : n < 2 ^ 31) (R : Nat → Int32) (hR : R 5 = B.1 6) : ∃ R', R' 3 = R 3 ∧ R' 5 = R 5 ∧ R' 8 = R 8 ∧ R' 17 = R 17 ∧ zd X (d + 8) 149 [vR (7, 0, 0), vI (nI n)] (hh (mb M B R) G) = some (none, hh (mb M (bst nv np B n) R') G) := by
  obtain ⟨R', r3, r5, r8, r17, l⟩ := L149 X d M G nv np B h n hn n 0 R (by omega) hR
  refine ⟨R', r3, r5, r8, r17, ?_⟩
  rw [nI_0] at l
  simp only [E149, e149_0, e149_1, zt0, zt1, zn3, not_false_eq_true, toListS, toListN, zk_some, zpi]
  exact l
theorem mb_V {M : zM} {B : zB} {R : Nat → Int32} {j f : Nat} (hj : j < 5) (hf : f < 5) : mb M B R (20, 0, 0) (4 + 5 * j + f) = B.2.1 j f := mm_V hj hf
theorem mb_V0 {M : zM} {B : zB} {R : Nat → Int32} {j : Nat} (hj : j < 5) : mb M B R (20, 0, 0) (4 + 5 * j) = B.2.1 j 0 := mm_V0 hj
theorem mb_P {M : zM} {B : zB} {R : Nat → Int32} {p g : Nat} (hp : p < 8) (hg : g < 8) : mb M B R (20, 0, 0) (29 + 8 * p + g) = B.2.2 p (mi g) := mm_P hp hg
theorem mb_P0 {M : zM} {B : zB} {R : Nat → Int32} {p : Nat} (hp : p < 8) : mb M B R (20, 0, 0) (29 + 8 * p) = B.2.2 p 5 := mm_P0 hp
theorem mb_0 {M : zM} {B : zB} {R : Nat → Int32} : mb M B R (20, 0, 0) 0 = B.1 2 := rfl
theorem mb_1 {M : zM} {B : zB} {R : Nat → Int32} : mb M B R (20, 0, 0) 1 = B.1 3 := rfl
theorem mb_2 {M : zM} {B : zB} {R : Nat → Int32} : mb M B R (20, 0, 0) 2 = B.1 5 := rfl
theorem mb_3 {M : zM} {B : zB} {R : Nat → Int32} : mb M B R (20, 0, 0) 3 = B.1 4 := rfl
theorem C180 (B : zB) (R : Nat → Int32) (p : Nat) (hp : p < 8) : zd X (d + 1) 180 [vR (7, 0, 0), vI (nI p)] (hh (mb M B R) G) = some (some (vI (B.2.2 p 7)), hh (mb M B R) G) := by
  simp only [E180, e180_0, e180_1, e180_4, e180_5, e180_8, e180_10, e180_11, e180_12, zt0, zt1, zn3, not_false_eq_true, toListS, toListN, zk_some, zpi, C135, niP, ni7, wP hp (show 7 < 8 by decide), cP hp (show 7 < 8 by decide), mb_P hp (show 7 < 8 by decide), mi7]
end SN
