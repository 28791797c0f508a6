/-! starts, turns -/
theorem C36 (X : Nat × (Nat → Int32) × Value) (d : Nat) (M : zM) (G : zG) (nv np : Nat) (B : zB) (h : vb B nv np) (p : Nat) (hp : p < np) : zd X (d + 4) 36 [vR (2, 0, 0), vI (nI p)] (hh (cb M 3 B) G) = some (some (vI (if B.2.2 p 7 = 0 then (if (stp nv np B).2.2 p 7 = 0 then 0 else 1) else 0)), hh (cb M 3 (stp nv np B)) G) := by
  have n8 : np ≤ 8 := h.1.2.2.2.1
  have g3 : cb M 3 B (0, 3, 0) 3 = nI np := h.1.2.1
  have st := B11 X d M G 3 B nv np h
  have x1 := (h.2.2.1 p hp).imp id And.left
  have x2 := ((stp_v h).2.2.1 p hp).imp id And.left
  simp only [E36, e36_0, e36_1, e36_4, e36_5, e36_8, e36_11, e36_12, e36_13, e36_14, e36_17, e36_20, e36_21, e36_22, e36_25, e36_26, e36_27, e36_30, e36_33, e36_34, e36_37, e36_38, e36_41, e36_44, e36_45, e36_46, e36_49, e36_52, e36_53, e36_56, e36_57, zt0, zt1, zn3, not_false_eq_true, toListS, toListN, zk_some, zpi, if_true, if_false, i10, C3b X _ _ G 3 np g3 n8, isx_y hp (show np < 2 ^ 31 by omega), zin_nI (show p < 8 by omega) (show 8 < 2 ^ 31 by decide), nI_clamp (show p < 2 ^ 31 by omega), cb_S, cb_V, cb_P, st]
theorem C185 (X : Nat × (Nat → Int32) × Value) (d : Nat) (M : zM) (G : zG) (nv np : Nat) (B : zB) (R : Nat → Int32) (h : vb B nv np) (ho : R 5 = B.1 6) (p : Nat) (hp : p < np) : zd X (d + 8) 185 [vR (7, 0, 0), vI (nI p)] (hh (mb M B R) G) = some (some (vI (if B.2.2 p 7 = 0 then (if (stp nv np B).2.2 p 7 = 0 then 0 else 1) else 0)), hh (mb M (stp nv np B) (uS R 6 ((stp nv np B).1 8))) G) := by
  have n8 : np ≤ 8 := h.1.2.2.2.1
  have st := B148 X d M G B R nv np h ho
  have x1 := (h.2.2.1 p hp).imp id And.left
  have x2 := ((stp_v h).2.2.1 p hp).imp id And.left
  simp only [E185, e185_0, e185_1, e185_2, e185_5, e185_6, e185_7, e185_10, e185_11, e185_14, e185_15, e185_16, e185_19, e185_20, e185_23, e185_24, e185_27, e185_28, zt0, zt1, zn3, not_false_eq_true, toListS, toListN, zk_some, zpi, if_true, if_false, i10, C180 X _ _ G _ _ p (show p < 8 by omega), st]
  rcases x1 with x1 | x1 <;> rcases x2 with x2 | x2 <;> simp only [x1, x2, if_true, if_false, i10, q_eq_0_1]
