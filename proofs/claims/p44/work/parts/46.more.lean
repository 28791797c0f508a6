/-! a VESSEL more, a PIPE more -/
theorem nI_p (n : Nat) : nI (n + 1) - 1 = nI n := by rw [← nI_1, Int32.add_sub_cancel]
def V5 (V : tV) (k : Nat) (a b c d e : Int32) : tV := uV (uV (uV (uV (uV V k 0 a) k 1 b) k 2 c) k 3 d) k 4 e
theorem V5_o {V : tV} {k j f : Nat} {a b c d e : Int32} (h : j ≠ k) : V5 V k a b c d e j f = V j f := by unfold V5; rw [uV_j h, uV_j h, uV_j h, uV_j h, uV_j h]
theorem V5_c {V W : tV} {nv : Nat} {a b c d e : Int32} (h : agV nv V W) : agV (nv + 1) (V5 V nv a b c d e) (V5 W nv a b c d e) := by
  intro j f hj hf
  by_cases q : j = nv
  · subst q
    rcases (show f = 0 ∨ f = 1 ∨ f = 2 ∨ f = 3 ∨ f = 4 by omega) with rfl | rfl | rfl | rfl | rfl <;> simp [V5, uV]
  · rw [V5_o q, V5_o q]
    exact h j f (by omega) hf
theorem vb_vessel {S : Nat → Int32} {V P : tV} {nv np : Nat} {x y z : Int32} (h : vb (S, V, P) nv np) (h5 : nv < 5) (x1 : 1 ≤ x.toInt) (x2 : x.toInt ≤ 9) (y1 : 0 ≤ y.toInt) (y2 : y.toInt ≤ 20) (z1 : 1 ≤ z.toInt) (z2 : z.toInt ≤ 30) : vb (uS S 2 (nI (nv + 1)), V5 V nv x y z 0 0, P) (nv + 1) np := by
  obtain ⟨⟨v1, v2, v3, v4, v5, v6⟩, v7, v8, v9⟩ := h
  refine ⟨⟨show uS S 2 (nI (nv + 1)) 2 = nI (nv + 1) from uS_s, v2, by omega, v4, fun r hr => ?_, fun r hr => ?_⟩, fun r hr => ?_, v8, v9⟩
  · show vV (V5 V nv x y z 0 0) r
    by_cases e : r = nv
    · subst e
      refine ⟨?_, ?_, ?_, ?_, ?_, ?_, ?_, ?_⟩
      · rw [show V5 V r x y z 0 0 r 0 = x by simp [V5, uV]]; exact x1
      · rw [show V5 V r x y z 0 0 r 0 = x by simp [V5, uV]]; exact x2
      · rw [show V5 V r x y z 0 0 r 1 = y by simp [V5, uV]]; exact y1
      · rw [show V5 V r x y z 0 0 r 1 = y by simp [V5, uV]]; exact y2
      · rw [show V5 V r x y z 0 0 r 2 = z by simp [V5, uV]]; exact z1
      · rw [show V5 V r x y z 0 0 r 2 = z by simp [V5, uV]]; exact z2
      · rw [show V5 V r x y z 0 0 r 4 = 0 by simp [V5, uV]]; decide
      · rw [show V5 V r x y z 0 0 r 4 = 0 by simp [V5, uV]]; decide
    · have w : vV V r := v5 r (by omega)
      unfold vV at *
      rw [V5_o e, V5_o e, V5_o e, V5_o e]
      exact w
  · obtain ⟨a1, c1, q1, q2, q3, q4, q5, q6, q7, q8⟩ := v6 r hr
    refine ⟨a1, c1, q1, q2, by omega, by omega, q5, ?_, ?_, q8⟩
    · show vM (V5 V nv x y z 0 0) a1 _
      unfold vM at *
      rw [V5_o (by omega), V5_o (by omega)]
      exact q6
    · show vM (V5 V nv x y z 0 0) c1 _
      unfold vM at *
      rw [V5_o (by omega), V5_o (by omega)]
      exact q7
  · show 0 ≤ wat (V5 V nv x y z 0 0) r ∧ wat (V5 V nv x y z 0 0) r ≤ brim (V5 V nv x y z 0 0) r
    unfold wat brim
    by_cases e : r = nv
    · subst e
      rw [show V5 V r x y z 0 0 r 3 = 0 by simp [V5, uV], show V5 V r x y z 0 0 r 0 = x by simp [V5, uV], show V5 V r x y z 0 0 r 2 = z by simp [V5, uV], show (0 : Int32).toInt = 0 from rfl]
      exact ⟨Int.le_refl _, Int.mul_nonneg (by omega) (by omega)⟩
    · rw [V5_o e, V5_o e, V5_o e]
      exact v7 r (by omega)
def hM (V : tV) (a : Nat) (m : Int32) : Int32 := inz m (V a 1).toInt (V a 1 + V a 2).toInt
theorem C6 (X : Nat × (Nat → Int32) × Value) (d : Nat) (M : zM) (G : zG) (b : Nat) (S : Nat → Int32) (V P : tV) (a : Nat) (m : Int32) (ha : a < 5) : zd X d 6 [vR (0, b, 0), vI (nI a), vI m] (hh (cm M b S V P) G) = some (some (vI (hM V a m)), hh (cm M b S V P) G) := by
  have e : hM V a m = (if m < V a 1 then (0 : Int32) else if V a 1 + V a 2 < m then 0 else 1) := by
    unfold hM inz
    by_cases h1 : m < V a 1
    · rw [if_pos h1, if_pos (i_lt.mp h1)]
    · rw [if_neg h1, if_neg (fun q => h1 (i_lt.mpr q))]
      by_cases h2 : V a 1 + V a 2 < m
      · rw [if_pos h2, if_pos (i_lt.mp h2)]
      · rw [if_neg h2, if_neg (fun q => h2 (i_lt.mpr q))]
  rw [e]
  simp only [E6, e6_0, e6_1, e6_4, e6_5, e6_6, e6_7, e6_8, e6_9, e6_12, e6_15, e6_16, e6_17, e6_20, e6_21, e6_24, e6_25, e6_28, e6_29, e6_32, e6_33, zt0, zt1, zn3, not_false_eq_true, toListS, toListN, zk_some, zpi, if_true, if_false, i10, cm_S, cm_V, cm_P, cm_vw, cm_pw, cm_uS, cm_uV, cm_uP, cm_Sf, z5 ha, cl5 ha]
theorem hM_01 (V : tV) (a : Nat) (m : Int32) : hM V a m = 0 ∨ hM V a m = 1 := inz_01 ..
theorem hM_c {V W : tV} {a : Nat} {m : Int32} (h : ∀ f, f < 5 → V a f = W a f) : hM V a m = hM W a m := by unfold hM; rw [h 1 (by decide), h 2 (by decide)]
theorem hM_v {V : tV} {a : Nat} {m : Int32} (hv : vV V a) (h : hM V a m = 1) : vM V a m := by
  have e : (V a 1 + V a 2).toInt = (V a 1).toInt + (V a 2).toInt := by
    obtain ⟨-, -, p1, p2, p3, p4, -⟩ := hv
    exact i_add_s (by omega) (by omega)
  unfold hM inz at h
  unfold vM
  rw [e] at h
  by_cases q1 : m.toInt < (V a 1).toInt
  · rw [if_pos q1] at h; exact absurd h (by decide)
  · rw [if_neg q1] at h
    by_cases q2 : (V a 1).toInt + (V a 2).toInt < m.toInt
    · rw [if_pos q2] at h; exact absurd h (by decide)
    · omega
/-- a pipe's figures laid: f, s: its ends; m, o: its mouths; r: its rate -/
def P8 (P : tV) (k : Nat) (f s m o r : Int32) : tV := uV (uV (uV (uV (uV (uV (uV (uV P k 0 f) k 1 s) k 2 m) k 3 o) k 4 r) k 5 0) k 6 0) k 7 0
def Q8 (P : tV) (k : Nat) (f s m o r : Int32) : tV := uV (uV (uV (uV (uV (uV (uV (uV P k 5 0) k 6 0) k 0 f) k 1 s) k 2 m) k 3 o) k 4 r) k 7 0
theorem P8_o {P : tV} {k j g : Nat} {f s m o r : Int32} (h : j ≠ k) : P8 P k f s m o r j g = P j g := by unfold P8; rw [uV_j h, uV_j h, uV_j h, uV_j h, uV_j h, uV_j h, uV_j h, uV_j h]
theorem Q8_o {P : tV} {k j g : Nat} {f s m o r : Int32} (h : j ≠ k) : Q8 P k f s m o r j g = P j g := by unfold Q8; rw [uV_j h, uV_j h, uV_j h, uV_j h, uV_j h, uV_j h, uV_j h, uV_j h]
theorem P8_c {P Q : tV} {np : Nat} {f s m o r : Int32} (h : ∀ p g, p < np → g < 8 → P p g = Q p g) : ∀ p g, p < np + 1 → g < 8 → P8 P np f s m o r p g = Q8 Q np f s m o r p g := by
  intro p g hp hg
  by_cases q : p = np
  · subst q
    rcases (show g = 0 ∨ g = 1 ∨ g = 2 ∨ g = 3 ∨ g = 4 ∨ g = 5 ∨ g = 6 ∨ g = 7 by omega) with rfl | rfl | rfl | rfl | rfl | rfl | rfl | rfl <;> simp [P8, Q8, uV]
  · rw [P8_o q, Q8_o q]
    exact h p g (by omega) hg
theorem vb_pipe {S : Nat → Int32} {V P : tV} {nv np a c : Nat} {m o r : Int32} (h : vb (S, V, P) nv np) (h8 : np < 8) (ha : a < nv) (hc : c < nv) (hn : a ≠ c) (hm : vM V a m) (ho : vM V c o) (r1 : 1 ≤ r.toInt) (r2 : r.toInt ≤ 9) : vb (uS S 3 (nI (np + 1)), V, P8 P np (nI a) (nI c) m o r) nv (np + 1) := by
  obtain ⟨⟨v1, v2, v3, v4, v5, v6⟩, v7, v8, v9⟩ := h
  refine ⟨⟨v1, show uS S 3 (nI (np + 1)) 3 = nI (np + 1) from uS_s, v3, by omega, v5, fun q hq => ?_⟩, v7, fun q hq => ?_, v9⟩
  · show vP V (P8 P np (nI a) (nI c) m o r) nv q
    by_cases e : q = np
    · subst e
      refine ⟨a, c, by simp [P8, uV], by simp [P8, uV], ha, hc, hn, ?_, ?_, ?_, ?_, ?_, ?_, ?_, ?_⟩
      · rw [show P8 P q (nI a) (nI c) m o r q 2 = m by simp [P8, uV]]; exact hm
      · rw [show P8 P q (nI a) (nI c) m o r q 3 = o by simp [P8, uV]]; exact ho
      · rw [show P8 P q (nI a) (nI c) m o r q 4 = r by simp [P8, uV]]; exact r1
      · rw [show P8 P q (nI a) (nI c) m o r q 4 = r by simp [P8, uV]]; exact r2
      · rw [show P8 P q (nI a) (nI c) m o r q 5 = 0 by simp [P8, uV]]; decide
      · rw [show P8 P q (nI a) (nI c) m o r q 5 = 0 by simp [P8, uV]]; decide
      · rw [show P8 P q (nI a) (nI c) m o r q 6 = 0 by simp [P8, uV]]; decide
      · rw [show P8 P q (nI a) (nI c) m o r q 6 = 0 by simp [P8, uV]]; decide
    · obtain w := v6 q (by omega)
      unfold vP at *
      simp only [P8_o e]
      exact w
  · show P8 P np (nI a) (nI c) m o r q 7 = 0 ∨ (P8 P np (nI a) (nI c) m o r q 7 = 1 ∧ ¬ sSi (P8 P np (nI a) (nI c) m o r) q = 0)
    by_cases e : q = np
    · subst e
      exact Or.inl (by simp [P8, uV])
    · rw [P8_o e, sSi_c (P := P) (P8_o e)]
      exact v8 q (by omega)
