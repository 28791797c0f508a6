/-! shown, work -/
theorem ofI (n : Nat) : Int64.ofInt (n : Nat) = Int64.ofNat n := rfl
theorem toI64 (x : UInt64) : x.toInt64 = Int64.ofNat x.toNat := by
  show (Int64.ofUInt64 x) = Int64.ofUInt64 (UInt64.ofNat x.toNat)
  rw [UInt64.ofNat_toNat]
theorem toI32 (x : UInt32) : x.toInt32 = nI x.toNat := by
  show (Int32.ofUInt32 x) = Int32.ofUInt32 (UInt32.ofNat x.toNat)
  rw [UInt32.ofNat_toNat]
theorem sh52 : ∀ e, e < 1200 → (Int32.ofNat e).toInt64 <<< ((52 : Int32).toInt64 &&& 63) = Int64.ofNat (e * 2 ^ 52) := by decide +kernel
theorem sh23 : ∀ e, e < 200 → (Int32.ofNat e).toInt64 <<< ((23 : Int32).toInt64 &&& 63) = Int64.ofNat (e * 2 ^ 23) := by decide +kernel
theorem p52 : FP.Core.val64 (FP.l2d ((1 : Int64) <<< ((52 : Int32).toInt64 &&& 63))) = .fin false (2 ^ 52) (-((0 : Nat) : Int)) := by decide +kernel
theorem p23 : FP.Core.val64 (FP.l2d ((1 : Int64) <<< ((23 : Int32).toInt64 &&& 63))) = .fin false (2 ^ 52) (-((29 : Nat) : Int)) := by decide +kernel
theorem bts52 {x : UInt64} {c : Nat} {q : Int} (h : m64 x c q) (h1 : -900 ≤ q) (h2 : q ≤ 100) : bts (1023 + q + 52) 52 ((c - 2 ^ 52) / 2 ^ 0) = x.toInt64 := by
  obtain ⟨e, -, -⟩ := m64_n h
  rw [toI64, e, Nat.pow_zero, Nat.div_one]
  unfold bts
  have k : 1023 + q + 52 = ((q + 1075).toNat : Nat) := by omega
  rw [k, show Int32.ofInt ((q + 1075).toNat : Nat) = Int32.ofNat (q + 1075).toNat from rfl, sh52 _ (by omega), ofI, Int64.ofNat_add]
theorem n32 {x : UInt32} {c : Nat} {q : Int} (h : FP.Core.val32 x = .fin false c q) (h1 : FP.Core.b32.tails ≤ c) (h2 : -149 ≤ q) : x.toNat = (q + 150).toNat * 2 ^ 23 + (c - 2 ^ 23) := by
  have nn : FP.Core.val32 x ≠ .nan := by rw [h]; exact FP.Core.Datum.noConfusion
  have e : x = FP.Core.of32 (FP.Core.val32 x) := (FP.Core.of32_val32 nn).symm
  have t : FP.Core.b32.tails = 2 ^ 23 := by decide
  rw [e, FP.Core.toNat_of32 (FP.Core.val32_fits x), h]
  rw [t] at h1
  show (if c < FP.Core.b32.tails then _ else _) = _
  rw [if_neg (by rw [t]; omega)]
  unfold FP.Core.assemble
  rw [t, q32.1]
  have : (q - -149).toNat + 1 = (q + 150).toNat := by omega
  rw [this]
  simp
theorem f2d_m {x : UInt32} {c : Nat} {q : Int} (h : FP.Core.val32 x = .fin false c q) (h1 : FP.Core.b32.tails ≤ c) (h2 : c < 2 ^ FP.Core.b32.p) (h3 : -149 ≤ q) (h4 : q ≤ 104) : m64 (FP.f2d x) (c * 2 ^ 29) (q - 29) := by
  have t : FP.Core.b32.tails = 2 ^ 23 := by decide
  rw [t] at h1
  rw [q32.2.2] at h2
  have nn : FP.Core.fIsNaN x = false := (FP.Core.notNaN_iff32 x).mpr (by rw [h]; exact FP.Core.Datum.noConfusion)
  refine ⟨?_, by omega, by omega, by omega, by omega⟩
  rw [show FP.f2d x = FP.Core.f2d x by unfold FP.f2d; rw [nn]; rfl, FP.Core.val64_f2d, h]
  show FP.Core.roundRatio FP.Core.b64 false c 1 q = _
  refine FP.Core.roundRatio_exact FP.Core.good_b64 (by decide) (fits_m (by omega) (by omega) (by omega) (by omega)) ?_
  rw [show (q - (q - 29)).toNat = 29 by omega, show (q - 29 - q).toNat = 0 by omega, Nat.pow_zero, Nat.mul_one, Nat.mul_one]
theorem bts23 {x : UInt32} {c : Nat} {q : Int} (h : FP.Core.val32 x = .fin false c q) (h1 : FP.Core.b32.tails ≤ c) (h2 : c < 2 ^ FP.Core.b32.p) (h3 : -149 ≤ q) (h4 : q ≤ 0) : bts (127 + (q - 29) + 52) 23 ((c * 2 ^ 29 - 2 ^ 52) / 2 ^ 29) = x.toInt32.toInt64 := by
  have e := n32 h h1 h3
  have t : FP.Core.b32.tails = 2 ^ 23 := by decide
  rw [t] at h1
  rw [q32.2.2] at h2
  have l : x.toNat < 2 ^ 31 := by omega
  rw [toI32, lI_up (by rw [nI_Int l]; omega), nI_Int l, Int.toNat_natCast]
  show bts (127 + (q - 29) + 52) 23 ((c * 2 ^ 29 - 2 ^ 52) / 2 ^ 29) = Int64.ofNat x.toNat
  rw [e]
  unfold bts
  have k : 127 + (q - 29) + 52 = ((q + 150).toNat : Nat) := by omega
  have k2 : (c * 2 ^ 29 - 2 ^ 52) / 2 ^ 29 = c - 2 ^ 23 := by omega
  rw [k, k2, show Int32.ofInt ((q + 150).toNat : Nat) = Int32.ofNat (q + 150).toNat from rfl, sh23 _ (by omega), ofI, Int64.ofNat_add]
/-- a vessel's figures -/
theorem fig {V : tV} {j : Nat} (h : vV V j) (w0 : 0 ≤ (V j 3).toInt) (w1 : (V j 3).toInt ≤ brim V j) : ∃ a b w, V j 0 = nI a ∧ V j 1 = nI b ∧ V j 3 = nI w ∧ 0 < a ∧ a < 2 ^ 9 ∧ b < 2 ^ 9 ∧ w < 2 ^ 9 := by
  have bv := brim_v h
  obtain ⟨h1, h2, h3, h4, -⟩ := h
  exact ⟨_, _, _, nI_up (by omega), nI_up h3, nI_up w0, by omega, by omega, by omega, by omega⟩
def hlf (V : tV) (j : Nat) : UInt64 := FP.ddiv (FP.ddiv (FP.i2d (V j 3)) (FP.i2d (V j 0))) 4611686018427387904
def wk (V : tV) : Nat → UInt64
  | 0 => FP.dconst0
  | n + 1 => FP.dadd (wk V n) (FP.dmul (FP.i2d (V n 3)) (FP.dadd (FP.i2d (V n 1)) (hlf V n)))
theorem wk_1 {V : tV} {j : Nat} (h : vV V j) (w0 : 0 ≤ (V j 3).toInt) (w1 : (V j 3).toInt ≤ brim V j) : Pd (FP.ddiv (FP.i2d (V j 3)) (FP.i2d (V j 0))) (-62) (-42) ∧ Pd (hlf V j) (-64) (-42) ∧ Pd (FP.dadd (FP.i2d (V j 1)) (hlf V j)) (-64) (-40) ∧ Pd (FP.dmul (FP.i2d (V j 3)) (FP.dadd (FP.i2d (V j 1)) (hlf V j))) (-64) (-29) := by
  obtain ⟨a, b, w, e0, e1, e3, a0, a9, b9, w9⟩ := fig h w0 w1
  unfold hlf
  rw [e0, e1, e3]
  have p1 : Pd (FP.ddiv (FP.i2d (nI w)) (FP.i2d (nI a))) (-62) (-42) := Pd_div (Pd_i w9) (Nd_i a0 a9) (by decide) (by decide)
  have n2 : Nm FP.Core.b64 (FP.Core.val64 4611686018427387904) (-51) (-51) := ⟨2 ^ 52, -51, two64, by rw [FP.Core.tails_b64]; decide, by rw [q64.2.2]; decide, by decide, by decide⟩
  have p2 : Pd (FP.ddiv (FP.ddiv (FP.i2d (nI w)) (FP.i2d (nI a))) 4611686018427387904) (-64) (-42) := Pd_div p1 n2 (by decide) (by decide)
  have p3 := Pd_add (Pz_w (Pd_i b9) (show (-64 : Int) ≤ -52 by decide) (show (-43 : Int) ≤ -42 by decide)) p2 (by decide) (by decide)
  have p4 := Pd_mul (Pd_i w9) p3 (by decide) (by decide)
  exact ⟨p1, p2, p3, p4⟩
theorem wk_P {B : zB} {nv np : Nat} (h : vb B nv np) : ∀ n, n ≤ nv → Pd (wk B.2.1 n) (-64) (-29 + 2 * n) := by
  intro n
  induction n with
  | zero => intro _; exact .inl FP.Core.val64_dconst0
  | succ n ih =>
    intro hn
    have n5 : nv ≤ 5 := h.1.2.2.1
    have w := h.2.1 n (by omega)
    have k := wk_1 (h.1.2.2.2.2.1 n (by omega)) w.1 w.2
    have := Pd_add (ih (by omega)) (Pz_w k.2.2.2 (show (-64 : Int) ≤ -64 by decide) (show (-29 : Int) ≤ -29 + 2 * n by omega)) (by decide) (by omega)
    rw [show (-29 : Int) + 2 * n + 2 = -29 + 2 * (n + 1 : Nat) by omega] at this
    exact this
theorem pd_nn {x : UInt64} {a b : Int} (h : Pd x a b) : FP.Core.val64 x ≠ .nan := by
  rcases h with h | ⟨c, q, h, _⟩ <;> rw [h] <;> exact FP.Core.Datum.noConfusion
/-- the two ways to the bits are one -/
theorem same64 (X : Nat × (Nat → Int32) × Value) (d : Nat) (x : UInt64) (h : Pd x (-64) (100)) (H : zH) : zd X d 126 [vD x, vI 52, vI 1023] H = some (some (vL x.toInt64), H) := by
  rcases h with h | ⟨c, q, h, h1, h2, h3, h4⟩
  · rw [z64 h, C126z]
    rfl
  · have m : m64 x c q := ⟨h, by rw [FP.Core.tails_b64] at h1; exact h1, by rw [q64.2.2] at h2; exact h2, by omega, by omega⟩
    have := C126 X d x c 0 q m 52 (by decide) p52 1023 H
    rw [bts52 m (by omega) h4] at this
    exact this
theorem same32 (X : Nat × (Nat → Int32) × Value) (d : Nat) (x : UInt32) (h : Pf x (-33) (-11)) (H : zH) : zd X d 126 [vD (FP.f2d x), vI 23, vI 127] H = some (some (vL x.toInt32.toInt64), H) ∧ FP.f2d x &&& 0x7fffffffffffffff ≤ 0x7ff0000000000000 ∧ FP.Core.val32 x ≠ .nan := by
  rcases h with h | ⟨c, q, h, h1, h2, h3, h4⟩
  · have e : x = 0 := FP.Core.val32_inj (by rw [h]; exact FP.Core.Datum.noConfusion) (h.trans (by decide +kernel))
    rw [e, show FP.f2d 0 = 0 by decide +kernel, C126z]
    exact ⟨rfl, by decide, by decide +kernel⟩
  · have m := f2d_m h h1 h2 (by omega) (by omega)
    have := C126 X d _ _ 29 _ m 23 (by decide) p23 127 H
    rw [bts23 h h1 h2 (by omega) (by omega)] at this
    exact ⟨this, m64_nn m, by rw [h]; exact FP.Core.Datum.noConfusion⟩
theorem shw {V : tV} {j : Nat} (h : vV V j) (w0 : 0 ≤ (V j 3).toInt) (w1 : (V j 3).toInt ≤ brim V j) : Pf (FP.fdiv (FP.i2f (V j 3)) (FP.i2f (V j 0))) (-33) (-13) ∧ Pf (FP.fadd (FP.fdiv (FP.i2f (V j 3)) (FP.i2f (V j 0))) (FP.i2f (V j 1))) (-33) (-11) := by
  obtain ⟨a, b, w, e0, e1, e3, a0, a9, b9, w9⟩ := fig h w0 w1
  rw [e0, e1, e3]
  have p1 : Pf (FP.fdiv (FP.i2f (nI w)) (FP.i2f (nI a))) (-33) (-13) := Pf_div (Pf_i w9) (Nf_i a0 a9) (by decide) (by decide)
  exact ⟨p1, Pf_add p1 (Pz_w (Pf_i b9) (show (-33 : Int) ≤ -23 by decide) (show (-14 : Int) ≤ -13 by decide)) (by decide) (by decide)⟩

theorem K24 (X : Nat × (Nat → Int32) × Value) (t : Nat) (M : zM) (G : zG) (x : Int32) (i : Inv t M) : okL X 97 202 [vI x] t M G := by
  obtain ⟨nv, np, s⟩ := ST_of i
  have s' := s
  obtain ⟨n5, n8, e2, e3, m0, m1, v, o6, f5, a, vc, ac, vm⟩ := s'
  rcases isx_c (n := nv) x (by omega) with ⟨h, -⟩ | ⟨j, hj, rfl, h⟩
  · refine ⟨4000000000000000000 - Int32.toInt64 (-1), rfs M 1, G, rfm (rfs M 1) 1, G, ?_, ?_, Inv_rf i⟩
    · simp only [E97, e97_0, e97_1, e97_4, e97_5, e97_8, e97_11, e97_12, e97_13, e97_16, e97_17, e97_18, e97_21, e97_24, e97_25, e97_26, e97_27, e97_28, e97_31, e97_32, e97_33, e97_36, e97_37, e97_38, e97_39, e97_42, e97_43, e97_44, e97_45, e97_46, e97_47, e97_49, e97_51, e97_54, zt0, zt1, zn3, not_false_eq_true, toListS, toListN, zk_some, zpi, if_true, if_false, i10, C2x X _ M G nv e2 n5, h, C115_1]
    · simp only [E202, e202_0, e202_1, e202_2, e202_5, e202_8, e202_9, e202_10, e202_13, e202_14, e202_15, e202_18, e202_19, e202_20, e202_23, e202_24, e202_25, e202_26, e202_27, e202_28, e202_29, e202_32, e202_33, e202_34, e202_35, e202_36, e202_37, e202_38, e202_39, e202_42, e202_43, e202_44, e202_45, e202_46, e202_47, e202_48, e202_51, e202_52, zt0, zt1, zn3, not_false_eq_true, toListS, toListN, zk_some, zpi, if_true, if_false, i10, C132 X _ _ G _ nv (show rfs M 1 (20, 0, 0) 0 = nI nv from m0) (by omega), h, C130_1]
  · have hj5 : j < 5 := by omega
    have w := v.2.1 j hj
    obtain ⟨q1, q2⟩ := shw (v.1.2.2.2.2.1 j hj) w.1 w.2
    have z1 : FP.fdiv (FP.i2f (M (5, 0, j) 3)) (FP.i2f (M (5, 0, j) 0)) &&& 0x7fffffff ≤ 0x7f800000 := nn32 q1
    have z2 : FP.fadd (FP.fdiv (FP.i2f (M (5, 0, j) 3)) (FP.i2f (M (5, 0, j) 0))) (FP.i2f (M (5, 0, j) 1)) &&& 0x7fffffff ≤ 0x7f800000 := nn32 q2
    obtain ⟨r1, r2, r3⟩ := same32 X 11 _ q2 (hh M G)
    have r1' : zd X 11 126 [vD (FP.f2d (FP.fadd (FP.fdiv (FP.i2f (M (5, 0, j) 3)) (FP.i2f (M (5, 0, j) 0))) (FP.i2f (M (5, 0, j) 1)))), vI 23, vI 127] (hh M G) = _ := r1
    have r2' : FP.f2d (FP.fadd (FP.fdiv (FP.i2f (M (5, 0, j) 3)) (FP.i2f (M (5, 0, j) 0))) (FP.i2f (M (5, 0, j) 1))) &&& 0x7fffffffffffffff ≤ 0x7ff0000000000000 := r2
    have c242 := C242 X 9 (FP.fadd (FP.fdiv (FP.i2f (M (5, 0, j) 3)) (FP.i2f (M (5, 0, j) 0))) (FP.i2f (M (5, 0, j) 1))) r3 (hh M G)
    refine ⟨(FP.fadd (FP.fdiv (FP.i2f (M (5, 0, j) 3)) (FP.i2f (M (5, 0, j) 0))) (FP.i2f (M (5, 0, j) 1))).toInt32.toInt64, M, G, M, G, ?_, ?_, i⟩
    · simp only [E97, e97_0, e97_1, e97_4, e97_5, e97_8, e97_11, e97_12, e97_13, e97_16, e97_17, e97_18, e97_21, e97_24, e97_25, e97_26, e97_27, e97_28, e97_31, e97_32, e97_33, e97_36, e97_37, e97_38, e97_39, e97_42, e97_43, e97_44, e97_45, e97_46, e97_47, e97_49, e97_51, e97_54, zt0, zt1, zn3, not_false_eq_true, toListS, toListN, zk_some, zpi, if_true, if_false, i10, C2x X _ M G nv e2 n5, h, z5 hj5, cl5 hj5, z1, z2, r1', r2']
      rfl
    · simp only [E202, e202_0, e202_1, e202_2, e202_5, e202_8, e202_9, e202_10, e202_13, e202_14, e202_15, e202_18, e202_19, e202_20, e202_23, e202_24, e202_25, e202_26, e202_27, e202_28, e202_29, e202_32, e202_33, e202_34, e202_35, e202_36, e202_37, e202_38, e202_39, e202_42, e202_43, e202_44, e202_45, e202_46, e202_47, e202_48, e202_51, e202_52, zt0, zt1, zn3, not_false_eq_true, toListS, toListN, zk_some, zpi, if_true, if_false, i10, C132 X _ M G _ nv m0 (by omega), h, C134, niV, ni0, ni1, ni2, ni3, ni4, wV0 hj5, cV0 hj5, rV0 s hj, wV hj5 (show 1 < 5 by decide), cV hj5 (show 1 < 5 by decide), rV s hj (show 1 < 5 by decide), wV hj5 (show 2 < 5 by decide), cV hj5 (show 2 < 5 by decide), rV s hj (show 2 < 5 by decide), wV hj5 (show 3 < 5 by decide), cV hj5 (show 3 < 5 by decide), rV s hj (show 3 < 5 by decide), wV hj5 (show 4 < 5 by decide), cV hj5 (show 4 < 5 by decide), rV s hj (show 4 < 5 by decide), z1, z2, c242]
theorem L98 (X : Nat × (Nat → Int32) × Value) (d : Nat) (M : zM) (G : zG) (nv np : Nat) (x : Int32) (v : vb (gb M 0) nv np) : ∃ s : zV × zV, zx X (d + 1) 98 21 [vR (6, 0, 0), vI x, vD FP.dconst0, vN, vI 0, vN, vN, vN] [] (hh M G) = zx X (d + 1) 98 85 [vR (6, 0, 0), vI x, vD (wk (vw M 0) nv), vN, vI (nI nv), s.1, s.2, vN] [] (hh M G) := by
  have e2 : M (0, 0, 0) 2 = nI nv := v.1.1
  have n5 : nv ≤ 5 := v.1.2.2.1
  obtain ⟨s', -, l⟩ := zlr (σ := zV × zV) (n := nv) (f := fun k s => zx X (d + 1) 98 21 [vR (6, 0, 0), vI x, vD (wk (vw M 0) k), vN, vI (nI k), s.1, s.2, vN] [] (hh M G)) (P := fun _ _ => True) (fun j s hj _ => by
    have hj5 : j < 5 := by omega
    have w := v.2.1 j hj
    obtain ⟨q1, q2, q3, q4⟩ := wk_1 (v.1.2.2.2.2.1 j hj) w.1 w.2
    have q5 := wk_P v (j + 1) (by omega)
    have z1 : FP.ddiv (FP.i2d (M (5, 0, j) 3)) (FP.i2d (M (5, 0, j) 0)) &&& 0x7fffffffffffffff ≤ 0x7ff0000000000000 := nn64 q1
    have z2 : FP.ddiv (FP.ddiv (FP.i2d (M (5, 0, j) 3)) (FP.i2d (M (5, 0, j) 0))) 4611686018427387904 &&& 0x7fffffffffffffff ≤ 0x7ff0000000000000 := nn64 q2
    have z3 : FP.dadd (FP.i2d (M (5, 0, j) 1)) (FP.ddiv (FP.ddiv (FP.i2d (M (5, 0, j) 3)) (FP.i2d (M (5, 0, j) 0))) 4611686018427387904) &&& 0x7fffffffffffffff ≤ 0x7ff0000000000000 := nn64 q3
    have z4 : FP.dmul (FP.i2d (M (5, 0, j) 3)) (FP.dadd (FP.i2d (M (5, 0, j) 1)) (FP.ddiv (FP.ddiv (FP.i2d (M (5, 0, j) 3)) (FP.i2d (M (5, 0, j) 0))) 4611686018427387904)) &&& 0x7fffffffffffffff ≤ 0x7ff0000000000000 := nn64 q4
    have z6 : FP.dadd (wk (vw M 0) j) (FP.dmul (FP.i2d (M (5, 0, j) 3)) (FP.dadd (FP.i2d (M (5, 0, j) 1)) (FP.ddiv (FP.ddiv (FP.i2d (M (5, 0, j) 3)) (FP.i2d (M (5, 0, j) 0))) 4611686018427387904))) &&& 0x7fffffffffffffff ≤ 0x7ff0000000000000 := nn64 q5
    refine ⟨(vR (5, 0, j), vD (FP.i2d (M (5, 0, j) 3))), trivial, fun w ew => ?_⟩
    simp only [e98_21, e98_23, e98_24, e98_27, e98_30, zt0, zt1, zn3, not_false_eq_true, toListS, toListN, zk_some, zpi, e2, nle (show nv < 2 ^ 31 by omega) (show j < 2 ^ 31 by omega)]
    rw [if_neg (by omega)]
    simp only [e98_33, e98_34, e98_37, e98_40, e98_42, e98_43, e98_45, e98_47, e98_50, e98_51, e98_53, e98_54, e98_56, e98_58, e98_61, e98_62, e98_64, e98_66, e98_69, e98_70, e98_71, e98_74, e98_75, e98_76, e98_77, e98_78, e98_79, e98_82, zt0, zt1, zn3, not_false_eq_true, toListS, toListN, zk_some, zpi, z5 hj5, cl5 hj5, z1, z2, z3, z4, z6, nI_1]
    exact ew) nv 0 (vN, vN) (Nat.zero_add _) trivial
  rw [nI_0] at l
  refine ⟨s', ?_⟩
  refine Eq.trans (show _ = _ from l) ?_
  simp only [e98_21, e98_23, e98_24, e98_27, e98_30, zt0, zt1, zn3, not_false_eq_true, toListS, toListN, zk_some, zpi, e2, nle (show nv < 2 ^ 31 by omega) (show nv < 2 ^ 31 by omega)]
  rw [if_pos (Nat.le_refl _)]
theorem L203 (X : Nat × (Nat → Int32) × Value) (d : Nat) (M : zM) (G : zG) (nv np : Nat) (x : Int32) (s : ST M nv np) (v : vb (gb M 0) nv np) : ∃ s0 : zV × zV, zx X (d + 1) 203 22 [vR (7, 0, 0), vI x, vD FP.dconst0, vN, vI 0, vN, vN, vN] [] (hh M G) = zx X (d + 1) 203 92 [vR (7, 0, 0), vI x, vD (wk (vw M 0) nv), vN, vI (nI nv), s0.1, s0.2, vN] [] (hh M G) := by
  have m0 : M (20, 0, 0) 0 = nI nv := s.2.2.2.2.1
  have n5 : nv ≤ 5 := v.1.2.2.1
  obtain ⟨s', -, l⟩ := zlr (σ := zV × zV) (n := nv) (f := fun k s0 => zx X (d + 1) 203 22 [vR (7, 0, 0), vI x, vD (wk (vw M 0) k), vN, vI (nI k), s0.1, s0.2, vN] [] (hh M G)) (P := fun _ _ => True) (fun j s0 hj _ => by
    have hj5 : j < 5 := by omega
    have w := v.2.1 j hj
    obtain ⟨q1, q2, q3, q4⟩ := wk_1 (v.1.2.2.2.2.1 j hj) w.1 w.2
    have q5 := wk_P v (j + 1) (by omega)
    have z1 : FP.ddiv (FP.i2d (M (5, 0, j) 3)) (FP.i2d (M (5, 0, j) 0)) &&& 0x7fffffffffffffff ≤ 0x7ff0000000000000 := nn64 q1
    have z2 : FP.ddiv (FP.ddiv (FP.i2d (M (5, 0, j) 3)) (FP.i2d (M (5, 0, j) 0))) 4611686018427387904 &&& 0x7fffffffffffffff ≤ 0x7ff0000000000000 := nn64 q2
    have z3 : FP.dadd (FP.i2d (M (5, 0, j) 1)) (FP.ddiv (FP.ddiv (FP.i2d (M (5, 0, j) 3)) (FP.i2d (M (5, 0, j) 0))) 4611686018427387904) &&& 0x7fffffffffffffff ≤ 0x7ff0000000000000 := nn64 q3
    have z4 : FP.dmul (FP.i2d (M (5, 0, j) 3)) (FP.dadd (FP.i2d (M (5, 0, j) 1)) (FP.ddiv (FP.ddiv (FP.i2d (M (5, 0, j) 3)) (FP.i2d (M (5, 0, j) 0))) 4611686018427387904)) &&& 0x7fffffffffffffff ≤ 0x7ff0000000000000 := nn64 q4
    have z6 : FP.dadd (wk (vw M 0) j) (FP.dmul (FP.i2d (M (5, 0, j) 3)) (FP.dadd (FP.i2d (M (5, 0, j) 1)) (FP.ddiv (FP.ddiv (FP.i2d (M (5, 0, j) 3)) (FP.i2d (M (5, 0, j) 0))) 4611686018427387904))) &&& 0x7fffffffffffffff ≤ 0x7ff0000000000000 := nn64 q5
    refine ⟨(vI (nI (4 + 5 * j)), vD (FP.i2d (M (5, 0, j) 3))), trivial, fun w ew => ?_⟩
    simp only [e203_22, e203_24, e203_25, e203_28, e203_29, e203_30, zt0, zt1, zn3, not_false_eq_true, toListS, toListN, zk_some, zpi, show zin 0 93 = true from rfl, show (0 : Int32).toNatClampNeg = 0 from rfl, m0, nle (show nv < 2 ^ 31 by omega) (show j < 2 ^ 31 by omega)]
    rw [if_neg (by omega)]
    simp only [e203_33, e203_35, e203_38, e203_40, e203_41, e203_44, e203_46, e203_47, e203_48, e203_49, e203_50, e203_52, e203_53, e203_55, e203_56, e203_59, e203_61, e203_62, e203_63, e203_64, e203_65, e203_67, e203_68, e203_71, e203_73, e203_74, e203_75, e203_76, e203_77, e203_78, e203_81, e203_82, e203_83, e203_84, e203_85, e203_86, e203_89, zt0, zt1, zn3, not_false_eq_true, toListS, toListN, zk_some, zpi, C134, niV, ni0, ni1, ni2, ni3, ni4, wV0 hj5, cV0 hj5, rV0 s hj, wV hj5 (show 1 < 5 by decide), cV hj5 (show 1 < 5 by decide), rV s hj (show 1 < 5 by decide), wV hj5 (show 2 < 5 by decide), cV hj5 (show 2 < 5 by decide), rV s hj (show 2 < 5 by decide), wV hj5 (show 3 < 5 by decide), cV hj5 (show 3 < 5 by decide), rV s hj (show 3 < 5 by decide), wV hj5 (show 4 < 5 by decide), cV hj5 (show 4 < 5 by decide), rV s hj (show 4 < 5 by decide), z1, z2, z3, z4, z6, nI_1]
    exact ew) nv 0 (vN, vN) (Nat.zero_add _) trivial
  rw [nI_0] at l
  refine ⟨s', ?_⟩
  refine Eq.trans (show _ = _ from l) ?_
  simp only [e203_22, e203_24, e203_25, e203_28, e203_29, e203_30, zt0, zt1, zn3, not_false_eq_true, toListS, toListN, zk_some, zpi, show zin 0 93 = true from rfl, show (0 : Int32).toNatClampNeg = 0 from rfl, m0, nle (show nv < 2 ^ 31 by omega) (show nv < 2 ^ 31 by omega)]
  rw [if_pos (Nat.le_refl _)]
theorem K25 (X : Nat × (Nat → Int32) × Value) (t : Nat) (M : zM) (G : zG) (x : Int32) (i : Inv t M) : okL X 98 203 [vI x] t M G := by
  obtain ⟨nv, np, s⟩ := ST_of i
  have s' := s
  obtain ⟨n5, n8, e2, e3, m0, m1, v, o6, f5, a, vc, ac, vm⟩ := s'
  rcases inz_c x 1 (by decide) with ⟨g, gn⟩ | ⟨g, l, hl, rfl⟩
  · have g' : inz x 0 1 = 0 := g
    rcases rng_n (lit := 1) rfl gn with c1 | ⟨c1, c2⟩
    · refine ⟨4000000000000000000 - Int32.toInt64 (-2), rfs M 2, G, rfm (rfs M 2) 2, G, ?_, ?_, Inv_rf i⟩
      · simp only [e98_0, e98_1, e98_4, e98_5, e98_6, e98_9, e98_10, e98_12, e98_15, E98, zt0, zt1, zn3, not_false_eq_true, toListS, toListN, zk_some, zpi, if_true, if_false, i10, c1, C115_2]
      · simp only [e203_0, e203_1, e203_2, e203_3, e203_4, e203_7, e203_10, e203_11, e203_13, e203_16, E203, zt0, zt1, zn3, not_false_eq_true, toListS, toListN, zk_some, zpi, if_true, if_false, i10, C128, j_0, j_1, g', C130_2]
    · refine ⟨4000000000000000000 - Int32.toInt64 (-2), rfs M 2, G, rfm (rfs M 2) 2, G, ?_, ?_, Inv_rf i⟩
      · simp only [e98_0, e98_1, e98_4, e98_5, e98_6, e98_9, e98_10, e98_12, e98_15, E98, zt0, zt1, zn3, not_false_eq_true, toListS, toListN, zk_some, zpi, if_true, if_false, i10, c1, c2, C115_2]
      · simp only [e203_0, e203_1, e203_2, e203_3, e203_4, e203_7, e203_10, e203_11, e203_13, e203_16, E203, zt0, zt1, zn3, not_false_eq_true, toListS, toListN, zk_some, zpi, if_true, if_false, i10, C128, j_0, j_1, g', C130_2]
  · obtain ⟨s1, l1⟩ := L98 X 11 M G nv np (nI l) v
    obtain ⟨s2, l2⟩ := L203 X 11 M G nv np (nI l) s v
    have pw' : Pd (wk (vw M 0) nv) (-64) 100 := Pz_w (wk_P v nv (Nat.le_refl _)) (Int.le_refl _) (by omega)
    have c126 := same64 X 11 (wk (vw M 0) nv) pw' (hh M G)
    have c240 := C240 X 9 (wk (vw M 0) nv) (pd_nn pw') (hh M G)
    rcases (show l = 0 ∨ l = 1 by omega) with rfl | rfl
    · show okL X 98 203 [vI 0] t M G
      rw [nI_0] at l1 l2
      have g' : inz 0 0 1 = 1 := rfl
      refine ⟨(wk (vw M 0) nv).toInt64, M, G, M, G, ?_, ?_, i⟩
      · simp only [e98_0, e98_1, e98_4, e98_5, e98_6, e98_9, e98_10, e98_12, e98_15, e98_16, e98_17, e98_18, e98_19, E98, zt0, zt1, zn3, not_false_eq_true, toListS, toListN, zk_some, zpi, if_true, if_false, i10, q_lt_0_0, q_le_0_0, q_lt_0_1, q_le_0_1]
        rw [l1]
        simp only [e98_85, e98_86, e98_89, e98_90, e98_92, e98_95, e98_98, e98_101, e98_102, e98_103, e98_104, zt0, zt1, zn3, not_false_eq_true, toListS, toListN, zk_some, zpi, if_true, if_false, i10, c126]
      · simp only [e203_0, e203_1, e203_2, e203_3, e203_4, e203_7, e203_10, e203_11, e203_13, e203_16, e203_17, e203_18, e203_19, e203_20, E203, zt0, zt1, zn3, not_false_eq_true, toListS, toListN, zk_some, zpi, if_true, if_false, i10, C128, j_0, j_1, g', i10]
        rw [l2]
        simp only [e203_92, e203_93, e203_96, e203_97, e203_100, e203_103, e203_104, e203_105, e203_106, zt0, zt1, zn3, not_false_eq_true, toListS, toListN, zk_some, zpi, if_true, if_false, i10, c240]
    · show okL X 98 203 [vI 1] t M G
      rw [show nI 1 = 1 from rfl] at l1 l2
      have g' : inz 1 0 1 = 1 := rfl
      refine ⟨(FP.d2i (wk (vw M 0) nv)).toInt64, M, G, M, G, ?_, ?_, i⟩
      · simp only [e98_0, e98_1, e98_4, e98_5, e98_6, e98_9, e98_10, e98_12, e98_15, e98_16, e98_17, e98_18, e98_19, E98, zt0, zt1, zn3, not_false_eq_true, toListS, toListN, zk_some, zpi, if_true, if_false, i10, q_lt_1_0, q_le_1_0, q_eq_1_0, q_lt_1_1, q_le_1_1]
        rw [l1]
        simp only [e98_85, e98_86, e98_89, e98_90, e98_92, e98_95, e98_98, e98_101, e98_102, e98_103, e98_104, zt0, zt1, zn3, not_false_eq_true, toListS, toListN, zk_some, zpi, if_true, if_false, i10, c126, q_eq_1_0]
      · simp only [e203_0, e203_1, e203_2, e203_3, e203_4, e203_7, e203_10, e203_11, e203_13, e203_16, e203_17, e203_18, e203_19, e203_20, E203, zt0, zt1, zn3, not_false_eq_true, toListS, toListN, zk_some, zpi, if_true, if_false, i10, C128, j_0, j_1, g', i10]
        rw [l2]
        simp only [e203_92, e203_93, e203_96, e203_97, e203_100, e203_103, e203_104, e203_105, e203_106, zt0, zt1, zn3, not_false_eq_true, toListS, toListN, zk_some, zpi, if_true, if_false, i10, c240, q_eq_1_0]
