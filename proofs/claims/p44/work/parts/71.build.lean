/-! THE BENCH IS BUILT: masks, rests, the script; build, pipe by pipe -/
theorem and_n (x : Int32) (m : Nat) (hm : m < 2 ^ 31) : ∃ k, k ≤ m ∧ x &&& nI m = nI k := by
  have hk : x.toBitVec.toNat &&& m ≤ m := Nat.and_le_right
  refine ⟨x.toBitVec.toNat &&& m, hk, ?_⟩
  apply Int32.toBitVec_inj.mp
  apply BitVec.eq_of_toNat_eq
  have e1 : (nI m).toBitVec.toNat = m := by
    show (BitVec.ofNat 32 m).toNat = m
    rw [BitVec.toNat_ofNat, Nat.mod_eq_of_lt (by omega)]
  have e2 : (nI (x.toBitVec.toNat &&& m)).toBitVec.toNat = x.toBitVec.toNat &&& m := by
    show (BitVec.ofNat 32 (x.toBitVec.toNat &&& m)).toNat = _
    rw [BitVec.toNat_ofNat, Nat.mod_eq_of_lt (by omega)]
  rw [Int32.toBitVec_and, BitVec.toNat_and, e1, e2]
theorem i_rem {a b : Nat} (ha : a < 2 ^ 31) (hb : b < 2 ^ 31) : nI a - nI a / nI b * nI b = nI (a % b) := by
  rw [show nI a / nI b = nI (a / b) from (Int32.ofNat_div ha hb).symm, pk_mul, nI_sub (Nat.div_mul_le_self a b)]
  have := Nat.div_add_mod' a b
  congr 1
  omega
def atv (X : Nat × (Nat → Int32) × Value) (k : Nat) : Int32 := if k < X.1 then X.2.1 k else 0
theorem C240 (X : Nat × (Nat → Int32) × Value) (hx : X.1 ≤ 260) (d : Nat) (h : zH) (k : Nat) (hk : k < 300) : zd X d 240 [vR (50, 0, 0), vI (nI k)] h = some (some (vI (atv X k)), h) := by
  have e : (nI (X.1) ≤ nI k) = (X.1 ≤ k) := nle (by omega) (by omega)
  have e' : (Int32.ofNat X.1 ≤ nI k) = (X.1 ≤ k) := e
  have hc : (nI k).toNatClampNeg = k := nI_clamp (by omega)
  unfold atv
  by_cases q : X.1 ≤ k
  · rw [if_neg (by omega)]
    simp only [E240, e240_0, e240_1, e240_2, e240_3, e240_6, e240_7, e240_8, e240_9, e240_12, e240_13, zt0, zt1, zn3, not_false_eq_true, toListS, toListN, zk_some, zpi, e', if_pos q]
  · have hz : zin (nI k) X.1 = true := zin_nI (by omega) (by omega)
    rw [if_pos (by omega)]
    simp only [E240, e240_0, e240_1, e240_2, e240_3, e240_6, e240_7, e240_8, e240_9, e240_12, e240_13, zt0, zt1, zn3, not_false_eq_true, toListS, toListN, zk_some, zpi, e', if_neg q, hz, hc]
theorem p1n (n : Nat) : 1 + nI n = nI (1 + n) := nI_add 1 n
theorem p2n (n : Nat) : 2 + nI n = nI (2 + n) := nI_add 2 n
theorem p4n (n : Nat) : 4 + nI n = nI (4 + n) := nI_add 4 n
theorem n1 : (1 : Int32) = nI 1 := rfl
/-- a bench that is being built -/
def BI (M : zM) (v p : Nat) : Prop := vb (gb M 0) v p ∧ M (0, 0, 0) 6 = 0 ∧ M (0, 0, 0) 4 = 0 ∧ M (0, 0, 0) 5 = 0 ∧ M (4, 2, 0) 1 = -1
theorem BI_cb {M : zM} {S : Nat → Int32} {V P : tV} {v p v' p' : Nat} (b : BI M v p) (h : vb (S, V, P) v' p') (h4 : S 4 = M (0, 0, 0) 4) (h5 : S 5 = M (0, 0, 0) 5) (h6 : S 6 = M (0, 0, 0) 6) : BI (cb M 0 (S, V, P)) v' p' := by
  obtain ⟨b1, b2, b3, b4, b5⟩ := b
  exact ⟨by rw [gb_cb]; exact h, h6.trans b2, h4.trans b3, h5.trans b4, b5⟩
theorem BI_e {M : zM} {v p : Nat} (b : BI M v p) : v ≤ 5 ∧ p ≤ 8 ∧ M (0, 0, 0) 2 = nI v ∧ M (0, 0, 0) 3 = nI p := ⟨b.1.1.2.2.1, b.1.1.2.2.2.1, b.1.1.1, b.1.1.2.1⟩
theorem nz (n : Nat) (h : n < 2 ^ 31) (h0 : n ≠ 0) : ¬ nI n = 0 := by rw [show (0 : Int32) = nI 0 from rfl, neq h (by decide)]; exact h0
theorem vessel_1 (X : Nat × (Nat → Int32) × Value) (hx : X.1 ≤ 260) (G : zG) (n : Nat) (n3 : n ≤ 3) (v : Nat) (hv : v < n) (M : zM) (l4 : zV) (b : BI M v 0) : ∃ M' c, BI M' (v + 1) 0 ∧ ∀ w, zw X 88 961 8 241 20 [vR (50, 0, 0), vR (6, 0, 0), vI (nI n), vI (nI (v + 1)), vI c, vN, vN, vN] [] (hh M' G) = w → zw X 88 961 8 241 20 [vR (50, 0, 0), vR (6, 0, 0), vI (nI n), vI (nI v), l4, vN, vN, vN] [] (hh M G) = w := by
  obtain ⟨b5, -, -, -⟩ := BI_e b
  generalize hc : atv X (1 + v) = c
  obtain ⟨k0, q0, e0⟩ := and_n c 3 (by decide)
  obtain ⟨k1, q1, e1⟩ := and_n (c >>> (2 &&& 31)) 7 (by decide)
  obtain ⟨k2, q2, e2⟩ := and_n (c >>> (5 &&& 31)) 7 (by decide)
  obtain ⟨k3, q3, e3⟩ := and_n (c >>> (8 &&& 31)) 63 (by decide)
  obtain ⟨k4, q4, e4⟩ := and_n (c >>> (14 &&& 31)) 7 (by decide)
  obtain ⟨k5, q5, e5⟩ := and_n (c >>> (14 &&& 31)) 3 (by decide)
  have e0 : c &&& 3 = nI k0 := e0
  have e1 : c >>> (2 &&& 31) &&& 7 = nI k1 := e1
  have e2 : c >>> (5 &&& 31) &&& 7 = nI k2 := e2
  have e3 : c >>> (8 &&& 31) &&& 63 = nI k3 := e3
  have e4 : c >>> (14 &&& 31) &&& 7 = nI k4 := e4
  have e5 : c >>> (14 &&& 31) &&& 3 = nI k5 := e5
  have a240 : zd X 7 240 [vR (50, 0, 0), vI (nI (1 + v))] (hh M G) = some (some (vI c), hh M G) := by rw [← hc]; exact C240 X hx 7 _ (1 + v) (by omega)
  -- the vessel
  have y75 := Y75 X M G b.1 (nI (1 + k0)) (nI k1) (nI (2 + k2)) (by rw [n1, nlt (by omega) (by decide)]; omega) (nI_pos (by omega)) (by rw [n1, nle (by decide) (by omega)]; omega) (by rw [show (9 : Int32) = nI 9 from rfl, nlt (by decide) (by omega)]; omega) (by rw [show (20 : Int32) = nI 20 from rfl, nlt (by decide) (by omega)]; omega) (by rw [show (30 : Int32) = nI 30 from rfl, nlt (by decide) (by omega)]; omega) (by omega)
  have v1 := vb_vessel (x := nI (1 + k0)) (y := nI k1) (z := nI (2 + k2)) b.1 (by omega) (by rw [nI_int (by omega)]; omega) (by rw [nI_int (by omega)]; omega) (by rw [nI_int (by omega)]; omega) (by rw [nI_int (by omega)]; omega) (by rw [nI_int (by omega)]; omega) (by rw [nI_int (by omega)]; omega)
  generalize hM1 : cb M 0 (uS (M (0, 0, 0)) 2 (nI (v + 1)), V5 (vw M 0) v (nI (1 + k0)) (nI k1) (nI (2 + k2)) 0 0, pw M 0) = M1 at y75
  have b1 : BI M1 (v + 1) 0 := by rw [← hM1]; exact BI_cb b v1 (uS_n (by decide)) (uS_n (by decide)) (uS_n (by decide))
  have f0 : M1 (5, 0, v) 0 = nI (1 + k0) := by rw [← hM1, cb_V]; simp [V5, uV]
  have f2 : M1 (5, 0, v) 2 = nI (2 + k2) := by rw [← hM1, cb_V]; simp [V5, uV]
  obtain ⟨c5, -, d2, -⟩ := BI_e b1
  have o0 := Y82_0_7 X M1 G c5 d2 v (by omega)
  have o2 := Y82_2_7 X M1 G c5 d2 v (by omega)
  rw [f0] at o0
  rw [f2] at o2
  -- its water
  have hm1 : (1 + k0) * (2 + k2) ≤ 4 * 9 := Nat.mul_le_mul (by omega) (by omega)
  have hmm := Nat.mod_lt k3 (show 0 < (1 + k0) * (2 + k2) + 1 by omega)
  have hz : ¬ nI ((1 + k0) * (2 + k2) + 1) = 0 := nz _ (by omega) (by omega)
  have r3 : nI k3 - nI k3 / nI ((1 + k0) * (2 + k2) + 1) * nI ((1 + k0) * (2 + k2) + 1) = nI (k3 % ((1 + k0) * (2 + k2) + 1)) := i_rem (by omega) (by omega)
  have eb : brim (vw M1 0) v = ((1 + k0) * (2 + k2) : Nat) := by
    show (M1 (5, 0, v) 0).toInt * (M1 (5, 0, v) 2).toInt = _
    rw [f0, f2, nI_int (by omega), nI_int (by omega)]
    push_cast
    rfl
  have y79 := Y79 X M1 G b1.1 v (k3 % ((1 + k0) * (2 + k2) + 1)) (by omega) (by rw [eb]; omega)
  have v2 := vb_water (j := v) (m := k3 % ((1 + k0) * (2 + k2) + 1)) b1.1 (fun _ => by show _ ≤ brim (vw M1 0) v; rw [eb]; omega)
  generalize hM2 : cb M1 0 (M1 (0, 0, 0), uV (vw M1 0) v 3 (nI (k3 % ((1 + k0) * (2 + k2) + 1))), pw M1 0) = M2 at y79
  have b2 : BI M2 (v + 1) 0 := by rw [← hM2]; exact BI_cb b1 v2 rfl rfl rfl
  -- its tap
  have tp : ∃ m, m ≤ 3 ∧ (if nI k4 < 4 then (0 : Int32) else nI k5) = nI m := by
    by_cases q : nI k4 < 4
    · exact ⟨0, by omega, if_pos q⟩
    · exact ⟨k5, q5, if_neg q⟩
  obtain ⟨m, m3, em⟩ := tp
  have y80 := Y80 X M2 G b2.1 v m (by omega) (by omega)
  have v3 := vb_tap (j := v) (m := m) b2.1 (by omega)
  generalize hM3 : cb M2 0 (M2 (0, 0, 0), uV (vw M2 0) v 4 (nI m), pw M2 0) = M3 at y80
  have b3 : BI M3 (v + 1) 0 := by rw [← hM3]; exact BI_cb b2 v3 rfl rfl rfl
  refine ⟨M3, c, b3, fun w ew => ?_⟩
  simp only [e241_20, e241_21, e241_22, nle (show n < 2 ^ 31 by omega) (show v < 2 ^ 31 by omega)]
  rw [if_neg (by omega)]
  simp only [e241_25, e241_26, e241_27, e241_28, e241_29, e241_32, e241_34, e241_35, e241_36, e241_38, e241_39, e241_40, e241_41, e241_43, e241_44, e241_45, e241_47, e241_48, e241_49, e241_51, e241_52, e241_53, e241_55, e241_56, e241_57, Nat.le_refl, toListS, toListN, zk_some, a240, e0, e1, e2, p1n, p2n, y75]
  simp only [e241_60, e241_61, e241_62, e241_63, e241_65, e241_67, e241_68, e241_70, e241_71, e241_72, e241_73, e241_74, e241_77, e241_78, e241_79, e241_80, e241_83, e241_84, e241_85, e241_86, e241_87, Nat.le_refl, toListS, toListN, zk_some, o0, o2, e3, pk_mul, nI_1, hz, not_false_eq_true, r3, y79]
  simp only [e241_90, e241_91, e241_92, e241_93, e241_95, e241_97, e241_98, e241_100, e241_101, e241_102, e4]
  by_cases q : nI k4 < 4
  · rw [if_pos q] at em
    rw [if_neg (by rw [i_lt] at q; rw [i_le]; omega)]
    simp only [e241_105, e241_106, e241_116, e241_119, e241_120, e241_123, Nat.le_refl, toListS, toListN, zk_some, em, y80, nI_1]
    exact ew
  · rw [if_neg q] at em
    rw [if_pos (by rw [i_lt] at q; rw [i_le]; omega)]
    simp only [e241_109, e241_111, e241_113, e241_114, e241_115, e241_116, e241_119, e241_120, e241_123, Nat.le_refl, toListS, toListN, zk_some, e5, em, y80, nI_1]
    exact ew
theorem pipe_1 (X : Nat × (Nat → Int32) × Value) (hx : X.1 ≤ 260) (G : zG) (n m : Nat) (n2 : 2 ≤ n) (n3 : n ≤ 3) (m3 : m ≤ 3) (p : Nat) (hp : p < m) (M : zM) (l5 l6 l7 : zV) (b : BI M n p) : ∃ M' a5 a6 a7, BI M' n (p + 1) ∧ ∀ w, zw X 88 961 8 241 143 [vR (50, 0, 0), vR (6, 0, 0), vI (nI n), vI (nI m), vI (nI (p + 1)), a5, a6, a7] [] (hh M' G) = w → zw X 88 961 8 241 143 [vR (50, 0, 0), vR (6, 0, 0), vI (nI n), vI (nI m), vI (nI p), l5, l6, l7] [] (hh M G) = w := by
  obtain ⟨b5, b8, d2, d3⟩ := BI_e b
  generalize hc : atv X (4 + p) = c
  obtain ⟨k0, q0, e0⟩ := and_n c 3 (by decide)
  obtain ⟨k1, q1, e1⟩ := and_n (c >>> (2 &&& 31)) 3 (by decide)
  obtain ⟨k2, q2, e2⟩ := and_n (c >>> (4 &&& 31)) 7 (by decide)
  obtain ⟨k3, q3, e3⟩ := and_n (c >>> (7 &&& 31)) 7 (by decide)
  obtain ⟨k4, q4, e4⟩ := and_n (c >>> (10 &&& 31)) 3 (by decide)
  obtain ⟨k5, q5, e5⟩ := and_n (c >>> (12 &&& 31)) 7 (by decide)
  obtain ⟨k6, q6, e6⟩ := and_n (c >>> (15 &&& 31)) 3 (by decide)
  have e0 : c &&& 3 = nI k0 := e0
  have e1 : c >>> (2 &&& 31) &&& 3 = nI k1 := e1
  have e2 : c >>> (4 &&& 31) &&& 7 = nI k2 := e2
  have e3 : c >>> (7 &&& 31) &&& 7 = nI k3 := e3
  have e4 : c >>> (10 &&& 31) &&& 3 = nI k4 := e4
  have e5 : c >>> (12 &&& 31) &&& 7 = nI k5 := e5
  have e6 : c >>> (15 &&& 31) &&& 3 = nI k6 := e6
  have a240 : zd X 7 240 [vR (50, 0, 0), vI (nI (4 + p))] (hh M G) = some (some (vI c), hh M G) := by rw [← hc]; exact C240 X hx 7 _ (4 + p) (by omega)
  have zn : ¬ nI n = 0 := nz n (by omega) (by omega)
  have en1 : nI n - 1 = nI (n - 1) := nI_sub (a := n) (b := 1) (by omega)
  have zn1 : ¬ nI (n - 1) = 0 := nz _ (by omega) (by omega)
  have z6 : ¬ (6 : Int32) = 0 := by decide
  have r0 : nI k0 - nI k0 / nI n * nI n = nI (k0 % n) := i_rem (by omega) (by omega)
  have r1 : nI k1 - nI k1 / nI (n - 1) * nI (n - 1) = nI (k1 % (n - 1)) := i_rem (by omega) (by omega)
  have h0 := Nat.mod_lt k0 (show 0 < n by omega)
  have h1 := Nat.mod_lt k1 (show 0 < n - 1 by omega)
  generalize k0 % n = f at r0 h0
  generalize k1 % (n - 1) = g at r1 h1
  have r2 : nI (f + 1 + g) - nI (f + 1 + g) / nI n * nI n = nI ((f + 1 + g) % n) := i_rem (by omega) (by omega)
  have h2 := Nat.mod_lt (f + 1 + g) (show 0 < n by omega)
  have hne : ¬ f = (f + 1 + g) % n := by
    rcases (show n = 2 ∨ n = 3 by omega) with rfl | rfl <;> omega
  generalize (f + 1 + g) % n = s at r2 h2 hne
  -- mouths
  have vf : vV (vw M 0) f := b.1.1.2.2.2.2.1 f h0
  have vs : vV (vw M 0) s := b.1.1.2.2.2.2.1 s h2
  have of1 := Y82_1_7 X M G b5 d2 f h0
  have of2 := Y82_2_7 X M G b5 d2 f h0
  have os1 := Y82_1_7 X M G b5 d2 s h2
  have os2 := Y82_2_7 X M G b5 d2 s h2
  have up : ∀ j, vV (vw M 0) j → ∃ B R, B ≤ 20 ∧ 1 ≤ R ∧ R ≤ 30 ∧ M (5, 0, j) 1 = nI B ∧ M (5, 0, j) 2 = nI R := fun j vj => by
    obtain ⟨-, -, x1, x2, x3, x4, -⟩ := vj
    have x1 : 0 ≤ (M (5, 0, j) 1).toInt := x1
    have x2 : (M (5, 0, j) 1).toInt ≤ 20 := x2
    have x3 : 1 ≤ (M (5, 0, j) 2).toInt := x3
    have x4 : (M (5, 0, j) 2).toInt ≤ 30 := x4
    exact ⟨(M (5, 0, j) 1).toInt.toNat, (M (5, 0, j) 2).toInt.toNat, by omega, by omega, by omega, nI_up x1, nI_up (by omega)⟩
  obtain ⟨Bf, Rf, u1, u2, u3, u4, u5⟩ := up f vf
  obtain ⟨Bs, Rs, w1, w2, w3, w4, w5⟩ := up s vs
  rw [u4] at of1
  rw [u5] at of2
  rw [w4] at os1
  rw [w5] at os2
  have zf : ¬ nI (Rf + 1) = 0 := nz _ (by omega) (by omega)
  have zs : ¬ nI (Rs + 1) = 0 := nz _ (by omega) (by omega)
  have rf : nI k2 - nI k2 / nI (Rf + 1) * nI (Rf + 1) = nI (k2 % (Rf + 1)) := i_rem (by omega) (by omega)
  have rs : nI k3 - nI k3 / nI (Rs + 1) * nI (Rs + 1) = nI (k3 % (Rs + 1)) := i_rem (by omega) (by omega)
  have hf := Nat.mod_lt k2 (show 0 < Rf + 1 by omega)
  have hs := Nat.mod_lt k3 (show 0 < Rs + 1 by omega)
  generalize k2 % (Rf + 1) = mf at rf hf
  generalize k3 % (Rs + 1) = ms at rs hs
  have Mf : hM (vw M 0) f (nI (Bf + mf)) = 1 := by
    unfold hM
    refine inz_y ?_
    show (M (5, 0, f) 1).toInt ≤ _ ∧ _ ≤ (M (5, 0, f) 1 + M (5, 0, f) 2).toInt
    rw [u4, u5, nI_add, nI_int (by omega), nI_int (by omega), nI_int (by omega)]
    omega
  have Ms : hM (vw M 0) s (nI (Bs + ms)) = 1 := by
    unfold hM
    refine inz_y ?_
    show (M (5, 0, s) 1).toInt ≤ _ ∧ _ ≤ (M (5, 0, s) 1 + M (5, 0, s) 2).toInt
    rw [w4, w5, nI_add, nI_int (by omega), nI_int (by omega), nI_int (by omega)]
    omega
  have y76 := Y76 X M G b.1 f s (nI (Bf + mf)) (nI (Bs + ms)) (nI (1 + k4)) h0 h2 hne (by rw [n1, nle (by decide) (by omega)]; omega) (by rw [show (9 : Int32) = nI 9 from rfl, nlt (by decide) (by omega)]; omega) (by omega) Mf Ms
  have v1 := vb_pipe b.1 (show p < 8 by omega) h0 h2 hne (hM_v vf Mf) (hM_v vs Ms) (r := nI (1 + k4)) (by rw [nI_int (by omega)]; omega) (by rw [nI_int (by omega)]; omega)
  generalize hM1 : cb M 0 (uS (M (0, 0, 0)) 3 (nI (p + 1)), vw M 0, P8 (pw M 0) p (nI f) (nI s) (nI (Bf + mf)) (nI (Bs + ms)) (nI (1 + k4))) = M1 at y76
  have b1 : BI M1 n (p + 1) := by rw [← hM1]; exact BI_cb b v1 (uS_n (by decide)) (uS_n (by decide)) (uS_n (by decide))
  -- its kind
  obtain ⟨c5, c8, -, c3⟩ := BI_e b1
  have r6 : nI k5 - nI k5 / 6 * 6 = nI (k5 % 6) := i_rem (b := 6) (by omega) (by decide)
  have h6 := Nat.mod_lt k5 (show 0 < 6 by decide)
  generalize k5 % 6 = kd at r6 h6
  have t7 : 0 ≤ (10 * M1 (3, 0, p) 5 + M1 (3, 0, p) 6).toInt := by
    obtain ⟨-, -, -, -, -, -, -, -, -, -, -, x1, x2, x3, x4⟩ := b1.1.1.2.2.2.2.2 p (by omega)
    exact i_tri x1 x2 x3 x4
  have y77 := Y77_7 X M1 G c8 c3 p kd k6 (by omega) (by omega) (by omega) t7
  have v2 := vb_kind (p := p) (l := kd) (m := k6) b1.1 (by omega) (by omega)
  generalize hM2 : cb M1 0 (M1 (0, 0, 0), vw M1 0, kd3 (pw M1 0) p (nI kd) (nI k6)) = M2 at y77
  have b2 : BI M2 n (p + 1) := by rw [← hM2]; exact BI_cb b1 v2 rfl rfl rfl
  refine ⟨M2, vI c, vI (nI f), vI (nI s), b2, fun w ew => ?_⟩
  simp only [e241_143, e241_145, e241_146, nle (show m < 2 ^ 31 by omega) (show p < 2 ^ 31 by omega)]
  rw [if_neg (by omega)]
  simp only [e241_149, e241_150, e241_151, e241_153, e241_154, e241_157, e241_159, e241_161, e241_162, e241_163, e241_164, e241_165, e241_167, e241_169, e241_170, e241_171, e241_173, e241_174, e241_175, e241_176, e241_177, e241_178, e241_179, e241_180, e241_181, e241_182, e241_183, e241_184, Nat.le_refl, toListS, toListN, zk_some, p4n, a240, e0, zn, not_false_eq_true, r0, nI_1, e1, en1, zn1, r1, nI_add, r2]
  simp only [e241_186, e241_187, e241_189, e241_191, e241_192, e241_194, e241_195, e241_198, e241_200, e241_201, e241_202, e241_204, e241_205, e241_206, e241_208, e241_209, e241_212, e241_213, e241_214, e241_215, e241_216, e241_217, e241_219, e241_220, e241_223, e241_225, e241_227, e241_228, e241_230, e241_231, e241_232, e241_234, e241_235, e241_238, e241_239, e241_240, e241_241, e241_242, e241_243, e241_245, e241_247, e241_248, e241_249, e241_250, e241_251, Nat.le_refl, toListS, toListN, zk_some, of1, of2, os1, os2, e2, e3, e4, zf, zs, not_false_eq_true, rf, rs, nI_1, nI_add, p1n, y76]
  simp only [e241_254, e241_255, e241_256, e241_258, e241_260, e241_262, e241_263, e241_265, e241_266, e241_268, e241_269, e241_271, e241_273, e241_274, e241_275, e241_276, e241_279, e241_280, e241_283, Nat.le_refl, toListS, toListN, zk_some, e5, z6, not_false_eq_true, r6, e6, y77, nI_1]
  exact ew
/-- build, from where its object is made -/
theorem build_1 (X : Nat × (Nat → Int32) × Value) (hx : X.1 ≤ 260) (G : zG) (M : zM) (b : BI M 0 0) : ∃ M' n m, BI M' n m ∧ 2 ≤ n ∧ n ≤ 3 ∧ 1 ≤ m ∧ m ≤ 3 ∧ zw X 88 961 8 241 8 [vR (50, 0, 0), vR (6, 0, 0), vN, vN, vN, vN, vN, vN] [] (hh M G) = some (some (vR (6, 0, 0)), hh M' G) := by
  obtain ⟨k0, q0, e0⟩ := and_n (atv X 0) 1 (by decide)
  obtain ⟨k1, q1, e1⟩ := and_n (atv X 0 >>> (1 &&& 31)) 3 (by decide)
  have e0 : atv X 0 &&& 1 = nI k0 := e0
  have e1 : atv X 0 >>> (1 &&& 31) &&& 3 = nI k1 := e1
  have a240 : ∀ h, zd X 7 240 [vR (50, 0, 0), vI 0] h = some (some (vI (atv X 0)), h) := fun h => C240 X hx 7 h 0 (by decide)
  have z3 : ¬ (3 : Int32) = 0 := by decide
  have r1 : nI k1 - nI k1 / 3 * 3 = nI (k1 % 3) := i_rem (b := 3) (by omega) (by decide)
  have h1 := Nat.mod_lt k1 (show 0 < 3 by decide)
  generalize k1 % 3 = g at r1 h1
  obtain ⟨n, hn, n2, n3⟩ : ∃ n, n = 2 + k0 ∧ 2 ≤ n ∧ n ≤ 3 := ⟨_, rfl, by omega, by omega⟩
  obtain ⟨m, hm, m1, m3⟩ : ∃ m, m = 1 + g ∧ 1 ≤ m ∧ m ≤ 3 := ⟨_, rfl, by omega, by omega⟩
  obtain ⟨⟨M1, l4⟩, b1, L1⟩ := zlr (σ := zM × zV) (n := n) (f := fun v z => zw X 88 961 8 241 20 [vR (50, 0, 0), vR (6, 0, 0), vI (nI n), vI (nI v), z.2, vN, vN, vN] [] (hh z.1 G)) (P := fun v z => BI z.1 v 0) (fun v z hv hb => by
    obtain ⟨M', c, hb', hw⟩ := vessel_1 X hx G n n3 v hv z.1 z.2 hb
    exact ⟨(M', vI c), hb', hw⟩) n 0 (M, vN) (by omega) b
  obtain ⟨⟨M2, l5, l6, l7⟩, b2, L2⟩ := zlr (σ := zM × zV × zV × zV) (n := m) (f := fun p z => zw X 88 961 8 241 143 [vR (50, 0, 0), vR (6, 0, 0), vI (nI n), vI (nI m), vI (nI p), z.2.1, z.2.2.1, z.2.2.2] [] (hh z.1 G)) (P := fun p z => BI z.1 n p) (fun p z hp hb => by
    obtain ⟨M', a5, a6, a7, hb', hw⟩ := pipe_1 X hx G n m n2 n3 m3 p hp z.1 z.2.1 z.2.2.1 z.2.2.2 hb
    exact ⟨(M', a5, a6, a7), hb', hw⟩) m 0 (M1, vN, vN, vN) (by omega) b1
  rw [nI_0] at L1 L2
  refine ⟨M2, n, m, b2, n2, n3, m1, m3, ?_⟩
  simp only [e241_8, e241_9, e241_10, e241_11, e241_14, e241_15, e241_16, e241_17, e241_18, e241_19, Nat.le_refl, toListS, toListN, zk_some, a240, e0, p2n, ← hn]
  refine Eq.trans L1 ?_
  simp only [e241_20, e241_21, e241_22, nle (show n < 2 ^ 31 by omega) (show n < 2 ^ 31 by omega)]
  rw [if_pos (Nat.le_refl _)]
  simp only [e241_126, e241_127, e241_128, e241_129, e241_132, e241_133, e241_134, e241_135, e241_136, e241_137, e241_138, e241_139, e241_140, e241_141, Nat.le_refl, toListS, toListN, zk_some, a240, e1, z3, not_false_eq_true, r1, p1n, ← hm]
  refine Eq.trans L2 ?_
  simp only [e241_143, e241_145, e241_146, nle (show m < 2 ^ 31 by omega) (show m < 2 ^ 31 by omega)]
  rw [if_pos (Nat.le_refl _)]
  simp only [e241_286, e241_287, Nat.le_refl]
