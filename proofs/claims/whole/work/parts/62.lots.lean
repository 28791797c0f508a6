/-! lots -/
def nz (z : Int32) : Int32 := z * 1664525 + 1013904223
def dv (z m : Int32) : Int32 := (nz z &&& 2147483647) / 256 - (nz z &&& 2147483647) / 256 / m * m
theorem andM (x : Int32) : ∃ a, a < 2 ^ 31 ∧ x &&& 2147483647 = nI a := by
  refine ⟨x.toBitVec.toNat % 2 ^ 31, Nat.mod_lt _ (by decide), Int32.toBitVec_inj.mp (BitVec.eq_of_toNat_eq ?_)⟩
  rw [nI_bv (Nat.mod_lt _ (by decide)), Int32.toBitVec_and, BitVec.toNat_and, show (2147483647 : Int32).toBitVec.toNat = 2 ^ 31 - 1 from rfl, Nat.and_two_pow_sub_one_eq_mod]
theorem n_div {a b : Nat} (ha : a < 2 ^ 31) (hb : b < 2 ^ 31) : nI a / nI b = nI (a / b) := (Int32.ofNat_div ha hb).symm
theorem n_mod {a m : Nat} (ha : a < 2 ^ 31) (hm : m < 2 ^ 31) : nI a - nI a / nI m * nI m = nI (a % m) := by
  rw [n_div ha hm]
  unfold nI
  rw [← Int32.ofNat_mul, ← Int32.ofNat_sub _ _ (Nat.div_mul_le_self a m)]
  refine congrArg Int32.ofNat ?_
  have := Nat.div_add_mod a m
  rw [Nat.mul_comm] at this
  omega
theorem dv_v (z : Int32) {m : Nat} (h0 : 0 < m) (hm : m < 2 ^ 31) : ∃ a, a < m ∧ dv z (nI m) = nI a := by
  obtain ⟨b, hb, e⟩ := andM (nz z)
  unfold dv
  rw [e, show (256 : Int32) = nI 256 from rfl, n_div hb (by decide), n_mod (Nat.lt_of_le_of_lt (Nat.div_le_self _ _) hb) hm]
  exact ⟨_, Nat.mod_lt _ h0, rfl⟩
/-- the waters drawn, and the seed behind -/
def drw (V : tV) (z : Int32) : Nat → tV × Int32
  | 0 => (V, z)
  | v + 1 => (uV (drw V z v).1 v 3 (dv (drw V z v).2 (sBr (drw V z v).1 v + 1)), nz (drw V z v).2)
theorem drw_c {V W : tV} {nv : Nat} (h : agV nv V W) (z : Int32) : ∀ v, v ≤ nv → agV nv (drw V z v).1 (drw W z v).1 ∧ (drw V z v).2 = (drw W z v).2 := by
  intro v
  induction v with
  | zero => intro _; exact ⟨h, rfl⟩
  | succ v ih =>
    intro hv
    obtain ⟨i1, i2⟩ := ih (by omega)
    refine ⟨agV_u i1 ?_, congrArg nz i2⟩
    rw [i2]
    unfold sBr
    rw [i1 v 0 (by omega) (by decide), i1 v 2 (by omega) (by decide)]
theorem drw_v {S : Nat → Int32} {V P : tV} {nv np : Nat} (h : vb (S, V, P) nv np) (z : Int32) : ∀ v, v ≤ nv → vb (S, (drw V z v).1, P) nv np := by
  intro v
  induction v with
  | zero => intro _; exact h
  | succ v ih =>
    intro hv
    have i := ih (by omega)
    have vv : vV (drw V z v).1 v := i.1.2.2.2.2.1 v (by omega)
    have bv := brim_v vv
    have sb := sBr_v vv
    obtain ⟨K, hK⟩ : ∃ K : Nat, brim (drw V z v).1 v = K := ⟨(brim (drw V z v).1 v).toNat, by have := bv.1; omega⟩
    have eK : sBr (drw V z v).1 v + 1 = nI (K + 1) := by
      have e : sBr (drw V z v).1 v = nI K := by rw [nI_up (x := sBr (drw V z v).1 v) (by rw [sb]; exact bv.1), sb, hK]; rfl
      rw [e, nI_1]
    obtain ⟨a, ha, e⟩ := dv_v (drw V z v).2 (m := K + 1) (by omega) (by have := bv.2; omega)
    show vb (S, uV (drw V z v).1 v 3 (dv (drw V z v).2 (sBr (drw V z v).1 v + 1)), P) nv np
    rw [eK, e]
    exact vb_water i (by omega) (show (a : Int) ≤ brim (drw V z v).1 v by omega)
def dB (nv : Nat) (B : zB) (z : Int32) : zB := (B.1, (drw B.2.1 z nv).1, B.2.2)
def slo (nv np : Nat) (B : zB) (L : Int32) : Nat → Int32
  | 0 => L
  | k + 1 => slo nv np B L k + (bst nv np B (k + 1)).1 7
theorem slo_L {nv np : Nat} {B : zB} {L : Int32} : ∀ k, slo nv np B L k = L + slo nv np B 0 k := by
  intro k
  induction k with
  | zero => exact (Int32.add_zero L).symm
  | succ k ih =>
    show slo nv np B L k + _ = L + (slo nv np B 0 k + _)
    rw [ih, Int32.add_assoc]
theorem slo_c {nv np : Nat} {B C : zB} (h : vb B nv np) (a : ag nv np B C) (L : Int32) : ∀ k, slo nv np B L k = slo nv np C L k := by
  intro k
  induction k with
  | zero => rfl
  | succ k ih =>
    show slo nv np B L k + _ = slo nv np C L k + _
    rw [ih, (bst_78 h a k).1]
/-- what ran over is what the sump has more, if it isn't full -/
theorem slo_s {nv np : Nat} {B : zB} (h : vb B nv np) (hs : (B.1 4).toInt ≤ 100000000) : ∀ k, k ≤ 30 → ((bst nv np B k).1 4).toInt = (B.1 4).toInt + (slo nv np B 0 k).toInt ∧ 0 ≤ (slo nv np B 0 k).toInt ∧ (slo nv np B 0 k).toInt ≤ 1395 * k := by
  intro k
  induction k with
  | zero =>
    intro _
    have e : (slo nv np B 0 0).toInt = 0 := rfl
    rw [e]
    exact ⟨by show (B.1 4).toInt = _; omega, by omega, by omega⟩
  | succ k ih =>
    intro hk
    obtain ⟨i1, i2, i3⟩ := ih (by omega)
    have q := (sStp_v (bst_v h k)).2
    have q7 : 0 ≤ ((bst nv np B (k + 1)).1 7).toInt := q.1
    have q7' : ((bst nv np B (k + 1)).1 7).toInt ≤ 1395 := q.2.1
    have q4 : ((bst nv np B (k + 1)).1 4).toInt = min 2000000000 (((bst nv np B k).1 4).toInt + ((bst nv np B (k + 1)).1 7).toInt) := q.2.2.1
    have es : (slo nv np B 0 (k + 1)).toInt = (slo nv np B 0 k).toInt + ((bst nv np B (k + 1)).1 7).toInt := i_add_s (by omega) (by omega)
    rw [q4, es]
    omega
theorem slo_d {nv np : Nat} {B : zB} (h : vb B nv np) (hs : (B.1 4).toInt ≤ 100000000) : (bst nv np B 30).1 4 - B.1 4 = slo nv np B 0 30 := by
  obtain ⟨i1, i2, i3⟩ := slo_s h hs 30 (by omega)
  have h0 : 0 ≤ (B.1 4).toInt := h.2.2.2.1
  refine i_ext ?_
  rw [i_sub_s (by omega) (by omega)]
  omega
/-- seed, lost, running, behind so many lots -/
def lt3 (nv np : Nat) (B : zB) (z0 : Int32) : Nat → Int32 × Int32 × Int32
  | 0 => (z0, 0, 0)
  | i + 1 => ((drw B.2.1 (lt3 nv np B z0 i).1 nv).2, slo nv np (dB nv B (lt3 nv np B z0 i).1) (lt3 nv np B z0 i).2.1 30, (lt3 nv np B z0 i).2.2 + bcx (rb (bst nv np (dB nv B (lt3 nv np B z0 i).1) 30).2.2 np))
def lw (M : zM) (z L r : Int32) : zM := fun k f => if k = (2, 0, 0) then (if f = 5 then z else if f = 3 then L else if f = 4 then r else M k f) else M k f
section LW
variable {M : zM} {z L r x : Int32} {Z : zB}
theorem lw_5 : cb (lw M z L r) 3 Z (2, 0, 0) 5 = z := rfl
theorem lw_3 : cb (lw M z L r) 3 Z (2, 0, 0) 3 = L := rfl
theorem lw_4 : cb (lw M z L r) 3 Z (2, 0, 0) 4 = r := rfl
theorem lw_u {N : zM} {f : Nat} : u2 (cb N 3 Z) (2, 0, 0) f x = cb (u2 N (2, 0, 0) f x) 3 Z := by
  funext k g
  obtain ⟨k1, k2, k3⟩ := k
  unfold u2 cb cm
  by_cases h : (k1, k2, k3) = ((2, 0, 0) : zK)
  · cases h
    simp
  · simp [h]
theorem lw_u5 : u2 (lw M z L r) (2, 0, 0) 5 x = lw M x L r := by
  funext k g
  unfold u2 lw
  by_cases h : k = (2, 0, 0)
  · by_cases q : g = 5
    · simp [h, q]
    · simp [h, q]
  · simp [h]
theorem lw_u3 : u2 (lw M z L r) (2, 0, 0) 3 x = lw M z x r := by
  funext k g
  unfold u2 lw
  by_cases h : k = (2, 0, 0)
  · by_cases q : g = 3
    · simp [h, q]
    · simp [h, q]
  · simp [h]
theorem lw_u4 : u2 (lw M z L r) (2, 0, 0) 4 x = lw M z L x := by
  funext k g
  unfold u2 lw
  by_cases h : k = (2, 0, 0)
  · by_cases q : g = 4
    · simp [h, q]
    · simp [h, q]
  · simp [h]
theorem lw_m (M : zM) (z L r : Int32) : u2 (u2 (u2 M (2, 0, 0) 5 z) (2, 0, 0) 3 L) (2, 0, 0) 4 r = lw M z L r := by
  funext k g
  unfold u2 lw
  by_cases h : k = (2, 0, 0)
  · by_cases q4 : g = 4
    · simp [h, q4]
    · by_cases q3 : g = 3
      · simp [h, q3]
      · by_cases q5 : g = 5
        · simp [h, q5]
        · simp [h, q3, q4, q5]
  · simp [h]
theorem sm_lw : sm M (lw M z L r) := by
  intro k f hk
  unfold lw
  rw [if_neg]
  rintro rfl
  exact Bool.false_ne_true hk
end LW
theorem C52 (X : Nat × (Nat → Int32) × Value) (d : Nat) (M : zM) (G : zG) (Z : zB) (z L r m : Int32) (h1 : 1 ≤ m) (h0 : ¬ m = 0) : zd X d 52 [vR (2, 0, 0), vI m] (hh (cb (lw M z L r) 3 Z) G) = some (some (vI (dv z m)), hh (cb (lw M (nz z) L r) 3 Z) G) := by
  have e : z * 1664525 + 1013904223 = nz z := rfl
  simp only [E52, e52_0, e52_1, e52_2, e52_5, e52_7, e52_8, e52_10, e52_11, e52_14, e52_15, e52_16, e52_19, e52_20, e52_23, e52_24, e52_27, e52_29, e52_30, e52_33, e52_34, e52_35, e52_36, zt0, zt1, zn3, not_false_eq_true, toListS, toListN, zk_some, zpi, if_true, if_false, i10, lw_5, e, lw_u, lw_u5, h1, h0, show ((256 : Int32) = 0) = False by decide]
  rfl
theorem C51 (X : Nat × (Nat → Int32) × Value) (d : Nat) {M : zM} (G : zG) {nv np : Nat} (s : ST M nv np) (n : Nat) (z0 : Int32) (hn : n < 2 ^ 31) : ∃ Z, zd X (d + 4) 51 [vR (2, 0, 0), vR (0, 0, 0), vI (nI n), vI z0] (hh M G) = some (none, hh (cb (lw M (lt3 nv np (bm M) z0 n).1 (lt3 nv np (bm M) z0 n).2.1 (lt3 nv np (bm M) z0 n).2.2) 3 Z) G) := by
  have s' := s
  obtain ⟨n5, n8, e2, e3, m0, m1, v, o6, f5, a, vc, ac, vm⟩ := s'
  have sl : ∀ z L r, ST (lw M z L r) nv np := fun z L r => s
  have bl : ∀ z L r, bm (lw M z L r) = bm M := fun z L r => rfl
  have gl : ∀ z L r, gb (lw M z L r) 0 = gb M 0 := fun z L r => rfl
  obtain ⟨⟨Z, l5⟩, -, lp⟩ := zlr (σ := zB × zV) (n := n) (f := fun i y => zx X (d + 4) 51 18 [vR (2, 0, 0), vR (0, 0, 0), vI (nI n), vI z0, vI (nI i), y.2] [] (hh (cb (lw M (lt3 nv np (bm M) z0 i).1 (lt3 nv np (bm M) z0 i).2.1 (lt3 nv np (bm M) z0 i).2.2) 3 y.1) G)) (P := fun _ _ => True) (fun i y hi _ => by
    have t1 := T1z X (d + 2) G (sl (lt3 nv np (bm M) z0 i).1 (lt3 nv np (bm M) z0 i).2.1 (lt3 nv np (bm M) z0 i).2.2) y.1
    obtain ⟨z1, z2, z3⟩ := ST_z (sl (lt3 nv np (bm M) z0 i).1 (lt3 nv np (bm M) z0 i).2.1 (lt3 nv np (bm M) z0 i).2.2) y.1
    rw [bl] at z2
    rw [gl] at t1 z1 z2 z3
    have e3' : lt3 nv np (bm M) z0 (i + 1) = ((drw (bm M).2.1 (lt3 nv np (bm M) z0 i).1 nv).2, slo nv np (dB nv (bm M) (lt3 nv np (bm M) z0 i).1) (lt3 nv np (bm M) z0 i).2.1 30, (lt3 nv np (bm M) z0 i).2.2 + bcx (rb (bst nv np (dB nv (bm M) (lt3 nv np (bm M) z0 i).1) 30).2.2 np)) := rfl
    generalize lt3 nv np (bm M) z0 i = zlr3 at t1 z1 z2 z3 e3' ⊢
    obtain ⟨z, L, r⟩ := zlr3
    dsimp only at t1 z1 z2 z3 e3' ⊢
    generalize hB : cpB nv np y.1 (gb M 0) = B at t1 z1 z2 z3
    -- draws
    have ld := zlf (n := nv) (f := fun v => zx X (d + 4) 51 35 [vR (2, 0, 0), vR (0, 0, 0), vI (nI n), vI z0, vI (nI i), vI (nI v)] [] (hh (cb (lw M (drw B.2.1 z v).2 L r) 3 (B.1, (drw B.2.1 z v).1, B.2.2)) G)) (fun v hv w ew => by
      have v5 : v < 5 := by omega
      have vi := drw_v (S := B.1) (V := B.2.1) (P := B.2.2) z1 z v (by omega)
      have vv := vi.1.2.2.2.2.1 v hv
      have bv := brim_v vv
      have sb : (sBr (drw B.2.1 z v).1 v).toInt = brim (drw B.2.1 z v).1 v := sBr_v vv
      have hs1 : (sBr (drw B.2.1 z v).1 v + 1).toInt = (sBr (drw B.2.1 z v).1 v).toInt + 1 := i_add_s (b := 1) (by rw [sb, show (1 : Int32).toInt = 1 from rfl]; have := bv.1; dsimp only at this; omega) (by rw [sb, show (1 : Int32).toInt = 1 from rfl]; have := bv.2; dsimp only at this; omega)
      have g1 : 1 ≤ sBr (drw B.2.1 z v).1 v + 1 := by rw [i_le, hs1, sb, show (1 : Int32).toInt = 1 from rfl]; have := bv.1; dsimp only at this; omega
      have g0 : ¬ sBr (drw B.2.1 z v).1 v + 1 = 0 := fun e => by rw [e] at g1; exact absurd g1 (by decide)
      have c52 := C52 X (d + 3) M G (B.1, (drw B.2.1 z v).1, B.2.2) (drw B.2.1 z v).2 L r _ g1 g0
      have c67 : zd X (d + 3) 67 [vR (5, 3, v)] (hh (cb (lw M (drw B.2.1 z v).2 L r) 3 (B.1, (drw B.2.1 z v).1, B.2.2)) G) = some (some (vI (sBr (drw B.2.1 z v).1 v)), hh (cb (lw M (drw B.2.1 z v).2 L r) 3 (B.1, (drw B.2.1 z v).1, B.2.2)) G) := by
        have q := C67 X (d + 3) (cb (lw M (drw B.2.1 z v).2 L r) 3 (B.1, (drw B.2.1 z v).1, B.2.2)) G 3 v
        rw [show vw (cb (lw M (drw B.2.1 z v).2 L r) 3 (B.1, (drw B.2.1 z v).1, B.2.2)) 3 = (drw B.2.1 z v).1 from cm_vw] at q
        exact q
      have g2 : cb (lw M (drw B.2.1 z v).2 L r) 3 (B.1, (drw B.2.1 z v).1, B.2.2) (0, 3, 0) 2 = nI nv := z1.1.1
      have cu : ∀ N x, u2 (cb N 3 (B.1, (drw B.2.1 z v).1, B.2.2)) (5, 3, v) 3 x = cb N 3 (B.1, uV (drw B.2.1 z v).1 v 3 x, B.2.2) := fun N x => cm_uV
      simp only [e51_35, e51_37, e51_38, e51_41, e51_44, g2, nle (show nv < 2 ^ 31 by omega) (show v < 2 ^ 31 by omega)]
      rw [if_neg (by omega)]
      simp only [e51_47, e51_48, e51_51, e51_54, e51_56, e51_57, e51_58, e51_59, e51_62, e51_65, e51_67, e51_68, e51_71, e51_72, e51_73, e51_76, e51_79, e51_82, zt0, zt1, zn3, not_false_eq_true, toListS, toListN, zk_some, zpi, z5 v5, cl5 v5, c67, c52, cu, nI_1]
      exact ew) nv 0 (by omega)
    rw [nI_0, show drw B.2.1 z 0 = (B.2.1, z) from rfl] at ld
    have vd : vb (dB nv B z) nv np := drw_v (S := B.1) (V := B.2.1) (P := B.2.2) z1 z nv (Nat.le_refl _)
    have dc := drw_c z2.2.1 z nv (Nat.le_refl _)
    have ad : ag nv np (dB nv B z) (dB nv (bm M) z) := ⟨z2.1, dc.1, z2.2.2⟩
    -- steps
    have ls := zlf (n := 30) (f := fun k => zx X (d + 4) 51 88 [vR (2, 0, 0), vR (0, 0, 0), vI (nI n), vI z0, vI (nI i), vI (nI k)] [] (hh (cb (lw M (drw B.2.1 z nv).2 (slo nv np (dB nv B z) L k) r) 3 (bst nv np (dB nv B z) k)) G)) (fun k hk w ew => by
      have st := W11 X d (lw M (drw B.2.1 z nv).2 (slo nv np (dB nv B z) L k) r) G vd k
      simp only [e51_88, e51_90, e51_92]
      rw [if_neg (by rw [show (30 : Int32) = nI 30 from rfl, nle (by decide) (by omega)]; omega)]
      simp only [e51_95, e51_96, e51_99, e51_102, e51_103, e51_104, e51_107, e51_108, e51_111, e51_114, e51_115, e51_118, e51_121, zt0, zt1, zn3, not_false_eq_true, toListS, toListN, zk_some, zpi, st, lw_3, cb_S, lw_u, lw_u3, nI_1]
      exact ew) 30 0 (by omega)
    rw [nI_0, show slo nv np (dB nv B z) L 0 = L from rfl, show bst nv np (dB nv B z) 0 = dB nv B z from rfl] at ls
    have c16 := C16 X (d + 3) (cb (lw M (drw B.2.1 z nv).2 (slo nv np (dB nv B z) L 30) r) 3 (bst nv np (dB nv B z) 30)) G 3 np ((bst_v vd 30).1.2.1) n8
    rw [show pw (cb (lw M (drw B.2.1 z nv).2 (slo nv np (dB nv B z) L 30) r) 3 (bst nv np (dB nv B z) 30)) 3 = (bst nv np (dB nv B z) 30).2.2 from cm_pw] at c16
    have er : rb (bst nv np (dB nv B z) 30).2.2 np = rb (bst nv np (dB nv (bm M) z) 30).2.2 np := rb_c np fun p hp => (bst_c vd ad 30).2.2 p 7 hp (by decide) (fun _ => by rw [bst_6]; rw [show (dB nv B z).1 6 = 0 from z3]; exact out_0 p)
    have el := slo_c vd ad L 30
    refine ⟨(bst nv np (dB nv B z) 30, vI 30), trivial, fun w ew => ?_⟩
    rw [e3'] at ew
    dsimp only at ew
    rw [← el, ← er, ← dc.2] at ew
    simp only [e51_18, e51_20, e51_21, nle (show n < 2 ^ 31 by omega) (show i < 2 ^ 31 by omega)]
    rw [if_neg (by omega)]
    simp only [e51_24, e51_25, e51_28, e51_29, e51_32, e51_33, zt0, zt1, zn3, not_false_eq_true, toListS, toListN, zk_some, zpi, t1]
    refine Eq.trans ld ?_
    have g2 : cb (lw M (drw B.2.1 z nv).2 L r) 3 (B.1, (drw B.2.1 z nv).1, B.2.2) (0, 3, 0) 2 = nI nv := z1.1.1
    simp only [e51_35, e51_37, e51_38, e51_41, e51_44, g2, nle (show nv < 2 ^ 31 by omega) (show nv < 2 ^ 31 by omega)]
    rw [if_pos (Nat.le_refl _)]
    simp only [e51_85, e51_86]
    refine Eq.trans ls ?_
    simp only [e51_88, e51_90, e51_92]
    rw [if_pos (by decide)]
    simp only [e51_124, e51_125, e51_126, e51_129, e51_130, e51_133, e51_136, e51_139, e51_140, e51_143, e51_146, zt0, zt1, zn3, not_false_eq_true, toListS, toListN, zk_some, zpi, c16, C235, lw_4, lw_u, lw_u4, nI_1]
    exact ew) n 0 (gb M 3, vN) (by omega) trivial
  rw [nI_0, show lt3 nv np (bm M) z0 0 = (z0, 0, 0) from rfl] at lp
  have e0 : u2 (u2 (u2 M (2, 0, 0) 5 z0) (2, 0, 0) 3 0) (2, 0, 0) 4 0 = cb (lw M z0 0 0) 3 (gb M 3) := by
    rw [lw_m, show gb M 3 = gb (lw M z0 0 0) 3 from rfl, cb_self]
  refine ⟨Z, ?_⟩
  simp only [E51, e51_0, e51_1, e51_2, e51_5, e51_6, e51_7, e51_10, e51_11, e51_12, e51_15, e51_16, e0]
  refine Eq.trans lp ?_
  simp only [e51_18, e51_20, e51_21, nle (show n < 2 ^ 31 by omega) (show n < 2 ^ 31 by omega)]
  rw [if_pos (Nat.le_refl _)]
  simp only [e51_149]
theorem C211 (X : Nat × (Nat → Int32) × Value) (d : Nat) (M : zM) (G : zG) (B : zB) (R : Nat → Int32) (m : Int32) (h0 : ¬ m = 0) : zd X d 211 [vR (7, 0, 0), vI m] (hh (mb M B R) G) = some (some (vI (dv (R 17) m)), hh (mb M B (uS R 17 (nz (R 17)))) G) := by
  have e : R 17 * 1664525 + 1013904223 = nz (R 17) := rfl
  have u : ∀ x, u2 (mb M B R) (7, 0, 0) 17 x = mb M B (uS R 17 x) := fun x => mm_uR
  simp only [E211, e211_0, e211_1, e211_2, e211_5, e211_8, e211_9, e211_12, e211_13, e211_16, e211_17, e211_20, e211_22, e211_23, e211_26, e211_27, e211_28, e211_29, zt0, zt1, zn3, not_false_eq_true, toListS, toListN, zk_some, zpi, if_true, if_false, i10, mb_R, e, u, uS_s, h0, show ((256 : Int32) = 0) = False by decide]
  rfl
def sb (s x : Int32) : Nat → Int32
  | 0 => s
  | p + 1 => sb s x p + (x >>> (nI p &&& 31) &&& 1)
theorem sb_s {s x : Int32} : ∀ p, sb s x p = s + sb 0 x p := by
  intro p
  induction p with
  | zero => exact (Int32.add_zero s).symm
  | succ p ih =>
    show sb s x p + _ = s + (sb 0 x p + _)
    rw [ih, Int32.add_assoc]
theorem all_sb : ∀ x, x < 256 → (sb 0 (nI x) 8).toBitVec.toNat = (bcx (nI x)).toBitVec.toNat := by decide +kernel
theorem sbt_b (P : tV) {np : Nat} (h : np ≤ 8) (s : Int32) : sb s (rb P np) 8 = s + bcx (rb P np) := by
  have l := rb_lt P np h
  rw [sb_s, bv_I l]
  have q := all_sb _ l
  rw [show sb 0 (nI (rb P np).toBitVec.toNat) 8 = bcx (nI (rb P np).toBitVec.toNat) from Int32.toBitVec_inj.mp (BitVec.eq_of_toNat_eq q)]
theorem C212_0 (X : Nat × (Nat → Int32) × Value) (d : Nat) {M M1 : zM} (G : zG) {nv np : Nat} (vm : vb (bm M) nv np) (f5 : M (7, 0, 0) 5 = 0) (hs0 : sm M M1) (hsu : ((bm M).1 4).toInt ≤ 100000000) (n : Nat) (z0 : Int32) (hn : n < 2 ^ 31) : ∃ (N : zM), sm M N ∧ zx X (d + 9) 212 41 [vR (7, 0, 0), vI (nI n), vI z0, vI 0, vN, vN, vN, vN, vN] [] (hh M1 G) = some (some (vI (lt3 nv np (bm M) z0 n).2.1), hh N G) := by
  have n5 := vm.1.2.2.1
  have n8 := vm.1.2.2.2.1
  have m0v : ∀ {N : zM}, sm M N → N (20, 0, 0) 0 = nI nv := fun hs => (hs (20, 0, 0) 0 rfl).trans vm.1.1
  obtain ⟨⟨N, l6, l7, l8⟩, ⟨hs, h17⟩, lp⟩ := zlr (σ := zM × zV × zV × zV) (n := n) (f := fun i y => zx X (d + 9) 212 52 [vR (7, 0, 0), vI (nI n), vI z0, vI 0, vI (lt3 nv np (bm M) z0 i).2.1, vI (nI i), y.2.1, y.2.2.1, y.2.2.2] [] (hh y.1 G)) (P := fun i y => sm M y.1 ∧ y.1 (7, 0, 0) 17 = (lt3 nv np (bm M) z0 i).1) (fun i y hi hP => by
    obtain ⟨hs, h17⟩ := hP
    obtain ⟨eb, e5⟩ := smv hs f5
    have t5 := T150 X (d + 7) G (M := y.1)
    rw [eb] at t5
    have e3' : lt3 nv np (bm M) z0 (i + 1) = ((drw (bm M).2.1 (lt3 nv np (bm M) z0 i).1 nv).2, slo nv np (dB nv (bm M) (lt3 nv np (bm M) z0 i).1) (lt3 nv np (bm M) z0 i).2.1 30, (lt3 nv np (bm M) z0 i).2.2 + bcx (rb (bst nv np (dB nv (bm M) (lt3 nv np (bm M) z0 i).1) 30).2.2 np)) := rfl
    generalize lt3 nv np (bm M) z0 i = zlr3 at h17 e3' ⊢
    obtain ⟨z, L, r⟩ := zlr3
    dsimp only at h17 e3' ⊢
    have r17 : uS (y.1 (7, 0, 0)) 17 z = y.1 (7, 0, 0) := uS_same h17
    obtain ⟨l8', -, ld⟩ := zlr (σ := zV) (n := nv) (f := fun v l8 => zx X (d + 9) 212 73 [vR (7, 0, 0), vI (nI n), vI z0, vI 0, vI L, vI (nI i), vI ((bm M).1 4), vI (nI v), l8] [] (hh (mb (cpK y.1 (20, 0, 0) (21, 0, 0) 93) ((bm M).1, (drw (bm M).2.1 z v).1, (bm M).2.2) (uS (y.1 (7, 0, 0)) 17 (drw (bm M).2.1 z v).2)) G)) (P := fun _ _ => True) (fun v l8 hv _ => by
      have v5 : v < 5 := by omega
      have vi := drw_v (S := (bm M).1) (V := (bm M).2.1) (P := (bm M).2.2) vm z v (by omega)
      have vv := vi.1.2.2.2.2.1 v hv
      have bv := brim_v vv
      have sbb : (sBr (drw (bm M).2.1 z v).1 v).toInt = brim (drw (bm M).2.1 z v).1 v := sBr_v vv
      have hs1 : (sBr (drw (bm M).2.1 z v).1 v + 1).toInt = (sBr (drw (bm M).2.1 z v).1 v).toInt + 1 := i_add_s (b := 1) (by rw [sbb, show (1 : Int32).toInt = 1 from rfl]; have := bv.1; dsimp only at this; omega) (by rw [sbb, show (1 : Int32).toInt = 1 from rfl]; have := bv.2; dsimp only at this; omega)
      have g0 : ¬ sBr (drw (bm M).2.1 z v).1 v + 1 = 0 := fun e => by
        rw [e, sbb, show (0 : Int32).toInt = 0 from rfl] at hs1
        have := bv.1
        dsimp only at this
        omega
      have c211 := C211 X (d + 8) (cpK y.1 (20, 0, 0) (21, 0, 0) 93) G ((bm M).1, (drw (bm M).2.1 z v).1, (bm M).2.2) (uS (y.1 (7, 0, 0)) 17 (drw (bm M).2.1 z v).2) _ g0
      rw [uS_s, uS_uS] at c211
      have fold : (drw (bm M).2.1 z v).1 v 0 * (drw (bm M).2.1 z v).1 v 2 = sBr (drw (bm M).2.1 z v).1 v := rfl
      have mu : ∀ R x, u2 (mb (cpK y.1 (20, 0, 0) (21, 0, 0) 93) ((bm M).1, (drw (bm M).2.1 z v).1, (bm M).2.2) R) (20, 0, 0) (4 + 5 * v + 3) x = mb (cpK y.1 (20, 0, 0) (21, 0, 0) 93) ((bm M).1, uV (drw (bm M).2.1 z v).1 v 3 x, (bm M).2.2) R := fun R x => mm_uV v5 (by decide)
      refine ⟨vI (nI (4 + 5 * v)), trivial, fun x ex => ?_⟩
      simp only [e212_73, e212_75, e212_76, e212_79, e212_80, e212_81, w0, t0, mb_0, vm.1.1, nle (show nv < 2 ^ 31 by omega) (show v < 2 ^ 31 by omega)]
      rw [if_neg (by omega)]
      simp only [e212_84, e212_86, e212_89, e212_91, e212_92, e212_95, e212_97, e212_98, e212_99, e212_100, e212_101, e212_104, e212_106, e212_107, e212_108, e212_109, e212_110, e212_113, e212_115, e212_116, e212_117, e212_118, e212_119, e212_120, e212_121, e212_124, e212_125, e212_128, zt0, zt1, zn3, not_false_eq_true, toListS, toListN, zk_some, zpi, C134, niV, ni0, ni2, ni3, wV0 v5, cV0 v5, mb_V0 v5, wV v5 (show 2 < 5 by decide), cV v5 (show 2 < 5 by decide), mb_V v5 (show 2 < 5 by decide), fold, c211, wV v5 (show 3 < 5 by decide), cV v5 (show 3 < 5 by decide), mu, nI_1]
      exact ex) nv 0 y.2.2.2 (by omega) trivial
    rw [nI_0, show drw (bm M).2.1 z 0 = ((bm M).2.1, z) from rfl, r17] at ld
    have vd : vb (dB nv (bm M) z) nv np := drw_v (S := (bm M).1) (V := (bm M).2.1) (P := (bm M).2.2) vm z nv (Nat.le_refl _)
    have hR5 : uS (y.1 (7, 0, 0)) 17 (drw (bm M).2.1 z nv).2 5 = (dB nv (bm M) z).1 6 := e5
    have w149 := W149 X d (cpK y.1 (20, 0, 0) (21, 0, 0) 93) G vd hR5 30 (by decide)
    rw [show nI 30 = 30 from rfl] at w149
    have c189 := C189 X (d + 6) (cpK y.1 (20, 0, 0) (21, 0, 0) 93) G (bst nv np (dB nv (bm M) z) 30) (rS nv np (dB nv (bm M) z) (uS (y.1 (7, 0, 0)) 17 (drw (bm M).2.1 z nv).2) 30) np (bst_v vd 30).1.2.1 n8 (fun p hp => ((bst_v vd 30).2.2.1 p hp).imp id And.left)
    have t151 := T151 X (d + 7) y.1 G (bst nv np (dB nv (bm M) z) 30) (rS nv np (dB nv (bm M) z) (uS (y.1 (7, 0, 0)) 17 (drw (bm M).2.1 z nv).2) 30)
    have dif : L + ((bst nv np (dB nv (bm M) z) 30).1 4 - (bm M).1 4) = slo nv np (dB nv (bm M) z) L 30 := by
      rw [show (bst nv np (dB nv (bm M) z) 30).1 4 - (bm M).1 4 = slo nv np (dB nv (bm M) z) 0 30 from slo_d vd hsu, ← slo_L]
    have lb := zlf (n := 8) (f := fun p => zx X (d + 9) 212 146 [vR (7, 0, 0), vI (nI n), vI z0, vI 1, vI (sb r (rb (bst nv np (dB nv (bm M) z) 30).2.2 np) p), vI (nI i), vI ((bm M).1 4), vI (rb (bst nv np (dB nv (bm M) z) 30).2.2 np), vI (nI p)] [] (hh (mb (cpK y.1 (20, 0, 0) (21, 0, 0) 93) (bst nv np (dB nv (bm M) z) 30) (rS nv np (dB nv (bm M) z) (uS (y.1 (7, 0, 0)) 17 (drw (bm M).2.1 z nv).2) 30)) G)) (fun p hp x ex => by
      simp only [e212_146, e212_148, e212_150]
      rw [if_neg (by rw [show (8 : Int32) = nI 8 from rfl, nle (by decide) (by omega)]; omega)]
      simp only [e212_153, e212_154, e212_155, e212_158, e212_160, e212_162, e212_164, e212_165, e212_166, e212_167, e212_168, e212_170, e212_173, if_true, if_false, i10, nI_1]
      exact ex) 8 0 (by omega)
    rw [nI_0, sbt_b _ n8, show ∀ x, sb r x 0 = r from fun _ => rfl] at lb
    refine ⟨(bk y.1 (bst nv np (dB nv (bm M) z) 30) (rS nv np (dB nv (bm M) z) (uS (y.1 (7, 0, 0)) 17 (drw (bm M).2.1 z nv).2) 30), vI ((bm M).1 4), vI (rb (bst nv np (dB nv (bm M) z) 30).2.2 np), vI 0), ⟨sm_t hs (sm_bk ((rS_o (by decide)).trans (uS_n (by decide))) e5 ((rS_o (by decide)).trans (uS_n (by decide)))), ?_⟩, fun x ew => ?_⟩
    · rw [e3']
      show bk y.1 (bst nv np (dB nv (bm M) z) 30) (rS nv np (dB nv (bm M) z) (uS (y.1 (7, 0, 0)) 17 (drw (bm M).2.1 z nv).2) 30) (7, 0, 0) 17 = (drw (bm M).2.1 z nv).2
      rw [bk_R (by decide), rS_o (by decide), uS_s]
    rw [e3'] at ew
    dsimp only at ew
    simp only [e212_52, e212_54, e212_55, nle (show n < 2 ^ 31 by omega) (show i < 2 ^ 31 by omega)]
    rw [if_neg (by omega)]
    simp only [e212_58, e212_59, e212_62, e212_63, e212_66, e212_67, e212_68, e212_70, e212_71, zt0, zt1, zn3, not_false_eq_true, toListS, toListN, zk_some, zpi, t5, mb_3, w3, t3]
    refine Eq.trans ld ?_
    simp only [e212_73, e212_75, e212_76, e212_79, e212_80, e212_81, w0, t0, mb_0, vm.1.1, nle (show nv < 2 ^ 31 by omega) (show nv < 2 ^ 31 by omega)]
    rw [if_pos (Nat.le_refl _), show ((bm M).1, (drw (bm M).2.1 z nv).1, (bm M).2.2) = dB nv (bm M) z from rfl]
    simp only [e212_131, e212_132, e212_134, e212_137, e212_138, e212_141, zt0, zt1, zn3, not_false_eq_true, toListS, toListN, zk_some, zpi, w149, c189]
    simp only [e212_143, e212_144]
    simp only [e212_146, e212_148, e212_150, e212_153, e212_154, e212_155, if_true, if_false, i10, q_eq_0_1, show ((8 : Int32) ≤ 0) = False by decide]
    simp only [e212_176, e212_178, e212_179, e212_182, e212_183, e212_186, e212_187, e212_188, e212_190, e212_191, e212_194, e212_195, e212_196, e212_198, e212_199, e212_202, e212_205, zt0, zt1, zn3, not_false_eq_true, toListS, toListN, zk_some, zpi, if_true, if_false, i10, mb_3, w3, t3, t151, dif, nI_1]
    exact ew) n 0 (u2 M1 (7, 0, 0) 17 z0, vN, vN, vN) (by omega) ⟨sm_t hs0 (fun k f hk => if_neg (fun q => by
      obtain ⟨rfl, rfl⟩ := q
      exact Bool.false_ne_true hk)), show u2 M1 (7, 0, 0) 17 z0 (7, 0, 0) 17 = z0 from u2_same⟩
  have hs : sm M N := hs
  rw [nI_0, show lt3 nv np (bm M) z0 0 = (z0, 0, 0) from rfl] at lp
  refine ⟨N, hs, ?_⟩
  simp only [e212_41, e212_42, e212_43, e212_46, e212_47, e212_49, e212_50]
  refine Eq.trans lp ?_
  simp only [e212_52, e212_54, e212_55, nle (show n < 2 ^ 31 by omega) (show n < 2 ^ 31 by omega)]
  rw [if_pos (Nat.le_refl _)]
  simp only [e212_208, e212_210]
theorem C212_1 (X : Nat × (Nat → Int32) × Value) (d : Nat) {M M1 : zM} (G : zG) {nv np : Nat} (vm : vb (bm M) nv np) (f5 : M (7, 0, 0) 5 = 0) (hs0 : sm M M1) (hsu : ((bm M).1 4).toInt ≤ 100000000) (n : Nat) (z0 : Int32) (hn : n < 2 ^ 31) : ∃ (N : zM), sm M N ∧ zx X (d + 9) 212 41 [vR (7, 0, 0), vI (nI n), vI z0, vI 1, vN, vN, vN, vN, vN] [] (hh M1 G) = some (some (vI (lt3 nv np (bm M) z0 n).2.2), hh N G) := by
  have n5 := vm.1.2.2.1
  have n8 := vm.1.2.2.2.1
  have m0v : ∀ {N : zM}, sm M N → N (20, 0, 0) 0 = nI nv := fun hs => (hs (20, 0, 0) 0 rfl).trans vm.1.1
  obtain ⟨⟨N, l6, l7, l8⟩, ⟨hs, h17⟩, lp⟩ := zlr (σ := zM × zV × zV × zV) (n := n) (f := fun i y => zx X (d + 9) 212 52 [vR (7, 0, 0), vI (nI n), vI z0, vI 1, vI (lt3 nv np (bm M) z0 i).2.2, vI (nI i), y.2.1, y.2.2.1, y.2.2.2] [] (hh y.1 G)) (P := fun i y => sm M y.1 ∧ y.1 (7, 0, 0) 17 = (lt3 nv np (bm M) z0 i).1) (fun i y hi hP => by
    obtain ⟨hs, h17⟩ := hP
    obtain ⟨eb, e5⟩ := smv hs f5
    have t5 := T150 X (d + 7) G (M := y.1)
    rw [eb] at t5
    have e3' : lt3 nv np (bm M) z0 (i + 1) = ((drw (bm M).2.1 (lt3 nv np (bm M) z0 i).1 nv).2, slo nv np (dB nv (bm M) (lt3 nv np (bm M) z0 i).1) (lt3 nv np (bm M) z0 i).2.1 30, (lt3 nv np (bm M) z0 i).2.2 + bcx (rb (bst nv np (dB nv (bm M) (lt3 nv np (bm M) z0 i).1) 30).2.2 np)) := rfl
    generalize lt3 nv np (bm M) z0 i = zlr3 at h17 e3' ⊢
    obtain ⟨z, L, r⟩ := zlr3
    dsimp only at h17 e3' ⊢
    have r17 : uS (y.1 (7, 0, 0)) 17 z = y.1 (7, 0, 0) := uS_same h17
    obtain ⟨l8', -, ld⟩ := zlr (σ := zV) (n := nv) (f := fun v l8 => zx X (d + 9) 212 73 [vR (7, 0, 0), vI (nI n), vI z0, vI 1, vI r, vI (nI i), vI ((bm M).1 4), vI (nI v), l8] [] (hh (mb (cpK y.1 (20, 0, 0) (21, 0, 0) 93) ((bm M).1, (drw (bm M).2.1 z v).1, (bm M).2.2) (uS (y.1 (7, 0, 0)) 17 (drw (bm M).2.1 z v).2)) G)) (P := fun _ _ => True) (fun v l8 hv _ => by
      have v5 : v < 5 := by omega
      have vi := drw_v (S := (bm M).1) (V := (bm M).2.1) (P := (bm M).2.2) vm z v (by omega)
      have vv := vi.1.2.2.2.2.1 v hv
      have bv := brim_v vv
      have sbb : (sBr (drw (bm M).2.1 z v).1 v).toInt = brim (drw (bm M).2.1 z v).1 v := sBr_v vv
      have hs1 : (sBr (drw (bm M).2.1 z v).1 v + 1).toInt = (sBr (drw (bm M).2.1 z v).1 v).toInt + 1 := i_add_s (b := 1) (by rw [sbb, show (1 : Int32).toInt = 1 from rfl]; have := bv.1; dsimp only at this; omega) (by rw [sbb, show (1 : Int32).toInt = 1 from rfl]; have := bv.2; dsimp only at this; omega)
      have g0 : ¬ sBr (drw (bm M).2.1 z v).1 v + 1 = 0 := fun e => by
        rw [e, sbb, show (0 : Int32).toInt = 0 from rfl] at hs1
        have := bv.1
        dsimp only at this
        omega
      have c211 := C211 X (d + 8) (cpK y.1 (20, 0, 0) (21, 0, 0) 93) G ((bm M).1, (drw (bm M).2.1 z v).1, (bm M).2.2) (uS (y.1 (7, 0, 0)) 17 (drw (bm M).2.1 z v).2) _ g0
      rw [uS_s, uS_uS] at c211
      have fold : (drw (bm M).2.1 z v).1 v 0 * (drw (bm M).2.1 z v).1 v 2 = sBr (drw (bm M).2.1 z v).1 v := rfl
      have mu : ∀ R x, u2 (mb (cpK y.1 (20, 0, 0) (21, 0, 0) 93) ((bm M).1, (drw (bm M).2.1 z v).1, (bm M).2.2) R) (20, 0, 0) (4 + 5 * v + 3) x = mb (cpK y.1 (20, 0, 0) (21, 0, 0) 93) ((bm M).1, uV (drw (bm M).2.1 z v).1 v 3 x, (bm M).2.2) R := fun R x => mm_uV v5 (by decide)
      refine ⟨vI (nI (4 + 5 * v)), trivial, fun x ex => ?_⟩
      simp only [e212_73, e212_75, e212_76, e212_79, e212_80, e212_81, w0, t0, mb_0, vm.1.1, nle (show nv < 2 ^ 31 by omega) (show v < 2 ^ 31 by omega)]
      rw [if_neg (by omega)]
      simp only [e212_84, e212_86, e212_89, e212_91, e212_92, e212_95, e212_97, e212_98, e212_99, e212_100, e212_101, e212_104, e212_106, e212_107, e212_108, e212_109, e212_110, e212_113, e212_115, e212_116, e212_117, e212_118, e212_119, e212_120, e212_121, e212_124, e212_125, e212_128, zt0, zt1, zn3, not_false_eq_true, toListS, toListN, zk_some, zpi, C134, niV, ni0, ni2, ni3, wV0 v5, cV0 v5, mb_V0 v5, wV v5 (show 2 < 5 by decide), cV v5 (show 2 < 5 by decide), mb_V v5 (show 2 < 5 by decide), fold, c211, wV v5 (show 3 < 5 by decide), cV v5 (show 3 < 5 by decide), mu, nI_1]
      exact ex) nv 0 y.2.2.2 (by omega) trivial
    rw [nI_0, show drw (bm M).2.1 z 0 = ((bm M).2.1, z) from rfl, r17] at ld
    have vd : vb (dB nv (bm M) z) nv np := drw_v (S := (bm M).1) (V := (bm M).2.1) (P := (bm M).2.2) vm z nv (Nat.le_refl _)
    have hR5 : uS (y.1 (7, 0, 0)) 17 (drw (bm M).2.1 z nv).2 5 = (dB nv (bm M) z).1 6 := e5
    have w149 := W149 X d (cpK y.1 (20, 0, 0) (21, 0, 0) 93) G vd hR5 30 (by decide)
    rw [show nI 30 = 30 from rfl] at w149
    have c189 := C189 X (d + 6) (cpK y.1 (20, 0, 0) (21, 0, 0) 93) G (bst nv np (dB nv (bm M) z) 30) (rS nv np (dB nv (bm M) z) (uS (y.1 (7, 0, 0)) 17 (drw (bm M).2.1 z nv).2) 30) np (bst_v vd 30).1.2.1 n8 (fun p hp => ((bst_v vd 30).2.2.1 p hp).imp id And.left)
    have t151 := T151 X (d + 7) y.1 G (bst nv np (dB nv (bm M) z) 30) (rS nv np (dB nv (bm M) z) (uS (y.1 (7, 0, 0)) 17 (drw (bm M).2.1 z nv).2) 30)
    have dif : L + ((bst nv np (dB nv (bm M) z) 30).1 4 - (bm M).1 4) = slo nv np (dB nv (bm M) z) L 30 := by
      rw [show (bst nv np (dB nv (bm M) z) 30).1 4 - (bm M).1 4 = slo nv np (dB nv (bm M) z) 0 30 from slo_d vd hsu, ← slo_L]
    have lb := zlf (n := 8) (f := fun p => zx X (d + 9) 212 146 [vR (7, 0, 0), vI (nI n), vI z0, vI 1, vI (sb r (rb (bst nv np (dB nv (bm M) z) 30).2.2 np) p), vI (nI i), vI ((bm M).1 4), vI (rb (bst nv np (dB nv (bm M) z) 30).2.2 np), vI (nI p)] [] (hh (mb (cpK y.1 (20, 0, 0) (21, 0, 0) 93) (bst nv np (dB nv (bm M) z) 30) (rS nv np (dB nv (bm M) z) (uS (y.1 (7, 0, 0)) 17 (drw (bm M).2.1 z nv).2) 30)) G)) (fun p hp x ex => by
      simp only [e212_146, e212_148, e212_150]
      rw [if_neg (by rw [show (8 : Int32) = nI 8 from rfl, nle (by decide) (by omega)]; omega)]
      simp only [e212_153, e212_154, e212_155, e212_158, e212_160, e212_162, e212_164, e212_165, e212_166, e212_167, e212_168, e212_170, e212_173, if_true, if_false, i10, nI_1]
      exact ex) 8 0 (by omega)
    rw [nI_0, sbt_b _ n8, show ∀ x, sb r x 0 = r from fun _ => rfl] at lb
    refine ⟨(bk y.1 (bst nv np (dB nv (bm M) z) 30) (rS nv np (dB nv (bm M) z) (uS (y.1 (7, 0, 0)) 17 (drw (bm M).2.1 z nv).2) 30), vI ((bm M).1 4), vI (rb (bst nv np (dB nv (bm M) z) 30).2.2 np), vI 8), ⟨sm_t hs (sm_bk ((rS_o (by decide)).trans (uS_n (by decide))) e5 ((rS_o (by decide)).trans (uS_n (by decide)))), ?_⟩, fun x ew => ?_⟩
    · rw [e3']
      show bk y.1 (bst nv np (dB nv (bm M) z) 30) (rS nv np (dB nv (bm M) z) (uS (y.1 (7, 0, 0)) 17 (drw (bm M).2.1 z nv).2) 30) (7, 0, 0) 17 = (drw (bm M).2.1 z nv).2
      rw [bk_R (by decide), rS_o (by decide), uS_s]
    rw [e3'] at ew
    dsimp only at ew
    simp only [e212_52, e212_54, e212_55, nle (show n < 2 ^ 31 by omega) (show i < 2 ^ 31 by omega)]
    rw [if_neg (by omega)]
    simp only [e212_58, e212_59, e212_62, e212_63, e212_66, e212_67, e212_68, e212_70, e212_71, zt0, zt1, zn3, not_false_eq_true, toListS, toListN, zk_some, zpi, t5, mb_3, w3, t3]
    refine Eq.trans ld ?_
    simp only [e212_73, e212_75, e212_76, e212_79, e212_80, e212_81, w0, t0, mb_0, vm.1.1, nle (show nv < 2 ^ 31 by omega) (show nv < 2 ^ 31 by omega)]
    rw [if_pos (Nat.le_refl _), show ((bm M).1, (drw (bm M).2.1 z nv).1, (bm M).2.2) = dB nv (bm M) z from rfl]
    simp only [e212_131, e212_132, e212_134, e212_137, e212_138, e212_141, zt0, zt1, zn3, not_false_eq_true, toListS, toListN, zk_some, zpi, w149, c189]
    simp only [e212_143, e212_144]
    refine Eq.trans lb ?_
    simp only [e212_146, e212_148, e212_150]
    rw [if_pos (by decide)]
    simp only [e212_176, e212_178, e212_179, e212_194, e212_195, e212_196, e212_198, e212_199, e212_202, e212_205, zt0, zt1, zn3, not_false_eq_true, toListS, toListN, zk_some, zpi, if_true, if_false, i10, i10, t151, ni_0, nI_1]
    exact ew) n 0 (u2 M1 (7, 0, 0) 17 z0, vN, vN, vN) (by omega) ⟨sm_t hs0 (fun k f hk => if_neg (fun q => by
      obtain ⟨rfl, rfl⟩ := q
      exact Bool.false_ne_true hk)), show u2 M1 (7, 0, 0) 17 z0 (7, 0, 0) 17 = z0 from u2_same⟩
  have hs : sm M N := hs
  rw [nI_0, show lt3 nv np (bm M) z0 0 = (z0, 0, 0) from rfl] at lp
  refine ⟨N, hs, ?_⟩
  simp only [e212_41, e212_42, e212_43, e212_46, e212_47, e212_49, e212_50]
  refine Eq.trans lp ?_
  simp only [e212_52, e212_54, e212_55, nle (show n < 2 ^ 31 by omega) (show n < 2 ^ 31 by omega)]
  rw [if_pos (Nat.le_refl _)]
  simp only [e212_208, e212_210]
theorem K30 (X : Nat × (Nat → Int32) × Value) (t : Nat) (M : zM) (G : zG) (n z w : Int32) (i : Inv t M) (ht : t ≤ 700) : okI X 103 212 [vI n, vI z, vI w] t M G := by
  obtain ⟨nv, np, s⟩ := ST_of i
  have s' := s
  obtain ⟨n5, n8, e2, e3, m0, m1, v, o6, f5, a, vc, ac, vm⟩ := s'
  rcases wrg_c n 1 20 (by decide) with ⟨q, q'⟩ | ⟨q, q'⟩ | ⟨q, q', k, hk1, hk, rfl⟩
  · have q : wrg n 1 20 = -4 := q
    have q' : inz n 1 20 = 0 := q'
    refine ⟨-4, rfs M 4, G, rfm (rfs M 4) 4, G, ?_, ?_, Inv_rf i⟩
    · simp only [E103, e103_0, e103_1, e103_2, e103_4, e103_7, e103_9, e103_11, e103_14, e103_15, e103_17, e103_20, e103_21, e103_22, e103_25, e103_26, e103_27, e103_30, e103_31, e103_33, e103_36, e103_37, e103_38, e103_41, e103_42, e103_45, e103_46, e103_47, e103_50, e103_51, e103_54, e103_55, e103_58, e103_61, e103_64, e103_65, e103_68, e103_71, zt0, zt1, zn3, not_false_eq_true, toListS, toListN, zk_some, zpi, if_true, if_false, i10, C118, q, j_1, k_1, j_20, k_20, C114_4, q_lt_m4_0, q_le_m4_0, q_eq_m4_0]
    · simp only [E212, e212_0, e212_1, e212_2, e212_3, e212_6, e212_9, e212_12, e212_13, e212_14, e212_15, e212_17, e212_20, e212_23, e212_24, e212_25, e212_26, e212_27, e212_28, e212_31, e212_34, e212_35, e212_37, e212_40, e212_41, e212_42, e212_43, e212_46, e212_47, e212_49, e212_50, e212_52, e212_54, e212_55, e212_58, e212_59, e212_62, e212_63, e212_66, e212_67, e212_68, e212_70, e212_71, e212_73, e212_75, e212_76, e212_79, e212_80, e212_81, e212_84, e212_86, e212_89, e212_91, e212_92, e212_95, e212_97, e212_98, e212_99, e212_100, e212_101, e212_104, e212_106, e212_107, e212_108, e212_109, e212_110, e212_113, e212_115, e212_116, e212_117, e212_118, e212_119, e212_120, e212_121, e212_124, e212_125, e212_128, e212_131, e212_132, e212_134, e212_137, e212_138, e212_141, e212_143, e212_144, e212_146, e212_148, e212_150, e212_153, e212_154, e212_155, e212_158, e212_160, e212_162, e212_164, e212_165, e212_166, e212_167, e212_168, e212_170, e212_173, e212_176, e212_178, e212_179, e212_182, e212_183, e212_186, e212_187, e212_188, e212_190, e212_191, e212_194, e212_195, e212_196, e212_198, e212_199, e212_202, e212_205, e212_208, e212_210, zt0, zt1, zn3, not_false_eq_true, toListS, toListN, zk_some, zpi, if_true, if_false, i10, C136, C128, q, q', j_1, k_1, j_20, k_20, C129_4, q_lt_m4_0, q_le_m4_0, q_eq_m4_0]
  · have q : wrg n 1 20 = -6 := q
    have q' : inz n 1 20 = 0 := q'
    refine ⟨-6, rfs M 6, G, rfm (rfs M 6) 6, G, ?_, ?_, Inv_rf i⟩
    · simp only [E103, e103_0, e103_1, e103_2, e103_4, e103_7, e103_9, e103_11, e103_14, e103_15, e103_17, e103_20, e103_21, e103_22, e103_25, e103_26, e103_27, e103_30, e103_31, e103_33, e103_36, e103_37, e103_38, e103_41, e103_42, e103_45, e103_46, e103_47, e103_50, e103_51, e103_54, e103_55, e103_58, e103_61, e103_64, e103_65, e103_68, e103_71, zt0, zt1, zn3, not_false_eq_true, toListS, toListN, zk_some, zpi, if_true, if_false, i10, C118, q, j_1, k_1, j_20, k_20, C114_6, q_lt_m6_0, q_le_m6_0, q_eq_m6_0]
    · simp only [E212, e212_0, e212_1, e212_2, e212_3, e212_6, e212_9, e212_12, e212_13, e212_14, e212_15, e212_17, e212_20, e212_23, e212_24, e212_25, e212_26, e212_27, e212_28, e212_31, e212_34, e212_35, e212_37, e212_40, e212_41, e212_42, e212_43, e212_46, e212_47, e212_49, e212_50, e212_52, e212_54, e212_55, e212_58, e212_59, e212_62, e212_63, e212_66, e212_67, e212_68, e212_70, e212_71, e212_73, e212_75, e212_76, e212_79, e212_80, e212_81, e212_84, e212_86, e212_89, e212_91, e212_92, e212_95, e212_97, e212_98, e212_99, e212_100, e212_101, e212_104, e212_106, e212_107, e212_108, e212_109, e212_110, e212_113, e212_115, e212_116, e212_117, e212_118, e212_119, e212_120, e212_121, e212_124, e212_125, e212_128, e212_131, e212_132, e212_134, e212_137, e212_138, e212_141, e212_143, e212_144, e212_146, e212_148, e212_150, e212_153, e212_154, e212_155, e212_158, e212_160, e212_162, e212_164, e212_165, e212_166, e212_167, e212_168, e212_170, e212_173, e212_176, e212_178, e212_179, e212_182, e212_183, e212_186, e212_187, e212_188, e212_190, e212_191, e212_194, e212_195, e212_196, e212_198, e212_199, e212_202, e212_205, e212_208, e212_210, zt0, zt1, zn3, not_false_eq_true, toListS, toListN, zk_some, zpi, if_true, if_false, i10, C136, C128, q, q', j_1, k_1, j_20, k_20, C129_6, q_lt_m6_0, q_le_m6_0, q_eq_m6_0]
  have q : wrg (nI k) 1 20 = 0 := q
  have q' : inz (nI k) 1 20 = 1 := q'
  rcases inz_c w 1 (by decide) with ⟨g, gn⟩ | ⟨g, l, hl, rfl⟩
  · have g' : inz w 0 1 = 0 := g
    rcases rng_n (lit := 1) rfl gn with c1 | ⟨c1, c2⟩
    · refine ⟨-2, rfs M 2, G, rfm (rfs M 2) 2, G, ?_, ?_, Inv_rf i⟩
      · simp only [E103, e103_0, e103_1, e103_2, e103_4, e103_7, e103_9, e103_11, e103_14, e103_15, e103_17, e103_20, e103_21, e103_22, e103_25, e103_26, e103_27, e103_30, e103_31, e103_33, e103_36, e103_37, e103_38, e103_41, e103_42, e103_45, e103_46, e103_47, e103_50, e103_51, e103_54, e103_55, e103_58, e103_61, e103_64, e103_65, e103_68, e103_71, zt0, zt1, zn3, not_false_eq_true, toListS, toListN, zk_some, zpi, if_true, if_false, i10, C118, q, c1, j_1, k_1, j_20, k_20, C114_2, q_lt_m2_0, q_le_m2_0, q_eq_m2_0]
      · simp only [E212, e212_0, e212_1, e212_2, e212_3, e212_6, e212_9, e212_12, e212_13, e212_14, e212_15, e212_17, e212_20, e212_23, e212_24, e212_25, e212_26, e212_27, e212_28, e212_31, e212_34, e212_35, e212_37, e212_40, e212_41, e212_42, e212_43, e212_46, e212_47, e212_49, e212_50, e212_52, e212_54, e212_55, e212_58, e212_59, e212_62, e212_63, e212_66, e212_67, e212_68, e212_70, e212_71, e212_73, e212_75, e212_76, e212_79, e212_80, e212_81, e212_84, e212_86, e212_89, e212_91, e212_92, e212_95, e212_97, e212_98, e212_99, e212_100, e212_101, e212_104, e212_106, e212_107, e212_108, e212_109, e212_110, e212_113, e212_115, e212_116, e212_117, e212_118, e212_119, e212_120, e212_121, e212_124, e212_125, e212_128, e212_131, e212_132, e212_134, e212_137, e212_138, e212_141, e212_143, e212_144, e212_146, e212_148, e212_150, e212_153, e212_154, e212_155, e212_158, e212_160, e212_162, e212_164, e212_165, e212_166, e212_167, e212_168, e212_170, e212_173, e212_176, e212_178, e212_179, e212_182, e212_183, e212_186, e212_187, e212_188, e212_190, e212_191, e212_194, e212_195, e212_196, e212_198, e212_199, e212_202, e212_205, e212_208, e212_210, zt0, zt1, zn3, not_false_eq_true, toListS, toListN, zk_some, zpi, if_true, if_false, i10, C128, q', j_0, g', j_1, k_1, j_20, k_20, C129_2, q_lt_m2_0, q_le_m2_0, q_eq_m2_0]
    · refine ⟨-2, rfs M 2, G, rfm (rfs M 2) 2, G, ?_, ?_, Inv_rf i⟩
      · simp only [E103, e103_0, e103_1, e103_2, e103_4, e103_7, e103_9, e103_11, e103_14, e103_15, e103_17, e103_20, e103_21, e103_22, e103_25, e103_26, e103_27, e103_30, e103_31, e103_33, e103_36, e103_37, e103_38, e103_41, e103_42, e103_45, e103_46, e103_47, e103_50, e103_51, e103_54, e103_55, e103_58, e103_61, e103_64, e103_65, e103_68, e103_71, zt0, zt1, zn3, not_false_eq_true, toListS, toListN, zk_some, zpi, if_true, if_false, i10, C118, q, c1, c2, j_1, k_1, j_20, k_20, C114_2, q_lt_m2_0, q_le_m2_0, q_eq_m2_0]
      · simp only [E212, e212_0, e212_1, e212_2, e212_3, e212_6, e212_9, e212_12, e212_13, e212_14, e212_15, e212_17, e212_20, e212_23, e212_24, e212_25, e212_26, e212_27, e212_28, e212_31, e212_34, e212_35, e212_37, e212_40, e212_41, e212_42, e212_43, e212_46, e212_47, e212_49, e212_50, e212_52, e212_54, e212_55, e212_58, e212_59, e212_62, e212_63, e212_66, e212_67, e212_68, e212_70, e212_71, e212_73, e212_75, e212_76, e212_79, e212_80, e212_81, e212_84, e212_86, e212_89, e212_91, e212_92, e212_95, e212_97, e212_98, e212_99, e212_100, e212_101, e212_104, e212_106, e212_107, e212_108, e212_109, e212_110, e212_113, e212_115, e212_116, e212_117, e212_118, e212_119, e212_120, e212_121, e212_124, e212_125, e212_128, e212_131, e212_132, e212_134, e212_137, e212_138, e212_141, e212_143, e212_144, e212_146, e212_148, e212_150, e212_153, e212_154, e212_155, e212_158, e212_160, e212_162, e212_164, e212_165, e212_166, e212_167, e212_168, e212_170, e212_173, e212_176, e212_178, e212_179, e212_182, e212_183, e212_186, e212_187, e212_188, e212_190, e212_191, e212_194, e212_195, e212_196, e212_198, e212_199, e212_202, e212_205, e212_208, e212_210, zt0, zt1, zn3, not_false_eq_true, toListS, toListN, zk_some, zpi, if_true, if_false, i10, C128, q', j_0, g', j_1, k_1, j_20, k_20, C129_2, q_lt_m2_0, q_le_m2_0, q_eq_m2_0]
  obtain ⟨Z, c51⟩ := C51 X 7 G s k z (by omega)
  have s2 : sm M (cb (lw M (lt3 nv np (bm M) z k).1 (lt3 nv np (bm M) z k).2.1 (lt3 nv np (bm M) z k).2.2) 3 Z) := sm_t sm_lw (sm_cb (by decide))
  have hsu : ((bm M).1 4).toInt ≤ 100000000 := by
    obtain ⟨-, -, n', -, -, -, -, -, q2⟩ := i.1
    rw [show (bm M).1 4 = M (0, 0, 0) 4 from (a.1 4 (by decide)).symm]
    omega
  rcases (show l = 0 ∨ l = 1 by omega) with rfl | rfl
  · show okI X 103 212 [vI (nI k), vI z, vI 0] t M G
    have g' : inz 0 0 1 = 1 := rfl
    obtain ⟨N, hs, c212⟩ := C212_0 X 3 G vm f5 s2 hsu k z (by omega)
    refine ⟨(lt3 nv np (bm M) z k).2.1, cb (lw M (lt3 nv np (bm M) z k).1 (lt3 nv np (bm M) z k).2.1 (lt3 nv np (bm M) z k).2.2) 3 Z, G, N, G, ?_, ?_, Inv_c hs (Nat.le_refl _) i⟩
    · simp only [E103, e103_0, e103_1, e103_2, e103_4, e103_7, e103_9, e103_11, e103_14, e103_15, e103_17, e103_20, e103_21, e103_22, e103_25, e103_26, e103_27, e103_30, e103_31, e103_33, e103_36, e103_37, e103_38, e103_41, e103_42, e103_45, e103_46, e103_47, e103_50, e103_51, e103_54, e103_55, e103_58, e103_61, e103_64, e103_65, e103_68, e103_71, zt0, zt1, zn3, not_false_eq_true, toListS, toListN, zk_some, zpi, if_true, if_false, i10, C118, q, j_1, k_1, j_20, k_20, q_lt_0_0, q_le_0_0, q_lt_0_1, q_le_0_1, q_eq_0_1, c51, lw_3, lw_4]
    · simp only [e212_0, e212_1, e212_2, e212_3, e212_6, e212_9, e212_12, e212_13, e212_14, e212_15, e212_17, e212_20, e212_23, e212_24, e212_25, e212_26, e212_27, e212_28, e212_31, e212_34, e212_35, e212_37, e212_40, E212, zt0, zt1, zn3, not_false_eq_true, toListS, toListN, zk_some, zpi, if_true, if_false, i10, C128, q', j_1, k_1, j_20, k_20, j_0, g']
      exact c212
  · show okI X 103 212 [vI (nI k), vI z, vI 1] t M G
    have g' : inz 1 0 1 = 1 := rfl
    obtain ⟨N, hs, c212⟩ := C212_1 X 3 G vm f5 s2 hsu k z (by omega)
    refine ⟨(lt3 nv np (bm M) z k).2.2, cb (lw M (lt3 nv np (bm M) z k).1 (lt3 nv np (bm M) z k).2.1 (lt3 nv np (bm M) z k).2.2) 3 Z, G, N, G, ?_, ?_, Inv_c hs (Nat.le_refl _) i⟩
    · simp only [E103, e103_0, e103_1, e103_2, e103_4, e103_7, e103_9, e103_11, e103_14, e103_15, e103_17, e103_20, e103_21, e103_22, e103_25, e103_26, e103_27, e103_30, e103_31, e103_33, e103_36, e103_37, e103_38, e103_41, e103_42, e103_45, e103_46, e103_47, e103_50, e103_51, e103_54, e103_55, e103_58, e103_61, e103_64, e103_65, e103_68, e103_71, zt0, zt1, zn3, not_false_eq_true, toListS, toListN, zk_some, zpi, if_true, if_false, i10, C118, q, j_1, k_1, j_20, k_20, q_lt_1_0, q_le_1_0, q_eq_1_0, q_lt_1_1, q_le_1_1, c51, lw_3, lw_4]
    · simp only [e212_0, e212_1, e212_2, e212_3, e212_6, e212_9, e212_12, e212_13, e212_14, e212_15, e212_17, e212_20, e212_23, e212_24, e212_25, e212_26, e212_27, e212_28, e212_31, e212_34, e212_35, e212_37, e212_40, E212, zt0, zt1, zn3, not_false_eq_true, toListS, toListN, zk_some, zpi, if_true, if_false, i10, C128, q', j_1, k_1, j_20, k_20, j_0, g']
      exact c212
