/-! bits -/
def hv (x : UInt64) : Nat → UInt64
  | 0 => x
  | i + 1 => FP.ddiv (hv x i) 4611686018427387904
def dbl (x : UInt64) : Nat → UInt64
  | 0 => x
  | i + 1 => FP.dmul (dbl x i) 4611686018427387904
def m64 (x : UInt64) (c : Nat) (q : Int) : Prop := FP.Core.val64 x = .fin false c q ∧ 2 ^ 52 ≤ c ∧ c < 2 ^ 53 ∧ -1000 ≤ q ∧ q ≤ 900
theorem two64 : FP.Core.val64 4611686018427387904 = .fin false (2 ^ 52) (-51) := by decide +kernel
theorem fits_m {c : Nat} {q : Int} (h1 : 2 ^ 52 ≤ c) (h2 : c < 2 ^ 53) (h3 : -1074 ≤ q) (h4 : q ≤ 971) : FP.Core.fits FP.Core.b64 (.fin false c q) := by
  have k := q64
  refine ⟨?_, by omega, by omega, .inr ?_⟩
  · rw [k.2.2]; exact h2
  · rw [FP.Core.tails_b64]; exact h1
theorem m64_n {x : UInt64} {c : Nat} {q : Int} (h : m64 x c q) : x.toNat = (q + 1075).toNat * 2 ^ 52 + (c - 2 ^ 52) ∧ x.toNat < 2 ^ 63 ∧ FP.Core.val64 x ≠ .nan := by
  have e := n64 h.1 (by rw [FP.Core.tails_b64]; exact h.2.1) (by have := h.2.2.2.1; omega)
  refine ⟨e, ?_, by rw [h.1]; exact FP.Core.Datum.noConfusion⟩
  have := h.2
  omega
theorem m64_nn {x : UInt64} {c : Nat} {q : Int} (h : m64 x c q) : x &&& 0x7fffffffffffffff ≤ 0x7ff0000000000000 := nn64 (a := q) (b := q) (.inr ⟨c, q, h.1, by rw [FP.Core.tails_b64]; exact h.2.1, by rw [q64.2.2]; exact h.2.2.1, Int.le_refl _, Int.le_refl _⟩)
theorem hv1 {x : UInt64} {c : Nat} {q : Int} (h : m64 x c q) (hq : -999 ≤ q) : m64 (FP.ddiv x 4611686018427387904) c (q - 1) := by
  refine ⟨?_, h.2.1, h.2.2.1, by omega, by have := h.2.2.2.2; omega⟩
  rw [show FP.Core.val64 (FP.ddiv x 4611686018427387904) = _ from FP.Core.val64_ddiv x 4611686018427387904, h.1, two64]
  show (if (2 ^ 52 : Nat) = 0 then (if c = 0 then FP.Core.Datum.nan else .inf (false != false)) else FP.Core.roundRatio FP.Core.b64 (false != false) c (2 ^ 52) (q - -51)) = _
  rw [if_neg (by decide)]
  refine FP.Core.roundRatio_exact FP.Core.good_b64 (by decide) (fits_m h.2.1 h.2.2.1 (by omega) (by have := h.2.2.2.2; omega)) ?_
  rw [show (q - -51 - (q - 1)).toNat = 52 by omega, show (q - 1 - (q - -51)).toNat = 0 by omega, Nat.pow_zero, Nat.mul_one]
theorem db1 {x : UInt64} {c : Nat} {q : Int} (h : m64 x c q) (hq : q < 900) : m64 (FP.dmul x 4611686018427387904) c (q + 1) := by
  refine ⟨?_, h.2.1, h.2.2.1, by have := h.2.2.2.1; omega, by omega⟩
  rw [show FP.Core.val64 (FP.dmul x 4611686018427387904) = _ from FP.Core.val64_dmul x 4611686018427387904, h.1, two64]
  show FP.Core.roundRatio FP.Core.b64 (false != false) (c * 2 ^ 52) 1 (q + -51) = _
  refine FP.Core.roundRatio_exact FP.Core.good_b64 (by decide) (fits_m h.2.1 h.2.2.1 (by have := h.2.2.2.1; omega) (by omega)) ?_
  rw [show (q + -51 - (q + 1)).toNat = 0 by omega, show (q + 1 - (q + -51)).toNat = 52 by omega, Nat.pow_zero, Nat.mul_one, Nat.mul_one]
theorem hvm {x : UInt64} {c : Nat} {q : Int} (h : m64 x c q) : ∀ i : Nat, i ≤ (q + 52).toNat → m64 (hv x i) c (q - i) := by
  intro i
  induction i with
  | zero => intro _; rw [show q - ((0 : Nat) : Int) = q by omega]; exact h
  | succ i ih =>
    intro hi
    have := hv1 (ih (by omega)) (by omega)
    rw [show q - i - 1 = q - (i + 1 : Nat) by omega] at this
    exact this
theorem dbm {x : UInt64} {c : Nat} {q : Int} (h : m64 x c q) : ∀ i : Nat, i ≤ (-52 - q).toNat → m64 (dbl x i) c (q + i) := by
  intro i
  induction i with
  | zero => intro _; rw [show q + ((0 : Nat) : Int) = q by omega]; exact h
  | succ i ih =>
    intro hi
    have := db1 (ih (by omega)) (by omega)
    rw [show q + i + 1 = q + (i + 1 : Nat) by omega] at this
    exact this
theorem cv_lt {a b : UInt64} (ha : FP.Core.val64 a ≠ .nan) (hb : FP.Core.val64 b ≠ .nan) (sa : a.toNat < 2 ^ 63) (sb : b.toNat < 2 ^ 63) (h : a.toNat < b.toNat) (w : CmpOp) : Op.cmpValue (FP.dcmp a b) w = -1 := by
  rw [show FP.dcmp a b = some .lt from (FP.Core.mono_bits ha hb sa sb).1.mpr h]
  rfl
theorem cv_gt {a b : UInt64} (ha : FP.Core.val64 a ≠ .nan) (hb : FP.Core.val64 b ≠ .nan) (sa : a.toNat < 2 ^ 63) (sb : b.toNat < 2 ^ 63) (h : b.toNat < a.toNat) (w : CmpOp) : Op.cmpValue (FP.dcmp a b) w = 1 := by
  rw [show FP.dcmp a b = some .gt from (FP.Core.mono_bits ha hb sa sb).2.2.mpr h]
  rfl
theorem cv_ge {a b : UInt64} (ha : FP.Core.val64 a ≠ .nan) (hb : FP.Core.val64 b ≠ .nan) (sa : a.toNat < 2 ^ 63) (sb : b.toNat < 2 ^ 63) (h : b.toNat ≤ a.toNat) (w : CmpOp) : ¬ Op.cmpValue (FP.dcmp a b) w < 0 ∧ 0 ≤ Op.cmpValue (FP.dcmp a b) w := by
  rcases Nat.lt_or_eq_of_le h with h | h
  · rw [cv_gt ha hb sa sb h]
    exact ⟨by decide, by decide⟩
  · rw [show FP.dcmp a b = some .eq from (FP.Core.mono_bits ha hb sa sb).2.1.mpr h.symm]
    exact ⟨show ¬ (0 : Int32) < 0 by decide, show (0 : Int32) ≤ 0 by decide⟩
theorem c_two {x : UInt64} {c : Nat} {q : Int} (h : m64 x c q) (w : CmpOp) : Op.cmpValue (FP.dcmp x 4611686018427387904) w < 0 ↔ q < -51 := by
  obtain ⟨e, s, n⟩ := m64_n h
  have t2 : FP.Core.val64 4611686018427387904 ≠ .nan := by rw [two64]; exact FP.Core.Datum.noConfusion
  have b2 : (4611686018427387904 : UInt64).toNat = 1024 * 2 ^ 52 := rfl
  have := h.2
  by_cases g : q < -51
  · rw [cv_lt n t2 s (by omega) (by omega)]
    exact ⟨fun _ => g, fun _ => by decide⟩
  · exact ⟨fun k => absurd k (cv_ge n t2 s (by omega) (by omega) w).1, fun k => absurd k g⟩
theorem c_one {x : UInt64} {c : Nat} {q : Int} (h : m64 x c q) (w : CmpOp) : 0 ≤ Op.cmpValue (FP.dcmp x FP.dconst1) w ↔ -52 ≤ q := by
  obtain ⟨e, s, n⟩ := m64_n h
  have t2 : FP.Core.val64 FP.dconst1 ≠ .nan := by rw [show FP.Core.val64 FP.dconst1 = _ from FP.Core.val64_dconst1]; exact FP.Core.Datum.noConfusion
  have b2 : (FP.dconst1 : UInt64).toNat = 1023 * 2 ^ 52 := rfl
  have := h.2
  by_cases g : -52 ≤ q
  · exact ⟨fun _ => g, fun _ => (cv_ge n t2 s (by omega) (by omega) w).2⟩
  · rw [cv_lt n t2 s (by omega) (by omega)]
    exact ⟨fun k => absurd k (by decide), fun k => absurd k g⟩
theorem c_nil {x : UInt64} {c : Nat} {q : Int} (h : m64 x c q) (w : CmpOp) : 0 < Op.cmpValue (FP.dcmp x FP.dconst0) w := by
  obtain ⟨e, s, n⟩ := m64_n h
  have t2 : FP.Core.val64 FP.dconst0 ≠ .nan := by rw [show FP.Core.val64 FP.dconst0 = _ from FP.Core.val64_dconst0]; exact FP.Core.Datum.noConfusion
  have b2 : (FP.dconst0 : UInt64).toNat = 0 := rfl
  have := h.2
  rw [cv_gt n t2 s (by omega) (by omega)]
  decide
theorem frac {y P : UInt64} {c k : Nat} (m : m64 y c (-52)) (hk : k ≤ 52) (hP : FP.Core.val64 P = .fin false (2 ^ 52) (-(k : Int))) : (FP.dsub y FP.dconst1 &&& 0x7fffffffffffffff ≤ 0x7ff0000000000000) ∧ (FP.dmul (FP.dsub y FP.dconst1) P &&& 0x7fffffffffffffff ≤ 0x7ff0000000000000) ∧ FP.d2l (FP.dmul (FP.dsub y FP.dconst1) P) = Int64.ofInt ((c - 2 ^ 52) / 2 ^ k : Nat) := by
  obtain ⟨m1, m2, m3, _⟩ := m
  have v1 : FP.Core.val64 (FP.dsub y FP.dconst1) = FP.Core.roundRatio FP.Core.b64 false (c - 2 ^ 52) 1 (-52) := by
    rw [show FP.Core.val64 (FP.dsub y FP.dconst1) = _ from FP.Core.val64_dsub y FP.dconst1, m1, show FP.Core.val64 FP.dconst1 = _ from FP.Core.val64_dconst1]
    have e1 : FP.Core.sumUnits false c (-52) true (2 ^ 52) (-52) (min (-52) (-52)) = ((c - 2 ^ 52 : Nat) : Int) := by
      have i0 : ∀ u : Nat, FP.Core.inUnits u (-52) (min (-52) (-52)) = u := fun u => by
        unfold FP.Core.inUnits
        rw [show ((-52 : Int) - min (-52) (-52)).toNat = 0 by decide, Nat.pow_zero, Nat.mul_one]
      unfold FP.Core.sumUnits
      rw [i0, i0]
      have s0 : ∀ u : Nat, FP.Core.signed false u = (u : Int) := fun u => rfl
      have s1 : ∀ u : Nat, FP.Core.signed true u = -(u : Int) := fun u => rfl
      rw [s0, s1]
      omega
    show FP.Core.round FP.Core.b64 (FP.Core.Datum.fin (FP.Core.sumSign false true (FP.Core.sumUnits false c (-52) true (2 ^ 52) (-52) (min (-52) (-52)))) (FP.Core.sumUnits false c (-52) true (2 ^ 52) (-52) (min (-52) (-52))).natAbs (min (-52) (-52))) = _
    rw [e1, Int.natAbs_natCast]
    have e2 : FP.Core.sumSign false true ((c - 2 ^ 52 : Nat) : Int) = false := by
      unfold FP.Core.sumSign
      by_cases h : ((c - 2 ^ 52 : Nat) : Int) = 0
      · rw [if_pos h]; rfl
      · rw [if_neg h, decide_eq_false (by omega)]
    rw [e2]
    rfl
  have v2 : FP.Core.val64 (FP.dmul (FP.dsub y FP.dconst1) P) = _ := FP.Core.val64_dmul (FP.dsub y FP.dconst1) P
  rw [v1, hP] at v2
  have v3 : FP.d2l (FP.dmul (FP.dsub y FP.dconst1) P) = FP.Core.toL (FP.Core.val64 (FP.dmul (FP.dsub y FP.dconst1) P)) := rfl
  rw [v3]
  generalize ht : c - 2 ^ 52 = t at *
  have tl : t < 2 ^ 52 := by omega
  clear ht m1
  rcases Nat.eq_zero_or_pos t with rfl | t0
  · have z2 : FP.Core.val64 (FP.dmul (FP.dsub y FP.dconst1) P) = .fin false 0 FP.Core.b64.qmin := v2
    refine ⟨nn64 (a := 0) (b := 0) (.inl v1), nn64 (a := 0) (b := 0) (.inl z2), ?_⟩
    rw [z2, Nat.zero_div, show FP.Core.toL (.fin false 0 FP.Core.b64.qmin) = Int64.ofInt (0 : Nat) by decide +kernel]
  · have l1 := Nat.log2_self_le (n := t) (by omega)
    have l2 := Nat.lt_log2_self (n := t)
    have l3 : t.log2 < 52 := (Nat.log2_lt (by omega)).mpr tl
    obtain ⟨j, hj⟩ : ∃ j, j + t.log2 = 52 := ⟨52 - t.log2, by omega⟩
    have c1 : 2 ^ 52 ≤ t * 2 ^ j := by
      have := Nat.mul_le_mul_right (2 ^ j) l1
      rw [← Nat.pow_add, show t.log2 + j = 52 by omega] at this
      exact this
    have c2 : t * 2 ^ j < 2 ^ 53 := by
      have := Nat.mul_lt_mul_of_pos_right l2 (Nat.two_pow_pos j)
      rw [← Nat.pow_add, show t.log2 + 1 + j = 53 by omega] at this
      exact this
    have w1 : FP.Core.roundRatio FP.Core.b64 false t 1 (-52) = .fin false (t * 2 ^ j) (-52 - j) := by
      refine FP.Core.roundRatio_exact FP.Core.good_b64 (by decide) (fits_m c1 c2 (by omega) (by omega)) ?_
      rw [show (-52 - (-52 - (j : Int))).toNat = j by omega, show (-52 - (j : Int) - -52).toNat = 0 by omega, Nat.pow_zero, Nat.mul_one, Nat.mul_one]
    rw [w1] at v1 v2
    have w2 : FP.Core.val64 (FP.dmul (FP.dsub y FP.dconst1) P) = .fin false (t * 2 ^ j) (-(k : Int) - j) := by
      rw [v2]
      show FP.Core.roundRatio FP.Core.b64 (false != false) (t * 2 ^ j * 2 ^ 52) 1 (-52 - (j : Int) + -(k : Int)) = _
      refine FP.Core.roundRatio_exact FP.Core.good_b64 (by decide) (fits_m c1 c2 (by omega) (by omega)) ?_
      rw [show (-52 - (j : Int) + -(k : Int) - (-(k : Int) - j)).toNat = 0 by omega, show (-(k : Int) - j - (-52 - (j : Int) + -(k : Int))).toNat = 52 by omega, Nat.pow_zero, Nat.mul_one, Nat.mul_one]
    refine ⟨m64_nn (c := t * 2 ^ j) (q := -52 - j) ⟨v1, c1, c2, by omega, by omega⟩, m64_nn (c := t * 2 ^ j) (q := -(k : Int) - j) ⟨w2, c1, c2, by omega, by omega⟩, ?_⟩
    rw [w2]
    have tr : FP.Core.truncate false (t * 2 ^ j) (-(k : Int) - j) = ((t / 2 ^ k : Nat) : Int) := by
      show ((t * 2 ^ j * 2 ^ (-(k : Int) - j).toNat / 2 ^ (-(-(k : Int) - j)).toNat : Nat) : Int) = _
      rw [show (-(k : Int) - j).toNat = 0 by omega, show (-(-(k : Int) - j)).toNat = k + j by omega, Nat.pow_zero, Nat.mul_one, Nat.pow_add, Nat.mul_div_mul_right _ _ (Nat.two_pow_pos j)]
    unfold FP.Core.toL FP.Core.toInt
    dsimp only
    rw [tr]
    have : t / 2 ^ k ≤ t := Nat.div_le_self _ _
    generalize t / 2 ^ k = u at *
    rw [Int.min_eq_right (by omega), Int.max_eq_right (by omega)]
def bts (e : Int) (fb : Int32) (n : Nat) : Int64 := ((Int32.ofInt e).toInt64 <<< (fb.toInt64 &&& 63)) + Int64.ofInt n
theorem L126_86 (X : Nat × (Nat → Int32) × Value) (d : Nat) (x y : UInt64) (c k : Nat) (m : m64 y c (-52)) (fb l3 z : Int32) (hk : k ≤ 52) (hP : FP.Core.val64 (FP.l2d ((1 : Int64) <<< (fb.toInt64 &&& 63))) = .fin false (2 ^ 52) (-(k : Int))) (e : Int) (h : zH) : zx X d 126 86 [vD x, vN, vI fb, vI l3, vD y, vN, vI (Int32.ofInt e), vI z, vN] [] h = some (some (vL (bts e fb ((c - 2 ^ 52) / 2 ^ k))), h) := by
  obtain ⟨f1, f2, f3⟩ := frac m hk hP
  simp only [e126_86, e126_87, e126_88, e126_89, e126_91, e126_93, e126_94, e126_95, e126_96, e126_98, e126_99, e126_100, e126_102, e126_103, e126_104, e126_105, e126_106, f1, f2, f3]
  rfl
theorem o_1 (e : Int) : Int32.ofInt e + 1 = Int32.ofInt (e + 1) := (Int32.ofInt_add e 1).symm
theorem o_m1 (e : Int) : Int32.ofInt e + -1 = Int32.ofInt (e + -1) := by
  rw [Int32.ofInt_add, show Int32.ofInt (-1) = -1 by decide]
theorem L126_54 (X : Nat × (Nat → Int32) × Value) (d : Nat) (x y : UInt64) (c k : Nat) (q : Int) (m : m64 y c q) (hq : q ≤ -52) (fb l3 : Int32) (hk : k ≤ 52) (hP : FP.Core.val64 (FP.l2d ((1 : Int64) <<< (fb.toInt64 &&& 63))) = .fin false (2 ^ 52) (-(k : Int))) (e : Int) (h : zH) : zx X d 126 54 [vD x, vN, vI fb, vI l3, vD y, vN, vI (Int32.ofInt e), vI 0, vN] [] h = some (some (vL (bts (e + q + 52) fb ((c - 2 ^ 52) / 2 ^ k))), h) := by
  have q0 := m.2.2.2.1
  have l := zlf (n := (-52 - q).toNat) (f := fun i => zx X d 126 54 [vD x, vN, vI fb, vI l3, vD (dbl y i), vN, vI (Int32.ofInt (e - i)), vI (nI i), vN] [] h) (fun i hi w ew => by
    have mi := dbm m i (by omega)
    have m2 := dbm m (i + 1) (by omega)
    have nn : FP.dmul (dbl y i) 4611686018427387904 &&& 0x7fffffffffffffff ≤ 0x7ff0000000000000 := m64_nn m2
    simp only [e126_54, e126_56, e126_59, nle (show 1100 < 2 ^ 31 by omega) (show i < 2 ^ 31 by omega), show (1100 : Int32) = nI 1100 from rfl]
    rw [if_neg (by omega)]
    simp only [e126_62, e126_64, e126_65, e126_66, c_one mi]
    rw [if_neg (by omega)]
    simp only [e126_69, e126_71, e126_74, e126_75, e126_77, e126_80, e126_83, nn, o_m1, nI_1]
    rw [show e - (i : Int) + -1 = e - (i + 1 : Nat) by omega]
    exact ew) _ 0 (Nat.zero_add _)
  rw [nI_0, show e - (0 : Nat) = e by omega] at l
  refine l.trans ?_
  have mi := dbm m (-52 - q).toNat (Nat.le_refl _)
  rw [show q + ((-52 - q).toNat : Nat) = -52 by omega] at mi
  simp only [e126_54, e126_56, e126_59, nle (show 1100 < 2 ^ 31 by omega) (show (-52 - q).toNat < 2 ^ 31 by omega), show (1100 : Int32) = nI 1100 from rfl]
  rw [if_neg (by omega)]
  simp only [e126_62, e126_64, e126_65, e126_66, c_one mi]
  rw [if_pos (by omega), L126_86 X d x _ c k mi fb l3 _ hk hP]
  rw [show e - ((-52 - q).toNat : Nat) = e + q + 52 by omega]
theorem C126 (X : Nat × (Nat → Int32) × Value) (d : Nat) (x : UInt64) (c k : Nat) (q : Int) (m : m64 x c q) (fb : Int32) (hk : k ≤ 52) (hP : FP.Core.val64 (FP.l2d ((1 : Int64) <<< (fb.toInt64 &&& 63))) = .fin false (2 ^ 52) (-(k : Int))) (e : Int) (h : zH) : zd X d 126 [vD x, vI fb, vI (Int32.ofInt e)] h = some (some (vL (bts (e + q + 52) fb ((c - 2 ^ 52) / 2 ^ k))), h) := by
  have q0 := m.2.2.2.2
  have l := zlf (n := (q + 52).toNat) (f := fun i => zx X d 126 17 [vD x, vN, vI fb, vI (Int32.ofInt e), vD (hv x i), vN, vI (Int32.ofInt (e + i)), vI (nI i), vN] [] h) (fun i hi w ew => by
    have mi := hvm m i (by omega)
    have m2 := hvm m (i + 1) (by omega)
    have nn : FP.ddiv (hv x i) 4611686018427387904 &&& 0x7fffffffffffffff ≤ 0x7ff0000000000000 := m64_nn m2
    simp only [e126_17, e126_19, e126_22, nle (show 1100 < 2 ^ 31 by omega) (show i < 2 ^ 31 by omega), show (1100 : Int32) = nI 1100 from rfl]
    rw [if_neg (by omega)]
    simp only [e126_25, e126_27, e126_30, e126_31, c_two mi]
    rw [if_neg (by omega)]
    simp only [e126_34, e126_36, e126_39, e126_40, e126_42, e126_45, e126_48, nn, o_1, nI_1]
    rw [show e + (i : Int) + 1 = e + (i + 1 : Nat) by omega]
    exact ew) _ 0 (Nat.zero_add _)
  rw [nI_0, show e + (0 : Nat) = e by omega] at l
  simp only [E126, e126_0, e126_1, e126_2, e126_3]
  rw [if_pos (c_nil m _)]
  simp only [e126_8, e126_9, e126_11, e126_12, e126_14, e126_15]
  refine l.trans ?_
  have mi := hvm m (q + 52).toNat (Nat.le_refl _)
  simp only [e126_17, e126_19, e126_22, nle (show 1100 < 2 ^ 31 by omega) (show (q + 52).toNat < 2 ^ 31 by omega), show (1100 : Int32) = nI 1100 from rfl]
  rw [if_neg (by omega)]
  simp only [e126_25, e126_27, e126_30, e126_31, c_two mi]
  rw [if_pos (by omega)]
  simp only [e126_51, e126_52]
  rw [L126_54 X d x _ c k _ mi (by omega) fb _ hk hP]
  rw [show e + ((q + 52).toNat : Nat) + (q - ((q + 52).toNat : Nat)) + 52 = e + q + 52 by omega]
theorem C126z (X : Nat × (Nat → Int32) × Value) (d : Nat) (fb l3 : Int32) (h : zH) : zd X d 126 [vD 0, vI fb, vI l3] h = some (some (vL 0), h) := by
  have e : Op.cmpValue (FP.dcmp 0 FP.dconst0) .l = 0 := by decide +kernel
  simp only [E126, e126_0, e126_1, e126_2, e126_3, e]
  rw [if_neg (by decide)]
  simp only [e126_6, e126_7]
theorem C240 (X : Nat × (Nat → Int32) × Value) (d : Nat) (x : UInt64) (n : FP.Core.val64 x ≠ .nan) (h : zH) : zd X (d + 2) 240 [vD x] h = some (some (vL x.toInt64), h) := by
  have e : Op.cmpValue (FP.dcmp x x) .l = 0 := by
    rw [show FP.dcmp x x = some .eq from FP.Core.dcmp_self n]
    rfl
  have c : zd X (d + 1) 239 [vD x] h = some (some (vI 0), h) := by
    simp only [E239, e239_0, e239_1, e239_2, e239_3, e239_6, e239_7, e239_10, e239_11, e, if_true, zt0]
  simp only [E240, e240_0, e240_1, e240_4, e240_7, e240_8, e240_11, e240_12, e240_15, c, zt0, zt1, zn3, not_false_eq_true, toListS, toListN, zk_some, zpi, if_true, if_false, i10]
theorem C242 (X : Nat × (Nat → Int32) × Value) (d : Nat) (x : UInt32) (n : FP.Core.val32 x ≠ .nan) (h : zH) : zd X (d + 2) 242 [vF x] h = some (some (vI x.toInt32), h) := by
  have e : Op.cmpValue (FP.fcmp x x) .l = 0 := by
    rw [show FP.fcmp x x = some .eq from FP.Core.fcmp_self n]
    rfl
  have c : zd X (d + 1) 241 [vF x] h = some (some (vI 0), h) := by
    simp only [E241, e241_0, e241_1, e241_2, e241_3, e241_6, e241_7, e241_10, e241_11, e, if_true, zt0]
  simp only [E242, e242_0, e242_1, e242_4, e242_7, e242_8, e242_11, e242_12, e242_14, c, zt0, zt1, zn3, not_false_eq_true, toListS, toListN, zk_some, zpi, if_true, if_false, i10]
