/-! a bench as one long: trace -/
theorem lI_bv {a : Nat} (h : a < 2 ^ 63) : (lI a).toBitVec.toNat = a := by
  unfold lI
  rw [Int64.toBitVec_ofNat', BitVec.toNat_ofNat]
  exact Nat.mod_eq_of_lt (by omega)
theorem nI_bv {a : Nat} (h : a < 2 ^ 31) : (nI a).toBitVec.toNat = a := by
  unfold nI
  rw [Int32.toBitVec_ofNat', BitVec.toNat_ofNat]
  exact Nat.mod_eq_of_lt (by omega)
theorem sh9 (x : Int64) : (x <<< (Int32.toInt64 9 &&& 63)).toBitVec = x.toBitVec <<< 9 := by
  rw [Int64.toBitVec_shiftLeft, show ((Int32.toInt64 9 &&& 63).toBitVec.smod 64) = 9#64 by decide]
  rfl
theorem sh8 (x : Int64) : (x <<< (Int32.toInt64 8 &&& 63)).toBitVec = x.toBitVec <<< 8 := by
  rw [Int64.toBitVec_shiftLeft, show ((Int32.toInt64 8 &&& 63).toBitVec.smod 64) = 8#64 by decide]
  rfl
theorem lI_or9 {a b : Nat} (hb : b < 512) (ha : a < 2 ^ 50) : lI a <<< (Int32.toInt64 9 &&& 63) ||| lI b = lI (a * 512 + b) := by
  refine Int64.toBitVec_inj.mp (BitVec.eq_of_toNat_eq ?_)
  rw [Int64.toBitVec_or, sh9, BitVec.toNat_or, BitVec.toNat_shiftLeft, lI_bv (by omega), lI_bv (by omega), lI_bv (by omega), Nat.shiftLeft_eq, Nat.mod_eq_of_lt (by omega), show a * 2 ^ 9 = a <<< 9 from (Nat.shiftLeft_eq a 9).symm, ← Nat.shiftLeft_add_eq_or_of_lt (by omega : b < 2 ^ 9), Nat.shiftLeft_eq]
theorem lI_or8 {a b : Nat} (hb : b < 256) (ha : a < 2 ^ 50) : lI a <<< (Int32.toInt64 8 &&& 63) ||| lI b = lI (a * 256 + b) := by
  refine Int64.toBitVec_inj.mp (BitVec.eq_of_toNat_eq ?_)
  rw [Int64.toBitVec_or, sh8, BitVec.toNat_or, BitVec.toNat_shiftLeft, lI_bv (by omega), lI_bv (by omega), lI_bv (by omega), Nat.shiftLeft_eq, Nat.mod_eq_of_lt (by omega), show a * 2 ^ 8 = a <<< 8 from (Nat.shiftLeft_eq a 8).symm, ← Nat.shiftLeft_add_eq_or_of_lt (by omega : b < 2 ^ 8), Nat.shiftLeft_eq]
theorem rb_lt (P : tV) : ∀ n, n ≤ 8 → (rb P n).toBitVec.toNat < 2 ^ 8 := by
  intro n
  induction n with
  | zero => intro _; show (0 : Int32).toBitVec.toNat < 2 ^ 8; decide
  | succ n ih =>
    intro h
    have := ih (by omega)
    unfold rb
    split
    · exact this
    · rw [Int32.toBitVec_or, BitVec.toNat_or]
      refine Nat.or_lt_two_pow this ?_
      rcases (show n = 0 ∨ n = 1 ∨ n = 2 ∨ n = 3 ∨ n = 4 ∨ n = 5 ∨ n = 6 ∨ n = 7 by omega) with rfl | rfl | rfl | rfl | rfl | rfl | rfl | rfl <;> decide
theorem bv_I {x : Int32} (h : x.toBitVec.toNat < 2 ^ 8) : x = nI x.toBitVec.toNat := Int32.toBitVec_inj.mp (BitVec.eq_of_toNat_eq (by rw [nI_bv (by omega)]))
theorem n_L {a : Nat} (h : a < 2 ^ 31) : (nI a).toInt64 = lI a := by
  rw [lI_up (by rw [nI_int h]; omega), nI_int h]
  rfl
theorem n_m3 {a : Nat} (h : a < 2 ^ 31) : nI a - nI a / 3 * 3 = nI (a % 3) := by
  have e : nI a / 3 = nI (a / 3) := (Int32.ofNat_div h (by decide : 3 < 2 ^ 31)).symm
  rw [e]
  unfold nI
  rw [show (3 : Int32) = Int32.ofNat 3 from rfl, ← Int32.ofNat_mul, ← Int32.ofNat_sub _ _ (Nat.div_mul_le_self a 3)]
  refine congrArg Int32.ofNat ?_
  have := Nat.div_add_mod a 3
  omega
/-- the trace's numbers -/
def trb (B : zB) (np : Nat) : Nat := (B.1 5).toInt.toNat % 3 * 256 + (rb B.2.2 np).toBitVec.toNat
def trn (B : zB) (np : Nat) : Nat → Nat
  | 0 => trb B np
  | v + 1 => trn B np v * 512 + (B.2.1 v 3).toInt.toNat
def wok (B : zB) (nv : Nat) : Prop := ∀ v, v < nv → 0 ≤ (B.2.1 v 3).toInt ∧ (B.2.1 v 3).toInt < 512
theorem trb_lt (B : zB) {np : Nat} (h : np ≤ 8) : trb B np < 2 ^ 10 := by
  have := rb_lt B.2.2 np h
  unfold trb
  omega
theorem trn_lt {B : zB} {np nv : Nat} (h : np ≤ 8) (hw : wok B nv) (hv : nv ≤ 5) : ∀ v, v ≤ nv → trn B np v < 2 ^ (10 + 9 * v) := by
  intro v
  induction v with
  | zero => intro _; exact trb_lt B h
  | succ v ih =>
    intro hh
    have := ih (by omega)
    have w := hw v (by omega)
    unfold trn
    rw [show 10 + 9 * (v + 1) = (10 + 9 * v) + 9 by omega, Nat.pow_add]
    omega
theorem vb_wok {B : zB} {nv np : Nat} (h : vb B nv np) : wok B nv := fun v hv => by
  have w := h.2.1 v hv
  have b := brim_v (h.1.2.2.2.2.1 v hv)
  unfold wat at w
  omega
theorem trn_i {B C : zB} {np nv : Nat} (h : np ≤ 8) (hb : wok B nv) (hc : wok C nv) : ∀ v, v ≤ nv → (trn B np v = trn C np v ↔ ((∀ j, j < v → B.2.1 j 3 = C.2.1 j 3) ∧ (B.1 5).toInt.toNat % 3 = (C.1 5).toInt.toNat % 3 ∧ rb B.2.2 np = rb C.2.2 np)) := by
  intro v
  induction v with
  | zero =>
    intro _
    have l1 := rb_lt B.2.2 np h
    have l2 := rb_lt C.2.2 np h
    unfold trn trb
    constructor
    · intro e
      refine ⟨fun j hj => by omega, by omega, ?_⟩
      rw [bv_I l1, bv_I l2, show (rb B.2.2 np).toBitVec.toNat = (rb C.2.2 np).toBitVec.toNat by omega]
    · rintro ⟨-, e1, e2⟩
      rw [e1, e2]
  | succ v ih =>
    intro hh
    have ih' := ih (by omega)
    have w1 := hb v (by omega)
    have w2 := hc v (by omega)
    unfold trn
    constructor
    · intro e
      have e1 : trn B np v = trn C np v := by omega
      have e2 : (B.2.1 v 3).toInt = (C.2.1 v 3).toInt := by omega
      have q := ih'.mp e1
      refine ⟨fun j hj => ?_, q.2⟩
      by_cases c : j = v
      · subst c; exact i_ext e2
      · exact q.1 j (by omega)
    · rintro ⟨q1, q2⟩
      rw [ih'.mpr ⟨fun j hj => q1 j (by omega), q2⟩, q1 v (by omega)]
theorem C18 (X : Nat × (Nat → Int32) × Value) (d : Nat) (M : zM) (G : zG) (b nv np : Nat) (h : vb (gb M b) nv np) : zd X (d + 1) 18 [vR (0, b, 0)] (hh M G) = some (some (vL (lI (trn (gb M b) np nv))), hh M G) := by
  have n5 : nv ≤ 5 := h.1.2.2.1
  have n8 : np ≤ 8 := h.1.2.2.2.1
  have e2 : M (0, b, 0) 2 = nI nv := h.1.1
  have e3 : M (0, b, 0) 3 = nI np := h.1.2.1
  have hw := vb_wok h
  have s1 : 0 ≤ (M (0, b, 0) 5).toInt := h.2.2.2.2.2.1
  have s2 : (M (0, b, 0) 5).toInt ≤ 9999 := h.2.2.2.2.2.2
  have es : M (0, b, 0) 5 = nI (M (0, b, 0) 5).toInt.toNat := nI_up s1
  have c16 := C16 X d M G b np e3 n8
  have rl := rb_lt (pw M b) np n8
  have er : (rb (pw M b) np).toInt64 = lI (rb (pw M b) np).toBitVec.toNat := by
    exact (congrArg Int32.toInt64 (bv_I rl)).trans (n_L (by omega))
  have e0 : (M (0, b, 0) 5 - M (0, b, 0) 5 / 3 * 3).toInt64 = lI ((M (0, b, 0) 5).toInt.toNat % 3) := by
    have k : (M (0, b, 0) 5).toInt.toNat < 2 ^ 31 := by omega
    have q := n_m3 k
    rw [← es] at q
    rw [q, n_L (by omega)]
  have t0' : lI ((M (0, b, 0) 5).toInt.toNat % 3) <<< (Int32.toInt64 8 &&& 63) ||| lI (rb (pw M b) np).toBitVec.toNat = lI (trb (gb M b) np) := lI_or8 (by omega) (by omega)
  have lp := zlf (n := nv) (f := fun v => zx X (d + 1) 18 21 [vR (0, b, 0), vL (lI (trn (gb M b) np v)), vN, vI (nI v)] [] (hh M G)) (fun v hv w ew => by
    have v5 : v < 5 := by omega
    have wv := hw v hv
    have tl := trn_lt (B := gb M b) n8 hw n5 v (by omega)
    have tl' : trn (gb M b) np v < 2 ^ 50 := Nat.lt_of_lt_of_le tl (Nat.pow_le_pow_right (by decide) (by omega))
    have ew2 : (M (5, b, v) 3).toInt64 = lI (M (5, b, v) 3).toInt.toNat := lI_up wv.1
    have wv2 : (M (5, b, v) 3).toInt.toNat < 512 := by have := wv.2; have e : ((gb M b).2.1 v 3) = M (5, b, v) 3 := rfl; rw [e] at this; omega
    have st : lI (trn (gb M b) np v) <<< (Int32.toInt64 9 &&& 63) ||| lI (M (5, b, v) 3).toInt.toNat = lI (trn (gb M b) np (v + 1)) := lI_or9 wv2 tl'
    simp only [e18_21, e18_22, e18_23, e18_26, e2, nle (show nv < 2 ^ 31 by omega) (show v < 2 ^ 31 by omega)]
    rw [if_neg (by omega)]
    simp only [e18_29, e18_30, e18_32, e18_33, e18_34, e18_37, e18_38, e18_39, e18_42, e18_43, e18_44, e18_45, e18_48, z5 v5, cl5 v5, ew2, st, nI_1]
    exact ew) nv 0 (by omega)
  rw [nI_0] at lp
  simp only [E18, e18_0, e18_1, e18_4, e18_5, e18_6, e18_7, e18_8, e18_9, e18_11, e18_12, e18_13, e18_16, e18_17, e18_18, e18_19, e18_20, zt0, zt1, zn3, not_false_eq_true, toListS, toListN, zk_some, zpi, if_true, if_false, i10, c16, zn3, not_false_eq_true, e0, er, t0']
  refine Eq.trans lp ?_
  simp only [e18_21, e18_22, e18_23, e18_26, e2, nle (show nv < 2 ^ 31 by omega) (show nv < 2 ^ 31 by omega)]
  rw [if_pos (Nat.le_refl _)]
  simp only [e18_51, e18_52]
