/-! float -/
theorem rr {f : FP.Core.Fmt} (hf : FP.Core.Good f) {A B : Nat} {e l h : Int} (hA : 0 < A) (hB : 0 < B) (h1 : ¬ FP.Core.Below A B (l - e)) (h2 : FP.Core.Below A B (h - e)) (hl : f.qmin ≤ l - ((f.p : Int) - 1)) (hh : h - ((f.p : Int) - 1) ≤ f.qmax) : ∃ c q, FP.Core.roundRatio f false A B e = .fin false c q ∧ f.tails ≤ c ∧ c < 2 ^ f.p ∧ l - ((f.p : Int) - 1) ≤ q ∧ q ≤ h - ((f.p : Int) - 1) := by
  have s := FP.Core.leading_spec hA hB
  have a1 : l - e ≤ FP.Core.leading A B := by
    have := FP.Core.lt_of_below h1 s.2
    omega
  have a2 : FP.Core.leading A B < h - e := FP.Core.lt_of_below s.1 h2
  have nl := FP.Core.nearest_units_le (f := f) hA hB e
  have qe : FP.Core.quantum f A B e = FP.Core.leading A B + e - ((f.p : Int) - 1) := by unfold FP.Core.quantum; omega
  have t2 := FP.Core.two_tails hf
  have tp := FP.Core.tails_two hf
  have ng : f.tails ≤ FP.Core.nearest (FP.Core.unitsNum A e (FP.Core.quantum f A B e)) (FP.Core.unitsDen B e (FP.Core.quantum f A B e)) := by
    refine FP.Core.nearest_ge (FP.Core.unitsDen_pos hB ..) ?_
    have nb : ¬ FP.Core.Below A B (FP.Core.quantum f A B e - e + ((f.p : Int) - 1)) := by
      rw [show FP.Core.quantum f A B e - e + ((f.p : Int) - 1) = FP.Core.leading A B by omega]
      exact s.1
    rw [show (f.p : Int) - 1 = ((f.p - 1 : Nat) : Int) by have := hf.2; omega, ← FP.Core.units_below] at nb
    exact Nat.le_of_not_lt nb
  unfold FP.Core.roundRatio
  rw [if_neg (by omega)]
  unfold FP.Core.roundAt
  generalize FP.Core.nearest (FP.Core.unitsNum A e (FP.Core.quantum f A B e)) (FP.Core.unitsDen B e (FP.Core.quantum f A B e)) = c at *
  unfold FP.Core.settle FP.Core.bound
  by_cases hc : c < 2 ^ f.p
  · rw [if_pos hc, if_pos (by omega)]
    exact ⟨c, _, rfl, ng, hc, by omega, by omega⟩
  · rw [if_neg hc, if_pos (by omega)]
    exact ⟨f.tails, _, rfl, Nat.le_refl _, by omega, by omega, by omega⟩
/-- a number other than zero, its last digit at an exponent from a to b -/
def Nm (f : FP.Core.Fmt) (d : FP.Core.Datum) (a b : Int) : Prop := ∃ c q, d = .fin false c q ∧ f.tails ≤ c ∧ c < 2 ^ f.p ∧ a ≤ q ∧ q ≤ b
def Pz (f : FP.Core.Fmt) (d : FP.Core.Datum) (a b : Int) : Prop := d = .fin false 0 f.qmin ∨ Nm f d a b
theorem Nm_w {f : FP.Core.Fmt} {d : FP.Core.Datum} {a b a' b' : Int} (h : Nm f d a b) (h1 : a' ≤ a) (h2 : b ≤ b') : Nm f d a' b' := by
  obtain ⟨c, q, e, k1, k2, k3, k4⟩ := h
  exact ⟨c, q, e, k1, k2, by omega, by omega⟩
theorem Pz_w {f : FP.Core.Fmt} {d : FP.Core.Datum} {a b a' b' : Int} (h : Pz f d a b) (h1 : a' ≤ a) (h2 : b ≤ b') : Pz f d a' b' := h.imp id (Nm_w · h1 h2)
theorem nm_mul {f : FP.Core.Fmt} (hf : FP.Core.Good f) {x y : FP.Core.Datum} {a b a' b' : Int} (hx : Nm f x a b) (hy : Nm f y a' b') (hl : f.qmin ≤ a + a' + ((f.p : Int) - 1)) (hh : b + b' + f.p + 1 ≤ f.qmax) : Nm f (FP.Core.round f (FP.Core.exactProduct x y)) (a + a' + ((f.p : Int) - 1)) (b + b' + f.p + 1) := by
  obtain ⟨c, q, rfl, c1, c2, q1, q2⟩ := hx
  obtain ⟨d, r, rfl, d1, d2, r1, r2⟩ := hy
  have tp := FP.Core.tails_two hf
  have hp := hf.2
  have g1 : f.tails * f.tails ≤ c * d := Nat.mul_le_mul c1 d1
  have g2 : c * d < 2 ^ f.p * 2 ^ f.p := Nat.mul_lt_mul_of_lt_of_lt c2 d2
  have g3 : f.tails * f.tails = 2 ^ (2 * (f.p - 1)) := by unfold FP.Core.Fmt.tails; rw [← Nat.pow_add]; congr 1; omega
  have g4 : 2 ^ f.p * 2 ^ f.p = 2 ^ (2 * f.p) := by rw [← Nat.pow_add]; congr 1; omega
  have g5 : 0 < f.tails * f.tails := Nat.mul_pos (by omega) (by omega)
  obtain ⟨e, s, k, k1, k2, k3, k4⟩ := rr hf (A := c * d) (B := 1) (e := q + r) (l := q + r + 2 * ((f.p : Int) - 1)) (h := q + r + 2 * f.p) (by omega) (by decide)
    (by
      rw [show q + r + 2 * ((f.p : Int) - 1) - (q + r) = ((2 * (f.p - 1) : Nat) : Int) - ((0 : Nat) : Int) by omega, FP.Core.below_iff]
      omega)
    (by
      rw [show q + r + 2 * (f.p : Int) - (q + r) = ((2 * f.p : Nat) : Int) - ((0 : Nat) : Int) by omega, FP.Core.below_iff]
      omega) (by omega) (by omega)
  exact ⟨e, s, k, k1, k2, by omega, by omega⟩
theorem nm_div {f : FP.Core.Fmt} (hf : FP.Core.Good f) {x y : FP.Core.Datum} {a b a' b' : Int} (hx : Nm f x a b) (hy : Nm f y a' b') (hl : f.qmin ≤ a - b' - f.p) (hh : b - a' - f.p + 2 ≤ f.qmax) : Nm f (FP.Core.quotient f x y) (a - b' - f.p) (b - a' - f.p + 2) := by
  obtain ⟨c, q, rfl, c1, c2, q1, q2⟩ := hx
  obtain ⟨d, r, rfl, d1, d2, r1, r2⟩ := hy
  have tp := FP.Core.tails_two hf
  have t2 := FP.Core.two_tails hf
  have hp := hf.2
  obtain ⟨e, s, k, k1, k2, k3, k4⟩ := rr hf (A := c) (B := d) (e := q - r) (l := q - r - 1) (h := q - r + 1) (by omega) (by omega)
    (by
      rw [show q - r - 1 - (q - r) = ((0 : Nat) : Int) - ((1 : Nat) : Int) by omega, FP.Core.below_iff]
      omega)
    (by
      rw [show q - r + 1 - (q - r) = ((1 : Nat) : Int) - ((0 : Nat) : Int) by omega, FP.Core.below_iff]
      omega) (by omega) (by omega)
  refine ⟨e, s, ?_, k1, k2, by omega, by omega⟩
  rw [← k]
  show (if d = 0 then _ else _) = _
  rw [if_neg (by omega)]
  rfl
theorem nm_add {f : FP.Core.Fmt} (hf : FP.Core.Good f) {x y : FP.Core.Datum} {a b : Int} (hx : Nm f x a b) (hy : Nm f y a b) (hl : f.qmin ≤ a) (hh : b + 2 ≤ f.qmax) : Nm f (FP.Core.round f (FP.Core.exactSum x y)) a (b + 2) := by
  obtain ⟨c, q, rfl, c1, c2, q1, q2⟩ := hx
  obtain ⟨d, r, rfl, d1, d2, r1, r2⟩ := hy
  have tp := FP.Core.tails_two hf
  have t2 := FP.Core.two_tails hf
  have hp := hf.2
  have e0 : FP.Core.exactSum (.fin false c q) (.fin false d r) = .fin false (c * 2 ^ (q - min q r).toNat + d * 2 ^ (r - min q r).toNat) (min q r) := by
    have e1 : FP.Core.sumUnits false c q false d r (min q r) = ((c * 2 ^ (q - min q r).toNat + d * 2 ^ (r - min q r).toNat : Nat) : Int) := by
      rw [Int.natCast_add]
      rfl
    show FP.Core.Datum.fin (FP.Core.sumSign false false (FP.Core.sumUnits false c q false d r (min q r))) (FP.Core.sumUnits false c q false d r (min q r)).natAbs (min q r) = _
    rw [e1, Int.natAbs_natCast]
    unfold FP.Core.sumSign
    by_cases h : ((c * 2 ^ (q - min q r).toNat + d * 2 ^ (r - min q r).toNat : Nat) : Int) = 0
    · rw [if_pos h]; rfl
    · rw [if_neg h, decide_eq_false (by omega)]
  rw [e0]
  generalize hm : min q r = m
  have um : (q - m).toNat ≤ (b - m).toNat := by omega
  have vm : (r - m).toNat ≤ (b - m).toNat := by omega
  have u1 : 2 ^ (q - m).toNat ≤ 2 ^ (b - m).toNat := Nat.pow_le_pow_right (by decide) um
  have v1 : 2 ^ (r - m).toNat ≤ 2 ^ (b - m).toNat := Nat.pow_le_pow_right (by decide) vm
  have u0 : 0 < 2 ^ (q - m).toNat := Nat.two_pow_pos _
  have v0 : 0 < 2 ^ (r - m).toNat := Nat.two_pow_pos _
  have w0 : 0 < 2 ^ (b - m).toNat := Nat.two_pow_pos _
  have x1 : c * 2 ^ (q - m).toNat ≤ c * 2 ^ (b - m).toNat := Nat.mul_le_mul_left _ u1
  have x2 : d * 2 ^ (r - m).toNat ≤ d * 2 ^ (b - m).toNat := Nat.mul_le_mul_left _ v1
  have x3 : c * 2 ^ (b - m).toNat < 2 ^ f.p * 2 ^ (b - m).toNat := Nat.mul_lt_mul_of_pos_right c2 w0
  have x4 : d * 2 ^ (b - m).toNat < 2 ^ f.p * 2 ^ (b - m).toNat := Nat.mul_lt_mul_of_pos_right d2 w0
  have x5 : c ≤ c * 2 ^ (q - m).toNat := Nat.le_mul_of_pos_right _ u0
  have x6 : d ≤ d * 2 ^ (r - m).toNat := Nat.le_mul_of_pos_right _ v0
  have x7 : 2 ^ (f.p + 1 + (b - m).toNat) = 2 * (2 ^ f.p * 2 ^ (b - m).toNat) := by
    rw [Nat.pow_add, Nat.pow_add, Nat.pow_one]
    ac_rfl
  have x8 : f.tails = 2 ^ (f.p - 1) := rfl
  obtain ⟨e, s, k, k1, k2, k3, k4⟩ := rr hf (A := c * 2 ^ (q - m).toNat + d * 2 ^ (r - m).toNat) (B := 1) (e := m) (l := m + ((f.p : Int) - 1)) (h := b + f.p + 1) (by omega) (by decide)
    (by
      rw [show m + ((f.p : Int) - 1) - m = ((f.p - 1 : Nat) : Int) - ((0 : Nat) : Int) by omega, FP.Core.below_iff]
      omega)
    (by
      rw [show b + f.p + 1 - m = ((f.p + 1 + (b - m).toNat : Nat) : Int) - ((0 : Nat) : Int) by omega, FP.Core.below_iff, x7]
      omega) (by omega) (by omega)
  exact ⟨e, s, k, k1, k2, by omega, by omega⟩
theorem nm_int {f : FP.Core.Fmt} (hf : FP.Core.Good f) {n w : Nat} (h0 : 0 < n) (h1 : n < 2 ^ w) (hl : f.qmin ≤ - ((f.p : Int) - 1)) (hh : w - ((f.p : Int) - 1) ≤ f.qmax) : Nm f (FP.Core.round f (FP.Core.ofInt n)) (- ((f.p : Int) - 1)) (w - ((f.p : Int) - 1)) := by
  obtain ⟨e, s, k, k1, k2, k3, k4⟩ := rr hf (A := n) (B := 1) (e := 0) (l := 0) (h := w) (by omega) (by decide)
    (by
      rw [show (0 : Int) - 0 = ((0 : Nat) : Int) - ((0 : Nat) : Int) by omega, FP.Core.below_iff]
      omega)
    (by
      rw [show (w : Int) - 0 = ((w : Nat) : Int) - ((0 : Nat) : Int) by omega, FP.Core.below_iff]
      omega) (by omega) (by omega)
  refine ⟨e, s, ?_, k1, k2, by omega, by omega⟩
  rw [← k]
  unfold FP.Core.ofInt
  rw [decide_eq_false (by omega), Int.natAbs_natCast]
  rfl
theorem nm_fits {f : FP.Core.Fmt} {d : FP.Core.Datum} {a b : Int} (h : Nm f d a b) (h1 : f.qmin ≤ a) (h2 : b ≤ f.qmax) : FP.Core.fits f d := by
  obtain ⟨c, q, rfl, k1, k2, k3, k4⟩ := h
  exact ⟨k2, by omega, by omega, .inr k1⟩
theorem pz_fits {f : FP.Core.Fmt} (hf : FP.Core.Good f) {d : FP.Core.Datum} {a b : Int} (h : Pz f d a b) (h1 : f.qmin ≤ a) (h2 : b ≤ f.qmax) : FP.Core.fits f d := by
  rcases h with h | h
  · rw [h]; exact FP.Core.zero_fits hf false
  · exact nm_fits h h1 h2
theorem pz_zero {f : FP.Core.Fmt} (hf : FP.Core.Good f) {d : FP.Core.Datum} {a b : Int} (h : Pz f d a b) (h1 : f.qmin ≤ a) (h2 : b ≤ f.qmax) : FP.Core.round f (FP.Core.exactSum d (.fin false 0 f.qmin)) = d := by
  refine FP.Core.round_sum_zero hf (pz_fits hf h h1 h2) false (fun s q e => .inl ?_)
  rcases h with h | ⟨c, r, h, _⟩
  · rw [h] at e; cases e; rfl
  · rw [h] at e; cases e; rfl
theorem pz_add {f : FP.Core.Fmt} (hf : FP.Core.Good f) {x y : FP.Core.Datum} {a b : Int} (hx : Pz f x a b) (hy : Pz f y a b) (hl : f.qmin ≤ a) (hh : b + 2 ≤ f.qmax) : Pz f (FP.Core.round f (FP.Core.exactSum x y)) a (b + 2) := by
  rcases hy with rfl | hy
  · rw [pz_zero hf hx hl (by omega)]
    exact Pz_w hx (by omega) (by omega)
  rcases hx with rfl | hx
  · rw [FP.Core.exactSum_comm, pz_zero hf (.inr hy) hl (by omega)]
    exact .inr (Nm_w hy (by omega) (by omega))
  exact .inr (nm_add hf hx hy hl hh)
theorem pz_mul {f : FP.Core.Fmt} (hf : FP.Core.Good f) {x y : FP.Core.Datum} {a b a' b' : Int} (hx : Pz f x a b) (hy : Pz f y a' b') (hl : f.qmin ≤ a + a' + ((f.p : Int) - 1)) (hh : b + b' + f.p + 1 ≤ f.qmax) : Pz f (FP.Core.round f (FP.Core.exactProduct x y)) (a + a' + ((f.p : Int) - 1)) (b + b' + f.p + 1) := by
  have z : ∀ c q r, c = 0 → FP.Core.round f (.fin false c (q + r)) = .fin false 0 f.qmin := fun c q r h => by rw [h]; rfl
  rcases hx with rfl | hx
  · left
    rcases hy with rfl | ⟨c, q, rfl, _⟩ <;> exact z _ _ _ (Nat.zero_mul _)
  rcases hy with rfl | hy
  · left
    obtain ⟨c, q, rfl, _⟩ := hx
    exact z _ _ _ (Nat.mul_zero _)
  exact .inr (nm_mul hf hx hy hl hh)
theorem pz_div {f : FP.Core.Fmt} (hf : FP.Core.Good f) {x y : FP.Core.Datum} {a b a' b' : Int} (hx : Pz f x a b) (hy : Nm f y a' b') (hl : f.qmin ≤ a - b' - f.p) (hh : b - a' - f.p + 2 ≤ f.qmax) : Pz f (FP.Core.quotient f x y) (a - b' - f.p) (b - a' - f.p + 2) := by
  rcases hx with rfl | hx
  · left
    obtain ⟨d, r, rfl, d1, _⟩ := hy
    have tp := FP.Core.tails_two hf
    show (if d = 0 then _ else _) = _
    rw [if_neg (by omega)]
    rfl
  exact .inr (nm_div hf hx hy hl hh)
theorem pz_int {f : FP.Core.Fmt} (hf : FP.Core.Good f) {n w : Nat} (h1 : n < 2 ^ w) (hl : f.qmin ≤ - ((f.p : Int) - 1)) (hh : w - ((f.p : Int) - 1) ≤ f.qmax) : Pz f (FP.Core.round f (FP.Core.ofInt n)) (- ((f.p : Int) - 1)) (w - ((f.p : Int) - 1)) := by
  rcases Nat.eq_zero_or_pos n with rfl | h0
  · exact .inl rfl
  · exact .inr (nm_int hf h0 h1 hl hh)
theorem nI_Int {n : Nat} (h : n < 2 ^ 31) : (nI n).toInt = (n : Int) := Int32.toInt_ofNat_of_lt h
/-- doubles and floats -/
def Pd (x : UInt64) (a b : Int) : Prop := Pz FP.Core.b64 (FP.Core.val64 x) a b
def Pf (x : UInt32) (a b : Int) : Prop := Pz FP.Core.b32 (FP.Core.val32 x) a b
theorem q64 : FP.Core.b64.qmin = -1074 ∧ FP.Core.b64.qmax = 971 ∧ FP.Core.b64.p = 53 := by decide
theorem q32 : FP.Core.b32.qmin = -149 ∧ FP.Core.b32.qmax = 104 ∧ FP.Core.b32.p = 24 := by decide
theorem Pd_add {x y : UInt64} {a b : Int} (hx : Pd x a b) (hy : Pd y a b) (h1 : -1074 ≤ a) (h2 : b ≤ 900) : Pd (FP.dadd x y) a (b + 2) := by
  unfold Pd
  rw [show FP.Core.val64 (FP.dadd x y) = _ from FP.Core.val64_dadd x y]
  exact pz_add FP.Core.good_b64 hx hy (by have := q64; omega) (by have := q64; omega)
theorem Pd_mul {x y : UInt64} {a b a' b' : Int} (hx : Pd x a b) (hy : Pd y a' b') (h1 : -1074 ≤ a + a' + 52) (h2 : b + b' ≤ 900) : Pd (FP.dmul x y) (a + a' + 52) (b + b' + 54) := by
  unfold Pd
  rw [show FP.Core.val64 (FP.dmul x y) = _ from FP.Core.val64_dmul x y]
  have := pz_mul FP.Core.good_b64 hx hy (by have := q64; omega) (by have := q64; omega)
  refine Pz_w this ?_ ?_ <;> have := q64 <;> omega
theorem Pd_div {x y : UInt64} {a b a' b' : Int} (hx : Pd x a b) (hy : Nm FP.Core.b64 (FP.Core.val64 y) a' b') (h1 : -1000 ≤ a - b') (h2 : b - a' ≤ 900) : Pd (FP.ddiv x y) (a - b' - 53) (b - a' - 51) := by
  unfold Pd
  rw [show FP.Core.val64 (FP.ddiv x y) = _ from FP.Core.val64_ddiv x y]
  have := pz_div FP.Core.good_b64 hx hy (by have := q64; omega) (by have := q64; omega)
  refine Pz_w this ?_ ?_ <;> have := q64 <;> omega
theorem Nd_i {n : Nat} (h0 : 0 < n) (h : n < 2 ^ 9) : Nm FP.Core.b64 (FP.Core.val64 (FP.i2d (nI n))) (-52) (-43) := by
  rw [show FP.Core.val64 (FP.i2d (nI n)) = _ from FP.Core.val64_i2d (nI n), nI_Int (by omega)]
  have := nm_int FP.Core.good_b64 h0 h (by have := q64; omega) (by have := q64; omega)
  refine Nm_w this ?_ ?_ <;> have := q64 <;> omega
theorem Pd_i {n : Nat} (h : n < 2 ^ 9) : Pd (FP.i2d (nI n)) (-52) (-43) := by
  unfold Pd
  rw [show FP.Core.val64 (FP.i2d (nI n)) = _ from FP.Core.val64_i2d (nI n), nI_Int (by omega)]
  have := pz_int FP.Core.good_b64 h (by have := q64; omega) (by have := q64; omega)
  refine Pz_w this ?_ ?_ <;> have := q64 <;> omega
theorem Pf_add {x y : UInt32} {a b : Int} (hx : Pf x a b) (hy : Pf y a b) (h1 : -149 ≤ a) (h2 : b ≤ 90) : Pf (FP.fadd x y) a (b + 2) := by
  unfold Pf
  rw [show FP.Core.val32 (FP.fadd x y) = _ from FP.Core.val32_fadd x y]
  exact pz_add FP.Core.good_b32 hx hy (by have := q32; omega) (by have := q32; omega)
theorem Pf_div {x y : UInt32} {a b a' b' : Int} (hx : Pf x a b) (hy : Nm FP.Core.b32 (FP.Core.val32 y) a' b') (h1 : -100 ≤ a - b') (h2 : b - a' ≤ 90) : Pf (FP.fdiv x y) (a - b' - 24) (b - a' - 22) := by
  unfold Pf
  rw [show FP.Core.val32 (FP.fdiv x y) = _ from FP.Core.val32_fdiv x y]
  have := pz_div FP.Core.good_b32 hx hy (by have := q32; omega) (by have := q32; omega)
  refine Pz_w this ?_ ?_ <;> have := q32 <;> omega
theorem Nf_i {n : Nat} (h0 : 0 < n) (h : n < 2 ^ 9) : Nm FP.Core.b32 (FP.Core.val32 (FP.i2f (nI n))) (-23) (-14) := by
  rw [show FP.Core.val32 (FP.i2f (nI n)) = _ from FP.Core.val32_i2f (nI n), nI_Int (by omega)]
  have := nm_int FP.Core.good_b32 h0 h (by have := q32; omega) (by have := q32; omega)
  refine Nm_w this ?_ ?_ <;> have := q32 <;> omega
theorem Pf_i {n : Nat} (h : n < 2 ^ 9) : Pf (FP.i2f (nI n)) (-23) (-14) := by
  unfold Pf
  rw [show FP.Core.val32 (FP.i2f (nI n)) = _ from FP.Core.val32_i2f (nI n), nI_Int (by omega)]
  have := pz_int FP.Core.good_b32 h (by have := q32; omega) (by have := q32; omega)
  refine Pz_w this ?_ ?_ <;> have := q32 <;> omega
theorem z64 {x : UInt64} (h : FP.Core.val64 x = .fin false 0 FP.Core.b64.qmin) : x = 0 := FP.Core.val64_inj (by rw [h]; exact FP.Core.Datum.noConfusion) (h.trans FP.Core.val64_zero.symm)
theorem n64 {x : UInt64} {c : Nat} {q : Int} (h : FP.Core.val64 x = .fin false c q) (h1 : FP.Core.b64.tails ≤ c) (h2 : -1074 ≤ q) : x.toNat = (q + 1075).toNat * 2 ^ 52 + (c - 2 ^ 52) := by
  have nn : FP.Core.val64 x ≠ .nan := by rw [h]; exact FP.Core.Datum.noConfusion
  have e : x = FP.Core.of64 (FP.Core.val64 x) := (FP.Core.of64_val64 nn).symm
  rw [e, FP.Core.toNat_of64 (FP.Core.val64_fits x), h]
  rw [FP.Core.tails_b64] at h1
  show (if c < FP.Core.b64.tails then _ else _) = _
  rw [if_neg (by rw [FP.Core.tails_b64]; omega)]
  unfold FP.Core.assemble
  rw [FP.Core.tails_b64, FP.Core.qmin_b64]
  have : (q - -1074).toNat + 1 = (q + 1075).toNat := by omega
  rw [this]
  simp
theorem nn64 {x : UInt64} {a b : Int} (h : Pd x a b) : x &&& 0x7fffffffffffffff ≤ 0x7ff0000000000000 := by
  have nn : FP.Core.val64 x ≠ .nan := by
    rcases h with h | ⟨c, q, h, _⟩ <;> rw [h] <;> exact FP.Core.Datum.noConfusion
  rw [FP.Core.ne_nan] at nn
  rw [UInt64.le_iff_toNat_le, FP.Core.mask_toNat]
  exact nn
theorem nn32 {x : UInt32} {a b : Int} (h : Pf x a b) : x &&& 0x7fffffff ≤ 0x7f800000 := by
  have nn : FP.Core.val32 x ≠ .nan := by
    rcases h with h | ⟨c, q, h, _⟩ <;> rw [h] <;> exact FP.Core.Datum.noConfusion
  rw [FP.Core.ne_nan32] at nn
  rw [UInt32.le_iff_toNat_le, FP.Core.mask_toNat32]
  exact nn
