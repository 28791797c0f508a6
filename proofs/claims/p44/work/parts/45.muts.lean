/-! each change of a bench -/
def kd3 (P : tV) (p : Nat) (k f : Int32) : tV := uV (uV (uV P p 5 k) p 6 f) p 7 0
theorem kd3_o {P : tV} {p r g : Nat} {k f : Int32} (h : r ≠ p) : kd3 P p k f r g = P r g := by unfold kd3; rw [uV_j h, uV_j h, uV_j h]
theorem kd3_l {P : tV} {p r g : Nat} {k f : Int32} (h : g < 5) : kd3 P p k f r g = P r g := by unfold kd3; rw [uV_f (by omega), uV_f (by omega), uV_f (by omega)]
theorem kd3_5 {P : tV} {p : Nat} {k f : Int32} : kd3 P p k f p 5 = k := by unfold kd3; rw [uV_f (by decide), uV_f (by decide), uV_s]
theorem kd3_6 {P : tV} {p : Nat} {k f : Int32} : kd3 P p k f p 6 = f := by unfold kd3; rw [uV_f (by decide), uV_s]
theorem kd3_7 {P : tV} {p : Nat} {k f : Int32} : kd3 P p k f p 7 = 0 := uV_s
theorem vb_kind {S : Nat → Int32} {V P : tV} {nv np p l m : Nat} (h : vb (S, V, P) nv np) (hl : l ≤ 5) (hm : m ≤ 9) : vb (S, V, kd3 P p (nI l) (nI m)) nv np := by
  obtain ⟨⟨v1, v2, v3, v4, v5, v6⟩, v7, v8, v9⟩ := h
  refine ⟨⟨v1, v2, v3, v4, v5, fun r hr => ?_⟩, v7, fun r hr => ?_, v9⟩
  · show vP V (kd3 P p (nI l) (nI m)) nv r
    have w0 : vP V P nv r := v6 r hr
    obtain ⟨a1, c1, s1, s2, s3, s4, s5, s6, s7, s8, s9, s10, s11, s12, s13⟩ := w0
    refine ⟨a1, c1, (kd3_l (by decide)).trans s1, (kd3_l (by decide)).trans s2, s3, s4, s5, ?_, ?_, ?_, ?_, ?_, ?_, ?_, ?_⟩
    · rw [kd3_l (by decide)]; exact s6
    · rw [kd3_l (by decide)]; exact s7
    · rw [kd3_l (by decide)]; exact s8
    · rw [kd3_l (by decide)]; exact s9
    all_goals
      by_cases e : r = p
      · subst e
        first | rw [kd3_5, nI_int (by omega)]; omega | rw [kd3_6, nI_int (by omega)]; omega
      · rw [kd3_o e]; assumption
  · show kd3 P p (nI l) (nI m) r 7 = 0 ∨ (kd3 P p (nI l) (nI m) r 7 = 1 ∧ ¬ sSi (kd3 P p (nI l) (nI m)) r = 0)
    by_cases e : r = p
    · subst e
      exact Or.inl kd3_7
    · rw [kd3_o e, sSi_c (P := P) (kd3_o e)]
      exact v8 r hr
theorem i_tri {a b : Int32} (h1 : 0 ≤ a.toInt) (h2 : a.toInt ≤ 5) (h3 : 0 ≤ b.toInt) (h4 : b.toInt ≤ 9) : 0 ≤ (10 * a + b).toInt := by
  have e : (10 * a).toInt = 10 * a.toInt := by
    rw [i_mul_s] <;> rw [show (10 : Int32).toInt = 10 from rfl] <;> omega
  rw [i_add_s] <;> rw [e] <;> omega
theorem vb_tap {S : Nat → Int32} {V P : tV} {nv np j m : Nat} (h : vb (S, V, P) nv np) (hm : m ≤ 9) : vb (S, uV V j 4 (nI m), P) nv np := by
  obtain ⟨⟨v1, v2, v3, v4, v5, v6⟩, v7, v8, v9⟩ := h
  have ef : ∀ r f, f ≠ 4 → uV V j 4 (nI m) r f = V r f := fun r f hf => uV_f hf
  refine ⟨⟨v1, v2, v3, v4, fun r hr => ?_, fun r hr => ?_⟩, fun r hr => ?_, v8, v9⟩
  · show vV (uV V j 4 (nI m)) r
    have vr : vV V r := v5 r hr
    unfold vV at *
    rw [ef r 0 (by decide), ef r 1 (by decide), ef r 2 (by decide)]
    refine ⟨vr.1, vr.2.1, vr.2.2.1, vr.2.2.2.1, vr.2.2.2.2.1, vr.2.2.2.2.2.1, ?_⟩
    by_cases e : r = j
    · subst e
      rw [uV_s, nI_int (by omega)]
      omega
    · rw [uV_j e]
      exact vr.2.2.2.2.2.2
  · show vP (uV V j 4 (nI m)) P nv r
    have w0 : vP V P nv r := v6 r hr
    unfold vP vM at *
    simp only [ef _ 1 (by decide), ef _ 2 (by decide)]
    exact w0
  · show 0 ≤ wat (uV V j 4 (nI m)) r ∧ wat (uV V j 4 (nI m)) r ≤ brim (uV V j 4 (nI m)) r
    unfold wat brim
    rw [ef r 0 (by decide), ef r 2 (by decide), ef r 3 (by decide)]
    exact v7 r hr
theorem bst_s {nv np : Nat} {B : zB} (h : vb B nv np) : ∀ n, ((bst nv np B n).1 4).toInt ≤ (B.1 4).toInt + 1395 * n := by
  intro n
  induction n with
  | zero => show (B.1 4).toInt ≤ _; omega
  | succ n ih =>
    have q := (sStp_v (bst_v h n)).2
    have q4 : ((bst nv np B (n + 1)).1 4).toInt = min 2000000000 (((bst nv np B n).1 4).toInt + ((bst nv np B (n + 1)).1 7).toInt) := q.2.2.1
    have q7 : ((bst nv np B (n + 1)).1 7).toInt ≤ 1395 := q.2.1
    rw [q4]
    omega
theorem L10 (X : Nat × (Nat → Int32) × Value) (d : Nat) (M : zM) (G : zG) (b : Nat) {nv np : Nat} {B : zB} (h : vb B nv np) (n : Nat) (hn : n < 2 ^ 31) (l2 : Int32) : zx X (d + 4) 10 16 [vR (0, b, 0), vI (nI n), vI l2, vI 0] [] (hh (cb M b B) G) = some (some (vI ((bst nv np B n).1 5)), hh (cb M b (bst nv np B n)) G) := by
  have l := zlf (n := n) (f := fun i => zx X (d + 4) 10 16 [vR (0, b, 0), vI (nI n), vI l2, vI (nI i)] [] (hh (cb M b (bst nv np B i)) G)) (fun i hi w ew => by
    have st := B11 X (d + 0) M G b (bst nv np B i) nv np (bst_v h i)
    simp only [e10_16, e10_17, e10_18, nle hn (show i < 2 ^ 31 by omega)]
    rw [if_neg (by omega)]
    simp only [e10_21, e10_22, e10_25, e10_28, zt0, zt1, zn3, not_false_eq_true, toListS, toListN, zk_some, zpi, st, nI_1]
    exact ew) n 0 (by omega)
  rw [nI_0] at l
  refine Eq.trans l ?_
  simp only [e10_16, e10_17, e10_18, nle hn hn]
  rw [if_pos (Nat.le_refl _)]
  simp only [e10_31, e10_32, e10_35, cb_S]
