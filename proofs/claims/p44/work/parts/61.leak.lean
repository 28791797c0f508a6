/-! leak -/
def bcx (l0 : Int32) : Int32 := ((l0 - ((l0.toUInt32 >>> (Int32.toUInt32 1 &&& Int32.toUInt32 31)).toInt32 &&& 1431655765) &&& 858993459) + (((l0 - ((l0.toUInt32 >>> (Int32.toUInt32 1 &&& Int32.toUInt32 31)).toInt32 &&& 1431655765)).toUInt32 >>> (Int32.toUInt32 2 &&& Int32.toUInt32 31)).toInt32 &&& 858993459) + (((l0 - ((l0.toUInt32 >>> (Int32.toUInt32 1 &&& Int32.toUInt32 31)).toInt32 &&& 1431655765) &&& 858993459) + (((l0 - ((l0.toUInt32 >>> (Int32.toUInt32 1 &&& Int32.toUInt32 31)).toInt32 &&& 1431655765)).toUInt32 >>> (Int32.toUInt32 2 &&& Int32.toUInt32 31)).toInt32 &&& 858993459)).toUInt32 >>> (Int32.toUInt32 4 &&& Int32.toUInt32 31)).toInt32 &&& 252645135) + (((l0 - ((l0.toUInt32 >>> (Int32.toUInt32 1 &&& Int32.toUInt32 31)).toInt32 &&& 1431655765) &&& 858993459) + (((l0 - ((l0.toUInt32 >>> (Int32.toUInt32 1 &&& Int32.toUInt32 31)).toInt32 &&& 1431655765)).toUInt32 >>> (Int32.toUInt32 2 &&& Int32.toUInt32 31)).toInt32 &&& 858993459) + (((l0 - ((l0.toUInt32 >>> (Int32.toUInt32 1 &&& Int32.toUInt32 31)).toInt32 &&& 1431655765) &&& 858993459) + (((l0 - ((l0.toUInt32 >>> (Int32.toUInt32 1 &&& Int32.toUInt32 31)).toInt32 &&& 1431655765)).toUInt32 >>> (Int32.toUInt32 2 &&& Int32.toUInt32 31)).toInt32 &&& 858993459)).toUInt32 >>> (Int32.toUInt32 4 &&& Int32.toUInt32 31)).toInt32 &&& 252645135).toUInt32 >>> (Int32.toUInt32 8 &&& Int32.toUInt32 31)).toInt32 + ((((l0 - ((l0.toUInt32 >>> (Int32.toUInt32 1 &&& Int32.toUInt32 31)).toInt32 &&& 1431655765) &&& 858993459) + (((l0 - ((l0.toUInt32 >>> (Int32.toUInt32 1 &&& Int32.toUInt32 31)).toInt32 &&& 1431655765)).toUInt32 >>> (Int32.toUInt32 2 &&& Int32.toUInt32 31)).toInt32 &&& 858993459) + (((l0 - ((l0.toUInt32 >>> (Int32.toUInt32 1 &&& Int32.toUInt32 31)).toInt32 &&& 1431655765) &&& 858993459) + (((l0 - ((l0.toUInt32 >>> (Int32.toUInt32 1 &&& Int32.toUInt32 31)).toInt32 &&& 1431655765)).toUInt32 >>> (Int32.toUInt32 2 &&& Int32.toUInt32 31)).toInt32 &&& 858993459)).toUInt32 >>> (Int32.toUInt32 4 &&& Int32.toUInt32 31)).toInt32 &&& 252645135) + (((l0 - ((l0.toUInt32 >>> (Int32.toUInt32 1 &&& Int32.toUInt32 31)).toInt32 &&& 1431655765) &&& 858993459) + (((l0 - ((l0.toUInt32 >>> (Int32.toUInt32 1 &&& Int32.toUInt32 31)).toInt32 &&& 1431655765)).toUInt32 >>> (Int32.toUInt32 2 &&& Int32.toUInt32 31)).toInt32 &&& 858993459) + (((l0 - ((l0.toUInt32 >>> (Int32.toUInt32 1 &&& Int32.toUInt32 31)).toInt32 &&& 1431655765) &&& 858993459) + (((l0 - ((l0.toUInt32 >>> (Int32.toUInt32 1 &&& Int32.toUInt32 31)).toInt32 &&& 1431655765)).toUInt32 >>> (Int32.toUInt32 2 &&& Int32.toUInt32 31)).toInt32 &&& 858993459)).toUInt32 >>> (Int32.toUInt32 4 &&& Int32.toUInt32 31)).toInt32 &&& 252645135).toUInt32 >>> (Int32.toUInt32 8 &&& Int32.toUInt32 31)).toInt32).toUInt32 >>> (Int32.toUInt32 16 &&& Int32.toUInt32 31)).toInt32 &&& 63
theorem C235 (X : Nat × (Nat → Int32) × Value) (d : Nat) (M : zM) (G : zG) (x : Int32) : zd X d 235 [vI x] (hh M G) = some (some (vI (bcx x)), hh M G) := D235 X d M G x
def bp (o p : Nat) : Bool := decide (nI o >>> (nI p &&& 31) &&& 1 = 1)
def pop (o : Nat) : Nat → Nat
  | 0 => 0
  | p + 1 => if bp o p = true then pop o p + 1 else pop o p
theorem pop_le (o : Nat) : ∀ n, pop o n ≤ n := by
  intro n
  induction n with
  | zero => exact Nat.le_refl _
  | succ n ih => unfold pop; split <;> omega
theorem all_pop : ∀ np, np < 9 → ∀ o, o < 2 ^ np → (bcx (nI o)).toBitVec.toNat = pop o np := by decide +kernel
theorem bcx_p {np o : Nat} (h : np ≤ 8) (ho : o < 2 ^ np) : bcx (nI o) = nI (pop o np) := by
  have q := all_pop np (by omega) o ho
  have l := pop_le o np
  exact Int32.toBitVec_inj.mp (BitVec.eq_of_toNat_eq (by rw [q, nI_bv (by omega)]))
theorem sh2 {np : Nat} (h : np ≤ 8) : (1 : Int32) <<< (nI np &&& 31) = nI (2 ^ np) := by
  rcases (show np = 0 ∨ np = 1 ∨ np = 2 ∨ np = 3 ∨ np = 4 ∨ np = 5 ∨ np = 6 ∨ np = 7 ∨ np = 8 by omega) with rfl | rfl | rfl | rfl | rfl | rfl | rfl | rfl | rfl <;> decide
theorem lI_mul (a b : Nat) : lI a * lI b = lI (a * b) := (Int64.ofNat_mul a b).symm
theorem lI_add (a b : Nat) : lI a + lI b = lI (a + b) := (Int64.ofNat_add a b).symm
theorem nI_sub {a b : Nat} (h : b ≤ a) : nI a - nI b = nI (a - b) := (Int32.ofNat_sub a b h).symm
theorem C125 (X : Nat × (Nat → Int32) × Value) (d : Nat) (h : zH) (b e : Nat) (he : e < 2 ^ 31) : zd X d 125 [vL (lI b), vI (nI e)] h = some (some (vL (lI (b ^ e))), h) := by
  have lp := zlf (n := e) (f := fun i => zx X d 125 5 [vL (lI b), vN, vI (nI e), vL (lI (b ^ i)), vN, vI (nI i)] [] h) (fun i hi w ew => by
    simp only [e125_5, e125_7, e125_8, nle (show e < 2 ^ 31 by omega) (show i < 2 ^ 31 by omega)]
    rw [if_neg (by omega)]
    simp only [e125_11, e125_12, e125_13, e125_14, e125_15, e125_18, lI_mul, nI_1]
    rw [← Nat.pow_succ]
    exact ew) e 0 (by omega)
  rw [nI_0, Nat.pow_zero, ← lI_1] at lp
  simp only [E125, e125_0, e125_1, e125_2, e125_3]
  refine Eq.trans lp ?_
  simp only [e125_5, e125_7, e125_8, nle (show e < 2 ^ 31 by omega) (show e < 2 ^ 31 by omega)]
  rw [if_pos (Nat.le_refl _)]
  simp only [e125_21, e125_22]
/-- runs OVER in the STEP s + 1 -/
def Qsp (nv np : Nat) (B : zB) (s : Nat) : Bool := decide (¬ (bst nv np B (s + 1)).1 8 = 0)
def spB (nv np : Nat) (B : zB) (n : Nat) : Bool := decide (fi (Qsp nv np B) 0 n < n)
theorem spB_c {nv np : Nat} {B C : zB} (h : vb B nv np) (a : ag nv np B C) (n : Nat) : spB nv np B n = spB nv np C n := by
  unfold spB
  rw [fi_c (Q := Qsp nv np B) (Q' := Qsp nv np C) n 0 fun k _ _ => by
    unfold Qsp
    rw [(bst_78 h a k).2]]
theorem los {nv np : Nat} {B : zB} (h : vb B nv np) (s : Nat) : ((bst nv np B (s + 1)).1 7 ≤ 0) = ((bst nv np B (s + 1)).1 8 = 0) := by
  have q := (sStp_v (bst_v h s)).2
  have q7 : 0 ≤ ((bst nv np B (s + 1)).1 7).toInt := q.1
  have q8 : (bst nv np B (s + 1)).1 8 = 0 ↔ (bst nv np B (s + 1)).1 7 = 0 := q.2.2.2
  rw [q8, i_le, show (0 : Int32).toInt = 0 from rfl]
  refine propext ⟨fun e => i_ext (by rw [show (0 : Int32).toInt = 0 from rfl]; omega), fun e => by rw [e]; decide⟩
theorem ag_o {nv np : Nat} {B C : zB} (h6 : B.1 6 = 0) (a : ag nv np B C) (o : Int32) : ag nv np (seto B o) (seto C o) := by
  obtain ⟨a1, a2, a3⟩ := a
  rw [h6] at a3
  refine ⟨fun f hf => ?_, a2, fun p g hp hg _ => a3 p g hp hg (fun _ => out_0 p)⟩
  rcases hf with rfl | rfl | rfl | rfl | rfl
  · exact a1 2 (by decide)
  · exact a1 3 (by decide)
  · exact a1 4 (by decide)
  · exact a1 5 (by decide)
  · rfl
theorem C46 (X : Nat × (Nat → Int32) × Value) (d : Nat) {M : zM} (G : zG) {nv np : Nat} (s : ST M nv np) (Z : zB) (o : Int32) (n : Nat) (hn : n < 2 ^ 30) : ∃ B', zd X (d + 4) 46 [vR (2, 0, 0), vR (0, 0, 0), vI o, vI (nI n)] (hh (cb M 3 Z) G) = some (some (vI (if spB nv np (seto (bm M) o) n = true then 1 else 0)), hh (cb M 3 B') G) := by
  obtain ⟨z1, z2, z3⟩ := ST_z s Z
  have h := vb_o z1 o
  rw [← spB_c h (ag_o z3 z2 o)]
  have t1 := T1z X (d + 2) G s Z
  have cu : u2 (cb M 3 (cpB nv np Z (gb M 0))) (0, 3, 0) 6 o = cb M 3 (seto (cpB nv np Z (gb M 0)) o) := cm_uS
  generalize seto (cpB nv np Z (gb M 0)) o = B at h cu ⊢
  have lp := zsf (n := n) (f := fun k => zx X (d + 4) 46 19 [vR (2, 0, 0), vR (0, 0, 0), vI o, vI (nI n), vI (nI (k + 1))] [] (hh (cb M 3 (bst nv np B k)) G)) (Q := Qsp nv np B) (fun k hk hQ w ew => by
    have hQ' := Classical.not_not.mp (of_decide_eq_false hQ)
    have st := W11 X d M G h k
    simp only [e46_19, e46_21, e46_22, nlt (show n < 2 ^ 31 by omega) (show k + 1 < 2 ^ 31 by omega)]
    rw [if_neg (by omega)]
    simp only [e46_25, e46_26, e46_29, e46_32, e46_33, e46_36, e46_39, zt0, zt1, zn3, not_false_eq_true, toListS, toListN, zk_some, zpi, if_true, if_false, i10, st, cb_S, los h k]
    rw [if_pos hQ']
    simp only [e46_44, e46_47, nI_1]
    exact ew) n 0 (by omega)
  have ht := fi_t (Q := Qsp nv np B) n 0
  have hb := (fi_b (Q := Qsp nv np B) n 0).2
  have hr : spB nv np B n = decide (fi (Qsp nv np B) 0 n < n) := rfl
  generalize fi (Qsp nv np B) 0 n = m at lp ht hr hb
  have E0 : zd X (d + 4) 46 [vR (2, 0, 0), vR (0, 0, 0), vI o, vI (nI n)] (hh (cb M 3 Z) G) = zx X (d + 4) 46 19 [vR (2, 0, 0), vR (0, 0, 0), vI o, vI (nI n), vI (nI (0 + 1))] [] (hh (cb M 3 (bst nv np B 0)) G) := by
    simp only [E46, e46_0, e46_1, e46_4, e46_5, e46_8, e46_9, e46_12, e46_13, e46_16, e46_17, zt0, zt1, zn3, not_false_eq_true, toListS, toListN, zk_some, zpi, t1, cu]
    rfl
  by_cases e : m < n
  · have hQ' := of_decide_eq_true (ht (by omega))
    have st := W11 X d M G h m
    refine ⟨bst nv np B (m + 1), E0.trans (lp.trans ?_)⟩
    rw [hr, decide_eq_true e, if_pos rfl]
    simp only [e46_19, e46_21, e46_22, nlt (show n < 2 ^ 31 by omega) (show m + 1 < 2 ^ 31 by omega)]
    rw [if_neg (by omega)]
    simp only [e46_25, e46_26, e46_29, e46_32, e46_33, e46_36, e46_39, zt0, zt1, zn3, not_false_eq_true, toListS, toListN, zk_some, zpi, if_true, if_false, i10, st, cb_S, los h m]
    rw [if_neg hQ']
    simp only [e46_42, e46_43, zt1]
  · refine ⟨bst nv np B m, E0.trans (lp.trans ?_)⟩
    rw [hr, decide_eq_false e, if_neg (by decide)]
    simp only [e46_19, e46_21, e46_22, nlt (show n < 2 ^ 31 by omega) (show m + 1 < 2 ^ 31 by omega)]
    by_cases q : n < m + 1
    · rw [if_pos q]
      simp only [e46_50, e46_51, zt0]
    · exact absurd q (by omega)
/-- the cases where something runs over, out of those below c -/
def cas (nv np : Nat) (B : zB) (t n : Nat) : Nat → Nat
  | 0 => 0
  | c + 1 => if spB nv np (seto B (nI c)) n = true then cas nv np B t n c + (t - 1) ^ (np - pop c np) else cas nv np B t n c
theorem cas_le {nv np : Nat} {B : zB} {t n K : Nat} (hK : ∀ c, (t - 1) ^ (np - pop c np) ≤ K) : ∀ c, cas nv np B t n c ≤ c * K := by
  intro c
  induction c with
  | zero =>
    rw [show cas nv np B t n 0 = 0 from rfl]
    exact Nat.zero_le _
  | succ c ih =>
    have q := hK c
    unfold cas
    rw [Nat.succ_mul]
    split <;> omega
theorem C45 (X : Nat × (Nat → Int32) × Value) (d : Nat) {M : zM} (G : zG) {nv np : Nat} (s : ST M nv np) (t n : Nat) (hn : n < 2 ^ 30) (ht1 : 1 ≤ t) (ht : t ≤ 20) : ∃ B', zd X (d + 5) 45 [vR (2, 0, 0), vR (0, 0, 0), vI (nI t), vI (nI n)] (hh M G) = some (some (vL (lI (cas nv np (bm M) t n (2 ^ np)))), hh (cb M 3 B') G) := by
  have n8 := s.2.1
  have e3 := s.2.2.2.1
  have g3 : ∀ Z, cb M 3 Z (0, 0, 0) 3 = nI np := fun Z => e3
  have h2 : 2 ^ np ≤ 2 ^ 8 := Nat.pow_le_pow_right (by decide) n8
  have tm : nI t - 1 = nI (t - 1) := nI_sub (b := 1) ht1
  obtain ⟨Z, -, lp⟩ := zlr (σ := zB) (n := 2 ^ np) (f := fun c z => zx X (d + 5) 45 6 [vR (2, 0, 0), vR (0, 0, 0), vI (nI t), vI (nI n), vL (lI (cas nv np (bm M) t n c)), vN, vI (nI c)] [] (hh (cb M 3 z) G)) (P := fun _ _ => True) (fun c z hc _ => by
    obtain ⟨B', c46⟩ := C46 X d G s z (nI c) n hn
    have pl := pop_le c np
    have c125 := fun h => C125 X (d + 4) h (t - 1) (np - pop c np) (by omega)
    refine ⟨B', trivial, fun x ex => ?_⟩
    simp only [e45_6, e45_8, e45_9, e45_10, e45_13, e45_14, g3, sh2 n8, nle (show 2 ^ np < 2 ^ 31 by omega) (show c < 2 ^ 31 by omega)]
    rw [if_neg (by omega)]
    cases q : spB nv np (seto (bm M) (nI c)) n with
    | true =>
      rw [q] at c46
      simp only [e45_17, e45_18, e45_19, e45_21, e45_22, e45_25, e45_28, e45_30, e45_31, e45_32, e45_33, e45_34, e45_35, e45_38, e45_40, e45_43, e45_44, e45_47, e45_48, e45_50, e45_53, zt0, zt1, zn3, not_false_eq_true, toListS, toListN, zk_some, zpi, if_true, if_false, i10, c46, g3, tm, n_L (show t - 1 < 2 ^ 31 by omega), C235, bcx_p n8 hc, nI_sub pl, c125, lI_add, nI_1]
      simp only [cas, if_pos q] at ex
      exact ex
    | false =>
      rw [q] at c46
      simp only [e45_17, e45_18, e45_19, e45_21, e45_22, e45_25, e45_50, e45_53, zt0, zt1, zn3, not_false_eq_true, toListS, toListN, zk_some, zpi, if_true, if_false, i10, c46, Bool.false_eq_true, nI_1]
      simp only [cas, q, Bool.false_eq_true, if_false] at ex
      exact ex) (2 ^ np) 0 (gb M 3) (by omega) trivial
  rw [nI_0, show cas nv np (bm M) t n 0 = 0 from rfl, ← lI_0, show cb M 3 (gb M 3) = M from cb_self M 3] at lp
  refine ⟨Z, ?_⟩
  simp only [E45, e45_0, e45_1, e45_3, e45_4]
  refine Eq.trans lp ?_
  simp only [e45_6, e45_8, e45_9, e45_10, e45_13, e45_14, g3, sh2 n8, nle (show 2 ^ np < 2 ^ 31 by omega) (show 2 ^ np < 2 ^ 31 by omega)]
  rw [if_pos (Nat.le_refl _)]
  simp only [e45_56, e45_58]
def odd (t c : Nat) : Nat → Nat
  | 0 => 1
  | p + 1 => if bp c p = true then odd t c p else odd t c p * (t - 1)
theorem odd_e (t c : Nat) : ∀ n, odd t c n = (t - 1) ^ (n - pop c n) := by
  intro n
  induction n with
  | zero => rfl
  | succ n ih =>
    have pl := pop_le c n
    unfold odd pop
    by_cases q : bp c n = true
    · rw [if_pos q, if_pos q, ih, show n + 1 - (pop c n + 1) = n - pop c n by omega]
    · rw [if_neg q, if_neg q, ih, show n + 1 - pop c n = (n - pop c n) + 1 by omega, Nat.pow_succ]
