/-! leak -/
def bcx (l0 : Int32) : Int32 := ((l0 - ((l0.toUInt32 >>> (Int32.toUInt32 1 &&& Int32.toUInt32 31)).toInt32 &&& 1431655765) &&& 858993459) + (((l0 - ((l0.toUInt32 >>> (Int32.toUInt32 1 &&& Int32.toUInt32 31)).toInt32 &&& 1431655765)).toUInt32 >>> (Int32.toUInt32 2 &&& Int32.toUInt32 31)).toInt32 &&& 858993459) + (((l0 - ((l0.toUInt32 >>> (Int32.toUInt32 1 &&& Int32.toUInt32 31)).toInt32 &&& 1431655765) &&& 858993459) + (((l0 - ((l0.toUInt32 >>> (Int32.toUInt32 1 &&& Int32.toUInt32 31)).toInt32 &&& 1431655765)).toUInt32 >>> (Int32.toUInt32 2 &&& Int32.toUInt32 31)).toInt32 &&& 858993459)).toUInt32 >>> (Int32.toUInt32 4 &&& Int32.toUInt32 31)).toInt32 &&& 252645135) + (((l0 - ((l0.toUInt32 >>> (Int32.toUInt32 1 &&& Int32.toUInt32 31)).toInt32 &&& 1431655765) &&& 858993459) + (((l0 - ((l0.toUInt32 >>> (Int32.toUInt32 1 &&& Int32.toUInt32 31)).toInt32 &&& 1431655765)).toUInt32 >>> (Int32.toUInt32 2 &&& Int32.toUInt32 31)).toInt32 &&& 858993459) + (((l0 - ((l0.toUInt32 >>> (Int32.toUInt32 1 &&& Int32.toUInt32 31)).toInt32 &&& 1431655765) &&& 858993459) + (((l0 - ((l0.toUInt32 >>> (Int32.toUInt32 1 &&& Int32.toUInt32 31)).toInt32 &&& 1431655765)).toUInt32 >>> (Int32.toUInt32 2 &&& Int32.toUInt32 31)).toInt32 &&& 858993459)).toUInt32 >>> (Int32.toUInt32 4 &&& Int32.toUInt32 31)).toInt32 &&& 252645135).toUInt32 >>> (Int32.toUInt32 8 &&& Int32.toUInt32 31)).toInt32 + ((((l0 - ((l0.toUInt32 >>> (Int32.toUInt32 1 &&& Int32.toUInt32 31)).toInt32 &&& 1431655765) &&& 858993459) + (((l0 - ((l0.toUInt32 >>> (Int32.toUInt32 1 &&& Int32.toUInt32 31)).toInt32 &&& 1431655765)).toUInt32 >>> (Int32.toUInt32 2 &&& Int32.toUInt32 31)).toInt32 &&& 858993459) + (((l0 - ((l0.toUInt32 >>> (Int32.toUInt32 1 &&& Int32.toUInt32 31)).toInt32 &&& 1431655765) &&& 858993459) + (((l0 - ((l0.toUInt32 >>> (Int32.toUInt32 1 &&& Int32.toUInt32 31)).toInt32 &&& 1431655765)).toUInt32 >>> (Int32.toUInt32 2 &&& Int32.toUInt32 31)).toInt32 &&& 858993459)).toUInt32 >>> (Int32.toUInt32 4 &&& Int32.toUInt32 31)).toInt32 &&& 252645135) + (((l0 - ((l0.toUInt32 >>> (Int32.toUInt32 1 &&& Int32.toUInt32 31)).toInt32 &&& 1431655765) &&& 858993459) + (((l0 - ((l0.toUInt32 >>> (Int32.toUInt32 1 &&& Int32.toUInt32 31)).toInt32 &&& 1431655765)).toUInt32 >>> (Int32.toUInt32 2 &&& Int32.toUInt32 31)).toInt32 &&& 858993459) + (((l0 - ((l0.toUInt32 >>> (Int32.toUInt32 1 &&& Int32.toUInt32 31)).toInt32 &&& 1431655765) &&& 858993459) + (((l0 - ((l0.toUInt32 >>> (Int32.toUInt32 1 &&& Int32.toUInt32 31)).toInt32 &&& 1431655765)).toUInt32 >>> (Int32.toUInt32 2 &&& Int32.toUInt32 31)).toInt32 &&& 858993459)).toUInt32 >>> (Int32.toUInt32 4 &&& Int32.toUInt32 31)).toInt32 &&& 252645135).toUInt32 >>> (Int32.toUInt32 8 &&& Int32.toUInt32 31)).toInt32).toUInt32 >>> (Int32.toUInt32 16 &&& Int32.toUInt32 31)).toInt32 &&& 63
theorem C235 (X : Nat × (Nat → Int32) × Value) (d : Nat) (M : zM) (G : zG) (x : Int32) : zd X d 235 [vI x] (hh M G) = some (some (vI (bcx x)), hh M G) := D235 X d M G x
def bp (o p : Nat) : Bool := decide (nI o >>> (nI p &&& 31) &&& 1 = 1)
def pop (o : Nat) : Nat → Nat
  | 0 => 0
  | p + 1 => if bp o p = true then pop o p + 1 else pop o p
theorem pop_le (o : Nat) : ∀ n, pop o n ≤ n := by
  intro n
  induction n with
  | zero => exact Nat.le_refl _
  | succ n ih => unfold pop; split <;> omega
theorem all_pop : ∀ np, np < 9 → ∀ o, o < 2 ^ np → (bcx (nI o)).toBitVec.toNat = pop o np := by decide +kernel
theorem bcx_p {np o : Nat} (h : np ≤ 8) (ho : o < 2 ^ np) : bcx (nI o) = nI (pop o np) := by
  have q := all_pop np (by omega) o ho
  have l := pop_le o np
  exact Int32.toBitVec_inj.mp (BitVec.eq_of_toNat_eq (by rw [q, nI_bv (by omega)]))
theorem sh2 {np : Nat} (h : np ≤ 8) : (1 : Int32) <<< (nI np &&& 31) = nI (2 ^ np) := by
  rcases (show np = 0 ∨ np = 1 ∨ np = 2 ∨ np = 3 ∨ np = 4 ∨ np = 5 ∨ np = 6 ∨ np = 7 ∨ np = 8 by omega) with rfl | rfl | rfl | rfl | rfl | rfl | rfl | rfl | rfl <;> decide
theorem lI_mul (a b : Nat) : lI a * lI b = lI (a * b) := (Int64.ofNat_mul a b).symm
theorem lI_add (a b : Nat) : lI a + lI b = lI (a + b) := (Int64.ofNat_add a b).symm
theorem nI_sub {a b : Nat} (h : b ≤ a) : nI a - nI b = nI (a - b) := (Int32.ofNat_sub a b h).symm
theorem C125 (X : Nat × (Nat → Int32) × Value) (d : Nat) (h : zH) (b e : Nat) (he : e < 2 ^ 31) : zd X d 125 [vL (lI b), vI (nI e)] h = some (some (vL (lI (b ^ e))), h) := by
  have lp := zlf (n := e) (f := fun i => zx X d 125 5 [vL (lI b), vN, vI (nI e), vL (lI (b ^ i)), vN, vI (nI i)] [] h) (fun i hi w ew => by
    simp only [e125_5, e125_7, e125_8, nle (show e < 2 ^ 31 by omega) (show i < 2 ^ 31 by omega)]
    rw [if_neg (by omega)]
    simp only [e125_11, e125_12, e125_13, e125_14, e125_15, e125_18, lI_mul, nI_1]
    rw [← Nat.pow_succ]
    exact ew) e 0 (by omega)
  rw [nI_0, Nat.pow_zero, ← lI_1] at lp
  simp only [E125, e125_0, e125_1, e125_2, e125_3]
  refine Eq.trans lp ?_
  simp only [e125_5, e125_7, e125_8, nle (show e < 2 ^ 31 by omega) (show e < 2 ^ 31 by omega)]
  rw [if_pos (Nat.le_refl _)]
  simp only [e125_21, e125_22]
/-- runs OVER in the STEP s + 1 -/
def Qsp (nv np : Nat) (B : zB) (s : Nat) : Bool := decide (¬ (bst nv np B (s + 1)).1 8 = 0)
def spB (nv np : Nat) (B : zB) (n : Nat) : Bool := decide (fi (Qsp nv np B) 0 n < n)
theorem spB_c {nv np : Nat} {B C : zB} (h : vb B nv np) (a : ag nv np B C) (n : Nat) : spB nv np B n = spB nv np C n := by
  unfold spB
  rw [fi_c (Q := Qsp nv np B) (Q' := Qsp nv np C) n 0 fun k _ _ => by
    unfold Qsp
    rw [(bst_78 h a k).2]]
theorem los {nv np : Nat} {B : zB} (h : vb B nv np) (s : Nat) : ((bst nv np B (s + 1)).1 7 ≤ 0) = ((bst nv np B (s + 1)).1 8 = 0) := by
  have q := (sStp_v (bst_v h s)).2
  have q7 : 0 ≤ ((bst nv np B (s + 1)).1 7).toInt := q.1
  have q8 : (bst nv np B (s + 1)).1 8 = 0 ↔ (bst nv np B (s + 1)).1 7 = 0 := q.2.2.2
  rw [q8, i_le, show (0 : Int32).toInt = 0 from rfl]
  refine propext ⟨fun e => i_ext (by rw [show (0 : Int32).toInt = 0 from rfl]; omega), fun e => by rw [e]; decide⟩
theorem ag_o {nv np : Nat} {B C : zB} (h6 : B.1 6 = 0) (a : ag nv np B C) (o : Int32) : ag nv np (seto B o) (seto C o) := by
  obtain ⟨a1, a2, a3⟩ := a
  rw [h6] at a3
  refine ⟨fun f hf => ?_, a2, fun p g hp hg _ => a3 p g hp hg (fun _ => out_0 p)⟩
  rcases hf with rfl | rfl | rfl | rfl | rfl
  · exact a1 2 (by decide)
  · exact a1 3 (by decide)
  · exact a1 4 (by decide)
  · exact a1 5 (by decide)
  · rfl
theorem C46 (X : Nat × (Nat → Int32) × Value) (d : Nat) {M : zM} (G : zG) {nv np : Nat} (s : ST M nv np) (Z : zB) (o : Int32) (n : Nat) (hn : n < 2 ^ 30) : ∃ B', zd X (d + 4) 46 [vR (2, 0, 0), vR (0, 0, 0), vI o, vI (nI n)] (hh (cb M 3 Z) G) = some (some (vI (if spB nv np (seto (bm M) o) n = true then 1 else 0)), hh (cb M 3 B') G) := by
  obtain ⟨z1, z2, z3⟩ := ST_z s Z
  have h := vb_o z1 o
  rw [← spB_c h (ag_o z3 z2 o)]
  have t1 := T1z X (d + 2) G s Z
  have cu : u2 (cb M 3 (cpB nv np Z (gb M 0))) (0, 3, 0) 6 o = cb M 3 (seto (cpB nv np Z (gb M 0)) o) := cm_uS
  generalize seto (cpB nv np Z (gb M 0)) o = B at h cu ⊢
  have lp := zsf (n := n) (f := fun k => zx X (d + 4) 46 19 [vR (2, 0, 0), vR (0, 0, 0), vI o, vI (nI n), vI (nI (k + 1))] [] (hh (cb M 3 (bst nv np B k)) G)) (Q := Qsp nv np B) (fun k hk hQ w ew => by
    have hQ' := Classical.not_not.mp (of_decide_eq_false hQ)
    have st := W11 X d M G h k
    simp only [e46_19, e46_21, e46_22, nlt (show n < 2 ^ 31 by omega) (show k + 1 < 2 ^ 31 by omega)]
    rw [if_neg (by omega)]
    simp only [e46_25, e46_26, e46_29, e46_32, e46_33, e46_36, e46_39, zt0, zt1, zn3, not_false_eq_true, toListS, toListN, zk_some, zpi, if_true, if_false, i10, st, cb_S, los h k]
    rw [if_pos hQ']
    simp only [e46_44, e46_47, nI_1]
    exact ew) n 0 (by omega)
  have ht := fi_t (Q := Qsp nv np B) n 0
  have hb := (fi_b (Q := Qsp nv np B) n 0).2
  have hr : spB nv np B n = decide (fi (Qsp nv np B) 0 n < n) := rfl
  generalize fi (Qsp nv np B) 0 n = m at lp ht hr hb
  have E0 : zd X (d + 4) 46 [vR (2, 0, 0), vR (0, 0, 0), vI o, vI (nI n)] (hh (cb M 3 Z) G) = zx X (d + 4) 46 19 [vR (2, 0, 0), vR (0, 0, 0), vI o, vI (nI n), vI (nI (0 + 1))] [] (hh (cb M 3 (bst nv np B 0)) G) := by
    simp only [E46, e46_0, e46_1, e46_4, e46_5, e46_8, e46_9, e46_12, e46_13, e46_16, e46_17, zt0, zt1, zn3, not_false_eq_true, toListS, toListN, zk_some, zpi, t1, cu]
    rfl
  by_cases e : m < n
  · have hQ' := of_decide_eq_true (ht (by omega))
    have st := W11 X d M G h m
    refine ⟨bst nv np B (m + 1), E0.trans (lp.trans ?_)⟩
    rw [hr, decide_eq_true e, if_pos rfl]
    simp only [e46_19, e46_21, e46_22, nlt (show n < 2 ^ 31 by omega) (show m + 1 < 2 ^ 31 by omega)]
    rw [if_neg (by omega)]
    simp only [e46_25, e46_26, e46_29, e46_32, e46_33, e46_36, e46_39, zt0, zt1, zn3, not_false_eq_true, toListS, toListN, zk_some, zpi, if_true, if_false, i10, st, cb_S, los h m]
    rw [if_neg hQ']
    simp only [e46_42, e46_43, zt1]
  · refine ⟨bst nv np B m, E0.trans (lp.trans ?_)⟩
    rw [hr, decide_eq_false e, if_neg (by decide)]
    simp only [e46_19, e46_21, e46_22, nlt (show n < 2 ^ 31 by omega) (show m + 1 < 2 ^ 31 by omega)]
    by_cases q : n < m + 1
    · rw [if_pos q]
      simp only [e46_50, e46_51, zt0]
    · exact absurd q (by omega)
theorem C204 (X : Nat × (Nat → Int32) × Value) (d : Nat) {N M : zM} (G : zG) {nv np : Nat} (vm : vb (bm M) nv np) (f5 : M (7, 0, 0) 5 = 0) (hs : sm M N) (o : Int32) (n : Nat) (hn : n < 2 ^ 30) : ∃ N', sm M N' ∧ zd X (d + 8) 204 [vR (7, 0, 0), vI o, vI (nI n)] (hh N G) = some (some (vI (if spB nv np (seto (bm M) o) n = true then 1 else 0)), hh N' G) := by
  obtain ⟨eb, e5⟩ := smv hs f5
  have n8 := vm.1.2.2.2.1
  have t5 := T150 X (d + 6) G (M := N)
  rw [eb] at t5
  have cu : u2 (mb (cpK N (20, 0, 0) (21, 0, 0) 93) (bm M) (N (7, 0, 0))) (7, 0, 0) 5 o = mb (cpK N (20, 0, 0) (21, 0, 0) 93) (bm M) (uS (N (7, 0, 0)) 5 o) := mm_uR
  have lp := zlf (n := np) (f := fun p => zx X (d + 8) 204 14 [vR (7, 0, 0), vI o, vI (nI n), vI 0, vI (nI p)] [] (hh (mb (cpK N (20, 0, 0) (21, 0, 0) 93) ((bm M).1, (bm M).2.1, zr (bm M).2.2 o p) (uS (N (7, 0, 0)) 5 o)) G)) (fun p hp w ew => by
    have p8 : p < 8 := by omega
    have c180 := C180 X (d + 6) (cpK N (20, 0, 0) (21, 0, 0) 93) G ((bm M).1, (bm M).2.1, zr (bm M).2.2 o p) (uS (N (7, 0, 0)) 5 o) p p8
    have mu : ∀ y, u2 (mb (cpK N (20, 0, 0) (21, 0, 0) 93) ((bm M).1, (bm M).2.1, zr (bm M).2.2 o p) (uS (N (7, 0, 0)) 5 o)) (20, 0, 0) (29 + 8 * p + 7) y = mb (cpK N (20, 0, 0) (21, 0, 0) 93) ((bm M).1, (bm M).2.1, uV (zr (bm M).2.2 o p) p 7 y) (uS (N (7, 0, 0)) 5 o) := fun y => mm_uP p8 (by decide)
    simp only [e204_14, e204_16, e204_17, e204_20, e204_21, e204_22, w1, t1, mb_1, vm.1.2.1, nle (show np < 2 ^ 31 by omega) (show p < 2 ^ 31 by omega)]
    rw [if_neg (by omega)]
    simp only [e204_25, e204_26, e204_29, e204_31, e204_34, e204_36, e204_37, e204_38, e204_40, e204_41, e204_42, e204_43, e204_44, zt0, zt1, zn3, not_false_eq_true, toListS, toListN, zk_some, zpi, C135, niP, ni7]
    by_cases q : o >>> (nI p &&& 31) &&& 1 = 1
    · rw [if_pos q]
      simp only [e204_47, e204_48, e204_57, e204_58, e204_61, wP p8 (show 7 < 8 by decide), cP p8 (show 7 < 8 by decide), mu, zr_s1 q, nI_1]
      exact ew
    · rw [if_neg q]
      simp only [e204_51, e204_52, e204_54, e204_57, e204_58, e204_61, zt0, zt1, zn3, not_false_eq_true, toListS, toListN, zk_some, zpi, c180, wP p8 (show 7 < 8 by decide), cP p8 (show 7 < 8 by decide), mu, zr_s0 q, nI_1]
      exact ew) np 0 (by omega)
  rw [nI_0, zr_0] at lp
  have v1 := vb_z vm o np
  have ec : mb (cpK N (20, 0, 0) (21, 0, 0) 93) ((bm M).1, (bm M).2.1, zr (bm M).2.2 o np) (uS (N (7, 0, 0)) 5 o) = mb (cpK N (20, 0, 0) (21, 0, 0) 93) (uS (bm M).1 6 o, (bm M).2.1, zr (bm M).2.2 o np) (uS (N (7, 0, 0)) 5 o) := mm_c6
  have es : spB nv np (seto (bm M) o) n = spB nv np (uS (bm M).1 6 o, (bm M).2.1, zr (bm M).2.2 o np) n := spB_c (vb_o vm o) (ag_z rfl ⟨fun _ _ => rfl, fun _ _ _ _ => rfl, fun _ _ _ _ _ => rfl⟩ o) n
  have hR : uS (N (7, 0, 0)) 5 o 5 = (uS (bm M).1 6 o, (bm M).2.1, zr (bm M).2.2 o np).1 6 := rfl
  rw [es]
  generalize hBB : (uS (bm M).1 6 o, (bm M).2.1, zr (bm M).2.2 o np) = B at v1 ec hR ⊢
  have l2 := zsf (n := n) (f := fun k => zx X (d + 8) 204 67 [vR (7, 0, 0), vI o, vI (nI n), vI 0, vI (nI k)] [] (hh (mb (cpK N (20, 0, 0) (21, 0, 0) 93) (bst nv np B k) (rS nv np B (uS (N (7, 0, 0)) 5 o) k)) G)) (Q := Qsp nv np B) (fun k hk hQ w ew => by
    have hQ' := Classical.not_not.mp (of_decide_eq_false hQ)
    have st := W148 X (d + 0) (cpK N (20, 0, 0) (21, 0, 0) 93) G v1 hR k
    have e6 : rS nv np B (uS (N (7, 0, 0)) 5 o) (k + 1) 6 = 0 := Eq.trans uS_s hQ'
    simp only [e204_67, e204_69, e204_70, nle (show n < 2 ^ 31 by omega) (show k < 2 ^ 31 by omega)]
    rw [if_neg (by omega)]
    simp only [e204_73, e204_74, e204_77, e204_78, e204_81, e204_82, e204_85, zt0, zt1, zn3, not_false_eq_true, toListS, toListN, zk_some, zpi, if_true, if_false, i10, st, mb_R, e6, e204_92, e204_93, e204_94, e204_97, nI_1]
    exact ew) n 0 (by omega)
  rw [nI_0] at l2
  have ht := fi_t (Q := Qsp nv np B) n 0
  have hb := (fi_b (Q := Qsp nv np B) n 0).2
  have hr : spB nv np B n = decide (fi (Qsp nv np B) 0 n < n) := rfl
  generalize fi (Qsp nv np B) 0 n = m at l2 ht hr hb
  have E0 : zd X (d + 8) 204 [vR (7, 0, 0), vI o, vI (nI n)] (hh N G) = zx X (d + 8) 204 67 [vR (7, 0, 0), vI o, vI (nI n), vI 0, vI 0] [] (hh (mb (cpK N (20, 0, 0) (21, 0, 0) 93) (bst nv np B 0) (rS nv np B (uS (N (7, 0, 0)) 5 o) 0)) G) := by
    simp only [E204, e204_0, e204_1, e204_2, e204_3, e204_6, e204_7, e204_8, e204_11, e204_12, zt0, zt1, zn3, not_false_eq_true, toListS, toListN, zk_some, zpi, t5, cu]
    refine Eq.trans lp ?_
    simp only [e204_14, e204_16, e204_17, e204_20, e204_21, e204_22, w1, t1, mb_1, vm.1.2.1, nle (show np < 2 ^ 31 by omega) (show np < 2 ^ 31 by omega)]
    rw [if_pos (Nat.le_refl _), ec]
    simp only [e204_64, e204_65]
    rfl
  have inv : ∀ k, sm M (bk N (bst nv np B k) (rS nv np B (uS (N (7, 0, 0)) 5 o) k)) := fun k => sm_t hs (sm_bk ((rS_o (by decide)).trans (uS_n (by decide))) e5 ((rS_o (by decide)).trans (uS_n (by decide))))
  by_cases e : m < n
  · have hQ' := of_decide_eq_true (ht (by omega))
    have st := W148 X (d + 0) (cpK N (20, 0, 0) (21, 0, 0) 93) G v1 hR m
    have e6 : ¬ rS nv np B (uS (N (7, 0, 0)) 5 o) (m + 1) 6 = 0 := fun q => hQ' (Eq.trans uS_s.symm q)
    have t151 := T151 X (d + 6) N G (bst nv np B (m + 1)) (rS nv np B (uS (N (7, 0, 0)) 5 o) (m + 1))
    refine ⟨_, inv (m + 1), E0.trans (l2.trans ?_)⟩
    rw [hr, decide_eq_true e, if_pos rfl]
    simp only [e204_67, e204_69, e204_70, nle (show n < 2 ^ 31 by omega) (show m < 2 ^ 31 by omega)]
    rw [if_neg (by omega)]
    simp only [e204_73, e204_74, e204_77, e204_78, e204_81, e204_82, e204_85, zt0, zt1, zn3, not_false_eq_true, toListS, toListN, zk_some, zpi, if_true, if_false, i10, st, mb_R]
    rw [if_neg e6]
    simp only [e204_88, e204_89, e204_93, e204_94, e204_97, nI_1]
    simp only [e204_67, e204_69, e204_70, nle (show n < 2 ^ 31 by omega) (show m + 1 < 2 ^ 31 by omega)]
    by_cases q : n ≤ m + 1
    · rw [if_pos q]
      simp only [e204_100, e204_101, e204_104, e204_105, zt0, zt1, zn3, not_false_eq_true, toListS, toListN, zk_some, zpi, t151]
    · rw [if_neg q]
      simp only [e204_73, e204_74, e204_100, e204_101, e204_104, e204_105, zt0, zt1, zn3, not_false_eq_true, toListS, toListN, zk_some, zpi, if_true, if_false, i10, t151]
  · have t151 := T151 X (d + 6) N G (bst nv np B m) (rS nv np B (uS (N (7, 0, 0)) 5 o) m)
    refine ⟨_, inv m, E0.trans (l2.trans ?_)⟩
    rw [hr, decide_eq_false e, if_neg (by decide)]
    simp only [e204_67, e204_69, e204_70, nle (show n < 2 ^ 31 by omega) (show m < 2 ^ 31 by omega)]
    rw [if_pos (by omega)]
    simp only [e204_100, e204_101, e204_104, e204_105, zt0, zt1, zn3, not_false_eq_true, toListS, toListN, zk_some, zpi, t151]
/-- the cases where something runs over, out of those below c -/
def cas (nv np : Nat) (B : zB) (t n : Nat) : Nat → Nat
  | 0 => 0
  | c + 1 => if spB nv np (seto B (nI c)) n = true then cas nv np B t n c + (t - 1) ^ (np - pop c np) else cas nv np B t n c
theorem cas_le {nv np : Nat} {B : zB} {t n K : Nat} (hK : ∀ c, (t - 1) ^ (np - pop c np) ≤ K) : ∀ c, cas nv np B t n c ≤ c * K := by
  intro c
  induction c with
  | zero =>
    rw [show cas nv np B t n 0 = 0 from rfl]
    exact Nat.zero_le _
  | succ c ih =>
    have q := hK c
    unfold cas
    rw [Nat.succ_mul]
    split <;> omega
theorem C45 (X : Nat × (Nat → Int32) × Value) (d : Nat) {M : zM} (G : zG) {nv np : Nat} (s : ST M nv np) (t n : Nat) (hn : n < 2 ^ 30) (ht1 : 1 ≤ t) (ht : t ≤ 20) : ∃ B', zd X (d + 5) 45 [vR (2, 0, 0), vR (0, 0, 0), vI (nI t), vI (nI n)] (hh M G) = some (some (vL (lI (cas nv np (bm M) t n (2 ^ np)))), hh (cb M 3 B') G) := by
  have n8 := s.2.1
  have e3 := s.2.2.2.1
  have g3 : ∀ Z, cb M 3 Z (0, 0, 0) 3 = nI np := fun Z => e3
  have h2 : 2 ^ np ≤ 2 ^ 8 := Nat.pow_le_pow_right (by decide) n8
  have tm : nI t - 1 = nI (t - 1) := nI_sub (b := 1) ht1
  obtain ⟨Z, -, lp⟩ := zlr (σ := zB) (n := 2 ^ np) (f := fun c z => zx X (d + 5) 45 6 [vR (2, 0, 0), vR (0, 0, 0), vI (nI t), vI (nI n), vL (lI (cas nv np (bm M) t n c)), vN, vI (nI c)] [] (hh (cb M 3 z) G)) (P := fun _ _ => True) (fun c z hc _ => by
    obtain ⟨B', c46⟩ := C46 X d G s z (nI c) n hn
    have pl := pop_le c np
    have c125 := fun h => C125 X (d + 4) h (t - 1) (np - pop c np) (by omega)
    refine ⟨B', trivial, fun x ex => ?_⟩
    simp only [e45_6, e45_8, e45_9, e45_10, e45_13, e45_14, g3, sh2 n8, nle (show 2 ^ np < 2 ^ 31 by omega) (show c < 2 ^ 31 by omega)]
    rw [if_neg (by omega)]
    cases q : spB nv np (seto (bm M) (nI c)) n with
    | true =>
      rw [q] at c46
      simp only [e45_17, e45_18, e45_19, e45_21, e45_22, e45_25, e45_28, e45_30, e45_31, e45_32, e45_33, e45_34, e45_35, e45_38, e45_40, e45_43, e45_44, e45_47, e45_48, e45_50, e45_53, zt0, zt1, zn3, not_false_eq_true, toListS, toListN, zk_some, zpi, if_true, if_false, i10, c46, g3, tm, n_L (show t - 1 < 2 ^ 31 by omega), C235, bcx_p n8 hc, nI_sub pl, c125, lI_add, nI_1]
      simp only [cas, if_pos q] at ex
      exact ex
    | false =>
      rw [q] at c46
      simp only [e45_17, e45_18, e45_19, e45_21, e45_22, e45_25, e45_50, e45_53, zt0, zt1, zn3, not_false_eq_true, toListS, toListN, zk_some, zpi, if_true, if_false, i10, c46, Bool.false_eq_true, nI_1]
      simp only [cas, q, Bool.false_eq_true, if_false] at ex
      exact ex) (2 ^ np) 0 (gb M 3) (by omega) trivial
  rw [nI_0, show cas nv np (bm M) t n 0 = 0 from rfl, ← lI_0, show cb M 3 (gb M 3) = M from cb_self M 3] at lp
  refine ⟨Z, ?_⟩
  simp only [E45, e45_0, e45_1, e45_3, e45_4]
  refine Eq.trans lp ?_
  simp only [e45_6, e45_8, e45_9, e45_10, e45_13, e45_14, g3, sh2 n8, nle (show 2 ^ np < 2 ^ 31 by omega) (show 2 ^ np < 2 ^ 31 by omega)]
  rw [if_pos (Nat.le_refl _)]
  simp only [e45_56, e45_58]
def odd (t c : Nat) : Nat → Nat
  | 0 => 1
  | p + 1 => if bp c p = true then odd t c p else odd t c p * (t - 1)
theorem odd_e (t c : Nat) : ∀ n, odd t c n = (t - 1) ^ (n - pop c n) := by
  intro n
  induction n with
  | zero => rfl
  | succ n ih =>
    have pl := pop_le c n
    unfold odd pop
    by_cases q : bp c n = true
    · rw [if_pos q, if_pos q, ih, show n + 1 - (pop c n + 1) = n - pop c n by omega]
    · rw [if_neg q, if_neg q, ih, show n + 1 - pop c n = (n - pop c n) + 1 by omega, Nat.pow_succ]
theorem C205 (X : Nat × (Nat → Int32) × Value) {M M1 : zM} (G : zG) {nv np : Nat} (vm : vb (bm M) nv np) (m1 : M (20, 0, 0) 1 = nI np) (f5 : M (7, 0, 0) 5 = 0) (hs0 : sm M M1) (t n : Nat) (w : Int32) (hn : n < 2 ^ 30) (ht1 : 1 ≤ t) (ht : t ≤ 20) : ∃ (N : zM) (l8 : Int32) (l9 l11 : zV), sm M N ∧ zx X 12 205 53 [vR (7, 0, 0), vI (nI t), vI (nI n), vI w, vN, vN, vN, vN, vN, vN, vN, vN] [] (hh M1 G) = zx X 12 205 176 [vR (7, 0, 0), vI (nI t), vI (nI n), vI w, vL (lI (cas nv np (bm M) t n (2 ^ np))), vN, vL (lI (t ^ np)), vN, vI l8, l9, vN, l11] [] (hh N G) := by
  have n8 := vm.1.2.2.2.1
  have h2 : 2 ^ np ≤ 2 ^ 8 := Nat.pow_le_pow_right (by decide) n8
  have tm : nI t - 1 = nI (t - 1) := nI_sub (b := 1) ht1
  have m1v : ∀ {N : zM}, sm M N → N (20, 0, 0) 1 = nI np := fun hs => (hs (20, 0, 0) 1 rfl).trans m1
  have lb := zlf (n := np) (f := fun p => zx X 12 205 62 [vR (7, 0, 0), vI (nI t), vI (nI n), vI w, vL 0, vN, vL (lI (t ^ p)), vN, vI (nI p), vN, vN, vN] [] (hh M1 G)) (fun p hp x ex => by
    simp only [e205_62, e205_64, e205_65, e205_68, e205_69, e205_70, w1, t1, m1v hs0, nle (show np < 2 ^ 31 by omega) (show p < 2 ^ 31 by omega)]
    rw [if_neg (by omega)]
    simp only [e205_73, e205_75, e205_76, e205_77, e205_78, e205_80, e205_83, n_L (show t < 2 ^ 31 by omega), lI_mul, nI_1]
    rw [← Nat.pow_succ]
    exact ex) np 0 (by omega)
  rw [nI_0, Nat.pow_zero, ← lI_1] at lb
  have inner : ∀ (c : Nat) (N : zM) (ca : Int64) (l9 l11 : zV), c < 2 ^ np → sm M N → zx X 12 205 102 [vR (7, 0, 0), vI (nI t), vI (nI n), vI w, vL ca, vN, vL (lI (t ^ np)), vN, vI (nI c), l9, vN, l11] [] (hh N G) = zx X 12 205 149 [vR (7, 0, 0), vI (nI t), vI (nI n), vI w, vL ca, vN, vL (lI (t ^ np)), vN, vI (nI c), vL (lI ((t - 1) ^ (np - pop c np))), vN, vI (nI np)] [] (hh N G) := by
    intro c N ca l9 l11 hc hs
    have li := zlf (n := np) (f := fun p => zx X 12 205 108 [vR (7, 0, 0), vI (nI t), vI (nI n), vI w, vL ca, vN, vL (lI (t ^ np)), vN, vI (nI c), vL (lI (odd t c p)), vN, vI (nI p)] [] (hh N G)) (fun p hp x ex => by
      simp only [e205_108, e205_110, e205_111, e205_114, e205_115, e205_116, w1, t1, m1v hs, nle (show np < 2 ^ 31 by omega) (show p < 2 ^ 31 by omega)]
      rw [if_neg (by omega)]
      simp only [e205_119, e205_121, e205_123, e205_125, e205_126, e205_127, e205_128, e205_129]
      by_cases q : nI c >>> (nI p &&& 31) &&& 1 = 1
      · have qb : bp c p = true := decide_eq_true q
        rw [if_pos q]
        simp only [e205_132, e205_133, e205_140, e205_141, e205_143, e205_146, lI_1, lI_mul, Nat.mul_one, nI_1]
        simp only [odd, if_pos qb] at ex
        exact ex
      · have qb : ¬ bp c p = true := fun e => q (of_decide_eq_true e)
        rw [if_neg q]
        simp only [e205_136, e205_137, e205_138, e205_139, e205_140, e205_141, e205_143, e205_146, tm, n_L (show t - 1 < 2 ^ 31 by omega), lI_mul, nI_1]
        simp only [odd, if_neg qb] at ex
        exact ex) np 0 (by omega)
    rw [nI_0, show odd t c 0 = 1 from rfl, ← lI_1, odd_e] at li
    simp only [e205_102, e205_103, e205_105, e205_106]
    refine Eq.trans li ?_
    simp only [e205_108, e205_110, e205_111, e205_114, e205_115, e205_116, w1, t1, m1v hs, nle (show np < 2 ^ 31 by omega) (show np < 2 ^ 31 by omega)]
    rw [if_pos (Nat.le_refl _)]
  obtain ⟨⟨N, l9, l11⟩, hs, lp⟩ := zlr (σ := zM × zV × zV) (n := 2 ^ np) (f := fun c z => zx X 12 205 89 [vR (7, 0, 0), vI (nI t), vI (nI n), vI w, vL (lI (cas nv np (bm M) t n c)), vN, vL (lI (t ^ np)), vN, vI (nI c), z.2.1, vN, z.2.2] [] (hh z.1 G)) (P := fun _ z => sm M z.1) (fun c z hc hs => by
    obtain ⟨N', hs', c204⟩ := C204 X 3 (N := z.1) (M := M) G vm f5 hs (nI c) n hn
    have ii := inner c z.1 (lI (cas nv np (bm M) t n c)) z.2.1 z.2.2 hc hs
    refine ⟨(N', vL (lI ((t - 1) ^ (np - pop c np))), vI (nI np)), hs', fun x ex => ?_⟩
    simp only [e205_89, e205_91, e205_92, e205_93, e205_96, e205_97, e205_98, e205_99, w1, t1, m1v hs, sh2 n8, nle (show 2 ^ np < 2 ^ 31 by omega) (show c < 2 ^ 31 by omega)]
    rw [if_neg (by omega), ii]
    cases q : spB nv np (seto (bm M) (nI c)) n with
    | true =>
      rw [q] at c204
      simp only [e205_149, e205_151, e205_152, e205_154, e205_155, e205_158, e205_161, e205_163, e205_167, e205_168, e205_170, e205_173, zt0, zt1, zn3, not_false_eq_true, toListS, toListN, zk_some, zpi, if_true, if_false, i10, c204, lI_add, nI_1]
      simp only [cas, if_pos q] at ex
      exact ex
    | false =>
      rw [q] at c204
      simp only [e205_149, e205_151, e205_152, e205_154, e205_155, e205_158, e205_166, e205_167, e205_168, e205_170, e205_173, zt0, zt1, zn3, not_false_eq_true, toListS, toListN, zk_some, zpi, if_true, if_false, i10, c204, Bool.false_eq_true, lI_0, lI_add, Nat.add_zero, nI_1]
      simp only [cas, q, Bool.false_eq_true, if_false] at ex
      exact ex) (2 ^ np) 0 (M1, vN, vN) (by omega) hs0
  have hs : sm M N := hs
  rw [nI_0, show cas nv np (bm M) t n 0 = 0 from rfl, ← lI_0] at lp
  refine ⟨N, nI (2 ^ np), l9, l11, hs, ?_⟩
  simp only [e205_53, e205_54, e205_56, e205_57, e205_59, e205_60]
  refine Eq.trans lb ?_
  simp only [e205_62, e205_64, e205_65, e205_68, e205_69, e205_70, w1, t1, m1v hs0, nle (show np < 2 ^ 31 by omega) (show np < 2 ^ 31 by omega)]
  rw [if_pos (Nat.le_refl _)]
  simp only [e205_86, e205_87]
  refine Eq.trans lp ?_
  simp only [e205_89, e205_91, e205_92, e205_93, e205_96, e205_97, e205_98, e205_99, w1, t1, m1v hs, sh2 n8, nle (show 2 ^ np < 2 ^ 31 by omega) (show 2 ^ np < 2 ^ 31 by omega)]
  rw [if_pos (Nat.le_refl _)]
theorem K26 (X : Nat × (Nat → Int32) × Value) (t : Nat) (M : zM) (G : zG) (x n w : Int32) (i : Inv t M) : okL X 99 205 [vI x, vI n, vI w] t M G := by
  obtain ⟨nv, np, s⟩ := ST_of i
  have s' := s
  obtain ⟨n5, n8, e2, e3, m0, m1, v, o6, f5, a, vc, ac, vm⟩ := s'
  by_cases h1 : x < 2
  · refine ⟨4000000000000000000 - Int32.toInt64 (-4), rfs M 4, G, rfm (rfs M 4) 4, G, ?_, ?_, Inv_rf i⟩
    · simp only [E99, e99_0, e99_1, e99_2, e99_5, e99_6, e99_7, e99_10, e99_11, e99_13, e99_16, e99_17, e99_18, e99_20, e99_23, e99_24, e99_26, e99_29, e99_30, e99_32, e99_35, e99_36, e99_37, e99_40, e99_41, e99_42, e99_45, e99_46, e99_48, e99_51, e99_52, e99_53, e99_56, e99_57, e99_60, e99_61, e99_62, e99_65, e99_66, e99_67, e99_68, e99_71, e99_74, e99_77, e99_78, e99_81, zt0, zt1, zn3, not_false_eq_true, toListS, toListN, zk_some, zpi, if_true, if_false, i10, h1, C115_4]
    · simp only [E205, e205_0, e205_1, e205_2, e205_5, e205_6, e205_7, e205_10, e205_11, e205_13, e205_16, e205_17, e205_18, e205_20, e205_23, e205_24, e205_26, e205_29, e205_30, e205_32, e205_35, e205_36, e205_37, e205_38, e205_39, e205_40, e205_43, e205_46, e205_47, e205_49, e205_52, e205_53, e205_54, e205_56, e205_57, e205_59, e205_60, e205_62, e205_64, e205_65, e205_68, e205_69, e205_70, e205_73, e205_75, e205_76, e205_77, e205_78, e205_80, e205_83, e205_86, e205_87, e205_89, e205_91, e205_92, e205_93, e205_96, e205_97, e205_98, e205_99, e205_102, e205_103, e205_105, e205_106, e205_108, e205_110, e205_111, e205_114, e205_115, e205_116, e205_119, e205_121, e205_123, e205_125, e205_126, e205_127, e205_128, e205_129, e205_132, e205_133, e205_136, e205_137, e205_138, e205_139, e205_140, e205_141, e205_143, e205_146, e205_149, e205_151, e205_152, e205_154, e205_155, e205_158, e205_161, e205_163, e205_166, e205_167, e205_168, e205_170, e205_173, e205_176, e205_178, e205_180, e205_181, e205_184, zt0, zt1, zn3, not_false_eq_true, toListS, toListN, zk_some, zpi, if_true, if_false, i10, h1, C130_4]
  by_cases h2 : 1 ≤ n
  rotate_left
  · refine ⟨4000000000000000000 - Int32.toInt64 (-4), rfs M 4, G, rfm (rfs M 4) 4, G, ?_, ?_, Inv_rf i⟩
    · simp only [E99, e99_0, e99_1, e99_2, e99_5, e99_6, e99_7, e99_10, e99_11, e99_13, e99_16, e99_17, e99_18, e99_20, e99_23, e99_24, e99_26, e99_29, e99_30, e99_32, e99_35, e99_36, e99_37, e99_40, e99_41, e99_42, e99_45, e99_46, e99_48, e99_51, e99_52, e99_53, e99_56, e99_57, e99_60, e99_61, e99_62, e99_65, e99_66, e99_67, e99_68, e99_71, e99_74, e99_77, e99_78, e99_81, zt0, zt1, zn3, not_false_eq_true, toListS, toListN, zk_some, zpi, if_true, if_false, i10, h1, h2, C115_4]
    · simp only [E205, e205_0, e205_1, e205_2, e205_5, e205_6, e205_7, e205_10, e205_11, e205_13, e205_16, e205_17, e205_18, e205_20, e205_23, e205_24, e205_26, e205_29, e205_30, e205_32, e205_35, e205_36, e205_37, e205_38, e205_39, e205_40, e205_43, e205_46, e205_47, e205_49, e205_52, e205_53, e205_54, e205_56, e205_57, e205_59, e205_60, e205_62, e205_64, e205_65, e205_68, e205_69, e205_70, e205_73, e205_75, e205_76, e205_77, e205_78, e205_80, e205_83, e205_86, e205_87, e205_89, e205_91, e205_92, e205_93, e205_96, e205_97, e205_98, e205_99, e205_102, e205_103, e205_105, e205_106, e205_108, e205_110, e205_111, e205_114, e205_115, e205_116, e205_119, e205_121, e205_123, e205_125, e205_126, e205_127, e205_128, e205_129, e205_132, e205_133, e205_136, e205_137, e205_138, e205_139, e205_140, e205_141, e205_143, e205_146, e205_149, e205_151, e205_152, e205_154, e205_155, e205_158, e205_161, e205_163, e205_166, e205_167, e205_168, e205_170, e205_173, e205_176, e205_178, e205_180, e205_181, e205_184, zt0, zt1, zn3, not_false_eq_true, toListS, toListN, zk_some, zpi, if_true, if_false, i10, h1, h2, C130_4]
  by_cases h3 : 20 < x
  · refine ⟨4000000000000000000 - Int32.toInt64 (-6), rfs M 6, G, rfm (rfs M 6) 6, G, ?_, ?_, Inv_rf i⟩
    · simp only [E99, e99_0, e99_1, e99_2, e99_5, e99_6, e99_7, e99_10, e99_11, e99_13, e99_16, e99_17, e99_18, e99_20, e99_23, e99_24, e99_26, e99_29, e99_30, e99_32, e99_35, e99_36, e99_37, e99_40, e99_41, e99_42, e99_45, e99_46, e99_48, e99_51, e99_52, e99_53, e99_56, e99_57, e99_60, e99_61, e99_62, e99_65, e99_66, e99_67, e99_68, e99_71, e99_74, e99_77, e99_78, e99_81, zt0, zt1, zn3, not_false_eq_true, toListS, toListN, zk_some, zpi, if_true, if_false, i10, h1, h2, h3, C115_6]
    · simp only [E205, e205_0, e205_1, e205_2, e205_5, e205_6, e205_7, e205_10, e205_11, e205_13, e205_16, e205_17, e205_18, e205_20, e205_23, e205_24, e205_26, e205_29, e205_30, e205_32, e205_35, e205_36, e205_37, e205_38, e205_39, e205_40, e205_43, e205_46, e205_47, e205_49, e205_52, e205_53, e205_54, e205_56, e205_57, e205_59, e205_60, e205_62, e205_64, e205_65, e205_68, e205_69, e205_70, e205_73, e205_75, e205_76, e205_77, e205_78, e205_80, e205_83, e205_86, e205_87, e205_89, e205_91, e205_92, e205_93, e205_96, e205_97, e205_98, e205_99, e205_102, e205_103, e205_105, e205_106, e205_108, e205_110, e205_111, e205_114, e205_115, e205_116, e205_119, e205_121, e205_123, e205_125, e205_126, e205_127, e205_128, e205_129, e205_132, e205_133, e205_136, e205_137, e205_138, e205_139, e205_140, e205_141, e205_143, e205_146, e205_149, e205_151, e205_152, e205_154, e205_155, e205_158, e205_161, e205_163, e205_166, e205_167, e205_168, e205_170, e205_173, e205_176, e205_178, e205_180, e205_181, e205_184, zt0, zt1, zn3, not_false_eq_true, toListS, toListN, zk_some, zpi, if_true, if_false, i10, h1, h2, h3, C130_6]
  by_cases h4 : n ≤ 30
  rotate_left
  · refine ⟨4000000000000000000 - Int32.toInt64 (-6), rfs M 6, G, rfm (rfs M 6) 6, G, ?_, ?_, Inv_rf i⟩
    · simp only [E99, e99_0, e99_1, e99_2, e99_5, e99_6, e99_7, e99_10, e99_11, e99_13, e99_16, e99_17, e99_18, e99_20, e99_23, e99_24, e99_26, e99_29, e99_30, e99_32, e99_35, e99_36, e99_37, e99_40, e99_41, e99_42, e99_45, e99_46, e99_48, e99_51, e99_52, e99_53, e99_56, e99_57, e99_60, e99_61, e99_62, e99_65, e99_66, e99_67, e99_68, e99_71, e99_74, e99_77, e99_78, e99_81, zt0, zt1, zn3, not_false_eq_true, toListS, toListN, zk_some, zpi, if_true, if_false, i10, h1, h2, h3, h4, C115_6]
    · simp only [E205, e205_0, e205_1, e205_2, e205_5, e205_6, e205_7, e205_10, e205_11, e205_13, e205_16, e205_17, e205_18, e205_20, e205_23, e205_24, e205_26, e205_29, e205_30, e205_32, e205_35, e205_36, e205_37, e205_38, e205_39, e205_40, e205_43, e205_46, e205_47, e205_49, e205_52, e205_53, e205_54, e205_56, e205_57, e205_59, e205_60, e205_62, e205_64, e205_65, e205_68, e205_69, e205_70, e205_73, e205_75, e205_76, e205_77, e205_78, e205_80, e205_83, e205_86, e205_87, e205_89, e205_91, e205_92, e205_93, e205_96, e205_97, e205_98, e205_99, e205_102, e205_103, e205_105, e205_106, e205_108, e205_110, e205_111, e205_114, e205_115, e205_116, e205_119, e205_121, e205_123, e205_125, e205_126, e205_127, e205_128, e205_129, e205_132, e205_133, e205_136, e205_137, e205_138, e205_139, e205_140, e205_141, e205_143, e205_146, e205_149, e205_151, e205_152, e205_154, e205_155, e205_158, e205_161, e205_163, e205_166, e205_167, e205_168, e205_170, e205_173, e205_176, e205_178, e205_180, e205_181, e205_184, zt0, zt1, zn3, not_false_eq_true, toListS, toListN, zk_some, zpi, if_true, if_false, i10, h1, h2, h3, h4, C130_6]
  rcases inz_c w 1 (by decide) with ⟨g, gn⟩ | ⟨g, l, hl, rfl⟩
  · have g' : inz w 0 1 = 0 := g
    rcases rng_n (lit := 1) rfl gn with c1 | ⟨c1, c2⟩
    · refine ⟨4000000000000000000 - Int32.toInt64 (-2), rfs M 2, G, rfm (rfs M 2) 2, G, ?_, ?_, Inv_rf i⟩
      · simp only [E99, e99_0, e99_1, e99_2, e99_5, e99_6, e99_7, e99_10, e99_11, e99_13, e99_16, e99_17, e99_18, e99_20, e99_23, e99_24, e99_26, e99_29, e99_30, e99_32, e99_35, e99_36, e99_37, e99_40, e99_41, e99_42, e99_45, e99_46, e99_48, e99_51, e99_52, e99_53, e99_56, e99_57, e99_60, e99_61, e99_62, e99_65, e99_66, e99_67, e99_68, e99_71, e99_74, e99_77, e99_78, e99_81, zt0, zt1, zn3, not_false_eq_true, toListS, toListN, zk_some, zpi, if_true, if_false, i10, h1, h2, h3, h4, c1, C115_2]
      · simp only [E205, e205_0, e205_1, e205_2, e205_5, e205_6, e205_7, e205_10, e205_11, e205_13, e205_16, e205_17, e205_18, e205_20, e205_23, e205_24, e205_26, e205_29, e205_30, e205_32, e205_35, e205_36, e205_37, e205_38, e205_39, e205_40, e205_43, e205_46, e205_47, e205_49, e205_52, e205_53, e205_54, e205_56, e205_57, e205_59, e205_60, e205_62, e205_64, e205_65, e205_68, e205_69, e205_70, e205_73, e205_75, e205_76, e205_77, e205_78, e205_80, e205_83, e205_86, e205_87, e205_89, e205_91, e205_92, e205_93, e205_96, e205_97, e205_98, e205_99, e205_102, e205_103, e205_105, e205_106, e205_108, e205_110, e205_111, e205_114, e205_115, e205_116, e205_119, e205_121, e205_123, e205_125, e205_126, e205_127, e205_128, e205_129, e205_132, e205_133, e205_136, e205_137, e205_138, e205_139, e205_140, e205_141, e205_143, e205_146, e205_149, e205_151, e205_152, e205_154, e205_155, e205_158, e205_161, e205_163, e205_166, e205_167, e205_168, e205_170, e205_173, e205_176, e205_178, e205_180, e205_181, e205_184, zt0, zt1, zn3, not_false_eq_true, toListS, toListN, zk_some, zpi, if_true, if_false, i10, h1, h2, h3, h4, C128, j_0, j_1, g', C130_2]
    · refine ⟨4000000000000000000 - Int32.toInt64 (-2), rfs M 2, G, rfm (rfs M 2) 2, G, ?_, ?_, Inv_rf i⟩
      · simp only [E99, e99_0, e99_1, e99_2, e99_5, e99_6, e99_7, e99_10, e99_11, e99_13, e99_16, e99_17, e99_18, e99_20, e99_23, e99_24, e99_26, e99_29, e99_30, e99_32, e99_35, e99_36, e99_37, e99_40, e99_41, e99_42, e99_45, e99_46, e99_48, e99_51, e99_52, e99_53, e99_56, e99_57, e99_60, e99_61, e99_62, e99_65, e99_66, e99_67, e99_68, e99_71, e99_74, e99_77, e99_78, e99_81, zt0, zt1, zn3, not_false_eq_true, toListS, toListN, zk_some, zpi, if_true, if_false, i10, h1, h2, h3, h4, c1, c2, C115_2]
      · simp only [E205, e205_0, e205_1, e205_2, e205_5, e205_6, e205_7, e205_10, e205_11, e205_13, e205_16, e205_17, e205_18, e205_20, e205_23, e205_24, e205_26, e205_29, e205_30, e205_32, e205_35, e205_36, e205_37, e205_38, e205_39, e205_40, e205_43, e205_46, e205_47, e205_49, e205_52, e205_53, e205_54, e205_56, e205_57, e205_59, e205_60, e205_62, e205_64, e205_65, e205_68, e205_69, e205_70, e205_73, e205_75, e205_76, e205_77, e205_78, e205_80, e205_83, e205_86, e205_87, e205_89, e205_91, e205_92, e205_93, e205_96, e205_97, e205_98, e205_99, e205_102, e205_103, e205_105, e205_106, e205_108, e205_110, e205_111, e205_114, e205_115, e205_116, e205_119, e205_121, e205_123, e205_125, e205_126, e205_127, e205_128, e205_129, e205_132, e205_133, e205_136, e205_137, e205_138, e205_139, e205_140, e205_141, e205_143, e205_146, e205_149, e205_151, e205_152, e205_154, e205_155, e205_158, e205_161, e205_163, e205_166, e205_167, e205_168, e205_170, e205_173, e205_176, e205_178, e205_180, e205_181, e205_184, zt0, zt1, zn3, not_false_eq_true, toListS, toListN, zk_some, zpi, if_true, if_false, i10, h1, h2, h3, h4, C128, j_0, j_1, g', C130_2]
  rw [i_lt, show (2 : Int32).toInt = 2 from rfl] at h1
  rw [i_le, show (1 : Int32).toInt = 1 from rfl] at h2
  rw [i_lt, show (20 : Int32).toInt = 20 from rfl] at h3
  rw [i_le, show (30 : Int32).toInt = 30 from rfl] at h4
  obtain ⟨tt, ht, ht1, ht2⟩ : ∃ tt, x = nI tt ∧ 2 ≤ tt ∧ tt ≤ 20 := ⟨x.toInt.toNat, nI_up (by omega), by omega, by omega⟩
  obtain ⟨k, hk, hk1, hk2⟩ : ∃ k, n = nI k ∧ 1 ≤ k ∧ k ≤ 30 := ⟨n.toInt.toNat, nI_up (by omega), by omega, by omega⟩
  subst ht
  subst hk
  have h1 : ¬ nI tt < 2 := by rw [show (2 : Int32) = nI 2 from rfl, nlt (by omega) (by decide)]; omega
  have h2 : 1 ≤ nI k := by rw [show (1 : Int32) = nI 1 from rfl, nle (by decide) (by omega)]; omega
  have h3 : ¬ 20 < nI tt := by rw [show (20 : Int32) = nI 20 from rfl, nlt (by decide) (by omega)]; omega
  have h4 : nI k ≤ 30 := by rw [show (30 : Int32) = nI 30 from rfl, nle (by omega) (by decide)]; omega
  obtain ⟨B', c45⟩ := C45 X 6 G s tt k (by omega) (by omega) ht2
  have s2 : sm M (cb M 3 B') := sm_cb (by decide)
  have e3' : cb M 3 B' (0, 0, 0) 3 = nI np := e3
  have c125 := fun h => C125 X 11 h tt np (by omega)
  have hp : tt ^ np ≤ 20 ^ 8 := Nat.le_trans (Nat.pow_le_pow_left ht2 _) (Nat.pow_le_pow_right (by decide) n8)
  have hp0 : 0 < tt ^ np := Nat.pow_pos (by omega)
  have h28 : 2 ^ np ≤ 2 ^ 8 := Nat.pow_le_pow_right (by decide) n8
  have hc : cas nv np (bm M) tt k (2 ^ np) ≤ 256 * 19 ^ 8 := Nat.le_trans (cas_le (fun c => Nat.le_trans (Nat.pow_le_pow_left (show tt - 1 ≤ 19 by omega) _) (Nat.pow_le_pow_right (by decide) (show np - pop c np ≤ 8 by omega))) _) (Nat.mul_le_mul_right _ h28)
  have c123 := fun h q => C123 X 10 h (cas nv np (bm M) tt k (2 ^ np)) (tt ^ np) q (by omega) (by omega) hp0
  have c177 := fun h q => C177 X 10 h (cas nv np (bm M) tt k (2 ^ np)) (tt ^ np) q (by omega) (by omega) hp0
  obtain ⟨N, l8, l9, l11, hs, c205⟩ := C205 X (M := M) (M1 := cb M 3 B') G vm m1 f5 s2 tt k (nI l) (by omega) (by omega) ht2
  have g' : inz (nI l) 0 1 = 1 := g
  have q1 : ¬ nI l < 0 := nI_pos (by omega)
  have q2 : nI l ≤ 1 := by rw [show (1 : Int32) = nI 1 from rfl, nle (by omega) (by decide)]; omega
  refine ⟨prt (cas nv np (bm M) tt k (2 ^ np)) (tt ^ np) (nI l), cb M 3 B', G, N, G, ?_, ?_, Inv_c hs (Nat.le_refl _) i⟩
  · simp only [E99, e99_0, e99_1, e99_2, e99_5, e99_6, e99_7, e99_10, e99_11, e99_13, e99_16, e99_17, e99_18, e99_20, e99_23, e99_24, e99_26, e99_29, e99_30, e99_32, e99_35, e99_36, e99_37, e99_40, e99_41, e99_42, e99_45, e99_46, e99_48, e99_51, e99_52, e99_53, e99_56, e99_57, e99_60, e99_61, e99_62, e99_65, e99_66, e99_67, e99_68, e99_71, e99_74, e99_77, e99_78, e99_81, zt0, zt1, zn3, not_false_eq_true, toListS, toListN, zk_some, zpi, if_true, if_false, i10, h1, h2, h3, h4, q1, q2, c45, e3', n_L (show tt < 2 ^ 31 by omega), c125, c123]
  · simp only [e205_0, e205_1, e205_2, e205_5, e205_6, e205_7, e205_10, e205_11, e205_13, e205_16, e205_17, e205_18, e205_20, e205_23, e205_24, e205_26, e205_29, e205_30, e205_32, e205_35, e205_36, e205_37, e205_38, e205_39, e205_40, e205_43, e205_46, e205_47, e205_49, e205_52, E205, zt0, zt1, zn3, not_false_eq_true, toListS, toListN, zk_some, zpi, if_true, if_false, i10, h1, h2, h3, h4, C128, j_0, j_1, g']
    refine Eq.trans c205 ?_
    simp only [e205_176, e205_178, e205_180, e205_181, e205_184, zt0, zt1, zn3, not_false_eq_true, toListS, toListN, zk_some, zpi, c177]
