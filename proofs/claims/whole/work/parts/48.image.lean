/-! image, on, letter, count -/
theorem gb_u2 {M : zM} {k : zK} {f b : Nat} {x : Int32} (h : k.1 ≠ 0 ∧ k.1 ≠ 3 ∧ k.1 ≠ 5) : gb (u2 M k f x) b = gb M b := by
  unfold gb vw pw
  refine Prod.ext (funext fun g => u2_k ?_) (Prod.ext (funext fun j => funext fun g => u2_k ?_) (funext fun j => funext fun g => u2_k ?_))
  · rintro rfl; exact h.1 rfl
  · rintro rfl; exact h.2.2 rfl
  · rintro rfl; exact h.2.1 rfl
theorem cpK_o {M : zM} {a c k : zK} {n f : Nat} (h : k ≠ c) : cpK M a c n k f = M k f := by unfold cpK; rw [if_neg fun e => h e.1]
theorem cpK_i {M : zM} {a c : zK} {n f : Nat} (h : f < n) : cpK M a c n c f = M a f := by unfold cpK; rw [if_pos ⟨rfl, h⟩]
theorem gb_cpK {M : zM} {a c : zK} {n b : Nat} (h : c.1 ≠ 0 ∧ c.1 ≠ 3 ∧ c.1 ≠ 5) : gb (cpK M a c n) b = gb M b := by
  unfold gb vw pw
  refine Prod.ext (funext fun g => cpK_o ?_) (Prod.ext (funext fun j => funext fun g => cpK_o ?_) (funext fun j => funext fun g => cpK_o ?_))
  · rintro rfl; exact h.1 rfl
  · rintro rfl; exact h.2.2 rfl
  · rintro rfl; exact h.2.1 rfl
theorem gr_e {M M' : zM} {k k' : zK} {nv np : Nat} (h : ∀ f, f < 93 → M' k' f = M k f) {B : zB} (n5 : nv ≤ 5) (n8 : np ≤ 8) (a : ag nv np B (gr M k 0)) : ag nv np B (gr M' k' 0) := by
  obtain ⟨a1, a2, a3⟩ := a
  refine ⟨fun f hf => ?_, fun j f hj hf => ?_, fun p g hp hg hn => ?_⟩
  · rw [a1 f hf]
    rcases hf with rfl | rfl | rfl | rfl | rfl
    · exact (h 0 (by decide)).symm
    · exact (h 1 (by decide)).symm
    · exact (h 3 (by decide)).symm
    · exact (h 2 (by decide)).symm
    · rfl
  · rw [a2 j f hj hf]
    exact (h (4 + 5 * j + f) (by omega)).symm
  · rw [a3 p g hp hg hn]
    refine (h (29 + 8 * p + (if g = 5 then 0 else if g = 6 then 1 else if g = 0 then 2 else if g = 1 then 3 else if g = 2 then 4 else if g = 3 then 5 else if g = 4 then 6 else 7)) ?_).symm
    have : (if g = 5 then 0 else if g = 6 then 1 else if g = 0 then 2 else if g = 1 then 3 else if g = 2 then 4 else if g = 3 then 5 else if g = 4 then 6 else 7) < 8 := by
      repeat' split
      all_goals decide
    omega
theorem nI_le2 {a b : Nat} (h : nI a = nI b) (hb : b < 2 ^ 31) : b ≤ a := by
  by_cases ha : a < 2 ^ 31
  · rw [neq ha hb] at h
    omega
  · omega
theorem T10 (X : Nat × (Nat → Int32) × Value) (d : Nat) {M : zM} (G : zG) {nv np : Nat} (s : ST M nv np) : zd X (d + 1) 1 [vR (0, 1, 0), vR (0, 0, 0)] (hh M G) = some (none, hh (cb M 1 (cpB nv np (gb M 1) (gb M 0))) G) := by
  obtain ⟨n5, n8, e2, e3, -, -, v, -⟩ := s
  have q := B1 X d M G 1 0 (gb M 1) (by decide) nv np e2 e3 n5 n8 (fun p hp => (v.2.2.1 p hp).imp id And.left)
  rw [cb_self] at q
  exact q
theorem K38 (X : Nat × (Nat → Int32) × Value) (t : Nat) (M : zM) (G : zG) (i : Inv t M) : okI X 111 222 [] t M G := by
  obtain ⟨nv, np, s⟩ := ST_of i
  have s' := s
  obtain ⟨n5, n8, e2, e3, m0, m1, v, o6, f5, a, vc, ac, vm⟩ := s'
  have t10 := T10 X 10 G s
  have ck : ag nv np (gb M 0) (cpB nv np (gb M 1) (gb M 0)) := cpB_ag o6
  have vk := ag_v o6 ck v
  have e5 : cb M 1 (cpB nv np (gb M 1) (gb M 0)) (0, 0, 0) 5 = M (0, 0, 0) 5 := rfl
  have c131 := C131 X 11 (u2 (u2 (cb M 1 (cpB nv np (gb M 1) (gb M 0))) (6, 0, 0) 2 1) (7, 0, 0) 3 1) G (20, 0, 0) (22, 0, 0) (by decide) (by decide) (by decide) (by decide) (by decide) rfl rfl
  have b0 : gb (cpK (u2 (u2 (cb M 1 (cpB nv np (gb M 1) (gb M 0))) (6, 0, 0) 2 1) (7, 0, 0) 3 1) (20, 0, 0) (22, 0, 0) 93) 0 = gb M 0 := by
    rw [gb_cpK (by decide), gb_u2 (by decide), gb_u2 (by decide), cb_o (by decide)]
  have b1 : gb (cpK (u2 (u2 (cb M 1 (cpB nv np (gb M 1) (gb M 0))) (6, 0, 0) 2 1) (7, 0, 0) 3 1) (20, 0, 0) (22, 0, 0) 93) 1 = cpB nv np (gb M 1) (gb M 0) := by
    rw [gb_cpK (by decide), gb_u2 (by decide), gb_u2 (by decide), gb_cb]
  obtain ⟨⟨nv', np', n', j1, j2, j3, j4, j5, j6⟩, -, l, r, i1, j⟩ := i
  refine ⟨M (0, 0, 0) 5, u2 (cb M 1 (cpB nv np (gb M 1) (gb M 0))) (6, 0, 0) 2 1, G, cpK (u2 (u2 (cb M 1 (cpB nv np (gb M 1) (gb M 0))) (6, 0, 0) 2 1) (7, 0, 0) 3 1) (20, 0, 0) (22, 0, 0) 93, G, ?_, ?_, ?_, ?_, l, r, i1, j⟩
  · simp only [E111, e111_0, e111_1, e111_4, e111_5, e111_8, e111_11, e111_12, e111_13, e111_16, e111_17, e111_20, e111_23, zt0, zt1, zn3, not_false_eq_true, toListS, toListN, zk_some, zpi, if_true, if_false, i10, t10, e5, true_or, or_true, u2_k, ne_eq, Prod.mk.injEq, false_and, and_false, Nat.reduceEqDiff]
  · have e : cpK (u2 (u2 (cb M 1 (cpB nv np (gb M 1) (gb M 0))) (6, 0, 0) 2 1) (7, 0, 0) 3 1) (20, 0, 0) (22, 0, 0) 93 (20, 0, 0) 2 = M (0, 0, 0) 5 := (a.1 5 (by decide)).symm
    simp only [E222, e222_0, e222_1, e222_2, e222_5, e222_6, e222_9, e222_10, e222_13, e222_16, e222_17, e222_20, e222_21, e222_22, zt0, zt1, zn3, not_false_eq_true, toListS, toListN, zk_some, zpi, if_true, if_false, i10, c131, w2, t2, e, true_or, or_true]
  · refine ⟨nv', np', n', by rw [b0]; exact j1, j2, ?_, j4, j5, j6⟩
    rw [b0]
    exact gr_e (M := M) (k := (20, 0, 0)) (fun f hf => rfl) j1.1.2.2.1 j1.1.2.2.2.1 j3
  · refine Or.inr ⟨rfl, rfl, nv, np, n', by rw [b1]; exact vk, rfl, ?_, j5, ?_⟩
    · rw [b1]
      refine gr_e (M := M) (k := (20, 0, 0)) (fun f hf => (cpK_i hf).trans rfl) n5 n8 (ag_t (ag_s o6 ck) a)
    · exact j6
theorem K39 (X : Nat × (Nat → Int32) × Value) (t : Nat) (M : zM) (G : zG) (i : Inv t M) : okI X 112 223 [] t M G := by
  rcases i.2.1 with ⟨k1, k2⟩ | ⟨k1, k2, nv, np, n, v, o6, a, en, q⟩
  · refine ⟨-3, rfs M 3, G, rfm (rfs M 3) 3, G, ?_, ?_, Inv_rf i⟩
    · simp only [E112, e112_0, e112_1, e112_4, e112_7, e112_8, e112_10, e112_13, e112_14, e112_15, e112_18, e112_19, e112_22, e112_25, e112_26, e112_29, e112_32, zt0, zt1, zn3, not_false_eq_true, toListS, toListN, zk_some, zpi, if_true, if_false, i10, k1, C114_3]
    · have k2' : rfs M 3 (7, 0, 0) 3 = 0 := k2
      simp only [E223, e223_0, e223_1, e223_4, e223_7, e223_8, e223_10, e223_13, e223_14, e223_15, e223_18, e223_19, e223_22, e223_25, e223_26, e223_29, e223_30, e223_31, zt0, zt1, zn3, not_false_eq_true, toListS, toListN, zk_some, zpi, if_true, if_false, i10, k2', C129_3]
  · have n5 := v.1.2.2.1
    have n8 := v.1.2.2.2.1
    have ck : ag nv np (gb M 1) (cpB nv np (gb M 0) (gb M 1)) := cpB_ag o6
    have vk := ag_v o6 ck v
    have t10 : zd X 11 1 [vR (0, 0, 0), vR (0, 1, 0)] (hh M G) = some (none, hh (cb M 0 (cpB nv np (gb M 0) (gb M 1))) G) := by
      have q := B1 X 10 M G 0 1 (gb M 0) (by decide) nv np v.1.1 v.1.2.1 n5 n8 (fun p hp => (v.2.2.1 p hp).imp id And.left)
      rw [cb_self] at q
      exact q
    have e5 : cb M 0 (cpB nv np (gb M 0) (gb M 1)) (0, 0, 0) 5 = M (0, 1, 0) 5 := rfl
    have c131 := C131 X 11 (cb M 0 (cpB nv np (gb M 0) (gb M 1))) G (22, 0, 0) (20, 0, 0) (by decide) (by decide) (by decide) (by decide) (by decide) rfl rfl
    have k2' : cb M 0 (cpB nv np (gb M 0) (gb M 1)) (7, 0, 0) 3 = 1 := k2
    have b0 : gb (cpK (cb M 0 (cpB nv np (gb M 0) (gb M 1))) (22, 0, 0) (20, 0, 0) 93) 0 = cpB nv np (gb M 0) (gb M 1) := by
      rw [gb_cpK (by decide), gb_cb]
    have b1 : gb (cpK (cb M 0 (cpB nv np (gb M 0) (gb M 1))) (22, 0, 0) (20, 0, 0) 93) 1 = gb M 1 := by
      rw [gb_cpK (by decide), cb_o (by decide)]
    have o6' : (gb M 1).1 6 = 0 := o6
    obtain ⟨⟨-, -, -, -, -, -, f5, -, -⟩, -, l, r, i1, j⟩ := i
    refine ⟨M (0, 1, 0) 5, cb M 0 (cpB nv np (gb M 0) (gb M 1)), G, cpK (cb M 0 (cpB nv np (gb M 0) (gb M 1))) (22, 0, 0) (20, 0, 0) 93, G, ?_, ?_, ?_, ?_, l, r, i1, j⟩
    · simp only [E112, e112_0, e112_1, e112_4, e112_7, e112_8, e112_10, e112_13, e112_14, e112_15, e112_18, e112_19, e112_22, e112_25, e112_26, e112_29, e112_32, zt0, zt1, zn3, not_false_eq_true, toListS, toListN, zk_some, zpi, if_true, if_false, i10, k1, t10, e5]
    · have e : cpK (cb M 0 (cpB nv np (gb M 0) (gb M 1))) (22, 0, 0) (20, 0, 0) 93 (20, 0, 0) 2 = M (0, 1, 0) 5 := (a.1 5 (by decide)).symm
      simp only [E223, e223_0, e223_1, e223_4, e223_7, e223_8, e223_10, e223_13, e223_14, e223_15, e223_18, e223_19, e223_22, e223_25, e223_26, e223_29, e223_30, e223_31, zt0, zt1, zn3, not_false_eq_true, toListS, toListN, zk_some, zpi, if_true, if_false, i10, k2', c131, w2, t2, e]
    · refine ⟨nv, np, n, by rw [b0]; exact vk, rfl, ?_, f5, en, q⟩
      rw [b0]
      exact gr_e (M := M) (k := (22, 0, 0)) (fun f hf => (cpK_i hf).trans rfl) n5 n8 (ag_t (ag_s o6' ck) a)
    · refine Or.inr ⟨k1, k2, nv, np, n, by rw [b1]; exact v, o6, ?_, en, q⟩
      rw [b1]
      exact gr_e (M := M) (k := (22, 0, 0)) (fun f hf => rfl) n5 n8 a
theorem K0 (X : Nat × (Nat → Int32) × Value) (t : Nat) (M : zM) (G : zG) (x : Int32) (i : Inv t M) : okI X 73 152 [vI x] (t + 1) M G := by
  obtain ⟨n, n120, l1, l2, l3⟩ := i.2.2.1
  by_cases h1 : x < 0
  · have f1 : ¬ 0 ≤ x := Int32.not_le.mpr h1
    refine ⟨-4, rfs M 4, G, rfm (rfs M 4) 4, G, ?_, ?_, Inv_rf (Inv_c (sm_r M) (by omega) i)⟩
    · simp only [E73, e73_0, e73_1, e73_4, e73_5, e73_7, e73_10, e73_11, e73_12, e73_15, e73_18, e73_19, e73_22, e73_25, e73_27, e73_30, e73_31, e73_33, e73_36, e73_37, e73_38, e73_41, e73_42, e73_45, zt0, zt1, zn3, not_false_eq_true, toListS, toListN, zk_some, zpi, if_true, if_false, i10, f1, C114_4]
    · simp only [E152, e152_0, e152_1, e152_4, e152_5, e152_7, e152_10, e152_11, e152_12, e152_15, e152_18, e152_19, e152_22, e152_24, e152_27, e152_28, e152_30, e152_33, e152_34, e152_35, e152_38, e152_39, e152_42, e152_43, e152_44, e152_45, e152_46, e152_49, e152_50, e152_51, e152_54, e152_55, e152_58, zt0, zt1, zn3, not_false_eq_true, toListS, toListN, zk_some, zpi, if_true, if_false, i10, f1, C129_4]
  · have f1 : 0 ≤ x := Int32.not_lt.mp h1
    by_cases h2 : 255 < x
    · refine ⟨-6, rfs M 6, G, rfm (rfs M 6) 6, G, ?_, ?_, Inv_rf (Inv_c (sm_r M) (by omega) i)⟩
      · simp only [E73, e73_0, e73_1, e73_4, e73_5, e73_7, e73_10, e73_11, e73_12, e73_15, e73_18, e73_19, e73_22, e73_25, e73_27, e73_30, e73_31, e73_33, e73_36, e73_37, e73_38, e73_41, e73_42, e73_45, zt0, zt1, zn3, not_false_eq_true, toListS, toListN, zk_some, zpi, if_true, if_false, i10, f1, h2, C114_6]
      · simp only [E152, e152_0, e152_1, e152_4, e152_5, e152_7, e152_10, e152_11, e152_12, e152_15, e152_18, e152_19, e152_22, e152_24, e152_27, e152_28, e152_30, e152_33, e152_34, e152_35, e152_38, e152_39, e152_42, e152_43, e152_44, e152_45, e152_46, e152_49, e152_50, e152_51, e152_54, e152_55, e152_58, zt0, zt1, zn3, not_false_eq_true, toListS, toListN, zk_some, zpi, if_true, if_false, i10, f1, h2, C129_6]
    · by_cases h3 : n = 120
      · subst h3
        have e1 : ¬ M (1, 0, 0) 1 < 120 := by rw [l1]; decide
        have e2 : rfs M 6 (7, 0, 0) 8 = 120 := l2
        refine ⟨-6, rfs M 6, G, rfm (rfs M 6) 6, G, ?_, ?_, Inv_rf (Inv_c (sm_r M) (by omega) i)⟩
        · simp only [E73, e73_0, e73_1, e73_4, e73_5, e73_7, e73_10, e73_11, e73_12, e73_15, e73_18, e73_19, e73_22, e73_25, e73_27, e73_30, e73_31, e73_33, e73_36, e73_37, e73_38, e73_41, e73_42, e73_45, zt0, zt1, zn3, not_false_eq_true, toListS, toListN, zk_some, zpi, if_true, if_false, i10, f1, h2, e1, C114_6]
        · simp only [E152, e152_0, e152_1, e152_4, e152_5, e152_7, e152_10, e152_11, e152_12, e152_15, e152_18, e152_19, e152_22, e152_24, e152_27, e152_28, e152_30, e152_33, e152_34, e152_35, e152_38, e152_39, e152_42, e152_43, e152_44, e152_45, e152_46, e152_49, e152_50, e152_51, e152_54, e152_55, e152_58, zt0, zt1, zn3, not_false_eq_true, toListS, toListN, zk_some, zpi, if_true, if_false, i10, f1, h2, e2, C129_6]
      · have hn : n < 120 := by omega
        have e1 : (nI n < 120) = True := by rw [show (120 : Int32) = nI 120 from rfl, nlt (by omega) (by decide)]; exact eq_true hn
        have e2 : (nI n = 120) = False := by rw [show (120 : Int32) = nI 120 from rfl, neq (by omega) (by decide)]; exact eq_false h3
        have e3 : ¬ 120 ≤ nI n := Int32.not_le.mpr (of_eq_true e1)
        have hz : zin (nI n) 120 = true := zin_nI hn (by decide)
        have hc : (nI n).toNatClampNeg = n := nI_clamp (by omega)
        refine ⟨nI (n + 1), u2 (u2 M (13, 0, 0) n x) (1, 0, 0) 1 (nI (n + 1)), G, u2 (u2 (u2 (u2 M (13, 0, 0) n x) (1, 0, 0) 1 (nI (n + 1))) (24, 0, 0) n x) (7, 0, 0) 8 (nI (n + 1)), G, ?_, ?_, ?_⟩
        · have c20 : zd X 11 20 [vR (1, 0, 0), vI x] (hh M G) = some (some (vI (nI (n + 1))), hh (u2 (u2 M (13, 0, 0) n x) (1, 0, 0) 1 (nI (n + 1))) G) := by
            have l1' : u2 M (13, 0, 0) n x (1, 0, 0) 1 = nI n := l1
            simp only [E20, e20_0, e20_1, e20_4, e20_5, e20_8, e20_9, e20_12, e20_13, e20_16, e20_17, e20_20, e20_21, e20_22, e20_23, e20_24, e20_27, e20_28, e20_29, e20_32, e20_33, e20_36, zt0, zt1, zn3, not_false_eq_true, toListS, toListN, zk_some, zpi, if_true, if_false, i10, l1, e3, hz, hc, l1', nI_1, u2_same]
          simp only [E73, e73_0, e73_1, e73_4, e73_5, e73_7, e73_10, e73_11, e73_12, e73_15, e73_18, e73_19, e73_22, e73_25, e73_27, e73_30, e73_31, e73_33, e73_36, e73_37, e73_38, e73_41, e73_42, e73_45, zt0, zt1, zn3, not_false_eq_true, toListS, toListN, zk_some, zpi, if_true, if_false, i10, f1, h2, l1, e1, c20]
        · have l2' : u2 (u2 (u2 M (13, 0, 0) n x) (1, 0, 0) 1 (nI (n + 1))) (24, 0, 0) n x (7, 0, 0) 8 = nI n := l2
          have l2'' : u2 (u2 M (13, 0, 0) n x) (1, 0, 0) 1 (nI (n + 1)) (7, 0, 0) 8 = nI n := l2
          simp only [E152, e152_0, e152_1, e152_4, e152_5, e152_7, e152_10, e152_11, e152_12, e152_15, e152_18, e152_19, e152_22, e152_24, e152_27, e152_28, e152_30, e152_33, e152_34, e152_35, e152_38, e152_39, e152_42, e152_43, e152_44, e152_45, e152_46, e152_49, e152_50, e152_51, e152_54, e152_55, e152_58, zt0, zt1, zn3, not_false_eq_true, toListS, toListN, zk_some, zpi, if_true, if_false, i10, f1, h2, l2'', e2, hz, hc, l2', nI_1, u2_same]
        · obtain ⟨⟨nv, np, m, j1, j2, j3, j4, j5, j6⟩, k, -, r, i1, j⟩ := i
          have hm := nI_le2 (j5.symm.trans l1) (by omega)
          refine ⟨⟨nv, np, n + 1, j1, j2, j3, j4, rfl, ?_⟩, ?_, ⟨n + 1, by omega, rfl, rfl, fun q hq => ?_⟩, r, i1, j⟩
          · show (M (0, 0, 0) 4).toInt + 138105 * ((n + 1 : Nat) : Int) ≤ 138105 * ((t + 1 : Nat) : Int)
            omega
          · rcases k with k | ⟨k1, k2, nv, np, m, q1, q2, q3, q4, q5⟩
            · exact Or.inl k
            · have hm := nI_le2 (q4.symm.trans l1) (by omega)
              refine Or.inr ⟨k1, k2, nv, np, n + 1, q1, q2, q3, rfl, ?_⟩
              show (M (0, 1, 0) 4).toInt + 138105 * ((n + 1 : Nat) : Int) ≤ 138105 * ((t + 1 : Nat) : Int)
              omega
          · show u2 M (13, 0, 0) n x (13, 0, 0) q = u2 M (24, 0, 0) n x (24, 0, 0) q
            by_cases e : q = n
            · subst e
              rw [u2_same, u2_same]
            · rw [u2_f e, u2_f e]
              exact l3 q (by omega)
