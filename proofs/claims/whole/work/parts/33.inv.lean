/-! WHAT HOLDS BETWEEN CALLS; what is refused -/
def iB (t : Nat) (M : zM) : Prop := ∃ nv np n, vb (gb M 0) nv np ∧ M (0, 0, 0) 6 = 0 ∧ ag nv np (gb M 0) (gr M (20, 0, 0) 0) ∧ M (7, 0, 0) 5 = 0 ∧ M (1, 0, 0) 1 = nI n ∧ (M (0, 0, 0) 4).toInt + 138105 * n ≤ 138105 * t
def iK (t : Nat) (M : zM) : Prop := (M (6, 0, 0) 2 = 0 ∧ M (7, 0, 0) 3 = 0) ∨ (M (6, 0, 0) 2 = 1 ∧ M (7, 0, 0) 3 = 1 ∧ ∃ nv np n, vb (gb M 1) nv np ∧ M (0, 1, 0) 6 = 0 ∧ ag nv np (gb M 1) (gr M (22, 0, 0) 0) ∧ M (1, 0, 0) 1 = nI n ∧ (M (0, 1, 0) 4).toInt + 138105 * n ≤ 138105 * t)
def iL (M : zM) : Prop := ∃ n, n ≤ 120 ∧ M (1, 0, 0) 1 = nI n ∧ M (7, 0, 0) 8 = nI n ∧ ∀ i, i < n → M (13, 0, 0) i = M (24, 0, 0) i
def iR (M : zM) : Prop := ∀ c, 1 ≤ c → c ≤ 6 → M (17, 0, 0) c = M (23, 0, 0) c
def iI (M : zM) : Prop := ∀ l, l < 4 → M (4, l, 0) 1 = M (28, 0, 0) l ∧ (M (4, l, 0) 1 = -1 ∨ ∃ n, n ≤ 20 ∧ M (4, l, 0) 1 = nI n ∧ ∀ k, k < n → M (15, l, 0) k = M (29, 0, 0) (20 * l + k))
def iJ (M : zM) : Prop := ∀ r, r < 3 → M (4, 4 + r, 0) 1 = M (31, 0, 0) r ∧ (M (4, 4 + r, 0) 1 = -1 ∨ ∃ n, n ≤ 9 ∧ M (4, 4 + r, 0) 1 = nI n ∧ M (16, 0, 0) r = M (30, 0, 0) r ∧ (∃ q, q ≤ 5 ∧ M (16, 0, 0) r = nI q) ∧ ∀ k, k < n → (M (15, 4 + r, 0) k = -1 ∧ M (32, 0, 0) (9 * r + k) = -9) ∨ (M (15, 4 + r, 0) k = M (32, 0, 0) (9 * r + k) ∧ ∃ q, q ≤ 5 ∧ M (15, 4 + r, 0) k = nI q))
def Inv (t : Nat) (M : zM) : Prop := iB t M ∧ iK t M ∧ iL M ∧ iR M ∧ iI M ∧ iJ M
theorem gb_c {M M' : zM} {b : Nat} (hb : b < 2) (h : sm M M') : gb M' b = gb M b := by
  have q : decide (b < 2) = true := decide_eq_true hb
  refine Prod.ext (funext fun f => h _ _ q) (Prod.ext (funext fun j => funext fun f => h _ _ q) (funext fun j => funext fun f => h _ _ q))
theorem gr_c {M M' : zM} {k : zK} {o : Int32} (hk : k = (20, 0, 0) ∨ k = (22, 0, 0)) (h : sm M M') : gr M' k o = gr M k o := by
  have e : ∀ f, M' k f = M k f := fun f => h _ _ (by rcases hk with rfl | rfl <;> rfl)
  unfold gr
  simp only [e]
theorem iB_c {t t' : Nat} {M M' : zM} (h : sm M M') (ht : t ≤ t') (i : iB t M) : iB t' M' := by
  obtain ⟨nv, np, n, a, b, c, d, e, f⟩ := i
  refine ⟨nv, np, n, ?_, ?_, ?_, ?_, ?_, ?_⟩
  · rw [gb_c (by decide) h]; exact a
  · rw [h (0, 0, 0) 6 rfl]; exact b
  · rw [gb_c (by decide) h, gr_c (Or.inl rfl) h]; exact c
  · rw [h (7, 0, 0) 5 rfl]; exact d
  · rw [h (1, 0, 0) 1 rfl]; exact e
  · rw [h (0, 0, 0) 4 rfl]; omega
theorem iK_c {t t' : Nat} {M M' : zM} (h : sm M M') (ht : t ≤ t') (i : iK t M) : iK t' M' := by
  unfold iK
  rw [h (6, 0, 0) 2 rfl, h (7, 0, 0) 3 rfl]
  rcases i with i | ⟨i1, i2, nv, np, n, a, b, c, e, f⟩
  · exact Or.inl i
  · refine Or.inr ⟨i1, i2, nv, np, n, ?_, ?_, ?_, ?_, ?_⟩
    · rw [gb_c (by decide) h]; exact a
    · rw [h (0, 1, 0) 6 rfl]; exact b
    · rw [gb_c (by decide) h, gr_c (Or.inr rfl) h]; exact c
    · rw [h (1, 0, 0) 1 rfl]; exact e
    · rw [h (0, 1, 0) 4 rfl]; omega
theorem iL_c {M M' : zM} (h : sm M M') (i : iL M) : iL M' := by
  obtain ⟨n, a, b, c, d⟩ := i
  refine ⟨n, a, (h _ _ rfl).trans b, (h _ _ rfl).trans c, fun k hk => ?_⟩
  rw [h (13, 0, 0) k rfl, h (24, 0, 0) k rfl]
  exact d k hk
theorem iR_c {M M' : zM} (h : sm M M') (i : iR M) : iR M' := by
  intro c h1 h2
  rw [h (17, 0, 0) c rfl, h (23, 0, 0) c rfl]
  exact i c h1 h2
theorem iI_c {M M' : zM} (h : sm M M') (i : iI M) : iI M' := by
  intro l hl
  have e : ∀ k, M' (15, l, 0) k = M (15, l, 0) k := fun k => h (15, l, 0) k rfl
  have g : ∀ k, M' (29, 0, 0) k = M (29, 0, 0) k := fun k => h (29, 0, 0) k rfl
  simp only [h (4, l, 0) 1 rfl, h (28, 0, 0) l rfl, e, g]
  exact i l hl
theorem iJ_c {M M' : zM} (h : sm M M') (i : iJ M) : iJ M' := by
  intro r hr
  have e : ∀ k, M' (15, 4 + r, 0) k = M (15, 4 + r, 0) k := fun k => h (15, 4 + r, 0) k rfl
  have g : ∀ k, M' (32, 0, 0) k = M (32, 0, 0) k := fun k => h (32, 0, 0) k rfl
  simp only [h (4, 4 + r, 0) 1 rfl, h (31, 0, 0) r rfl, h (16, 0, 0) r rfl, h (30, 0, 0) r rfl, e, g]
  exact i r hr
theorem Inv_c {t t' : Nat} {M M' : zM} (h : sm M M') (ht : t ≤ t') (i : Inv t M) : Inv t' M' :=
  ⟨iB_c h ht i.1, iK_c h ht i.2.1, iL_c h i.2.2.1, iR_c h i.2.2.2.1, iI_c h i.2.2.2.2.1, iJ_c h i.2.2.2.2.2⟩
/-! refusals -/
def rfs (M : zM) (c : Nat) : zM := u2 M (17, 0, 0) c (M (17, 0, 0) c + 1)
def rfm (M : zM) (c : Nat) : zM := u2 M (23, 0, 0) c (M (23, 0, 0) c + 1)
section RF
variable (X : Nat × (Nat → Int32) × Value) (d : Nat) (M : zM) (G : zG)
theorem C114_1 : zd X d 114 [vR (6, 0, 0), vI (-1)] (hh M G) = some (some (vI (-1)), hh (rfs M 1) G) := by
  simp only [E114, e114_0, e114_1, e114_2, e114_5, e114_6, e114_8, e114_11, e114_12, e114_15, e114_16, e114_17, e114_18, e114_19, e114_20, e114_21, e114_22, e114_23, zt0, zt1, zn3, not_false_eq_true, toListS, toListN, zk_some, zpi, show ((-1 : Int32) < -1) = False by decide, show ((-1 : Int32) < -6) = False by decide, if_false, show (- -1 : Int32) = 1 by decide, show zin 1 7 = true by decide, show (1 : Int32).toNatClampNeg = 1 by decide]
  rfl
theorem C129_1 : zd X d 129 [vR (7, 0, 0), vI (-1)] (hh M G) = some (some (vI (-1)), hh (rfm M 1) G) := by
  simp only [E129, e129_0, e129_1, e129_4, e129_5, e129_6, e129_7, e129_8, e129_9, e129_10, e129_11, e129_12, zt0, zt1, zn3, not_false_eq_true, toListS, toListN, zk_some, zpi, show (- -1 : Int32) = 1 by decide, show zin 1 7 = true by decide, show (1 : Int32).toNatClampNeg = 1 by decide]
  rfl
theorem C115_1 : zd X (d + 1) 115 [vR (6, 0, 0), vI (-1)] (hh M G) = some (some (vL (4000000000000000000 - Int32.toInt64 (-1))), hh (rfs M 1) G) := by
  simp only [E115, e115_0, e115_3, e115_4, e115_5, e115_8, e115_9, e115_10, zt0, zt1, zn3, not_false_eq_true, toListS, toListN, zk_some, zpi, C114_1]
theorem C130_1 : zd X (d + 1) 130 [vR (7, 0, 0), vI (-1)] (hh M G) = some (some (vL (4000000000000000000 - Int32.toInt64 (-1))), hh (rfm M 1) G) := by
  simp only [E130, e130_0, e130_3, e130_4, e130_5, e130_8, e130_9, e130_10, zt0, zt1, zn3, not_false_eq_true, toListS, toListN, zk_some, zpi, C129_1]
theorem C114_2 : zd X d 114 [vR (6, 0, 0), vI (-2)] (hh M G) = some (some (vI (-2)), hh (rfs M 2) G) := by
  simp only [E114, e114_0, e114_1, e114_2, e114_5, e114_6, e114_8, e114_11, e114_12, e114_15, e114_16, e114_17, e114_18, e114_19, e114_20, e114_21, e114_22, e114_23, zt0, zt1, zn3, not_false_eq_true, toListS, toListN, zk_some, zpi, show ((-1 : Int32) < -2) = False by decide, show ((-2 : Int32) < -6) = False by decide, if_false, show (- -2 : Int32) = 2 by decide, show zin 2 7 = true by decide, show (2 : Int32).toNatClampNeg = 2 by decide]
  rfl
theorem C129_2 : zd X d 129 [vR (7, 0, 0), vI (-2)] (hh M G) = some (some (vI (-2)), hh (rfm M 2) G) := by
  simp only [E129, e129_0, e129_1, e129_4, e129_5, e129_6, e129_7, e129_8, e129_9, e129_10, e129_11, e129_12, zt0, zt1, zn3, not_false_eq_true, toListS, toListN, zk_some, zpi, show (- -2 : Int32) = 2 by decide, show zin 2 7 = true by decide, show (2 : Int32).toNatClampNeg = 2 by decide]
  rfl
theorem C115_2 : zd X (d + 1) 115 [vR (6, 0, 0), vI (-2)] (hh M G) = some (some (vL (4000000000000000000 - Int32.toInt64 (-2))), hh (rfs M 2) G) := by
  simp only [E115, e115_0, e115_3, e115_4, e115_5, e115_8, e115_9, e115_10, zt0, zt1, zn3, not_false_eq_true, toListS, toListN, zk_some, zpi, C114_2]
theorem C130_2 : zd X (d + 1) 130 [vR (7, 0, 0), vI (-2)] (hh M G) = some (some (vL (4000000000000000000 - Int32.toInt64 (-2))), hh (rfm M 2) G) := by
  simp only [E130, e130_0, e130_3, e130_4, e130_5, e130_8, e130_9, e130_10, zt0, zt1, zn3, not_false_eq_true, toListS, toListN, zk_some, zpi, C129_2]
theorem C114_3 : zd X d 114 [vR (6, 0, 0), vI (-3)] (hh M G) = some (some (vI (-3)), hh (rfs M 3) G) := by
  simp only [E114, e114_0, e114_1, e114_2, e114_5, e114_6, e114_8, e114_11, e114_12, e114_15, e114_16, e114_17, e114_18, e114_19, e114_20, e114_21, e114_22, e114_23, zt0, zt1, zn3, not_false_eq_true, toListS, toListN, zk_some, zpi, show ((-1 : Int32) < -3) = False by decide, show ((-3 : Int32) < -6) = False by decide, if_false, show (- -3 : Int32) = 3 by decide, show zin 3 7 = true by decide, show (3 : Int32).toNatClampNeg = 3 by decide]
  rfl
theorem C129_3 : zd X d 129 [vR (7, 0, 0), vI (-3)] (hh M G) = some (some (vI (-3)), hh (rfm M 3) G) := by
  simp only [E129, e129_0, e129_1, e129_4, e129_5, e129_6, e129_7, e129_8, e129_9, e129_10, e129_11, e129_12, zt0, zt1, zn3, not_false_eq_true, toListS, toListN, zk_some, zpi, show (- -3 : Int32) = 3 by decide, show zin 3 7 = true by decide, show (3 : Int32).toNatClampNeg = 3 by decide]
  rfl
theorem C115_3 : zd X (d + 1) 115 [vR (6, 0, 0), vI (-3)] (hh M G) = some (some (vL (4000000000000000000 - Int32.toInt64 (-3))), hh (rfs M 3) G) := by
  simp only [E115, e115_0, e115_3, e115_4, e115_5, e115_8, e115_9, e115_10, zt0, zt1, zn3, not_false_eq_true, toListS, toListN, zk_some, zpi, C114_3]
theorem C130_3 : zd X (d + 1) 130 [vR (7, 0, 0), vI (-3)] (hh M G) = some (some (vL (4000000000000000000 - Int32.toInt64 (-3))), hh (rfm M 3) G) := by
  simp only [E130, e130_0, e130_3, e130_4, e130_5, e130_8, e130_9, e130_10, zt0, zt1, zn3, not_false_eq_true, toListS, toListN, zk_some, zpi, C129_3]
theorem C114_4 : zd X d 114 [vR (6, 0, 0), vI (-4)] (hh M G) = some (some (vI (-4)), hh (rfs M 4) G) := by
  simp only [E114, e114_0, e114_1, e114_2, e114_5, e114_6, e114_8, e114_11, e114_12, e114_15, e114_16, e114_17, e114_18, e114_19, e114_20, e114_21, e114_22, e114_23, zt0, zt1, zn3, not_false_eq_true, toListS, toListN, zk_some, zpi, show ((-1 : Int32) < -4) = False by decide, show ((-4 : Int32) < -6) = False by decide, if_false, show (- -4 : Int32) = 4 by decide, show zin 4 7 = true by decide, show (4 : Int32).toNatClampNeg = 4 by decide]
  rfl
theorem C129_4 : zd X d 129 [vR (7, 0, 0), vI (-4)] (hh M G) = some (some (vI (-4)), hh (rfm M 4) G) := by
  simp only [E129, e129_0, e129_1, e129_4, e129_5, e129_6, e129_7, e129_8, e129_9, e129_10, e129_11, e129_12, zt0, zt1, zn3, not_false_eq_true, toListS, toListN, zk_some, zpi, show (- -4 : Int32) = 4 by decide, show zin 4 7 = true by decide, show (4 : Int32).toNatClampNeg = 4 by decide]
  rfl
theorem C115_4 : zd X (d + 1) 115 [vR (6, 0, 0), vI (-4)] (hh M G) = some (some (vL (4000000000000000000 - Int32.toInt64 (-4))), hh (rfs M 4) G) := by
  simp only [E115, e115_0, e115_3, e115_4, e115_5, e115_8, e115_9, e115_10, zt0, zt1, zn3, not_false_eq_true, toListS, toListN, zk_some, zpi, C114_4]
theorem C130_4 : zd X (d + 1) 130 [vR (7, 0, 0), vI (-4)] (hh M G) = some (some (vL (4000000000000000000 - Int32.toInt64 (-4))), hh (rfm M 4) G) := by
  simp only [E130, e130_0, e130_3, e130_4, e130_5, e130_8, e130_9, e130_10, zt0, zt1, zn3, not_false_eq_true, toListS, toListN, zk_some, zpi, C129_4]
theorem C114_6 : zd X d 114 [vR (6, 0, 0), vI (-6)] (hh M G) = some (some (vI (-6)), hh (rfs M 6) G) := by
  simp only [E114, e114_0, e114_1, e114_2, e114_5, e114_6, e114_8, e114_11, e114_12, e114_15, e114_16, e114_17, e114_18, e114_19, e114_20, e114_21, e114_22, e114_23, zt0, zt1, zn3, not_false_eq_true, toListS, toListN, zk_some, zpi, show ((-1 : Int32) < -6) = False by decide, show ((-6 : Int32) < -6) = False by decide, if_false, show (- -6 : Int32) = 6 by decide, show zin 6 7 = true by decide, show (6 : Int32).toNatClampNeg = 6 by decide]
  rfl
theorem C129_6 : zd X d 129 [vR (7, 0, 0), vI (-6)] (hh M G) = some (some (vI (-6)), hh (rfm M 6) G) := by
  simp only [E129, e129_0, e129_1, e129_4, e129_5, e129_6, e129_7, e129_8, e129_9, e129_10, e129_11, e129_12, zt0, zt1, zn3, not_false_eq_true, toListS, toListN, zk_some, zpi, show (- -6 : Int32) = 6 by decide, show zin 6 7 = true by decide, show (6 : Int32).toNatClampNeg = 6 by decide]
  rfl
theorem C115_6 : zd X (d + 1) 115 [vR (6, 0, 0), vI (-6)] (hh M G) = some (some (vL (4000000000000000000 - Int32.toInt64 (-6))), hh (rfs M 6) G) := by
  simp only [E115, e115_0, e115_3, e115_4, e115_5, e115_8, e115_9, e115_10, zt0, zt1, zn3, not_false_eq_true, toListS, toListN, zk_some, zpi, C114_6]
theorem C130_6 : zd X (d + 1) 130 [vR (7, 0, 0), vI (-6)] (hh M G) = some (some (vL (4000000000000000000 - Int32.toInt64 (-6))), hh (rfm M 6) G) := by
  simp only [E130, e130_0, e130_3, e130_4, e130_5, e130_8, e130_9, e130_10, zt0, zt1, zn3, not_false_eq_true, toListS, toListN, zk_some, zpi, C129_6]
end RF
theorem Inv_rf {t : Nat} {M : zM} {c : Nat} (i : Inv t M) : Inv t (rfm (rfs M c) c) := by
  obtain ⟨b, k, l, r, i, j⟩ := i
  refine ⟨b, k, l, fun e h1 h2 => ?_, i, j⟩
  show u2 (rfs M c) (23, 0, 0) c (rfs M c (23, 0, 0) c + 1) (17, 0, 0) e = u2 (rfs M c) (23, 0, 0) c (rfs M c (23, 0, 0) c + 1) (23, 0, 0) e
  have q := r e h1 h2
  have q17 : (17, 0, 0) ≠ ((23, 0, 0) : zK) := by decide
  unfold u2 rfs u2
  by_cases e1 : e = c
  · subst e1
    simp [q]
  · simp [e1, q]
