/-! LISTS: list, put, lays -/
theorem zsf {n : Nat} {f : Nat → Option zR} {Q : Nat → Bool} (h : ∀ i, i < n → Q i = false → ∀ w, f (i + 1) = w → f i = w) : ∀ (m i : Nat), i + m = n → f i = f (fi Q i m) := by
  intro m
  induction m with
  | zero => intro i _; rfl
  | succ m ih =>
    intro i hi
    unfold fi
    by_cases q : Q i = true
    · rw [if_pos q]
    · rw [if_neg q]
      exact (h i (by omega) (Bool.not_eq_true _ ▸ q) _ rfl).trans (ih (i + 1) (by omega))
theorem isx_e (n : Nat) (x a b : Int32) (hb : b.toInt = n) (h : n < 2 ^ 31) : (if x < 0 then (0 : Int32) else if b ≤ x then 0 else 1) = isx n x := by
  unfold isx inz
  by_cases h1 : x < 0
  · rw [if_pos h1, if_pos (show x.toInt < 0 from i_lt.mp h1)]
  · rw [if_neg h1, if_neg (show ¬ x.toInt < 0 from fun q => h1 (i_lt.mpr q))]
    by_cases h2 : b ≤ x
    · have h2' := i_le.mp h2
      rw [if_pos h2, if_pos (show (n : Int) - 1 < x.toInt by omega)]
    · have h2' : ¬ b.toInt ≤ x.toInt := fun q => h2 (i_le.mpr q)
      rw [if_neg h2, if_neg (show ¬ (n : Int) - 1 < x.toInt by omega)]
theorem C119 (X : Nat × (Nat → Int32) × Value) (d : Nat) (M : zM) (G : zG) (x : Int32) : zd X d 119 [vI x] (hh M G) = some (some (vI (isx 4 x)), hh M G) := by rw [D119, isx_e 4 x 0 4 rfl (by decide)]
theorem C120 (X : Nat × (Nat → Int32) × Value) (d : Nat) (M : zM) (G : zG) (x : Int32) : zd X d 120 [vI x] (hh M G) = some (some (vI (isx 3 x)), hh M G) := by rw [D120, isx_e 3 x 0 3 rfl (by decide)]
theorem hln_r {r : Nat} : hln (15, r, 0) = if r < 4 then 20 else 9 := rfl
theorem C62 (X : Nat × (Nat → Int32) × Value) (d : Nat) (M : zM) (G : zG) (r n : Nat) (x : Int32) (hs : M (4, r, 0) 1 = nI n) (hn : n ≤ hln (15, r, 0)) : zd X d 62 [vR (4, r, 0), vI x] (hh M G) = some (some (vI (isx n x)), hh M G) := by
  have hl : hln (15, r, 0) < 2 ^ 31 := by rw [hln_r]; split <;> decide
  have hm : (Int32.ofNat (hln (15, r, 0))).toInt = hln (15, r, 0) := nI_int hl
  have e : isx n x = (if x < 0 then (0 : Int32) else if nI n ≤ x then 0 else if Int32.ofNat (hln (15, r, 0)) ≤ x then 0 else 1) := by
    rw [← isx_e n x 0 (nI n) (nI_int (by omega)) (by omega)]
    by_cases h1 : x < 0
    · rw [if_pos h1, if_pos h1]
    · rw [if_neg h1, if_neg h1]
      by_cases h2 : nI n ≤ x
      · rw [if_pos h2, if_pos h2]
      · have h2' : ¬ (n : Int) ≤ x.toInt := fun q => h2 (i_le.mpr (by rw [nI_int (by omega)]; exact q))
        rw [if_neg h2, if_neg h2, if_neg (fun q => by have := i_le.mp q; rw [hm] at this; omega)]
  rw [e]
  simp only [E62, e62_0, e62_1, e62_4, e62_5, e62_6, e62_9, e62_12, e62_13, e62_14, e62_17, e62_18, e62_21, e62_22, e62_25, e62_26, zt0, zt1, zn3, not_false_eq_true, toListS, toListN, zk_some, zpi, if_true, if_false, i10, hs]
/-- a row filled from o on, n places, with v -/
def flR (M : zM) (k : zK) (o n : Nat) (v : Int32) : zM := fun k' f => if k' = k ∧ o ≤ f ∧ f < o + n then v else M k' f
theorem flR_0 (M : zM) (k : zK) (o : Nat) (v : Int32) : flR M k o 0 v = M := by
  funext k' f
  unfold flR
  rw [if_neg (by omega)]
theorem flR_s (M : zM) (k : zK) (o n : Nat) (v : Int32) : u2 (flR M k o n v) k (o + n) v = flR M k o (n + 1) v := by
  funext k' f
  unfold u2 flR
  by_cases h1 : k' = k
  · by_cases h2 : f = o + n
    · rw [if_pos ⟨h1, h2⟩, if_pos ⟨h1, by omega⟩]
    · rw [if_neg (fun e => h2 e.2)]
      by_cases h3 : o ≤ f ∧ f < o + n
      · rw [if_pos ⟨h1, h3⟩, if_pos ⟨h1, by omega⟩]
      · rw [if_neg (fun e => h3 e.2), if_neg (fun e => h3 (by omega))]
  · rw [if_neg (fun e => h1 e.1), if_neg (fun e => h1 e.1), if_neg (fun e => h1 e.1)]
theorem flR_o {M : zM} {k k' : zK} {o n f : Nat} {v : Int32} (h : k' ≠ k) : flR M k o n v k' f = M k' f := by unfold flR; rw [if_neg fun e => h e.1]
theorem flR_f {M : zM} {k k' : zK} {o n f : Nat} {v : Int32} (h : ¬ (o ≤ f ∧ f < o + n)) : flR M k o n v k' f = M k' f := by unfold flR; rw [if_neg fun e => h e.2]
theorem flR_i {M : zM} {k : zK} {o n f : Nat} {v : Int32} (h : o ≤ f ∧ f < o + n) : flR M k o n v k f = v := if_pos ⟨rfl, h⟩
theorem flR_n {M : zM} {k k' : zK} {o n f : Nat} {v : Int32} (h : k'.1 ≠ k.1) : flR M k o n v k' f = M k' f := flR_o fun e => h (congrArg Prod.fst e)
theorem u2_n {M : zM} {k k' : zK} {f f' : Nat} {x : Int32} (h : k'.1 ≠ k.1) : u2 M k f x k' f' = M k' f' := u2_k fun e => h (congrArg Prod.fst e)
theorem cpK_n {M : zM} {a c k : zK} {n f : Nat} (h : k.1 ≠ c.1) : cpK M a c n k f = M k f := cpK_o fun e => h (congrArg Prod.fst e)
theorem C63 (X : Nat × (Nat → Int32) × Value) (d : Nat) (M : zM) (G : zG) (r n : Nat) (v : Int32) (hn : n ≤ hln (15, r, 0)) : zd X d 63 [vR (4, r, 0), vI (nI n), vI v] (hh M G) = some (none, hh (flR (u2 M (4, r, 0) 1 (nI n)) (15, r, 0) 0 n v) G) := by
  have hl : hln (15, r, 0) < 2 ^ 31 := by rw [hln_r]; split <;> decide
  have l := zlf (n := n) (f := fun i => zx X d 63 7 [vR (4, r, 0), vI (nI n), vI v, vI (nI i)] [] (hh (flR (u2 M (4, r, 0) 1 (nI n)) (15, r, 0) 0 i v) G)) (fun i hi w ew => by
    have hz : zin (nI i) (hln (15, r, 0)) = true := zin_nI (by omega) hl
    have hc : (nI i).toNatClampNeg = i := nI_clamp (by omega)
    have e1 := flR_s (u2 M (4, r, 0) 1 (nI n)) (15, r, 0) 0 i v
    rw [Nat.zero_add] at e1
    simp only [e63_7, e63_8, e63_9, nle (show n < 2 ^ 31 by omega) (show i < 2 ^ 31 by omega)]
    rw [if_neg (by omega)]
    simp only [e63_12, e63_13, e63_14, e63_17, e63_18]
    rw [if_neg (show ¬ Int32.ofNat (hln (15, r, 0)) ≤ nI i from (show ¬ nI (hln (15, r, 0)) ≤ nI i by rw [nle hl (by omega)]; omega))]
    simp only [e63_21, e63_22, e63_25, e63_26, e63_27, e63_28, e63_31, hz, hc, e1, nI_1]
    exact ew) n 0 (by omega)
  rw [nI_0, flR_0] at l
  simp only [E63, e63_0, e63_1, e63_2, e63_5, e63_6]
  refine Eq.trans l ?_
  simp only [e63_7, e63_8, e63_9, nle (show n < 2 ^ 31 by omega) (show n < 2 ^ 31 by omega)]
  rw [if_pos (Nat.le_refl _)]
  simp only [e63_34]
theorem C64 (X : Nat × (Nat → Int32) × Value) (d : Nat) (M : zM) (G : zG) (r q n : Nat) (hs : M (4, q, 0) 1 = nI n) (hn : n ≤ hln (15, r, 0)) (hq : n ≤ hln (15, q, 0)) : zd X d 64 [vR (4, r, 0), vR (4, q, 0)] (hh M G) = some (none, hh (cpK (u2 M (4, r, 0) 1 (nI n)) (15, q, 0) (15, r, 0) n) G) := by
  have hl : hln (15, r, 0) < 2 ^ 31 := by rw [hln_r]; split <;> decide
  have hl' : hln (15, q, 0) < 2 ^ 31 := by rw [hln_r]; split <;> decide
  have hs' : ∀ i, cpK (u2 M (4, r, 0) 1 (nI n)) (15, q, 0) (15, r, 0) i (4, r, 0) 1 = nI n := fun i => by simp only [flR_n, u2_n, cpK_n, ne_eq, Nat.reduceEqDiff, not_false_eq_true, u2_same]
  have ha : ∀ i, cpK (u2 M (4, r, 0) 1 (nI n)) (15, q, 0) (15, r, 0) i (15, q, 0) i = u2 M (4, r, 0) 1 (nI n) (15, q, 0) i := fun i => by
    unfold cpK
    split <;> rfl
  have l := zlf (n := n) (f := fun i => zx X d 64 10 [vR (4, r, 0), vR (4, q, 0), vI (nI i)] [] (hh (cpK (u2 M (4, r, 0) 1 (nI n)) (15, q, 0) (15, r, 0) i) G)) (fun i hi w ew => by
    have hc : (nI i).toNatClampNeg = i := nI_clamp (by omega)
    have hz : zin (nI i) (hln (15, r, 0)) = true := zin_nI (by omega) hl
    have hz' : zin (nI i) (hln (15, q, 0)) = true := zin_nI (by omega) hl'
    simp only [e64_10, e64_11, e64_12, e64_15, hs', nle (show n < 2 ^ 31 by omega) (show i < 2 ^ 31 by omega)]
    rw [if_neg (by omega)]
    simp only [e64_18, e64_19, e64_20, e64_23, e64_24]
    rw [if_neg (show ¬ Int32.ofNat (hln (15, r, 0)) ≤ nI i from (show ¬ nI (hln (15, r, 0)) ≤ nI i by rw [nle hl (by omega)]; omega))]
    simp only [e64_27, e64_28, e64_29, e64_32, e64_33]
    rw [if_neg (show ¬ Int32.ofNat (hln (15, q, 0)) ≤ nI i from (show ¬ nI (hln (15, q, 0)) ≤ nI i by rw [nle hl' (by omega)]; omega))]
    simp only [e64_36, e64_37, e64_40, e64_41, e64_42, e64_45, e64_46, e64_47, e64_48, e64_51, hz, hz', hc, ha, cpK_s, nI_1]
    exact ew) n 0 (by omega)
  rw [nI_0, cpK_0] at l
  simp only [E64, e64_0, e64_1, e64_2, e64_5, e64_8, e64_9, hs]
  refine Eq.trans l ?_
  simp only [e64_10, e64_11, e64_12, e64_15, hs', nle (show n < 2 ^ 31 by omega) (show n < 2 ^ 31 by omega)]
  rw [if_pos (Nat.le_refl _)]
  simp only [e64_54]
/-- what stands of one LIST -/
def cI (M : zM) (l : Nat) : Prop := M (4, l, 0) 1 = M (28, 0, 0) l ∧ (M (4, l, 0) 1 = -1 ∨ ∃ n, n ≤ 20 ∧ M (4, l, 0) 1 = nI n ∧ ∀ k, k < n → M (15, l, 0) k = M (29, 0, 0) (20 * l + k))
theorem cI_o {M M' : zM} {l : Nat} (h : cI M l) (h1 : M' (4, l, 0) 1 = M (4, l, 0) 1) (h2 : M' (28, 0, 0) l = M (28, 0, 0) l) (h3 : ∀ k, k < 20 → M' (15, l, 0) k = M (15, l, 0) k) (h4 : ∀ k, k < 20 → M' (29, 0, 0) (20 * l + k) = M (29, 0, 0) (20 * l + k)) : cI M' l := by
  obtain ⟨a, b⟩ := h
  refine ⟨by rw [h1, h2]; exact a, ?_⟩
  rw [h1]
  rcases b with b | ⟨n, hn, e, q⟩
  · exact Or.inl b
  · exact Or.inr ⟨n, hn, e, fun k hk => by rw [h3 k (by omega), h4 k (by omega)]; exact q k hk⟩
def cJ (M : zM) (r : Nat) : Prop := M (4, 4 + r, 0) 1 = M (31, 0, 0) r ∧ (M (4, 4 + r, 0) 1 = -1 ∨ ∃ n, n ≤ 9 ∧ M (4, 4 + r, 0) 1 = nI n ∧ M (16, 0, 0) r = M (30, 0, 0) r ∧ (∃ q, q ≤ 5 ∧ M (16, 0, 0) r = nI q) ∧ ∀ k, k < n → (M (15, 4 + r, 0) k = -1 ∧ M (32, 0, 0) (9 * r + k) = -9) ∨ (M (15, 4 + r, 0) k = M (32, 0, 0) (9 * r + k) ∧ ∃ q, q ≤ 5 ∧ M (15, 4 + r, 0) k = nI q))
theorem cJ_o {M M' : zM} {r : Nat} (h : cJ M r) (h1 : M' (4, 4 + r, 0) 1 = M (4, 4 + r, 0) 1) (h2 : M' (31, 0, 0) r = M (31, 0, 0) r) (h3 : ∀ k, k < 9 → M' (15, 4 + r, 0) k = M (15, 4 + r, 0) k) (h4 : ∀ k, k < 9 → M' (32, 0, 0) (9 * r + k) = M (32, 0, 0) (9 * r + k)) (h5 : M' (16, 0, 0) r = M (16, 0, 0) r) (h6 : M' (30, 0, 0) r = M (30, 0, 0) r) : cJ M' r := by
  obtain ⟨a, b⟩ := h
  refine ⟨by rw [h1, h2]; exact a, ?_⟩
  rw [h1, h5, h6]
  rcases b with b | ⟨n, hn, e, q1, q2, q⟩
  · exact Or.inl b
  · exact Or.inr ⟨n, hn, e, q1, q2, fun k hk => by rw [h3 k (by omega), h4 k (by omega)]; exact q k hk⟩
theorem n20 (l k : Nat) : 20 * nI l + nI k = nI (20 * l + k) := by rw [show (20 : Int32) = nI 20 from rfl, pk_mul, nI_add]
theorem n20a (l k m : Nat) : 20 * nI l + nI k + nI m = nI (20 * l + k + m) := by rw [n20, nI_add]
theorem n9 (l k : Nat) : 9 * nI l + nI k = nI (9 * l + k) := by rw [show (9 : Int32) = nI 9 from rfl, pk_mul, nI_add]
theorem szj {n : Nat} (hn : n ≤ 20) : (nI n - 1 : Int32).toInt = (n : Int) - 1 := by
  rw [i_sub_s, nI_int (by omega)]
  · rfl
  · rw [nI_int (by omega), show (1 : Int32).toInt = 1 from rfl]; omega
  · rw [nI_int (by omega), show (1 : Int32).toInt = 1 from rfl]; omega
theorem k4 {l : Nat} (h : l < 4) : ∀ r, ((4, 4 + r, 0) : zK) ≠ (4, l, 0) := fun r e => by
  have := congrArg (fun q : zK => q.2.1) e
  dsimp only at this
  omega
theorem k15 {l : Nat} (h : l < 4) : ∀ r, ((15, 4 + r, 0) : zK) ≠ (15, l, 0) := fun r e => by
  have := congrArg (fun q : zK => q.2.1) e
  dsimp only at this
  omega
theorem kq {s l l' : Nat} (h : l ≠ l') : ((s, l, 0) : zK) ≠ (s, l', 0) := fun e => h (congrArg (fun q : zK => q.2.1) e)
theorem K31 (X : Nat × (Nat → Int32) × Value) (t : Nat) (M : zM) (G : zG) (x n : Int32) (i : Inv t M) : okI X 104 213 [vI x, vI n] t M G := by
  rcases isx_c (n := 4) x (by decide) with ⟨h, -⟩ | ⟨l, hl, rfl, h⟩
  · refine ⟨-1, rfs M 1, G, rfm (rfs M 1) 1, G, ?_, ?_, Inv_rf i⟩
    · simp only [E104, e104_0, e104_1, e104_4, e104_7, e104_8, e104_9, e104_12, e104_13, e104_14, e104_16, e104_19, e104_20, e104_22, e104_25, e104_26, e104_27, e104_30, e104_32, e104_33, e104_34, e104_37, e104_38, e104_39, e104_40, e104_41, e104_44, e104_45, zt0, zt1, zn3, not_false_eq_true, toListS, toListN, zk_some, zpi, if_true, if_false, i10, C119, h, C114_1, q_lt_m1_0, q_le_m1_0, q_eq_m1_0]
    · simp only [E213, e213_0, e213_1, e213_4, e213_7, e213_8, e213_9, e213_12, e213_13, e213_14, e213_16, e213_19, e213_20, e213_22, e213_25, e213_26, e213_27, e213_30, e213_32, e213_33, e213_34, e213_37, e213_38, e213_39, e213_40, e213_41, e213_42, e213_43, e213_45, e213_48, e213_49, e213_52, e213_54, e213_55, e213_56, e213_57, e213_58, e213_59, e213_60, e213_63, e213_66, e213_67, zt0, zt1, zn3, not_false_eq_true, toListS, toListN, zk_some, zpi, if_true, if_false, i10, C207, h, C129_1, q_lt_m1_0, q_le_m1_0, q_eq_m1_0]
  · by_cases h1 : n ≤ 20
    rotate_left
    · refine ⟨-6, rfs M 6, G, rfm (rfs M 6) 6, G, ?_, ?_, Inv_rf i⟩
      · simp only [E104, e104_0, e104_1, e104_4, e104_7, e104_8, e104_9, e104_12, e104_13, e104_14, e104_16, e104_19, e104_20, e104_22, e104_25, e104_26, e104_27, e104_30, e104_32, e104_33, e104_34, e104_37, e104_38, e104_39, e104_40, e104_41, e104_44, e104_45, zt0, zt1, zn3, not_false_eq_true, toListS, toListN, zk_some, zpi, if_true, if_false, i10, C119, h, h1, C114_6, q_lt_m6_0, q_le_m6_0, q_eq_m6_0]
      · simp only [E213, e213_0, e213_1, e213_4, e213_7, e213_8, e213_9, e213_12, e213_13, e213_14, e213_16, e213_19, e213_20, e213_22, e213_25, e213_26, e213_27, e213_30, e213_32, e213_33, e213_34, e213_37, e213_38, e213_39, e213_40, e213_41, e213_42, e213_43, e213_45, e213_48, e213_49, e213_52, e213_54, e213_55, e213_56, e213_57, e213_58, e213_59, e213_60, e213_63, e213_66, e213_67, zt0, zt1, zn3, not_false_eq_true, toListS, toListN, zk_some, zpi, if_true, if_false, i10, C207, h, h1, C129_6, q_lt_m6_0, q_le_m6_0, q_eq_m6_0]
    by_cases h2 : 0 ≤ n
    rotate_left
    · refine ⟨-14, M, G, M, G, ?_, ?_, i⟩
      · simp only [E104, e104_0, e104_1, e104_4, e104_7, e104_8, e104_9, e104_12, e104_13, e104_14, e104_16, e104_19, e104_20, e104_22, e104_25, e104_26, e104_27, e104_30, e104_32, e104_33, e104_34, e104_37, e104_38, e104_39, e104_40, e104_41, e104_44, e104_45, zt0, zt1, zn3, not_false_eq_true, toListS, toListN, zk_some, zpi, if_true, if_false, i10, C119, h, h1, h2]
      · simp only [E213, e213_0, e213_1, e213_4, e213_7, e213_8, e213_9, e213_12, e213_13, e213_14, e213_16, e213_19, e213_20, e213_22, e213_25, e213_26, e213_27, e213_30, e213_32, e213_33, e213_34, e213_37, e213_38, e213_39, e213_40, e213_41, e213_42, e213_43, e213_45, e213_48, e213_49, e213_52, e213_54, e213_55, e213_56, e213_57, e213_58, e213_59, e213_60, e213_63, e213_66, e213_67, zt0, zt1, zn3, not_false_eq_true, toListS, toListN, zk_some, zpi, if_true, if_false, i10, C207, h, h1, h2]
    have h2' : 0 ≤ n.toInt := i_le.mp h2
    have h1' : n.toInt ≤ 20 := i_le.mp h1
    obtain ⟨k, hk, rfl⟩ : ∃ k, k ≤ 20 ∧ n = nI k := ⟨n.toInt.toNat, by omega, nI_up h2'⟩
    have hlq : k ≤ hln (15, l, 0) := by rw [hln_r, if_pos hl]; exact hk
    have c63 := C63 X 11 M G l k 0 hlq
    have lp := zlf (n := 20) (f := fun q => zx X 12 213 42 [vR (7, 0, 0), vI (nI l), vI (nI k), vI (nI q)] [] (hh (flR (u2 (flR (u2 M (4, l, 0) 1 (nI k)) (15, l, 0) 0 k 0) (28, 0, 0) l (nI k)) (29, 0, 0) (20 * l) q 0) G)) (fun q hq w ew => by
      have hz : zin (nI (20 * l + q)) 80 = true := zin_nI (by omega) (by decide)
      have hc : (nI (20 * l + q)).toNatClampNeg = 20 * l + q := nI_clamp (by omega)
      have e : ¬ (20 : Int32) ≤ nI q := by rw [show (20 : Int32) = nI 20 from rfl, nle (by decide) (by omega)]; omega
      simp only [e213_42, e213_43, e213_45]
      rw [if_neg e]
      simp only [e213_48, e213_49, e213_52, e213_54, e213_55, e213_56, e213_57, e213_58, e213_59, e213_60, e213_63, n20, hz, hc, flR_s, nI_1]
      exact ew) 20 0 (by omega)
    rw [nI_0, flR_0] at lp
    refine ⟨1, flR (u2 M (4, l, 0) 1 (nI k)) (15, l, 0) 0 k 0, G, flR (u2 (flR (u2 M (4, l, 0) 1 (nI k)) (15, l, 0) 0 k 0) (28, 0, 0) l (nI k)) (29, 0, 0) (20 * l) 20 0, G, ?_, ?_, i.1, i.2.1, i.2.2.1, i.2.2.2.1, fun l' hl' => ?_, fun r hr => ?_⟩
    · simp only [E104, e104_0, e104_1, e104_4, e104_7, e104_8, e104_9, e104_12, e104_13, e104_14, e104_16, e104_19, e104_20, e104_22, e104_25, e104_26, e104_27, e104_30, e104_32, e104_33, e104_34, e104_37, e104_38, e104_39, e104_40, e104_41, e104_44, e104_45, zt0, zt1, zn3, not_false_eq_true, toListS, toListN, zk_some, zpi, if_true, if_false, i10, C119, h, h1, h2, zin_nI (show l < 4 by omega) (show 4 < 2 ^ 31 by decide), nI_clamp (show l < 2 ^ 31 by omega), c63]
    · simp only [e213_0, e213_1, e213_4, e213_7, e213_8, e213_9, e213_12, e213_13, e213_14, e213_16, e213_19, e213_20, e213_22, e213_25, e213_26, e213_27, e213_30, e213_32, e213_33, e213_34, e213_37, e213_38, e213_39, e213_40, e213_41, E213, zt0, zt1, zn3, not_false_eq_true, toListS, toListN, zk_some, zpi, if_true, if_false, i10, C207, h, h1, h2, zin_nI (show l < 4 by omega) (show 4 < 2 ^ 31 by decide), nI_clamp (show l < 2 ^ 31 by omega)]
      refine Eq.trans lp ?_
      simp only [e213_42, e213_43, e213_45]
      rw [if_pos (by decide)]
      simp only [e213_66, e213_67]
    · show cI _ l'
      by_cases e : l' = l
      · subst e
        refine ⟨?_, Or.inr ⟨k, hk, ?_, fun q hq => ?_⟩⟩
        · simp only [flR_n, u2_n, cpK_n, ne_eq, Nat.reduceEqDiff, not_false_eq_true, u2_same]
        · simp only [flR_n, u2_n, cpK_n, ne_eq, Nat.reduceEqDiff, not_false_eq_true, u2_same]
        · simp only [flR_n, u2_n, cpK_n, ne_eq, Nat.reduceEqDiff, not_false_eq_true, u2_same]
          rw [flR_i (by omega), flR_i (by omega)]
      · refine cI_o (i.2.2.2.2.1 l' hl') ?_ ?_ (fun q hq => ?_) (fun q hq => ?_)
        · simp only [flR_n, u2_n, cpK_n, ne_eq, Nat.reduceEqDiff, not_false_eq_true, u2_same, u2_k (kq e)]
        · simp only [flR_n, u2_n, cpK_n, ne_eq, Nat.reduceEqDiff, not_false_eq_true, u2_same, u2_f e]
        · simp only [flR_n, u2_n, cpK_n, ne_eq, Nat.reduceEqDiff, not_false_eq_true, u2_same, flR_o (kq e)]
        · rw [flR_f (by omega)]
          simp only [flR_n, u2_n, cpK_n, ne_eq, Nat.reduceEqDiff, not_false_eq_true, u2_same]
    · refine cJ_o (i.2.2.2.2.2 r hr) ?_ rfl (fun q hq => ?_) (fun q hq => rfl) rfl rfl
      · simp only [flR_n, u2_n, cpK_n, ne_eq, Nat.reduceEqDiff, not_false_eq_true, u2_same, u2_k (k4 hl r)]
      · simp only [flR_n, u2_n, cpK_n, ne_eq, Nat.reduceEqDiff, not_false_eq_true, u2_same, flR_o (k15 hl r)]
theorem K32 (X : Nat × (Nat → Int32) × Value) (t : Nat) (M : zM) (G : zG) (x y v : Int32) (i : Inv t M) : okI X 105 214 [vI x, vI y, vI v] t M G := by
  rcases isx_c (n := 4) x (by decide) with ⟨h, -⟩ | ⟨l, hl, rfl, h⟩
  · refine ⟨-1, rfs M 1, G, rfm (rfs M 1) 1, G, ?_, ?_, Inv_rf i⟩
    · simp only [E105, e105_0, e105_1, e105_4, e105_7, e105_8, e105_9, e105_12, e105_13, e105_14, e105_17, e105_18, e105_19, e105_21, e105_23, e105_26, e105_29, e105_31, e105_32, e105_34, e105_35, e105_38, e105_41, e105_43, e105_44, e105_46, e105_49, e105_50, e105_51, e105_52, e105_53, zt0, zt1, zn3, not_false_eq_true, toListS, toListN, zk_some, zpi, if_true, if_false, i10, C119, h, C114_1, q_lt_m1_0, q_le_m1_0, q_eq_m1_0]
    · simp only [E214, e214_0, e214_1, e214_4, e214_7, e214_8, e214_9, e214_12, e214_13, e214_14, e214_17, e214_18, e214_19, e214_22, e214_24, e214_25, e214_26, e214_27, e214_28, e214_29, e214_32, e214_33, e214_34, e214_35, e214_36, e214_37, e214_40, e214_43, e214_45, e214_46, e214_47, e214_50, e214_52, e214_53, e214_54, e214_55, e214_56, e214_57, e214_58, e214_59, zt0, zt1, zn3, not_false_eq_true, toListS, toListN, zk_some, zpi, if_true, if_false, i10, C207, h, C129_1, q_lt_m1_0, q_le_m1_0, q_eq_m1_0]
  · obtain ⟨e1, e2⟩ := i.2.2.2.2.1 l hl
    rcases e2 with e2 | ⟨n, hn, e2, e3⟩
    · have e2' : M (28, 0, 0) l = -1 := e1.symm.trans e2
      refine ⟨-11, M, G, M, G, ?_, ?_, i⟩
      · simp only [E105, e105_0, e105_1, e105_4, e105_7, e105_8, e105_9, e105_12, e105_13, e105_14, e105_17, e105_18, e105_19, e105_21, e105_23, e105_26, e105_29, e105_31, e105_32, e105_34, e105_35, e105_38, e105_41, e105_43, e105_44, e105_46, e105_49, e105_50, e105_51, e105_52, e105_53, zt0, zt1, zn3, not_false_eq_true, toListS, toListN, zk_some, zpi, if_true, if_false, i10, C119, h, zin_nI (show l < 4 by omega) (show 4 < 2 ^ 31 by decide), nI_clamp (show l < 2 ^ 31 by omega), D61, e2, show ((0 : Int32) ≤ -1) = False by decide]
      · simp only [E214, e214_0, e214_1, e214_4, e214_7, e214_8, e214_9, e214_12, e214_13, e214_14, e214_17, e214_18, e214_19, e214_22, e214_24, e214_25, e214_26, e214_27, e214_28, e214_29, e214_32, e214_33, e214_34, e214_35, e214_36, e214_37, e214_40, e214_43, e214_45, e214_46, e214_47, e214_50, e214_52, e214_53, e214_54, e214_55, e214_56, e214_57, e214_58, e214_59, zt0, zt1, zn3, not_false_eq_true, toListS, toListN, zk_some, zpi, if_true, if_false, i10, C207, h, zin_nI (show l < 4 by omega) (show 4 < 2 ^ 31 by decide), nI_clamp (show l < 2 ^ 31 by omega), e2', show ((0 : Int32) ≤ -1) = False by decide]
    have e2' : M (28, 0, 0) l = nI n := e1.symm.trans e2
    have p0 : 0 ≤ nI n := by rw [i_le, nI_int (by omega)]; show (0 : Int) ≤ n; omega
    have hlq : n ≤ hln (15, l, 0) := by rw [hln_r, if_pos hl]; exact hn
    rcases isx_c (n := n) y (by omega) with ⟨g, -⟩ | ⟨k, hk, rfl, g⟩
    · have g' : inz y 0 ((n : Int) - 1) = 0 := g
      refine ⟨-13, M, G, M, G, ?_, ?_, i⟩
      · simp only [E105, e105_0, e105_1, e105_4, e105_7, e105_8, e105_9, e105_12, e105_13, e105_14, e105_17, e105_18, e105_19, e105_21, e105_23, e105_26, e105_29, e105_31, e105_32, e105_34, e105_35, e105_38, e105_41, e105_43, e105_44, e105_46, e105_49, e105_50, e105_51, e105_52, e105_53, zt0, zt1, zn3, not_false_eq_true, toListS, toListN, zk_some, zpi, if_true, if_false, i10, C119, h, zin_nI (show l < 4 by omega) (show 4 < 2 ^ 31 by decide), nI_clamp (show l < 2 ^ 31 by omega), D61, e2, p0, C62 X _ _ G l n _ e2 hlq, g]
      · simp only [E214, e214_0, e214_1, e214_4, e214_7, e214_8, e214_9, e214_12, e214_13, e214_14, e214_17, e214_18, e214_19, e214_22, e214_24, e214_25, e214_26, e214_27, e214_28, e214_29, e214_32, e214_33, e214_34, e214_35, e214_36, e214_37, e214_40, e214_43, e214_45, e214_46, e214_47, e214_50, e214_52, e214_53, e214_54, e214_55, e214_56, e214_57, e214_58, e214_59, zt0, zt1, zn3, not_false_eq_true, toListS, toListN, zk_some, zpi, if_true, if_false, i10, C207, h, zin_nI (show l < 4 by omega) (show 4 < 2 ^ 31 by decide), nI_clamp (show l < 2 ^ 31 by omega), e2', p0, C128, j_0, Int32.toInt_toInt64, szj hn, g']
    · have g' : inz (nI k) 0 ((n : Int) - 1) = 1 := g
      have hz : zin (nI k) (hln (15, l, 0)) = true := zin_nI (by omega) (by rw [hln_r]; split <;> decide)
      have hc : (nI k).toNatClampNeg = k := nI_clamp (by omega)
      have hz2 : zin (nI (20 * l + k)) 80 = true := zin_nI (by omega) (by decide)
      have hc2 : (nI (20 * l + k)).toNatClampNeg = 20 * l + k := nI_clamp (by omega)
      refine ⟨1, u2 M (15, l, 0) k v, G, u2 (u2 M (15, l, 0) k v) (29, 0, 0) (20 * l + k) v, G, ?_, ?_, i.1, i.2.1, i.2.2.1, i.2.2.2.1, fun l' hl' => ?_, fun r hr => ?_⟩
      · simp only [E105, e105_0, e105_1, e105_4, e105_7, e105_8, e105_9, e105_12, e105_13, e105_14, e105_17, e105_18, e105_19, e105_21, e105_23, e105_26, e105_29, e105_31, e105_32, e105_34, e105_35, e105_38, e105_41, e105_43, e105_44, e105_46, e105_49, e105_50, e105_51, e105_52, e105_53, zt0, zt1, zn3, not_false_eq_true, toListS, toListN, zk_some, zpi, if_true, if_false, i10, C119, h, zin_nI (show l < 4 by omega) (show 4 < 2 ^ 31 by decide), nI_clamp (show l < 2 ^ 31 by omega), D61, e2, p0, C62 X _ _ G l n _ e2 hlq, g, hz, hc]
      · have e2'' : u2 M (15, l, 0) k v (28, 0, 0) l = nI n := e2'
        simp only [E214, e214_0, e214_1, e214_4, e214_7, e214_8, e214_9, e214_12, e214_13, e214_14, e214_17, e214_18, e214_19, e214_22, e214_24, e214_25, e214_26, e214_27, e214_28, e214_29, e214_32, e214_33, e214_34, e214_35, e214_36, e214_37, e214_40, e214_43, e214_45, e214_46, e214_47, e214_50, e214_52, e214_53, e214_54, e214_55, e214_56, e214_57, e214_58, e214_59, zt0, zt1, zn3, not_false_eq_true, toListS, toListN, zk_some, zpi, if_true, if_false, i10, C207, h, zin_nI (show l < 4 by omega) (show 4 < 2 ^ 31 by decide), nI_clamp (show l < 2 ^ 31 by omega), e2'', p0, C128, j_0, Int32.toInt_toInt64, szj hn, g', n20, hz2, hc2]
      · show cI _ l'
        by_cases e : l' = l
        · subst e
          refine ⟨e1, Or.inr ⟨n, hn, e2, fun q hq => ?_⟩⟩
          by_cases eq : q = k
          · subst eq
            simp only [flR_n, u2_n, cpK_n, ne_eq, Nat.reduceEqDiff, not_false_eq_true, u2_same]
          · simp only [flR_n, u2_n, cpK_n, ne_eq, Nat.reduceEqDiff, not_false_eq_true, u2_same, u2_f eq]
            rw [u2_f (by omega)]
            simp only [flR_n, u2_n, cpK_n, ne_eq, Nat.reduceEqDiff, not_false_eq_true, u2_same]
            exact e3 q hq
        · refine cI_o (i.2.2.2.2.1 l' hl') rfl rfl (fun q hq => ?_) (fun q hq => ?_)
          · simp only [flR_n, u2_n, cpK_n, ne_eq, Nat.reduceEqDiff, not_false_eq_true, u2_same, u2_k (kq e)]
          · rw [u2_f (by omega)]
            simp only [flR_n, u2_n, cpK_n, ne_eq, Nat.reduceEqDiff, not_false_eq_true, u2_same]
      · refine cJ_o (i.2.2.2.2.2 r hr) rfl rfl (fun q hq => ?_) (fun q hq => rfl) rfl rfl
        simp only [flR_n, u2_n, cpK_n, ne_eq, Nat.reduceEqDiff, not_false_eq_true, u2_same, u2_k (k15 hl r)]
