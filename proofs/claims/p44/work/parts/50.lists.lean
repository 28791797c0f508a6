/-! LISTS: list, put, lays -/
theorem zsf {n : Nat} {f : Nat → Option zR} {Q : Nat → Bool} (h : ∀ i, i < n → Q i = false → ∀ w, f (i + 1) = w → f i = w) : ∀ (m i : Nat), i + m = n → f i = f (fi Q i m) := by
  intro m
  induction m with
  | zero => intro i _; rfl
  | succ m ih =>
    intro i hi
    unfold fi
    by_cases q : Q i = true
    · rw [if_pos q]
    · rw [if_neg q]
      exact (h i (by omega) (Bool.not_eq_true _ ▸ q) _ rfl).trans (ih (i + 1) (by omega))
theorem isx_e (n : Nat) (x a b : Int32) (hb : b.toInt = n) (h : n < 2 ^ 31) : (if x < 0 then (0 : Int32) else if b ≤ x then 0 else 1) = isx n x := by
  unfold isx inz
  by_cases h1 : x < 0
  · rw [if_pos h1, if_pos (show x.toInt < 0 from i_lt.mp h1)]
  · rw [if_neg h1, if_neg (show ¬ x.toInt < 0 from fun q => h1 (i_lt.mpr q))]
    by_cases h2 : b ≤ x
    · have h2' := i_le.mp h2
      rw [if_pos h2, if_pos (show (n : Int) - 1 < x.toInt by omega)]
    · have h2' : ¬ b.toInt ≤ x.toInt := fun q => h2 (i_le.mpr q)
      rw [if_neg h2, if_neg (show ¬ (n : Int) - 1 < x.toInt by omega)]
theorem C119 (X : Nat × (Nat → Int32) × Value) (d : Nat) (M : zM) (G : zG) (x : Int32) : zd X d 119 [vI x] (hh M G) = some (some (vI (isx 4 x)), hh M G) := by rw [D119, isx_e 4 x 0 4 rfl (by decide)]
theorem hln_r {r : Nat} : hln (15, r, 0) = if r < 4 then 20 else 9 := rfl
theorem C62 (X : Nat × (Nat → Int32) × Value) (d : Nat) (M : zM) (G : zG) (r n : Nat) (x : Int32) (hs : M (4, r, 0) 1 = nI n) (hn : n ≤ hln (15, r, 0)) : zd X d 62 [vR (4, r, 0), vI x] (hh M G) = some (some (vI (isx n x)), hh M G) := by
  have hl : hln (15, r, 0) < 2 ^ 31 := by rw [hln_r]; split <;> decide
  have hm : (Int32.ofNat (hln (15, r, 0))).toInt = hln (15, r, 0) := nI_int hl
  have e : isx n x = (if x < 0 then (0 : Int32) else if nI n ≤ x then 0 else if Int32.ofNat (hln (15, r, 0)) ≤ x then 0 else 1) := by
    rw [← isx_e n x 0 (nI n) (nI_int (by omega)) (by omega)]
    by_cases h1 : x < 0
    · rw [if_pos h1, if_pos h1]
    · rw [if_neg h1, if_neg h1]
      by_cases h2 : nI n ≤ x
      · rw [if_pos h2, if_pos h2]
      · have h2' : ¬ (n : Int) ≤ x.toInt := fun q => h2 (i_le.mpr (by rw [nI_int (by omega)]; exact q))
        rw [if_neg h2, if_neg h2, if_neg (fun q => by have := i_le.mp q; rw [hm] at this; omega)]
  rw [e]
  simp only [E62, e62_0, e62_1, e62_4, e62_5, e62_6, e62_9, e62_12, e62_13, e62_14, e62_17, e62_18, e62_21, e62_22, e62_25, e62_26, zt0, zt1, zn3, not_false_eq_true, toListS, toListN, zk_some, zpi, if_true, if_false, i10, hs]
/-- a row filled from o on, n places, with v -/
def flR (M : zM) (k : zK) (o n : Nat) (v : Int32) : zM := fun k' f => if k' = k ∧ o ≤ f ∧ f < o + n then v else M k' f
theorem flR_0 (M : zM) (k : zK) (o : Nat) (v : Int32) : flR M k o 0 v = M := by
  funext k' f
  unfold flR
  rw [if_neg (by omega)]
theorem flR_s (M : zM) (k : zK) (o n : Nat) (v : Int32) : u2 (flR M k o n v) k (o + n) v = flR M k o (n + 1) v := by
  funext k' f
  unfold u2 flR
  by_cases h1 : k' = k
  · by_cases h2 : f = o + n
    · rw [if_pos ⟨h1, h2⟩, if_pos ⟨h1, by omega⟩]
    · rw [if_neg (fun e => h2 e.2)]
      by_cases h3 : o ≤ f ∧ f < o + n
      · rw [if_pos ⟨h1, h3⟩, if_pos ⟨h1, by omega⟩]
      · rw [if_neg (fun e => h3 e.2), if_neg (fun e => h3 (by omega))]
  · rw [if_neg (fun e => h1 e.1), if_neg (fun e => h1 e.1), if_neg (fun e => h1 e.1)]
theorem flR_o {M : zM} {k k' : zK} {o n f : Nat} {v : Int32} (h : k' ≠ k) : flR M k o n v k' f = M k' f := by unfold flR; rw [if_neg fun e => h e.1]
theorem flR_f {M : zM} {k k' : zK} {o n f : Nat} {v : Int32} (h : ¬ (o ≤ f ∧ f < o + n)) : flR M k o n v k' f = M k' f := by unfold flR; rw [if_neg fun e => h e.2]
theorem flR_i {M : zM} {k : zK} {o n f : Nat} {v : Int32} (h : o ≤ f ∧ f < o + n) : flR M k o n v k f = v := if_pos ⟨rfl, h⟩
theorem flR_n {M : zM} {k k' : zK} {o n f : Nat} {v : Int32} (h : k'.1 ≠ k.1) : flR M k o n v k' f = M k' f := flR_o fun e => h (congrArg Prod.fst e)
theorem u2_n {M : zM} {k k' : zK} {f f' : Nat} {x : Int32} (h : k'.1 ≠ k.1) : u2 M k f x k' f' = M k' f' := u2_k fun e => h (congrArg Prod.fst e)
theorem C63 (X : Nat × (Nat → Int32) × Value) (d : Nat) (M : zM) (G : zG) (r n : Nat) (v : Int32) (hn : n ≤ hln (15, r, 0)) : zd X d 63 [vR (4, r, 0), vI (nI n), vI v] (hh M G) = some (none, hh (flR (u2 M (4, r, 0) 1 (nI n)) (15, r, 0) 0 n v) G) := by
  have hl : hln (15, r, 0) < 2 ^ 31 := by rw [hln_r]; split <;> decide
  have l := zlf (n := n) (f := fun i => zx X d 63 7 [vR (4, r, 0), vI (nI n), vI v, vI (nI i)] [] (hh (flR (u2 M (4, r, 0) 1 (nI n)) (15, r, 0) 0 i v) G)) (fun i hi w ew => by
    have hz : zin (nI i) (hln (15, r, 0)) = true := zin_nI (by omega) hl
    have hc : (nI i).toNatClampNeg = i := nI_clamp (by omega)
    have e1 := flR_s (u2 M (4, r, 0) 1 (nI n)) (15, r, 0) 0 i v
    rw [Nat.zero_add] at e1
    simp only [e63_7, e63_8, e63_9, nle (show n < 2 ^ 31 by omega) (show i < 2 ^ 31 by omega)]
    rw [if_neg (by omega)]
    simp only [e63_12, e63_13, e63_14, e63_17, e63_18]
    rw [if_neg (show ¬ Int32.ofNat (hln (15, r, 0)) ≤ nI i from (show ¬ nI (hln (15, r, 0)) ≤ nI i by rw [nle hl (by omega)]; omega))]
    simp only [e63_21, e63_22, e63_25, e63_26, e63_27, e63_28, e63_31, hz, hc, e1, nI_1]
    exact ew) n 0 (by omega)
  rw [nI_0, flR_0] at l
  simp only [E63, e63_0, e63_1, e63_2, e63_5, e63_6]
  refine Eq.trans l ?_
  simp only [e63_7, e63_8, e63_9, nle (show n < 2 ^ 31 by omega) (show n < 2 ^ 31 by omega)]
  rw [if_pos (Nat.le_refl _)]
  simp only [e63_34]
/-- what stands of one LIST -/
def cI (M : zM) (l : Nat) : Prop := M (4, l, 0) 1 = M (28, 0, 0) l ∧ (M (4, l, 0) 1 = -1 ∨ ∃ n, n ≤ 20 ∧ M (4, l, 0) 1 = nI n ∧ ∀ k, k < n → M (15, l, 0) k = M (29, 0, 0) (20 * l + k))
theorem cI_o {M M' : zM} {l : Nat} (h : cI M l) (h1 : M' (4, l, 0) 1 = M (4, l, 0) 1) (h2 : M' (28, 0, 0) l = M (28, 0, 0) l) (h3 : ∀ k, k < 20 → M' (15, l, 0) k = M (15, l, 0) k) (h4 : ∀ k, k < 20 → M' (29, 0, 0) (20 * l + k) = M (29, 0, 0) (20 * l + k)) : cI M' l := by
  obtain ⟨a, b⟩ := h
  refine ⟨by rw [h1, h2]; exact a, ?_⟩
  rw [h1]
  rcases b with b | ⟨n, hn, e, q⟩
  · exact Or.inl b
  · exact Or.inr ⟨n, hn, e, fun k hk => by rw [h3 k (by omega), h4 k (by omega)]; exact q k hk⟩
def cJ (M : zM) (r : Nat) : Prop := M (4, 4 + r, 0) 1 = M (31, 0, 0) r ∧ (M (4, 4 + r, 0) 1 = -1 ∨ ∃ n, n ≤ 9 ∧ M (4, 4 + r, 0) 1 = nI n ∧ M (16, 0, 0) r = M (30, 0, 0) r ∧ (∃ q, q ≤ 5 ∧ M (16, 0, 0) r = nI q) ∧ ∀ k, k < n → (M (15, 4 + r, 0) k = -1 ∧ M (32, 0, 0) (9 * r + k) = -9) ∨ (M (15, 4 + r, 0) k = M (32, 0, 0) (9 * r + k) ∧ ∃ q, q ≤ 5 ∧ M (15, 4 + r, 0) k = nI q))
theorem cJ_o {M M' : zM} {r : Nat} (h : cJ M r) (h1 : M' (4, 4 + r, 0) 1 = M (4, 4 + r, 0) 1) (h2 : M' (31, 0, 0) r = M (31, 0, 0) r) (h3 : ∀ k, k < 9 → M' (15, 4 + r, 0) k = M (15, 4 + r, 0) k) (h4 : ∀ k, k < 9 → M' (32, 0, 0) (9 * r + k) = M (32, 0, 0) (9 * r + k)) (h5 : M' (16, 0, 0) r = M (16, 0, 0) r) (h6 : M' (30, 0, 0) r = M (30, 0, 0) r) : cJ M' r := by
  obtain ⟨a, b⟩ := h
  refine ⟨by rw [h1, h2]; exact a, ?_⟩
  rw [h1, h5, h6]
  rcases b with b | ⟨n, hn, e, q1, q2, q⟩
  · exact Or.inl b
  · exact Or.inr ⟨n, hn, e, q1, q2, fun k hk => by rw [h3 k (by omega), h4 k (by omega)]; exact q k hk⟩
theorem n20 (l k : Nat) : 20 * nI l + nI k = nI (20 * l + k) := by rw [show (20 : Int32) = nI 20 from rfl, pk_mul, nI_add]
theorem n20a (l k m : Nat) : 20 * nI l + nI k + nI m = nI (20 * l + k + m) := by rw [n20, nI_add]
theorem n9 (l k : Nat) : 9 * nI l + nI k = nI (9 * l + k) := by rw [show (9 : Int32) = nI 9 from rfl, pk_mul, nI_add]
theorem szj {n : Nat} (hn : n ≤ 20) : (nI n - 1 : Int32).toInt = (n : Int) - 1 := by
  rw [i_sub_s, nI_int (by omega)]
  · rfl
  · rw [nI_int (by omega), show (1 : Int32).toInt = 1 from rfl]; omega
  · rw [nI_int (by omega), show (1 : Int32).toInt = 1 from rfl]; omega
theorem k4 {l : Nat} (h : l < 4) : ∀ r, ((4, 4 + r, 0) : zK) ≠ (4, l, 0) := fun r e => by
  have := congrArg (fun q : zK => q.2.1) e
  dsimp only at this
  omega
theorem k15 {l : Nat} (h : l < 4) : ∀ r, ((15, 4 + r, 0) : zK) ≠ (15, l, 0) := fun r e => by
  have := congrArg (fun q : zK => q.2.1) e
  dsimp only at this
  omega
theorem kq {s l l' : Nat} (h : l ≠ l') : ((s, l, 0) : zK) ≠ (s, l', 0) := fun e => h (congrArg (fun q : zK => q.2.1) e)
