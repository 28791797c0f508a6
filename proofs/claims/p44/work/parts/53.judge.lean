/-! like; judge -/
def cpO (M : zM) (k : zK) (o p n : Nat) : zM := fun k' f => if k' = k ∧ o ≤ f ∧ f < o + n then M k (p + (f - o)) else M k' f
theorem cpO_0 {M : zM} {k : zK} {o p : Nat} : cpO M k o p 0 = M := by
  funext k' f
  unfold cpO
  rw [if_neg (by omega)]
theorem cpO_r {M : zM} {k : zK} {o p n : Nat} (h : o = p ∨ o + 9 ≤ p ∨ p + 9 ≤ o) (hn : n < 9) : cpO M k o p n k (p + n) = M k (p + n) := by
  unfold cpO
  rw [if_neg (by omega)]
theorem cpO_s {M : zM} {k : zK} {o p n : Nat} : u2 (cpO M k o p n) k (o + n) (M k (p + n)) = cpO M k o p (n + 1) := by
  funext k' f
  unfold u2 cpO
  by_cases h1 : k' = k
  · by_cases h2 : f = o + n
    · rw [if_pos ⟨h1, h2⟩, if_pos ⟨h1, by omega⟩, show p + (f - o) = p + n by omega]
    · rw [if_neg (fun e => h2 e.2)]
      by_cases h3 : o ≤ f ∧ f < o + n
      · rw [if_pos ⟨h1, h3⟩, if_pos ⟨h1, by omega⟩]
      · rw [if_neg (fun e => h3 e.2), if_neg (fun e => h3 (by omega))]
  · rw [if_neg (fun e => h1 e.1), if_neg (fun e => h1 e.1), if_neg (fun e => h1 e.1)]
theorem cpO_n {M : zM} {k k' : zK} {o p n f : Nat} (h : k'.1 ≠ k.1) : cpO M k o p n k' f = M k' f := by unfold cpO; rw [if_neg fun e => h (congrArg Prod.fst e.1)]
theorem cpO_f {M : zM} {k k' : zK} {o p n f : Nat} (h : ¬ (o ≤ f ∧ f < o + n)) : cpO M k o p n k' f = M k' f := by unfold cpO; rw [if_neg fun e => h e.2]
theorem cpO_i {M : zM} {k : zK} {o p n f : Nat} (h : o ≤ f ∧ f < o + n) : cpO M k o p n k f = M k (p + (f - o)) := if_pos ⟨rfl, h⟩
def Qj (nv np : Nat) (T : Nat → Int32) (B : zB) (s : Nat) : Bool := decide (¬ T s = -2147483648 ∧ ¬ T s = (bst nv np B s).2.1 0 3)
def jr (n m : Nat) : Int32 := if m = n then -9 else nI m
theorem C47 (X : Nat × (Nat → Int32) × Value) (d : Nat) {M : zM} (G : zG) {nv np : Nat} (s : ST M nv np) (l n : Nat) (hl : l < 4) (hn : n ≤ 20) (e2 : M (4, l, 0) 1 = nI n) (hv : 0 < nv) : ∃ B', zd X (d + 4) 47 [vR (2, 0, 0), vR (0, 0, 0), vR (4, l, 0)] (hh M G) = some (some (vI (jr n (fi (Qj nv np (M (15, l, 0)) (bc M nv np)) 0 n))), hh (cb M 3 B') G) := by
  have vc := s.2.2.2.2.2.2.2.2.2.2.1
  have n5 := s.1
  have hlq : n ≤ hln (15, l, 0) := by rw [hln_r, if_pos hl]; exact hn
  have iv : isx nv 0 = 1 := isx_y (j := 0) hv (by omega)
  have es : ∀ B, cb M 3 B (4, l, 0) 1 = nI n := fun B => e2
  have ep : ∀ (B : zB) (k : Nat), cb M 3 B (15, l, 0) k = M (15, l, 0) k := fun B k => rfl
  have g2 : ∀ k, cb M 3 (bst nv np (bc M nv np) k) (0, 3, 0) 2 = nI nv := fun k => (bst_v vc k).1.1
  have hb := fi_b (Q := Qj nv np (M (15, l, 0)) (bc M nv np)) n 0
  have lp := zsf (n := n) (f := fun k => zx X (d + 4) 47 10 [vR (2, 0, 0), vR (0, 0, 0), vR (4, l, 0), vI (nI k)] [] (hh (cb M 3 (bst nv np (bc M nv np) k)) G)) (Q := Qj nv np (M (15, l, 0)) (bc M nv np)) (fun k hk hQ w ew => by
    have hQ' := of_decide_eq_false hQ
    have c62 := C62 X (d + 3) (cb M 3 (bst nv np (bc M nv np) k)) G l n (nI k) (es _) hlq
    rw [isx_y hk (by omega)] at c62
    have c2 := C2b X (d + 3) (cb M 3 (bst nv np (bc M nv np) k)) G 3 nv (g2 k) n5 0
    rw [iv] at c2
    have hz : zin (nI k) (hln (15, l, 0)) = true := zin_nI (by omega) (by rw [hln_r]; split <;> decide)
    have hc : (nI k).toNatClampNeg = k := nI_clamp (by omega)
    have st := W11 X d M G vc k
    simp only [e47_10, e47_11, e47_12, e47_15, e47_18, e47_19, e47_22, e47_23, e47_26, e47_29, e47_30, e47_33, e47_34, e47_35, e47_37, zt0, zt1, zn3, not_false_eq_true, toListS, toListN, zk_some, zpi, if_true, if_false, i10, c62, c2, hz, hc, ep]
    by_cases q1 : M (15, l, 0) k = -2147483648
    · rw [if_pos q1]
      simp only [e47_63, e47_64, e47_67, e47_70, e47_73, zt0, zt1, zn3, not_false_eq_true, toListS, toListN, zk_some, zpi, st, nI_1]
      exact ew
    · rw [if_neg q1]
      have q2 : M (15, l, 0) k = (bst nv np (bc M nv np) k).2.1 0 3 := by
        by_cases q : M (15, l, 0) k = (bst nv np (bc M nv np) k).2.1 0 3
        · exact q
        · exact absurd ⟨q1, q⟩ hQ'
      simp only [e47_40, e47_41, e47_44, e47_45, e47_46, e47_47, e47_50, e47_53, e47_54, e47_55, e47_58, zt0, zt1, zn3, not_false_eq_true, toListS, toListN, zk_some, zpi, if_true, if_false, i10, hz, hc, ep, show zin 0 5 = true by decide, t0, cb_V]
      rw [if_pos q2]
      simp only [e47_63, e47_64, e47_67, e47_70, e47_73, zt0, zt1, zn3, not_false_eq_true, toListS, toListN, zk_some, zpi, st, nI_1]
      exact ew) n 0 (by omega)
  rw [nI_0] at lp
  generalize hm : fi (Qj nv np (M (15, l, 0)) (bc M nv np)) 0 n = m at lp hb ⊢
  refine ⟨bst nv np (bc M nv np) m, ?_⟩
  simp only [E47, e47_0, e47_1, e47_4, e47_5, e47_8, e47_9, zt0, zt1, zn3, not_false_eq_true, toListS, toListN, zk_some, zpi, T1 X _ G s]
  refine Eq.trans lp ?_
  unfold jr
  by_cases e : m = n
  · subst e
    have c62 := C62 X (d + 3) (cb M 3 (bst nv np (bc M nv np) m)) G l m (nI m) (es _) hlq
    rw [show isx m (nI m) = 0 from inz_n (by rw [nI_int (by omega)]; omega)] at c62
    simp only [e47_10, e47_11, e47_12, e47_15, zt0, zt1, zn3, not_false_eq_true, toListS, toListN, zk_some, zpi, if_true, if_false, i10, c62, e47_76, e47_78, if_pos]
  · have hk : m < n := by omega
    have hQ' := of_decide_eq_true (hm ▸ fi_t (Q := Qj nv np (M (15, l, 0)) (bc M nv np)) n 0 (by rw [hm]; omega))
    have c62 := C62 X (d + 3) (cb M 3 (bst nv np (bc M nv np) m)) G l n (nI m) (es _) hlq
    rw [isx_y hk (by omega)] at c62
    have c2 := C2b X (d + 3) (cb M 3 (bst nv np (bc M nv np) m)) G 3 nv (g2 m) n5 0
    rw [iv] at c2
    have hz : zin (nI m) (hln (15, l, 0)) = true := zin_nI (by omega) (by rw [hln_r]; split <;> decide)
    have hc : (nI m).toNatClampNeg = m := nI_clamp (by omega)
    rw [if_neg e]
    simp only [e47_10, e47_11, e47_12, e47_15, e47_18, e47_19, e47_22, e47_23, e47_26, e47_29, e47_30, e47_33, e47_34, e47_35, e47_37, zt0, zt1, zn3, not_false_eq_true, toListS, toListN, zk_some, zpi, if_true, if_false, i10, c62, c2, hz, hc, ep]
    rw [if_neg hQ'.1]
    simp only [e47_40, e47_41, e47_44, e47_45, e47_46, e47_47, e47_50, e47_53, e47_54, e47_55, e47_58, zt0, zt1, zn3, not_false_eq_true, toListS, toListN, zk_some, zpi, if_true, if_false, i10, hz, hc, ep, show zin 0 5 = true by decide, t0, cb_V]
    rw [if_neg hQ'.2]
    simp only [e47_61, e47_62]
theorem Qj_c {nv np n : Nat} {T U : Nat → Int32} {B C : zB} (h : vb B nv np) (a : ag nv np B C) (hv : 0 < nv) (e : ∀ k, k < n → T k = U k) : fi (Qj nv np T B) 0 n = fi (Qj nv np U C) 0 n := fi_c _ _ fun k _ hk => by
  unfold Qj
  rw [e k (by omega), (bst_c h a k).2.1 0 3 hv (by decide)]
