/-! tells -/
theorem cb_rd {M : zM} {p : Int32} {N : Nat → Int32} {b : Nat} {B : zB} : cb (rd M p N) b B = rd (cb M b B) p N := by
  funext k f
  unfold cb cm rd uS
  by_cases h1 : k = (1, 0, 0)
  · subst h1
    simp
  · by_cases h2 : k = (14, 0, 0)
    · subst h2
      simp
    · simp only [if_neg h1, if_neg h2]
theorem neg2 {p : Nat} (hp : p ≤ 120) : (-2000 - nI p : Int32) < 0 ∧ ¬ 0 ≤ (-2000 - nI p : Int32) := by
  have : ∀ p, p < 121 → (-2000 - nI p : Int32) < 0 ∧ ¬ 0 ≤ (-2000 - nI p : Int32) := by decide +kernel
  exact this p (by omega)
theorem EX (X : Nat × (Nat → Int32) × Value) (hc : X.2.2.category = 1) (M : zM) (G : zG) (n K : Nat) (e1 : M (1, 0, 0) 1 = nI n) (hn : n ≤ 120) (N0 : Nat → Int32) (hK : K ≤ 120) (ok : ∀ k, k < K → (stk (lt (M (13, 0, 0)) n) (pos (lt (M (13, 0, 0)) n) k)).1 = true) (hend : n ≤ pos (lt (M (13, 0, 0)) n) K) (s0 : Int) : ∀ (j k : Nat) (l3 : zV) (B C : zB) (nv np : Nat), k + j = K → vb B nv np → B.1 6 = 0 → ag nv np B C → (B.1 4).toInt ≤ s0 + 138105 * k →
    (∃ l3' N' B' C' nv' np', zx X 12 74 21 [vR (6, 0, 0), vI (nI k), vI (nI k), l3] [] (hh (rd (cb M 2 B) (nI (pos (lt (M (13, 0, 0)) n) k)) (Ns (lt (M (13, 0, 0)) n) N0 k)) G) = zx X 12 74 90 [vR (6, 0, 0), vI (nI K), vI (nI K), l3'] [] (hh (rd (cb M 2 B') (nI (pos (lt (M (13, 0, 0)) n) K)) N') G) ∧ (∀ M2 R, kp (lt (M (13, 0, 0)) n) K (M2 (26, 0, 0)) → R 5 = 0 → R 13 = nI K → ∃ R', zx X 12 159 64 [vR (7, 0, 0), vI (nI k)] [] (hh (mb (cpK M2 (20, 0, 0) (21, 0, 0) 93) C R) G) = some (some (vI (nI K)), hh (mb (cpK M2 (20, 0, 0) (21, 0, 0) 93) C' R') G) ∧ ∀ f, f ≠ 6 → R' f = R f) ∧ vb B' nv' np' ∧ B'.1 6 = 0 ∧ ag nv' np' B' C' ∧ (B'.1 4).toInt ≤ s0 + 138105 * K)
    ∨ (∃ p l2' l3' p' N' B' C', p ≤ 120 ∧ zx X 12 74 21 [vR (6, 0, 0), vI (nI k), vI (nI k), l3] [] (hh (rd (cb M 2 B) (nI (pos (lt (M (13, 0, 0)) n) k)) (Ns (lt (M (13, 0, 0)) n) N0 k)) G) = zx X 12 74 90 [vR (6, 0, 0), vI (-2000 - nI p), vI l2', l3'] [] (hh (rd (cb M 2 B') p' N') G) ∧ ∀ M2 R, kp (lt (M (13, 0, 0)) n) K (M2 (26, 0, 0)) → R 5 = 0 → R 13 = nI K → ∃ R', zx X 12 159 64 [vR (7, 0, 0), vI (nI k)] [] (hh (mb (cpK M2 (20, 0, 0) (21, 0, 0) 93) C R) G) = some (some (vI (-2000 - nI p)), hh (bk M2 C' R') G) ∧ ∀ f, f ≠ 6 → R' f = R f) := by
  have r1 : ∀ B, cb M 2 B (1, 0, 0) 1 = nI n := fun B => e1
  have t13 : ∀ B, cb M 2 B (13, 0, 0) = M (13, 0, 0) := fun B => rfl
  intro j
  induction j with
  | zero =>
    intro k l3 B C nv np hk hv h6 ha hs
    have : k = K := by omega
    subst this
    left
    refine ⟨l3, Ns (lt (M (13, 0, 0)) n) N0 k, B, C, nv, np, ?_, fun M2 R kP h5 h13 => ⟨R, ?_, fun _ _ => rfl⟩, hv, h6, ha, hs⟩
    · have g0 : ¬ nI k < 0 := by rw [i_lt, nI_int (by omega), show (0 : Int32).toInt = 0 from rfl]; omega
      have c22 := C22 X 11 (cb M 2 B) G n (pos (lt (M (13, 0, 0)) n) k) (r1 B) hn (pos_le k) (Ns (lt (M (13, 0, 0)) n) N0 k)
      simp only [e74_21, e74_22, e74_24, zt0, zt1, zn3, not_false_eq_true, toListS, toListN, zk_some, zpi, if_true, if_false, i10]
      by_cases g : (120 : Int32) ≤ nI k
      · rw [if_pos g]
      · rw [if_neg g]
        simp only [e74_27, e74_28, e74_31, e74_32, e74_35, e74_38, zt0, zt1, zn3, not_false_eq_true, toListS, toListN, zk_some, zpi, if_true, if_false, i10, g0, c22, hend]
    · have m13 : mb (cpK M2 (20, 0, 0) (21, 0, 0) 93) C R (7, 0, 0) 13 = nI k := h13
      simp only [e159_64, e159_65, e159_66, e159_69, zt0, zt1, zn3, not_false_eq_true, toListS, toListN, zk_some, zpi, if_true, if_false, i10, m13, show nI k ≤ nI k from Int32.le_refl _]
      simp only [e159_107, e159_108, e159_111, zt0, zt1, zn3, not_false_eq_true, toListS, toListN, zk_some, zpi, if_true, if_false, i10, m13]
  | succ j ih =>
    intro k l3 B C nv np hk hv h6 ha hs
    have hkK : k < K := by omega
    have okk := ok k hkK
    have fo5 : ¬ fo ((lt (M (13, 0, 0)) n) (pos (lt (M (13, 0, 0)) n) k)) = 5 := fun h => by
      unfold stk at okk
      rw [if_pos h] at okk
      exact Bool.false_ne_true okk
    have pn := fo_m fo5
    obtain ⟨r, nv', np', B', C', hC, hM, hq⟩ := come X _ fo5 (Ns (lt (M (13, 0, 0)) n) N0 (k + 1)) k (by omega) hv h6 ha
    have hC' := hC 6 (rd M (nI (pos (lt (M (13, 0, 0)) n) (k + 1))) (Ns (lt (M (13, 0, 0)) n) N0 (k + 1))) G rd_N
    rw [cb_rd, cb_rd] at hC'
    have c22 := C22 X 11 (cb M 2 B) G n (pos (lt (M (13, 0, 0)) n) k) (r1 B) hn (pos_le k) (Ns (lt (M (13, 0, 0)) n) N0 k)
    have c25 := C25 X hc 6 (cb M 2 B) G n (r1 B) hn (pos (lt (M (13, 0, 0)) n) k) (Ns (lt (M (13, 0, 0)) n) N0 k) (pos_le k)
    have c23 := C23 X 11 (rd (cb M 2 B) (nI (pos (lt (M (13, 0, 0)) n) (k + 1))) (Ns (lt (M (13, 0, 0)) n) N0 (k + 1))) G n (pos (lt (M (13, 0, 0)) n) k) (rd_1.trans (r1 B)) hn (by omega)
    rw [show rd (cb M 2 B) (nI (pos (lt (M (13, 0, 0)) n) (k + 1))) (Ns (lt (M (13, 0, 0)) n) N0 (k + 1)) (13, 0, 0) = M (13, 0, 0) from rd_k (by decide) (by decide)] at c23
    rw [t13, if_pos okk] at c25
    have c25' : zd X 11 25 [vR (1, 0, 0)] (hh (rd (cb M 2 B) (nI (pos (lt (M (13, 0, 0)) n) k)) (Ns (lt (M (13, 0, 0)) n) N0 k)) G) = some (some (vI 1), hh (rd (cb M 2 B) (nI (pos (lt (M (13, 0, 0)) n) (k + 1))) (Ns (lt (M (13, 0, 0)) n) N0 (k + 1))) G) := c25
    have g0 : ¬ nI k < 0 := by rw [i_lt, nI_int (by omega), show (0 : Int32).toInt = 0 from rfl]; omega
    have g1 : ¬ (120 : Int32) ≤ nI k := by rw [i_le, nI_int (by omega), show (120 : Int32).toInt = 120 from rfl]; omega
    have gn : ¬ n ≤ pos (lt (M (13, 0, 0)) n) k := by omega
    have gK : ¬ K ≤ k := by omega
    rcases hq with ⟨hr, e1', e2'⟩ | ⟨hr, vb', h6', ag', hs'⟩
    · right
      have rn : ¬ 0 ≤ r := by rcases hr with rfl | rfl | rfl | rfl | rfl <;> decide
      obtain ⟨n1, n2⟩ := neg2 (p := pos (lt (M (13, 0, 0)) n) k) (by omega)
      refine ⟨pos (lt (M (13, 0, 0)) n) k, nI k + 1, vI (nI (pos (lt (M (13, 0, 0)) n) k)), nI (pos (lt (M (13, 0, 0)) n) (k + 1)), Ns (lt (M (13, 0, 0)) n) N0 (k + 1), B', C', by omega, ?_, fun M2 R kP h5 h13 => ?_⟩
      · simp only [e74_21, e74_22, e74_24, e74_27, e74_28, e74_31, e74_32, e74_35, e74_38, e74_41, e74_42, e74_45, e74_48, e74_49, e74_50, e74_53, e74_56, e74_57, e74_58, e74_59, e74_62, e74_63, e74_66, e74_69, e74_72, e74_75, e74_76, e74_77, e74_80, e74_81, e74_82, e74_83, e74_84, e74_87, zt0, zt1, zn3, not_false_eq_true, toListS, toListN, zk_some, zpi, if_true, if_false, i10, g1, g0, c22, gn, c25', c23, hC', rd_p, rn]
        by_cases g : (120 : Int32) ≤ nI k + 1
        · simp only [e74_21, e74_22, e74_24, zt0, zt1, zn3, not_false_eq_true, toListS, toListN, zk_some, zpi, if_true, if_false, i10, g]
        · simp only [e74_21, e74_22, e74_24, e74_27, e74_28, zt0, zt1, zn3, not_false_eq_true, toListS, toListN, zk_some, zpi, if_true, if_false, i10, g, n1]
      · obtain ⟨p1, p2, p3⟩ := kP k hkK
        obtain ⟨R', hR', hM'⟩ := hM 1 (cpK M2 (20, 0, 0) (21, 0, 0) 93) G R h5 p2 (fun m hm => p3 _ m hm)
        have m13 : mb (cpK M2 (20, 0, 0) (21, 0, 0) 93) C R (7, 0, 0) 13 = nI K := h13
        refine ⟨R', ?_, hR'⟩
        have t151 := T151 X 10 (M := M2) G C' R'
        have p26 : bk M2 C' R' (26, 0, 0) (7 * k) = nI (pos (lt (M (13, 0, 0)) n) k) := p1
        simp only [e159_64, e159_65, e159_66, e159_69, e159_72, e159_73, e159_75, e159_76, e159_77, e159_80, e159_83, e159_84, e159_87, e159_90, e159_91, e159_94, e159_96, e159_97, e159_98, e159_99, e159_100, zt0, zt1, zn3, not_false_eq_true, toListS, toListN, zk_some, zpi, if_true, if_false, i10, m13, i7, nle (show K < 2 ^ 31 by omega) (show k < 2 ^ 31 by omega), gK, hM', rn, t151, zin_nI (show 7 * k < 840 by omega) (show 840 < 2 ^ 31 by decide), nI_clamp (show 7 * k < 2 ^ 31 by omega), p26, show ∀ l : List zV, (none : Option zV).toList ++ l = l from fun _ => rfl]
    · have rp : 0 ≤ r := by rw [i_le, show (0 : Int32).toInt = 0 from rfl]; exact hr
      have next := ih (k + 1) (vI (nI (pos (lt (M (13, 0, 0)) n) k))) B' C' nv' np' (by omega) vb' h6' ag' (by omega)
      have cl : ∀ w, zx X 12 74 21 [vR (6, 0, 0), vI (nI (k + 1)), vI (nI (k + 1)), vI (nI (pos (lt (M (13, 0, 0)) n) k))] [] (hh (rd (cb M 2 B') (nI (pos (lt (M (13, 0, 0)) n) (k + 1))) (Ns (lt (M (13, 0, 0)) n) N0 (k + 1))) G) = w → zx X 12 74 21 [vR (6, 0, 0), vI (nI k), vI (nI k), l3] [] (hh (rd (cb M 2 B) (nI (pos (lt (M (13, 0, 0)) n) k)) (Ns (lt (M (13, 0, 0)) n) N0 k)) G) = w := fun w ew => by
        simp only [e74_21, e74_22, e74_24, e74_27, e74_28, zt0, zt1, zn3, not_false_eq_true, toListS, toListN, zk_some, zpi, if_true, if_false, i10, g1, g0]
        simp only [e74_31, e74_32, e74_35, e74_38, e74_41, e74_42, e74_45, e74_48, e74_49, e74_50, e74_53, e74_56, e74_57, e74_58, e74_59, e74_62, e74_63, e74_66, e74_69, e74_72, e74_75, e74_76, e74_77, e74_80, e74_81, e74_82, e74_83, e74_84, e74_87, zt0, zt1, zn3, not_false_eq_true, toListS, toListN, zk_some, zpi, if_true, if_false, i10, c22, gn, c25', c23, hC', rd_p, rp, nI_1]
        exact ew
      have mdl : ∀ M2 R, kp (lt (M (13, 0, 0)) n) K (M2 (26, 0, 0)) → R 5 = 0 → R 13 = nI K → ∃ R', (∀ f, f ≠ 6 → R' f = R f) ∧ ∀ w, zx X 12 159 64 [vR (7, 0, 0), vI (nI (k + 1))] [] (hh (mb (cpK M2 (20, 0, 0) (21, 0, 0) 93) C' R') G) = w → zx X 12 159 64 [vR (7, 0, 0), vI (nI k)] [] (hh (mb (cpK M2 (20, 0, 0) (21, 0, 0) 93) C R) G) = w := fun M2 R kP h5 h13 => by
        obtain ⟨p1, p2, p3⟩ := kP k hkK
        obtain ⟨R', hR', hM'⟩ := hM 1 (cpK M2 (20, 0, 0) (21, 0, 0) 93) G R h5 p2 (fun m hm => p3 _ m hm)
        have m13 : mb (cpK M2 (20, 0, 0) (21, 0, 0) 93) C R (7, 0, 0) 13 = nI K := h13
        refine ⟨R', hR', fun w ew => ?_⟩
        simp only [e159_64, e159_65, e159_66, e159_69, zt0, zt1, zn3, not_false_eq_true, toListS, toListN, zk_some, zpi, if_true, if_false, i10, m13, nle (show K < 2 ^ 31 by omega) (show k < 2 ^ 31 by omega), gK]
        simp only [e159_72, e159_73, e159_75, e159_76, e159_77, e159_80, e159_83, e159_84, e159_87, e159_90, e159_91, e159_94, e159_96, e159_97, e159_98, e159_99, e159_100, e159_101, e159_104, zt0, zt1, zn3, not_false_eq_true, toListS, toListN, zk_some, zpi, if_true, if_false, i10, i7, hM', rp, nI_1, show ∀ l : List zV, (none : Option zV).toList ++ l = l from fun _ => rfl]
        exact ew
      rw [cl _ rfl]
      rcases next with ⟨l3', N', B2, C2, nv2, np2, c, m, q1, q2, q3, q4⟩ | ⟨p, l2', l3', p', N', B2, C2, hp, c, m⟩
      · refine .inl ⟨l3', N', B2, C2, nv2, np2, c, fun M2 R kP h5 h13 => ?_, q1, q2, q3, q4⟩
        obtain ⟨R', hR', ml⟩ := mdl M2 R kP h5 h13
        obtain ⟨R2, e, hR2⟩ := m M2 R' kP ((hR' 5 (by decide)).trans h5) ((hR' 13 (by decide)).trans h13)
        exact ⟨R2, ml _ e, fun f hf => (hR2 f hf).trans (hR' f hf)⟩
      · refine .inr ⟨p, l2', l3', p', N', B2, C2, hp, c, fun M2 R kP h5 h13 => ?_⟩
        obtain ⟨R', hR', ml⟩ := mdl M2 R kP h5 h13
        obtain ⟨R2, e, hR2⟩ := m M2 R' kP ((hR' 5 (by decide)).trans h5) ((hR' 13 (by decide)).trans h13)
        exact ⟨R2, ml _ e, fun f hf => (hR2 f hf).trans (hR' f hf)⟩
