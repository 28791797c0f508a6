/-! a statement, as the model does -/
def ml : Nat → Nat
  | 0 => 6
  | 1 => 7
  | 2 => 8
  | 3 => 9
  | _ => 5
theorem ml_t : ∀ a, a < 5 → 5 ≤ ml a ∧ ml a < 10 ∧ zsl.getD (ml a) 0 + 1 = (spl a).length ∧ zsl.getD (ml a) 0 ≤ 4 ∧ (∀ x, x < zsl.getD (ml a) 0 → (zsb.getD (ml a) []).getD x 0 = (spl a).getD x 0) ∧ (spl a).getD (zsl.getD (ml a) 0) 0 = 59 := by decide +kernel
theorem fm_fo (c : Int32) : fm c = if fo c = 5 then 10 else ml (fo c) := by
  by_cases h1 : c = 107
  · subst h1; decide
  by_cases h2 : c = 112
  · subst h2; decide
  by_cases h3 : c = 115
  · subst h3; decide
  by_cases h4 : c = 116
  · subst h4; decide
  by_cases h5 : c = 118
  · subst h5; decide
  by_cases h6 : c = 119
  · subst h6; decide
  simp only [fm, fo, h1, h2, h3, h4, h5, h6, if_false, if_true]
theorem i7 {q : Nat} : (7 : Int32) * nI q = nI (7 * q) := by rw [show (7 : Int32) = nI 7 from rfl, pk_mul]
theorem a1 {q : Nat} : nI q + 1 = nI (q + 1) := nI_1 q
theorem a2 {q : Nat} : nI q + 2 = nI (q + 2) := by rw [show (2 : Int32) = nI 2 from rfl, nI_add]
theorem a3 {q : Nat} : nI q + 3 = nI (q + 3) := by rw [show (3 : Int32) = nI 3 from rfl, nI_add]
theorem R157e (X : Nat × (Nat → Int32) × Value) (hc : X.2.2.category = 1) (d : Nat) (M : zM) (G : zG) (al q : Nat) (ha : al < 5) (hq : q < 120) (p l2 : Int32) : ∀ (k x : Nat) (P : Nat → Int32), x + k = zsl.getD (ml al) 0 → ∃ P', zx X (d + 5) 157 77 [vR (7, 0, 0), vI (nI (7 * q)), vI l2, vR (52, ml al, 0), vI (nI x)] [] (hh (mp M p 1 (nI q) P) G) = some (none, hh (mp M p 1 (nI (q + 1)) P') G) ∧ ∀ f, f < 7 * q + 2 → P' f = P f := by
  obtain ⟨t0, t1, t2, t3, t4, t5⟩ := ml_t al ha
  have h11 : ml al < 11 := by omega
  have lnI : Int32.ofNat (zsl.getD (ml al) 0) = nI (zsl.getD (ml al) 0) := rfl
  intro k
  induction k with
  | zero =>
    intro x P hx
    refine ⟨P, ?_, fun _ _ => rfl⟩
    simp only [e157_77, e157_79, e157_80, e157_83, zt0, zt1, zn3, not_false_eq_true, toListS, toListN, zk_some, zpi, if_true, if_false, i10, h11, C225 X _ (ml al) h11, lnI, nle (show zsl.getD (ml al) 0 < 2 ^ 31 by omega) (show x < 2 ^ 31 by omega)]
    refine Eq.trans (if_pos (by omega)) ?_
    simp only [e157_117, e157_118, e157_120, e157_123, e157_124, e157_125, e157_128, e157_129, e157_130, e157_133, zt0, zt1, zn3, not_false_eq_true, toListS, toListN, zk_some, zpi, if_true, if_false, i10, C154e X, mp_13, mp_u13, nI_1, show ∀ l : List zV, (none : Option zV).toList ++ l = l from fun _ => rfl]
  | succ k ih =>
    intro x P hx
    have xl : x < zsl.getD (ml al) 0 := by omega
    obtain ⟨P', l, g⟩ := ih (x + 1) (uS P (7 * q + 3 + x) 0) (by omega)
    refine ⟨P', ?_, fun f hf => (g f hf).trans (uS_n (by omega))⟩
    simp only [e157_77, e157_79, e157_80, e157_83, zt0, zt1, zn3, not_false_eq_true, toListS, toListN, zk_some, zpi, if_true, if_false, i10, h11, C225 X _ (ml al) h11, lnI, nle (show zsl.getD (ml al) 0 < 2 ^ 31 by omega) (show x < 2 ^ 31 by omega)]
    refine Eq.trans (if_neg (by omega)) ?_
    simp only [e157_86, e157_87, e157_88, e157_90, e157_93, e157_96, e157_97, e157_100, e157_101, e157_102, e157_103, e157_105, e157_106, e157_107, e157_110, e157_111, e157_114, zt0, zt1, zn3, not_false_eq_true, toListS, toListN, zk_some, zpi, if_true, if_false, i10, h11, C227 X hc _ (ml al) x h11 xl, C154e X, C155e X, a3, nI_add, nI_1, zin_nI (show 7 * q + 3 + x < 840 by omega) (show 840 < 2 ^ 31 by decide), nI_clamp (show 7 * q + 3 + x < 2 ^ 31 by omega), mp_uP, show ∀ l : List zV, (none : Option zV).toList ++ l = l from fun _ => rfl]
    exact l
theorem R157 (X : Nat × (Nat → Int32) × Value) (hc : X.2.2.category = 1) (d : Nat) (M : zM) (G : zG) (n : Nat) (h8 : M (7, 0, 0) 8 = nI n) (hn : n ≤ 120) (al q : Nat) (ha : al < 5) (hq : q < 120) (l2 : Int32) : ∀ (k x j : Nat) (P : Nat → Int32), x + k = zsl.getD (ml al) 0 → j ≤ n → ∃ P', zx X (d + 5) 157 77 [vR (7, 0, 0), vI (nI (7 * q)), vI l2, vR (52, ml al, 0), vI (nI x)] [] (hh (mp M (nI j) 0 (nI q) P) G) = some (none, hh (mp M (nI (if lt (M (24, 0, 0)) n j = (spl al).getD x 0 then gk (lt (M (24, 0, 0)) n) ((spl al).drop (x + 1)) (j + 1) else (false, j)).2) (if (if lt (M (24, 0, 0)) n j = (spl al).getD x 0 then gk (lt (M (24, 0, 0)) n) ((spl al).drop (x + 1)) (j + 1) else (false, j)).1 = true then 0 else 1) (nI (q + 1)) P') G) ∧ (∀ f, f < 7 * q + 2 → P' f = P f) ∧ ∀ N, (∀ m, m ≤ x → P (7 * q + 2 + m) = N m) → (if lt (M (24, 0, 0)) n j = (spl al).getD x 0 then gk (lt (M (24, 0, 0)) n) ((spl al).drop (x + 1)) (j + 1) else (false, j)).1 = true → ∀ m, m < (spl al).length → P' (7 * q + 2 + m) = (if lt (M (24, 0, 0)) n j = (spl al).getD x 0 then gN (lt (M (24, 0, 0)) n) ((spl al).drop (x + 1)) (j + 1) (x + 1) N else N) m := by
  obtain ⟨t0, t1, t2, t3, t4, t5⟩ := ml_t al ha
  obtain ⟨-, -, w3⟩ := spl_t al ha
  have h11 : ml al < 11 := by omega
  have lnI : Int32.ofNat (zsl.getD (ml al) 0) = nI (zsl.getD (ml al) 0) := rfl
  intro k
  induction k with
  | zero =>
    intro x j P hx hj
    have xe : x = zsl.getD (ml al) 0 := by omega
    have x59 : (spl al).getD x 0 = 59 := by rw [xe]; exact t5
    have dr : (spl al).drop (x + 1) = [] := List.drop_eq_nil_of_le (by omega)
    rw [x59, dr]
    refine ⟨P, ?_, fun _ _ => rfl, fun N hN h m hm => ?_⟩
    · simp only [e157_77, e157_79, e157_80, e157_83, zt0, zt1, zn3, not_false_eq_true, toListS, toListN, zk_some, zpi, if_true, if_false, i10, h11, C225 X _ (ml al) h11, lnI, nle (show zsl.getD (ml al) 0 < 2 ^ 31 by omega) (show x < 2 ^ 31 by omega)]
      refine Eq.trans (if_pos (by omega)) ?_
      simp only [e157_117, e157_118, e157_120, zt0, zt1, zn3, not_false_eq_true, toListS, toListN, zk_some, zpi, if_true, if_false, i10, C154 X (d + 3) M G n j h8 hn hj, show ∀ l : List zV, (none : Option zV).toList ++ l = l from fun _ => rfl]
      by_cases g : lt (M (24, 0, 0)) n j = 59
      · simp only [if_pos g]
        simp only [e157_123, e157_124, e157_125, e157_128, e157_129, e157_130, e157_133, zt0, zt1, zn3, not_false_eq_true, toListS, toListN, zk_some, zpi, if_true, if_false, i10, mp_13, mp_u13, nI_1, show ∀ l : List zV, (none : Option zV).toList ++ l = l from fun _ => rfl]
        rfl
      · simp only [if_neg g]
        simp only [e157_123, e157_124, e157_125, e157_128, e157_129, e157_130, e157_133, zt0, zt1, zn3, not_false_eq_true, toListS, toListN, zk_some, zpi, if_true, if_false, i10, mp_13, mp_u13, nI_1, show ∀ l : List zV, (none : Option zV).toList ++ l = l from fun _ => rfl]
        rfl
    · by_cases g : lt (M (24, 0, 0)) n j = 59
      · rw [if_pos g]
        exact hN m (by omega)
      · rw [if_neg g] at h
        exact absurd h Bool.false_ne_true
  | succ k ih =>
    intro x j P hx hj
    have xl : x < zsl.getD (ml al) 0 := by omega
    have zx' := t4 x xl
    have u4 := (w3 (x + 1) (by omega)).2.2.2.1
    have u5 := (w3 x (by omega)).2.2.2.2
    have head : ∀ (Y : Option zR), zx X (d + 5) 157 96 [vR (7, 0, 0), vI (nI (7 * q)), vI l2, vR (52, ml al, 0), vI (nI x)] [] (hh (if lt (M (24, 0, 0)) n j = (spl al).getD x 0 then mp M (nI (j + 1)) 0 (nI q) P else mp M (nI j) 1 (nI q) P) G) = Y → zx X (d + 5) 157 77 [vR (7, 0, 0), vI (nI (7 * q)), vI l2, vR (52, ml al, 0), vI (nI x)] [] (hh (mp M (nI j) 0 (nI q) P) G) = Y := fun Y hY => by
      simp only [e157_77, e157_79, e157_80, e157_83, zt0, zt1, zn3, not_false_eq_true, toListS, toListN, zk_some, zpi, if_true, if_false, i10, h11, C225 X _ (ml al) h11, lnI, nle (show zsl.getD (ml al) 0 < 2 ^ 31 by omega) (show x < 2 ^ 31 by omega)]
      refine Eq.trans (if_neg (by omega)) ?_
      simp only [e157_86, e157_87, e157_88, e157_90, e157_93, zt0, zt1, zn3, not_false_eq_true, toListS, toListN, zk_some, zpi, if_true, if_false, i10, h11, C227 X hc _ (ml al) x h11 xl, zx', C154 X (d + 3) M G n j h8 hn hj, show ∀ l : List zV, (none : Option zV).toList ++ l = l from fun _ => rfl]
      exact hY
    by_cases g : lt (M (24, 0, 0)) n j = (spl al).getD x 0
    · have jn : j < n := lt_lt fun e => u5 (g.symm.trans e)
      have c155 := C155 X (d + 2) M G n (j + 1) h8 hn (by omega) (nI q) P
      simp only [if_pos g] at head ⊢
      rw [u4]
      unfold gk gN
      rcases hnum : num (lt (M (24, 0, 0)) n) (j + 1) with _ | ⟨v, j2⟩
      · rw [hnum] at c155
        obtain ⟨P', l, g'⟩ := R157e X hc d M G al q ha hq (nI (j + 1)) l2 k (x + 1) (uS P (7 * q + 3 + x) 0) (by omega)
        refine ⟨P', head _ ?_, fun f hf => (g' f hf).trans (uS_n (by omega)), fun N hN h => absurd h Bool.false_ne_true⟩
        simp only [e157_96, e157_97, e157_100, e157_101, e157_102, e157_103, e157_105, e157_106, e157_107, e157_110, e157_111, e157_114, zt0, zt1, zn3, not_false_eq_true, toListS, toListN, zk_some, zpi, if_true, if_false, i10, c155, a3, nI_add, nI_1, zin_nI (show 7 * q + 3 + x < 840 by omega) (show 840 < 2 ^ 31 by decide), nI_clamp (show 7 * q + 3 + x < 2 ^ 31 by omega), mp_uP, show ∀ l : List zV, (none : Option zV).toList ++ l = l from fun _ => rfl]
        exact l
      · rw [hnum] at c155
        have j2n := (num_le hnum).2.1
        obtain ⟨P', l, g1, g2⟩ := ih (x + 1) j2 (uS P (7 * q + 3 + x) v) (by omega) j2n
        refine ⟨P', head _ ?_, fun f hf => (g1 f hf).trans (uS_n (by omega)), fun N hN h => ?_⟩
        · simp only [e157_96, e157_97, e157_100, e157_101, e157_102, e157_103, e157_105, e157_106, e157_107, e157_110, e157_111, e157_114, zt0, zt1, zn3, not_false_eq_true, toListS, toListN, zk_some, zpi, if_true, if_false, i10, c155, a3, nI_add, nI_1, zin_nI (show 7 * q + 3 + x < 840 by omega) (show 840 < 2 ^ 31 by decide), nI_clamp (show 7 * q + 3 + x < 2 ^ 31 by omega), mp_uP, show ∀ l : List zV, (none : Option zV).toList ++ l = l from fun _ => rfl]
          exact l
        · refine g2 (uS N (x + 1) v) (fun m hm => ?_) h
          by_cases e : m = x + 1
          · rw [e, uS_s, show 7 * q + 2 + (x + 1) = 7 * q + 3 + x by omega, uS_s]
          · rw [uS_n e, uS_n (by omega)]
            exact hN m (by omega)
    · simp only [if_neg g] at head ⊢
      obtain ⟨P', l, g'⟩ := R157e X hc d M G al q ha hq (nI j) l2 k (x + 1) (uS P (7 * q + 3 + x) 0) (by omega)
      refine ⟨P', head _ ?_, fun f hf => (g' f hf).trans (uS_n (by omega)), fun N hN h => absurd h Bool.false_ne_true⟩
      simp only [e157_96, e157_97, e157_100, e157_101, e157_102, e157_103, e157_105, e157_106, e157_107, e157_110, e157_111, e157_114, zt0, zt1, zn3, not_false_eq_true, toListS, toListN, zk_some, zpi, if_true, if_false, i10, C155e X, a3, nI_add, nI_1, zin_nI (show 7 * q + 3 + x < 840 by omega) (show 840 < 2 ^ 31 by decide), nI_clamp (show 7 * q + 3 + x < 2 ^ 31 by omega), mp_uP, show ∀ l : List zV, (none : Option zV).toList ++ l = l from fun _ => rfl]
      exact l
theorem C157 (X : Nat × (Nat → Int32) × Value) (hc : X.2.2.category = 1) (d : Nat) (M : zM) (G : zG) (n : Nat) (h8 : M (7, 0, 0) 8 = nI n) (hn : n ≤ 120) (i q : Nat) (hi : i ≤ n) (hq : q < 120) (P : Nat → Int32) : ∃ P' c', zd X (d + 5) 157 [vR (7, 0, 0)] (hh (mp M (nI i) 0 (nI q) P) G) = some (none, hh (mp M (nI (stk (lt (M (24, 0, 0)) n) i).2) (if (stk (lt (M (24, 0, 0)) n) i).1 = true then 0 else 1) c' P') G) ∧ (∀ f, f < 7 * q → P' f = P f) ∧ ((stk (lt (M (24, 0, 0)) n) i).1 = true → c' = nI (q + 1) ∧ P' (7 * q) = nI i ∧ P' (7 * q + 1) = lt (M (24, 0, 0)) n i ∧ ∀ N m, m < (spl (fo (lt (M (24, 0, 0)) n i))).length → P' (7 * q + 2 + m) = stN (lt (M (24, 0, 0)) n) i N m) := by
  have h5 := fo_5 (lt (M (24, 0, 0)) n i)
  have z0 := zin_nI (show 7 * q < 840 by omega) (show 840 < 2 ^ 31 by decide)
  have z1 := zin_nI (show 7 * q + 1 < 840 by omega) (show 840 < 2 ^ 31 by decide)
  have z2 := zin_nI (show 7 * q + 2 < 840 by omega) (show 840 < 2 ^ 31 by decide)
  have y0 := nI_clamp (show 7 * q < 2 ^ 31 by omega)
  have y1 := nI_clamp (show 7 * q + 1 < 2 ^ 31 by omega)
  have y2 := nI_clamp (show 7 * q + 2 < 2 ^ 31 by omega)
  have c153 := fun c P => C153 X (d + 4) M G n i h8 hn hi 0 c P
  unfold stk stN
  by_cases g : fo (lt (M (24, 0, 0)) n i) = 5
  · have fme : fm (lt (M (24, 0, 0)) n i) = 10 := by rw [fm_fo, if_pos g]
    simp only [if_pos g]
    refine ⟨uS (uS P (7 * q) (nI i)) (7 * q + 1) (lt (M (24, 0, 0)) n i), nI q, ?_, fun f hf => ?_, fun h => absurd h Bool.false_ne_true⟩
    · simp only [e157_0, e157_2, e157_3, e157_6, e157_7, e157_8, e157_9, e157_12, e157_13, e157_14, e157_17, e157_18, e157_19, e157_22, e157_23, e157_24, e157_27, e157_28, e157_29, e157_32, e157_33, e157_34, e157_35, e157_36, e157_37, e157_38, e157_40, e157_43, e157_46, e157_47, e157_48, e157_51, E157, zt0, zt1, zn3, not_false_eq_true, toListS, toListN, zk_some, zpi, if_true, if_false, i10, mp_13, mp_9, i7, c153, C156 X, fme, a1, z0, z1, y0, y1, mp_uP, C228s X, show (10 : Nat) < 11 by decide, show ¬ (1 : Int32) = 0 by decide, mp_u10, or_true, show ∀ l : List zV, (none : Option zV).toList ++ l = l from fun _ => rfl]
      rfl
    · rw [uS_n (by omega), uS_n (by omega)]
  · have il := fo_m g
    have ha : fo (lt (M (24, 0, 0)) n i) < 5 := by omega
    have fme : fm (lt (M (24, 0, 0)) n i) = ml (fo (lt (M (24, 0, 0)) n i)) := by rw [fm_fo, if_neg g]
    obtain ⟨t0, t1, t2, t3, t4, t5⟩ := ml_t _ ha
    have u4 := ((spl_t _ ha).2.2 0 (by omega)).2.2.2.1
    rw [List.drop_zero] at u4
    generalize hal : fo (lt (M (24, 0, 0)) n i) = al at *
    have h11 : ml al < 11 := by omega
    simp only [if_neg g]
    have c155 := fun P => C155 X (d + 2) M G n (i + 1) h8 hn (by omega) (nI q) P
    have head : ∀ (P2 : Nat → Int32) (Y : Option zR), (P2 = uS (uS P (7 * q) (nI i)) (7 * q + 1) (lt (M (24, 0, 0)) n i)) → zk (zd X (d + 4) 155 [vR (7, 0, 0)] (hh (mp M (nI (i + 1)) 0 (nI q) P2) G)) (fun r h' => zx X (d + 5) 157 73 [vR (7, 0, 0), vI (nI (7 * q)), vI (lt (M (24, 0, 0)) n i), vR (52, ml al, 0), vN] (r.toList ++ [vI (nI (7 * q + 2)), vR (26, 0, 0)]) h') = Y → zd X (d + 5) 157 [vR (7, 0, 0)] (hh (mp M (nI i) 0 (nI q) P) G) = Y := fun P2 Y e hY => by
      subst e
      simp only [e157_0, e157_2, e157_3, e157_6, e157_7, e157_8, e157_9, e157_12, e157_13, e157_14, e157_17, e157_18, e157_19, e157_22, e157_23, e157_24, e157_27, e157_28, e157_29, e157_32, e157_33, e157_34, e157_35, e157_36, e157_37, e157_38, e157_40, e157_43, e157_46, e157_47, e157_48, e157_51, e157_52, e157_53, e157_54, e157_57, e157_58, e157_59, e157_62, e157_63, e157_66, e157_67, e157_68, e157_69, e157_70, E157, zt0, zt1, zn3, not_false_eq_true, toListS, toListN, zk_some, zpi, if_true, if_false, i10, mp_13, mp_9, i7, c153, C156 X, fme, a1, z0, z1, y0, y1, mp_uP, C228n X (d + 3) (ml al) t0 t1, h11, mp_u9, a2, show ∀ l : List zV, (none : Option zV).toList ++ l = l from fun _ => rfl]
      exact hY
    have gke : ∀ i', gk (lt (M (24, 0, 0)) n) (spl al) i' = match num (lt (M (24, 0, 0)) n) i' with
        | none => (false, i')
        | some (_, j) => if lt (M (24, 0, 0)) n j = (spl al).getD 0 0 then gk (lt (M (24, 0, 0)) n) ((spl al).drop (0 + 1)) (j + 1) else (false, j) := fun i' => (congrArg (fun r => gk (lt (M (24, 0, 0)) n) r i') u4).trans rfl
    have gNe : ∀ i' N, gN (lt (M (24, 0, 0)) n) (spl al) i' 0 N = match num (lt (M (24, 0, 0)) n) i' with
        | none => N
        | some (v, j) => if lt (M (24, 0, 0)) n j = (spl al).getD 0 0 then gN (lt (M (24, 0, 0)) n) ((spl al).drop (0 + 1)) (j + 1) (0 + 1) (uS N 0 v) else uS N 0 v := fun i' N => (congrArg (fun r => gN (lt (M (24, 0, 0)) n) r i' 0 N) u4).trans rfl
    simp only [gke, gNe]
    rcases hnum : num (lt (M (24, 0, 0)) n) (i + 1) with _ | ⟨v, j⟩
    · have c := c155 (uS (uS P (7 * q) (nI i)) (7 * q + 1) (lt (M (24, 0, 0)) n i))
      rw [hnum] at c
      obtain ⟨P', l, g'⟩ := R157e X hc d M G al q ha hq (nI (i + 1)) (lt (M (24, 0, 0)) n i) (zsl.getD (ml al) 0) 0 (uS (uS (uS P (7 * q) (nI i)) (7 * q + 1) (lt (M (24, 0, 0)) n i)) (7 * q + 2) 0) (Nat.zero_add _)
      rw [nI_0] at l
      refine ⟨P', nI (q + 1), head _ _ rfl ?_, fun f hf => ?_, fun h => absurd h Bool.false_ne_true⟩
      · simp only [e157_73, e157_74, e157_75, zt0, zt1, zn3, not_false_eq_true, toListS, toListN, zk_some, zpi, if_true, if_false, i10, c, z2, y2, mp_uP, show ∀ l : List zV, (none : Option zV).toList ++ l = l from fun _ => rfl]
        exact l
      · rw [g' f (by omega), uS_n (by omega), uS_n (by omega), uS_n (by omega)]
    · have c := c155 (uS (uS P (7 * q) (nI i)) (7 * q + 1) (lt (M (24, 0, 0)) n i))
      rw [hnum] at c
      obtain ⟨P', l, g1, g2⟩ := R157 X hc d M G n h8 hn al q ha hq (lt (M (24, 0, 0)) n i) (zsl.getD (ml al) 0) 0 j (uS (uS (uS P (7 * q) (nI i)) (7 * q + 1) (lt (M (24, 0, 0)) n i)) (7 * q + 2) v) (Nat.zero_add _) (num_le hnum).2.1
      rw [nI_0] at l
      refine ⟨P', nI (q + 1), head _ _ rfl ?_, fun f hf => ?_, fun h => ⟨rfl, ?_, ?_, fun N m hm => ?_⟩⟩
      · simp only [e157_73, e157_74, e157_75, zt0, zt1, zn3, not_false_eq_true, toListS, toListN, zk_some, zpi, if_true, if_false, i10, c, z2, y2, mp_uP, show ∀ l : List zV, (none : Option zV).toList ++ l = l from fun _ => rfl]
        exact l
      · rw [g1 f (by omega), uS_n (by omega), uS_n (by omega), uS_n (by omega)]
      · rw [g1 _ (by omega), uS_n (by omega), uS_n (by omega), uS_s]
      · rw [g1 _ (by omega), uS_n (by omega), uS_s]
      · refine g2 (uS N 0 v) (fun m hm => ?_) h m hm
        have : m = 0 := by omega
        subst this
        rw [uS_s]
        exact uS_s.symm
