/-! WATER IS NOT LOST: what a bench holds, and what taps give -/
def tps (V : tV) : Nat → Int
  | 0 => 0
  | n + 1 => tps V n + (V n 4).toInt
theorem tps_c {V W : tV} {n : Nat} (h : ∀ j, j < n → V j 4 = W j 4) : tps V n = tps W n := by
  induction n with
  | zero => rfl
  | succ n ih => simp only [tps]; rw [ih fun j hj => h j (by omega), h n (by omega)]
theorem tps_b {V : tV} {nv : Nat} (hV : ∀ j, j < nv → vV V j) : ∀ n, n ≤ nv → 0 ≤ tps V n ∧ tps V n ≤ 9 * n := by
  intro n
  induction n with
  | zero => intro _; exact ⟨Int.le_refl _, Int.le_refl _⟩
  | succ n ih =>
    intro hn
    have ih' := ih (by omega)
    obtain ⟨-, -, -, -, -, -, t1, t2⟩ := hV n (by omega)
    simp only [tps]
    omega
theorem tot_tp {V : tV} {nv : Nat} (hV : ∀ j, j < nv → vV V j) (hw : ∀ j, j < nv → 0 ≤ wat V j ∧ wat V j ≤ brim V j) : ∀ n, n ≤ nv → tot (tpV V nv) n = tot V n + tps V n := by
  intro n
  induction n with
  | zero => intro _; rfl
  | succ n ih =>
    intro hn
    have ih' := ih (by omega)
    have e3 : tpV V nv n 3 = V n 3 + V n 4 := if_pos ⟨rfl, by omega⟩
    have q := brim_v (hV n (by omega))
    have w := hw n (by omega)
    obtain ⟨-, -, -, -, -, -, t1, t2⟩ := hV n (by omega)
    have e : wat (tpV V nv) n = wat V n + (V n 4).toInt := by
      unfold wat at *
      rw [e3]
      exact i_add_s (by omega) (by omega)
    simp only [tot, tps]
    omega
theorem stp_t {B : zB} {nv np : Nat} (h : vb B nv np) : (∀ j f, f ≠ 3 → (stp nv np B).2.1 j f = B.2.1 j f) ∧ tot (stp nv np B).2.1 nv + ((stp nv np B).1 7).toInt = tot B.2.1 nv + tps B.2.1 nv := by
  obtain ⟨S, V, P⟩ := B
  obtain ⟨hc, hw, hr, s1, s2, s3, s4⟩ := h
  have hc : vC S V P nv np := hc
  have hw : ∀ j, j < nv → 0 ≤ wat V j ∧ wat V j ≤ brim V j := hw
  obtain ⟨T, T1, T0, hT⟩ := tpV_t hc.2.2.1 hc.2.2.2.2.1 hw
  have ct : vC S (tpV V nv) P nv np := vC_c rfl rfl (fun j f hf => if_neg fun e => hf e.1) (fun _ _ _ => rfl) hc
  have hp := sPs_t (o := S 6) (st := S 5) ct T1 hT np (Nat.le_refl _)
  have hk := sPs_k (S 6) (S 5) (tpV V nv) P np
  have hV : ∀ j, j < nv → vV (sPs (S 6) (S 5) (tpV V nv) P np).1 j := fun j hj => vV_c (hk.1 j) (ct.2.2.2.2.1 j hj)
  have z := sSs_v (S := uS (uS S 7 0) 8 0) hc.2.2.1 hV T1 hp rfl rfl s1 s2 nv (Nat.le_refl _)
  obtain ⟨k, w, l0, lt, z4, b⟩ := z
  have e7 : (stp nv np (S, V, P)).1 7 = (sSs (uS (uS S 7 0) 8 0) (sPs (S 6) (S 5) (tpV V nv) P np).1 nv).1 7 := by
    unfold stp sStp
    dsimp only
    split
    · rfl
    · exact uS_n (by decide)
  refine ⟨fun j f hf => ?_, ?_⟩
  · show (sSs (uS (uS S 7 0) 8 0) (sPs (S 6) (S 5) (tpV V nv) P np).1 nv).2 j f = V j f
    rw [k j f hf, hk.1 j f hf]
    exact if_neg fun e => hf e.1
  · rw [e7]
    show tot (sSs (uS (uS S 7 0) 8 0) (sPs (S 6) (S 5) (tpV V nv) P np).1 nv).2 nv + _ = tot V nv + tps V nv
    rw [lt, hp.2, ← hT.2]
    exact tot_tp hc.2.2.2.2.1 hw nv (Nat.le_refl _)
theorem bst_t {B : zB} {nv np : Nat} (h : vb B nv np) : ∀ n : Nat, (B.1 4).toInt + 1395 * n ≤ 2000000000 → (∀ j f, f ≠ 3 → (bst nv np B n).2.1 j f = B.2.1 j f) ∧ tot (bst nv np B n).2.1 nv + ((bst nv np B n).1 4).toInt = tot B.2.1 nv + (B.1 4).toInt + n * tps B.2.1 nv := by
  intro n
  induction n with
  | zero => intro _; exact ⟨fun _ _ _ => rfl, by simp [bst]⟩
  | succ n ih =>
    intro hs
    obtain ⟨i1, i2⟩ := ih (by omega)
    have hb := bst_v h n
    obtain ⟨t1, t2⟩ := stp_t hb
    have v := sStp_v (S := (bst nv np B n).1) (V := (bst nv np B n).2.1) (P := (bst nv np B n).2.2) hb
    have v4 : ((stp nv np (bst nv np B n)).1 4).toInt = min 2000000000 (((bst nv np B n).1 4).toInt + ((stp nv np (bst nv np B n)).1 7).toInt) := v.2.2.2.1
    have v7 : ((stp nv np (bst nv np B n)).1 7).toInt ≤ 1395 := v.2.2.1
    have s := bst_s h n
    have et : tps (bst nv np B n).2.1 nv = tps B.2.1 nv := tps_c fun j _ => i1 j 4 (by decide)
    have em : ((n + 1 : Nat) : Int) * tps B.2.1 nv = n * tps B.2.1 nv + tps B.2.1 nv := by rw [Int.natCast_add, Int.add_mul]; simp
    refine ⟨fun j f hf => (t1 j f hf).trans (i1 j f hf), ?_⟩
    show tot (stp nv np (bst nv np B n)).2.1 nv + ((stp nv np (bst nv np B n)).1 4).toInt = _
    rw [em]
    omega
theorem sal_t {V : tV} {x : Int32} {nv : Nat} (h5 : nv ≤ 5) (hw : ∀ j, j < nv → 0 ≤ wat V j ∧ wat V j ≤ 270) (x0 : 0 ≤ x.toInt) (x1 : x.toInt ≤ 2000000000) : ∀ n, n ≤ nv → (sal V x n).toInt = x.toInt + tot V n ∧ 0 ≤ tot V n ∧ tot V n ≤ 270 * n := by
  intro n
  induction n with
  | zero => intro _; exact ⟨by simp [sal, tot], Int.le_refl _, Int.le_refl _⟩
  | succ n ih =>
    intro hn
    obtain ⟨i1, i2, i3⟩ := ih (by omega)
    have w := hw n (by omega)
    have e : (sal V x n + V n 3).toInt = (sal V x n).toInt + wat V n := by
      unfold wat at *
      exact i_add_s (by omega) (by omega)
    simp only [sal, tot]
    omega
/-- taps, one by one -/
def tpi (V : tV) : Nat → Int32
  | 0 => 0
  | n + 1 => tpi V n + V n 4
theorem tpi_t {V : tV} {nv : Nat} (h5 : nv ≤ 5) (hV : ∀ j, j < nv → vV V j) : ∀ n, n ≤ nv → (tpi V n).toInt = tps V n := by
  intro n
  induction n with
  | zero => intro _; rfl
  | succ n ih =>
    intro hn
    have i := ih (by omega)
    have b := tps_b hV n (by omega)
    obtain ⟨-, -, -, -, -, -, t1, t2⟩ := hV n (by omega)
    have e : (tpi V n + V n 4).toInt = (tpi V n).toInt + (V n 4).toInt := i_add_s (by omega) (by omega)
    simp only [tpi, tps]
    omega
theorem vb_w {B : zB} {nv np : Nat} (h : vb B nv np) : ∀ j, j < nv → 0 ≤ wat B.2.1 j ∧ wat B.2.1 j ≤ 270 := fun j hj => by
  have w := h.2.1 j hj
  have b := brim_v (h.1.2.2.2.2.1 j hj)
  omega
/-- PASSES: all that there is grows by what the taps give -/
theorem all_t {B : zB} {nv np : Nat} (h : vb B nv np) (h0 : (B.1 4).toInt = 0) (n : Nat) (hn : n ≤ 99) : sal (bst nv np B n).2.1 ((bst nv np B n).1 4) nv = sal B.2.1 (B.1 4) nv + nI n * tpi B.2.1 nv := by
  have h5 := h.1.2.2.1
  have hV := h.1.2.2.2.2.1
  obtain ⟨i1, i2⟩ := bst_t h n (by omega)
  have hb := bst_v h n
  have s := bst_s h n
  have s0 := hb.2.2.2.1
  have a1 := sal_t (x := B.1 4) h5 (vb_w h) (by omega) (by omega) nv (Nat.le_refl _)
  have a2 := sal_t (x := (bst nv np B n).1 4) h5 (vb_w hb) s0 (by omega) nv (Nat.le_refl _)
  have t := tpi_t h5 hV nv (Nat.le_refl _)
  have tb := tps_b hV nv (Nat.le_refl _)
  have m := mul_bd (show (0 : Int) ≤ (n : Int) by omega) (show (n : Int) ≤ 99 by omega) tb.1 (show tps B.2.1 nv ≤ 45 by omega)
  have em : (nI n * tpi B.2.1 nv).toInt = n * tps B.2.1 nv := by
    rw [i_mul_s, nI_int (by omega), t]
    · rw [nI_int (by omega), t]; omega
    · rw [nI_int (by omega), t]; omega
  apply i_ext
  rw [i_add_s, em]
  · omega
  · rw [em]; omega
  · rw [em]; omega
/-! ODDS -/
def wts (t np : Nat) : Nat → Nat
  | 0 => 0
  | c + 1 => wts t np c + (t - 1) ^ (np - pop c np)
theorem wts_le {nv np : Nat} {B : zB} {t n : Nat} : ∀ c, cas nv np B t n c ≤ wts t np c := by
  intro c
  induction c with
  | zero => exact Nat.le_refl _
  | succ c ih =>
    simp only [cas, wts]
    split <;> omega
theorem cas_0 {nv np : Nat} {B : zB} {t n : Nat} (h : ¬ spB nv np (seto B (nI 0)) n = true) : ∀ c, cas nv np B t n (c + 1) + (t - 1) ^ (np - pop 0 np) ≤ wts t np (c + 1) := by
  intro c
  induction c with
  | zero => simp only [cas, wts, if_neg h]; omega
  | succ c ih =>
    have e1 : cas nv np B t n (c + 1 + 1) ≤ cas nv np B t n (c + 1) + (t - 1) ^ (np - pop (c + 1) np) := by
      rw [show cas nv np B t n (c + 1 + 1) = if spB nv np (seto B (nI (c + 1))) n = true then cas nv np B t n (c + 1) + (t - 1) ^ (np - pop (c + 1) np) else cas nv np B t n (c + 1) from rfl]
      split
      · exact Nat.le_refl _
      · exact Nat.le_add_right _ _
    have e2 : wts t np (c + 1 + 1) = wts t np (c + 1) + (t - 1) ^ (np - pop (c + 1) np) := rfl
    omega
theorem cas_1 {nv np : Nat} {B : zB} {t n : Nat} (h : spB nv np (seto B (nI 0)) n = true) : ∀ c, (t - 1) ^ (np - pop 0 np) ≤ cas nv np B t n (c + 1) := by
  intro c
  induction c with
  | zero => simp only [cas, if_pos h]; omega
  | succ c ih =>
    have e1 : cas nv np B t n (c + 1) ≤ cas nv np B t n (c + 1 + 1) := by
      rw [show cas nv np B t n (c + 1 + 1) = if spB nv np (seto B (nI (c + 1))) n = true then cas nv np B t n (c + 1) + (t - 1) ^ (np - pop (c + 1) np) else cas nv np B t n (c + 1) from rfl]
      split
      · exact Nat.le_add_right _ _
      · exact Nat.le_refl _
    omega
theorem wts_t : ∀ t, t < 6 → ∀ np, np < 4 → 2 ≤ t → wts t np (2 ^ np) = t ^ np ∧ 1 ≤ (t - 1) ^ (np - pop 0 np) := by decide +kernel
theorem seto_0 {B : zB} (h : B.1 6 = 0) : seto B (nI 0) = B := by
  obtain ⟨S, V, P⟩ := B
  have h : S 6 = 0 := h
  unfold seto
  show (uS S 6 (nI 0), V, P) = (S, V, P)
  rw [uS_same (by rw [h]; rfl)]
/-- the odds' fraction -/
theorem odds_t {B : zB} {nv np : Nat} (h6 : B.1 6 = 0) {t : Nat} (t2 : 2 ≤ t) (t5 : t < 6) (n3 : np < 4) : cas nv np B t 1 (2 ^ np) ≤ t ^ np ∧ (spB nv np B 1 = true → 0 < cas nv np B t 1 (2 ^ np)) ∧ (¬ spB nv np B 1 = true → cas nv np B t 1 (2 ^ np) < t ^ np) := by
  obtain ⟨w1, w2⟩ := wts_t t t5 np n3 t2
  obtain ⟨c, hc⟩ : ∃ c, 2 ^ np = c + 1 := ⟨2 ^ np - 1, by have := Nat.pow_pos (n := np) (show 0 < 2 by decide); omega⟩
  have e := seto_0 h6
  have l := wts_le (nv := nv) (np := np) (B := B) (t := t) (n := 1) (2 ^ np)
  refine ⟨by omega, fun q => ?_, fun q => ?_⟩
  · have := cas_1 (nv := nv) (np := np) (B := B) (t := t) (n := 1) (by rw [e]; exact q) c
    rw [hc]
    omega
  · have := cas_0 (nv := nv) (np := np) (B := B) (t := t) (n := 1) (by rw [e]; exact q) c
    rw [hc] at w1 ⊢
    omega
/-! OVER in the next STEP, by bits -/
theorem or_b : ∀ i, i < 3 → ∀ m, m < 2 ^ i → nI m ||| 1 <<< (nI i &&& 31) = nI (m + 2 ^ i) := by decide +kernel
theorem tb_b : ∀ m, m < 8 → (nI m = 0 ↔ m = 0) ∧ ∀ j, j < 3 → ((nI m >>> (nI j &&& 31) &&& 1 = 1) ↔ m.testBit j = true) := by decide +kernel
theorem tb_e : ∀ i, i < 4 → ∀ m, m < 2 ^ i → m ≠ 0 → ∃ j, j < i ∧ m.testBit j = true := by decide +kernel
theorem sSs_b {S : Nat → Int32} {W : tV} (h8 : S 8 = 0) : ∀ i, i ≤ 3 → ∃ m, m < 2 ^ i ∧ (sSs S W i).1 8 = nI m := by
  intro i
  induction i with
  | zero => intro _; exact ⟨0, by decide, h8⟩
  | succ i ih =>
    intro hi
    obtain ⟨m, hm, e⟩ := ih (by omega)
    have c : (nI i).toNatClampNeg = i := nI_clamp (by omega)
    have p : 2 ^ (i + 1) = 2 ^ i + 2 ^ i := by rw [Nat.pow_succ]; omega
    show ∃ m, m < 2 ^ (i + 1) ∧ (spS (sSs S W i).1 (sSs S W i).2 (nI i)) 8 = nI m
    unfold spS
    rw [c]
    by_cases q : 0 < sAb (sSs S W i).2 i
    · rw [if_pos q]
      refine ⟨m + 2 ^ i, by omega, ?_⟩
      rw [uS_n (by decide), uS_s, e]
      exact or_b i (by omega) m hm
    · rw [if_neg q]
      exact ⟨m, by omega, e⟩
theorem stp_8 {B : zB} {nv np : Nat} (h3 : nv ≤ 3) : ∃ m, m < 2 ^ nv ∧ (stp nv np B).1 8 = nI m := by
  obtain ⟨S, V, P⟩ := B
  obtain ⟨m, hm, e⟩ := sSs_b (S := uS (uS S 7 0) 8 0) (W := (sPs (S 6) (S 5) (tpV V nv) P np).1) rfl nv h3
  refine ⟨m, hm, ?_⟩
  unfold stp sStp
  dsimp only
  split
  · exact e
  · rw [uS_n (by decide)]; exact e
theorem fnd_1 {Q : Nat → Bool} : (fnd Q 1 200 = 1) = (Q 1 = true) := by
  have g : ∀ m s, 2 ≤ s → s + m < 1000 → ¬ fnd Q s m = 1 := by
    intro m
    induction m with
    | zero => intro s _ _; show ¬ (-9 : Int32) = 1; decide
    | succ m ih =>
      intro s h2 hm
      unfold fnd
      split
      · rw [show (1 : Int32) = nI 1 from rfl, neq (by omega) (by decide)]; omega
      · exact ih (s + 1) (by omega) (by omega)
  show ((if Q 1 = true then nI 1 else fnd Q 2 199) = 1) = _
  by_cases q : Q 1 = true
  · rw [if_pos q]; exact propext ⟨fun _ => q, fun _ => rfl⟩
  · rw [if_neg q]; exact propext ⟨fun e => absurd e (g 199 2 (by decide) (by decide)), fun e => absurd e q⟩
/-- something runs over in the next STEP just if one of the vessels is told to do so -/
theorem over_t {B : zB} {nv np : Nat} (h3 : nv ≤ 3) : spB nv np B 1 = true ↔ ∃ j, j < nv ∧ fnd (Qov nv np B (nI j)) 1 200 = 1 := by
  obtain ⟨m, hm, e⟩ := stp_8 (B := B) (np := np) h3
  have m8 : m < 8 := by
    have : 2 ^ nv ≤ 2 ^ 3 := Nat.pow_le_pow_right (by decide) h3
    omega
  obtain ⟨z, t⟩ := tb_b m m8
  have es : spB nv np B 1 = true ↔ ¬ m = 0 := by
    have e1 : (bst nv np B 1).1 8 = nI m := e
    have e2 : Qsp nv np B 0 = decide (¬ nI m = 0) := by unfold Qsp; rw [e1]
    unfold spB
    rw [decide_eq_true_eq]
    show (if Qsp nv np B 0 = true then 0 else 1) < 1 ↔ _
    by_cases q : m = 0
    · have e3 : Qsp nv np B 0 = false := by rw [e2]; exact decide_eq_false (fun c => c (z.mpr q))
      rw [e3]
      simp [q]
    · have e3 : Qsp nv np B 0 = true := by rw [e2]; exact decide_eq_true (fun c => q (z.mp c))
      rw [e3]
      simp [q]
  have eo : ∀ j, j < nv → ((fnd (Qov nv np B (nI j)) 1 200 = 1) ↔ m.testBit j = true) := fun j hj => by
    rw [fnd_1]
    have e1 : (bst nv np B 1).1 8 = nI m := e
    unfold Qov
    rw [e1, decide_eq_true_eq]
    exact t j (by omega)
  rw [es]
  constructor
  · intro q
    obtain ⟨j, hj, hb⟩ := tb_e nv (by omega) m hm q
    exact ⟨j, hj, (eo j hj).mpr hb⟩
  · rintro ⟨j, hj, hb⟩ q
    have := (eo j hj).mp hb
    rw [q] at this
    simp at this
/-! MATTERS -/
theorem iabs_n {x : Int32} (h : -2147483648 < x.toInt) : 0 ≤ (iabs x).toInt := by
  unfold iabs
  split
  · rename_i q
    rw [i_le, show (0 : Int32).toInt = 0 from rfl] at q
    exact q
  · rename_i q
    rw [i_le, show (0 : Int32).toInt = 0 from rfl] at q
    rw [i_neg_s h]
    omega
theorem mt_t {W : Nat → Int32} (h : ∀ p, 0 ≤ (W p).toInt) : ∀ n, ∃ j, j ≤ n ∧ mt W (n + 1) = (nI j, W j) := by
  intro n
  induction n with
  | zero =>
    refine ⟨0, Nat.le_refl _, ?_⟩
    show (if (-1 : Int32) < W 0 then (nI 0, W 0) else (-9, -1)) = _
    rw [if_pos]
    rw [i_lt, show (-1 : Int32).toInt = -1 from rfl]
    have := h 0
    omega
  | succ n ih =>
    obtain ⟨j, hj, e⟩ := ih
    show ∃ j, j ≤ n + 1 ∧ (if (mt W (n + 1)).2 < W (n + 1) then (nI (n + 1), W (n + 1)) else mt W (n + 1)) = _
    split
    · exact ⟨n + 1, Nat.le_refl _, rfl⟩
    · exact ⟨j, by omega, e⟩
theorem Wm_n {B : zB} {nv np : Nat} (h : vb B nv np) (n p : Nat) : 0 ≤ (Wm nv np B n p).toInt := by
  have a := (bst_v (vb_o h (1 <<< (nI p &&& 31))) n).2.2.2
  have b := (bst_v (vb_o h 0) n).2.2.2
  unfold Wm smo
  apply iabs_n
  rw [i_sub_s (by omega) (by omega)]
  omega
theorem mat_t {B : zB} {nv np : Nat} (h : vb B nv np) (hp : 0 < np) (n : Nat) : ∃ j, j < np ∧ (mt (Wm nv np B n) np).1 = nI j := by
  obtain ⟨q, rfl⟩ : ∃ q, np = q + 1 := ⟨np - 1, by omega⟩
  obtain ⟨j, hj, e⟩ := mt_t (Wm_n h n) q
  exact ⟨j, by omega, by rw [e]⟩
/-! KINDS, FIGURES as bits -/
theorem or_m : ∀ i, i < 10 → ∀ m, m < 2 ^ i → nI m ||| 1 <<< (nI i &&& 31) = nI (m + 2 ^ i) ∧ m.testBit i = false ∧ (m + 2 ^ i).testBit i = true ∧ ∀ k, k < i → (m + 2 ^ i).testBit k = m.testBit k := by decide +kernel
theorem tb_m : ∀ m, m < 1024 → ∀ j, j < 10 → (nI m >>> (nI j &&& 31)) &&& 1 = if m.testBit j = true then 1 else 0 := by decide +kernel
theorem bits_m (Q : Nat → Int32) : ∀ n, n ≤ 10 → ∃ m, m < 2 ^ n ∧ bits Q n = nI m ∧ ∀ k, k < n → (m.testBit k = true ↔ ¬ Q k = 0) := by
  intro n
  induction n with
  | zero => intro _; exact ⟨0, by decide, rfl, fun k hk => absurd hk (Nat.not_lt_zero k)⟩
  | succ n ih =>
    intro hn
    obtain ⟨m, hm, e, t⟩ := ih (by omega)
    obtain ⟨o1, o2, o3, o4⟩ := or_m n (by omega) m hm
    have p : 2 ^ (n + 1) = 2 ^ n + 2 ^ n := by rw [Nat.pow_succ]; omega
    show ∃ m, m < 2 ^ (n + 1) ∧ (if Q n = 0 then bits Q n else bits Q n ||| 1 <<< (nI n &&& 31)) = nI m ∧ _
    by_cases q : Q n = 0
    · rw [if_pos q]
      refine ⟨m, by omega, e, fun k hk => ?_⟩
      by_cases c : k = n
      · subst c; simp [q, o2]
      · exact t k (by omega)
    · rw [if_neg q]
      refine ⟨m + 2 ^ n, by omega, by rw [e]; exact o1, fun k hk => ?_⟩
      by_cases c : k = n
      · subst c; simp [q, o3]
      · rw [o4 k (by omega)]; exact t k (by omega)
theorem bits_t (Q : Nat → Int32) {n k : Nat} (hn : n ≤ 10) (hk : k < n) : (bits Q n >>> (nI k &&& 31)) &&& 1 = if Q k = 0 then 0 else 1 := by
  obtain ⟨m, hm, e, t⟩ := bits_m Q n hn
  have m9 : m < 1024 := by
    have : 2 ^ n ≤ 2 ^ 10 := Nat.pow_le_pow_right (by decide) hn
    omega
  rw [e, tb_m m m9 k (by omega)]
  by_cases q : Q k = 0
  · rw [if_pos q, if_neg (fun c => ((t k hk).mp c) q)]
  · rw [if_neg q, if_pos ((t k hk).mpr q)]
