/-! least -/
theorem T1z (X : Nat × (Nat → Int32) × Value) (d : Nat) {M : zM} (G : zG) {nv np : Nat} (s : ST M nv np) (Z : zB) : zd X (d + 1) 1 [vR (0, 3, 0), vR (0, 0, 0)] (hh (cb M 3 Z) G) = some (none, hh (cb M 3 (cpB nv np Z (gb M 0))) G) := by
  obtain ⟨n5, n8, e2, e3, -, -, v, -⟩ := s
  exact B1 X d M G 3 0 Z (by decide) nv np e2 e3 n5 n8 (fun p hp => (v.2.2.1 p hp).imp id And.left)
theorem ST_z {M : zM} {nv np : Nat} (s : ST M nv np) (Z : zB) : vb (cpB nv np Z (gb M 0)) nv np ∧ ag nv np (cpB nv np Z (gb M 0)) (bm M) ∧ (cpB nv np Z (gb M 0)).1 6 = 0 := by
  obtain ⟨-, -, -, -, -, -, v, o6, -, a, -⟩ := s
  have g6 : (gb M 0).1 6 = 0 := o6
  have c1 : ag nv np (gb M 0) (cpB nv np Z (gb M 0)) := cpB_ag g6
  exact ⟨ag_v g6 c1 v, ag_t (ag_s g6 c1) a, rfl⟩
theorem vb_water {B : zB} {nv np j m : Nat} (h : vb B nv np) (hj : j < nv) (hm : (m : Int) ≤ brim B.2.1 j) : vb (B.1, uV B.2.1 j 3 (nI m), B.2.2) nv np := by
  have vj := brim_v (h.1.2.2.2.2.1 j hj)
  obtain ⟨⟨v1, v2, v3, v4, v5, v6⟩, v7, v8, v9⟩ := h
  refine ⟨vC_c rfl rfl (fun r f hf => uV_f hf) (fun _ _ _ => rfl) ⟨v1, v2, v3, v4, v5, v6⟩, fun r hr => ?_, v8, v9⟩
  have eb : brim (uV B.2.1 j 3 (nI m)) r = brim B.2.1 r := by unfold brim; rw [uV_f (by decide), uV_f (by decide)]
  show 0 ≤ wat (uV B.2.1 j 3 (nI m)) r ∧ wat (uV B.2.1 j 3 (nI m)) r ≤ brim (uV B.2.1 j 3 (nI m)) r
  rw [wat_u, eb]
  by_cases e : r = j
  · subst e
    rw [if_pos rfl, nI_int (by omega)]
    omega
  · rw [if_neg e]
    exact v7 r hr
theorem stp_k {nv np : Nat} {B : zB} {p g : Nat} (h : g ≠ 7) : (stp nv np B).2.2 p g = B.2.2 p g := (sPs_k (B.1 6) (B.1 5) (tpV B.2.1 nv) B.2.2 np).2 p g h
theorem bst_k {nv np : Nat} {B : zB} {p g : Nat} (h : g ≠ 7) : ∀ n, (bst nv np B n).2.2 p g = B.2.2 p g := by
  intro n
  induction n with
  | zero => rfl
  | succ n ih => exact (stp_k h).trans ih
/-- RUNS behind the STEP s + 1 -/
def Qrw (nv np : Nat) (B : zB) (p s : Nat) : Bool := decide (¬ (bst nv np B (s + 1)).2.2 p 7 = 0)
def rwB (nv np : Nat) (B : zB) (p n : Nat) : Bool := decide (fi (Qrw nv np B p) 0 n < n)
theorem rwB_c {nv np : Nat} {B C : zB} (h : vb B nv np) (h6 : B.1 6 = 0) (a : ag nv np B C) (p n : Nat) (hp : p < np) : rwB nv np B p n = rwB nv np C p n := by
  unfold rwB
  rw [fi_c (Q := Qrw nv np B p) (Q' := Qrw nv np C p) n 0 fun k _ _ => by
    unfold Qrw
    rw [(bst_c h a (k + 1)).2.2 p 7 hp (by decide) (fun _ => by rw [bst_6, h6]; exact out_0 p)]]
theorem rwB_n {nv np : Nat} {B : zB} (h : vb B nv np) (p n : Nat) (hp : p < np) (hs : sSi B.2.2 p = 0) : rwB nv np B p n = false := by
  unfold rwB
  refine decide_eq_false fun hl => ?_
  have q := of_decide_eq_true (fi_t (Q := Qrw nv np B p) n 0 (by omega))
  rcases (bst_v h (fi (Qrw nv np B p) 0 n + 1)).2.2.1 p hp with e | ⟨-, e⟩
  · exact q e
  · rw [sSi_c (P := B.2.2) (bst_k (by decide) _)] at e
    exact e hs
theorem C39 (X : Nat × (Nat → Int32) × Value) (d : Nat) (M : zM) (G : zG) {nv np : Nat} {B : zB} (h : vb B nv np) (p n : Nat) (hp : p < np) (hn : n < 2 ^ 30) : ∃ B', zd X (d + 4) 39 [vR (2, 0, 0), vI (nI p), vI (nI n)] (hh (cb M 3 B) G) = some (some (vI (if rwB nv np B p n = true then 1 else 0)), hh (cb M 3 B') G) := by
  have n8 := h.1.2.2.2.1
  have hp8 : p < 8 := by omega
  have c3 : ∀ k, zd X (d + 3) 3 [vR (0, 3, 0), vI (nI p)] (hh (cb M 3 (bst nv np B k)) G) = some (some (vI 1), hh (cb M 3 (bst nv np B k)) G) := fun k => by
    have q := C3b X (d + 3) (cb M 3 (bst nv np B k)) G 3 np (bst_v h k).1.2.1 n8 (nI p)
    rw [isx_y hp (by omega)] at q
    exact q
  have lp := zsf (n := n) (f := fun s => zx X (d + 4) 39 2 [vR (2, 0, 0), vI (nI p), vI (nI n), vI (nI (s + 1))] [] (hh (cb M 3 (bst nv np B s)) G)) (Q := Qrw nv np B p) (fun s hs hQ w ew => by
    have hQ' := Classical.not_not.mp (of_decide_eq_false hQ)
    have st := W11 X d M G h s
    simp only [e39_2, e39_3, e39_4, nlt (show n < 2 ^ 31 by omega) (show s + 1 < 2 ^ 31 by omega)]
    rw [if_neg (by omega)]
    simp only [e39_7, e39_8, e39_11, e39_12, e39_15, e39_18, e39_19, e39_22, e39_25, e39_26, e39_29, e39_32, e39_33, e39_34, e39_37, zt0, zt1, zn3, not_false_eq_true, toListS, toListN, zk_some, zpi, if_true, if_false, i10, c3, st, z8 hp8, cl8 hp8, cb_P]
    rw [if_pos hQ']
    simp only [e39_42, e39_45, nI_1]
    exact ew) n 0 (by omega)
  have hb := (fi_b (Q := Qrw nv np B p) n 0).2
  have ht := fi_t (Q := Qrw nv np B p) n 0
  have hr : rwB nv np B p n = decide (fi (Qrw nv np B p) 0 n < n) := rfl
  generalize fi (Qrw nv np B p) 0 n = m at lp hb ht hr
  have E0 : zd X (d + 4) 39 [vR (2, 0, 0), vI (nI p), vI (nI n)] (hh (cb M 3 B) G) = zx X (d + 4) 39 2 [vR (2, 0, 0), vI (nI p), vI (nI n), vI (nI (0 + 1))] [] (hh (cb M 3 (bst nv np B 0)) G) := by
    simp only [E39, e39_0, e39_1]
    rfl
  by_cases e : m < n
  · have hQ' := of_decide_eq_true (ht (by omega))
    have st := W11 X d M G h m
    refine ⟨bst nv np B (m + 1), E0.trans (lp.trans ?_)⟩
    rw [hr, decide_eq_true e, if_pos rfl]
    simp only [e39_2, e39_3, e39_4, nlt (show n < 2 ^ 31 by omega) (show m + 1 < 2 ^ 31 by omega)]
    rw [if_neg (by omega)]
    simp only [e39_7, e39_8, e39_11, e39_12, e39_15, e39_18, e39_19, e39_22, e39_25, e39_26, e39_29, e39_32, e39_33, e39_34, e39_37, zt0, zt1, zn3, not_false_eq_true, toListS, toListN, zk_some, zpi, if_true, if_false, i10, c3, st, z8 hp8, cl8 hp8, cb_P]
    rw [if_neg hQ']
    simp only [e39_40, e39_41, zt1]
  · refine ⟨bst nv np B m, E0.trans (lp.trans ?_)⟩
    rw [hr, decide_eq_false e, if_neg (by decide)]
    simp only [e39_2, e39_3, e39_4, nlt (show n < 2 ^ 31 by omega) (show m + 1 < 2 ^ 31 by omega)]
    rw [if_pos (by omega)]
    simp only [e39_48, e39_49, zt0]
theorem C193 (X : Nat × (Nat → Int32) × Value) (d : Nat) (M : zM) (G : zG) {nv np : Nat} {B : zB} {R : Nat → Int32} (h : vb B nv np) (hR : R 5 = B.1 6) (p n : Nat) (hp : p < np) (hn : n < 2 ^ 30) : ∃ k, zd X (d + 8) 193 [vR (7, 0, 0), vI (nI p), vI (nI n)] (hh (mb M B R) G) = some (some (vI (if rwB nv np B p n = true then 1 else 0)), hh (mb M (bst nv np B k) (rS nv np B R k)) G) := by
  have n8 := h.1.2.2.2.1
  have hp8 : p < 8 := by omega
  have lp := zsf (n := n) (f := fun s => zx X (d + 8) 193 5 [vR (7, 0, 0), vI (nI p), vI (nI n), vI 0, vI (nI s)] [] (hh (mb M (bst nv np B s) (rS nv np B R s)) G)) (Q := Qrw nv np B p) (fun s hs hQ w ew => by
    have hQ' := Classical.not_not.mp (of_decide_eq_false hQ)
    have st := W148 X (d + 0) M G h hR s
    have c180 := C180 X (d + 6) M G (bst nv np B (s + 1)) (rS nv np B R (s + 1)) p hp8
    simp only [e193_5, e193_7, e193_8, nle (show n < 2 ^ 31 by omega) (show s < 2 ^ 31 by omega)]
    rw [if_neg (by omega)]
    simp only [e193_11, e193_12, e193_15, e193_16, e193_19, e193_20, e193_21, e193_24, e193_25, zt0, zt1, zn3, not_false_eq_true, toListS, toListN, zk_some, zpi, if_true, if_false, i10, st, c180, hQ', q_eq_0_1]
    simp only [e193_32, e193_33, e193_34, e193_37, nI_1]
    exact ew) n 0 (by omega)
  rw [nI_0] at lp
  have hb := (fi_b (Q := Qrw nv np B p) n 0).2
  have ht := fi_t (Q := Qrw nv np B p) n 0
  have hr : rwB nv np B p n = decide (fi (Qrw nv np B p) 0 n < n) := rfl
  generalize fi (Qrw nv np B p) 0 n = m at lp hb ht hr
  have E0 : zd X (d + 8) 193 [vR (7, 0, 0), vI (nI p), vI (nI n)] (hh (mb M B R) G) = zx X (d + 8) 193 5 [vR (7, 0, 0), vI (nI p), vI (nI n), vI 0, vI 0] [] (hh (mb M (bst nv np B 0) (rS nv np B R 0)) G) := by
    simp only [E193, e193_0, e193_1, e193_2, e193_3]
    rfl
  by_cases e : m < n
  · have hQ' := of_decide_eq_true (ht (by omega))
    have hQ1 : (bst nv np B (m + 1)).2.2 p 7 = 1 := ((bst_v h (m + 1)).2.2.1 p hp).elim (fun q => absurd q hQ') And.left
    have st := W148 X (d + 0) M G h hR m
    have c180 := C180 X (d + 6) M G (bst nv np B (m + 1)) (rS nv np B R (m + 1)) p hp8
    refine ⟨m + 1, E0.trans (lp.trans ?_)⟩
    rw [hr, decide_eq_true e, if_pos rfl]
    simp only [e193_5, e193_7, e193_8, nle (show n < 2 ^ 31 by omega) (show m < 2 ^ 31 by omega)]
    rw [if_neg (by omega)]
    simp only [e193_11, e193_12, e193_15, e193_16, e193_19, e193_20, e193_21, e193_24, e193_25, zt0, zt1, zn3, not_false_eq_true, toListS, toListN, zk_some, zpi, if_true, if_false, i10, st, c180, hQ1]
    simp only [e193_28, e193_29, e193_33, e193_34, e193_37, nI_1]
    simp only [e193_5, e193_7, e193_8, nle (show n < 2 ^ 31 by omega) (show m + 1 < 2 ^ 31 by omega)]
    by_cases q : n ≤ m + 1
    · rw [if_pos q]
      simp only [e193_40, e193_41, zt1]
    · rw [if_neg q]
      simp only [e193_11, e193_12, e193_40, e193_41, zt1, i10, if_false]
  · refine ⟨m, E0.trans (lp.trans ?_)⟩
    rw [hr, decide_eq_false e, if_neg (by decide)]
    simp only [e193_5, e193_7, e193_8, nle (show n < 2 ^ 31 by omega) (show m < 2 ^ 31 by omega)]
    rw [if_pos (by omega)]
    simp only [e193_40, e193_41, zt0]
def setw (B : zB) (j w : Nat) : zB := (B.1, uV B.2.1 j 3 (nI w), B.2.2)
def Qle (nv np : Nat) (B : zB) (j p n w : Nat) : Bool := rwB nv np (setw B j w) p n
def lea (nv np : Nat) (B : zB) (j p n K : Nat) : Int32 := if fi (Qle nv np B j p n) 0 (K + 1) = K + 1 then -9 else nI (fi (Qle nv np B j p n) 0 (K + 1))
theorem C38 (X : Nat × (Nat → Int32) × Value) (d : Nat) {M : zM} (G : zG) {nv np : Nat} (s : ST M nv np) (j p n K : Nat) (hj : j < nv) (hp : p < np) (hn : n < 2 ^ 30) (hK : (sBr (vw M 0) j).toInt = K) (hK2 : K ≤ 270) : ∃ B', zd X (d + 5) 38 [vR (2, 0, 0), vR (0, 0, 0), vI (nI j), vI (nI p), vI (nI n)] (hh M G) = some (some (vI (lea nv np (bm M) j p n K)), hh (cb M 3 B') G) := by
  have s' := s
  obtain ⟨n5, n8, e2, e3, m0, m1, v, o6, f5, a, vc, ac, vm⟩ := s'
  have hj5 : j < 5 := by omega
  have hp8 : p < 8 := by omega
  have eK : sBr (vw M 0) j = nI K := by rw [nI_up (x := sBr (vw M 0) j) (by omega), hK]; rfl
  have eb : brim (bm M).2.1 j = K := by
    have q : sBr (vw M 0) j = sBr (bm M).2.1 j := by unfold sBr; rw [show vw M 0 j 0 = (bm M).2.1 j 0 from sV s hj (by decide), show vw M 0 j 2 = (bm M).2.1 j 2 from sV s hj (by decide)]
    rw [← hK, q, sBr_v (vm.1.2.2.2.2.1 j hj)]
  have eself : cb M 3 (gb M 3) = M := cb_self M 3
  by_cases hs : sSi (pw M 0) p = 0
  · refine ⟨gb M 3, ?_⟩
    rw [eself]
    have hs2 : sSi (bm M).2.2 p = 0 := by rw [sSi_c (P := pw M 0) (sP s hp (by decide)).symm]; exact hs
    have qf : ∀ w, w < K + 1 → Qle nv np (bm M) j p n w = false := fun w hw => rwB_n (B := setw (bm M) j w) (vb_water vm hj (by omega)) p n hp hs2
    have e : fi (Qle nv np (bm M) j p n) 0 (K + 1) = K + 1 := by
      have b := fi_b (Q := Qle nv np (bm M) j p n) (K + 1) 0
      have t := fi_t (Q := Qle nv np (bm M) j p n) (K + 1) 0
      by_cases c : fi (Qle nv np (bm M) j p n) 0 (K + 1) < K + 1
      · have := t (by omega)
        rw [qf _ c] at this
        exact absurd this (by decide)
      · omega
    unfold lea
    rw [if_pos e]
    simp only [e38_0, e38_1, e38_2, e38_5, e38_8, e38_9, e38_10, e38_13, e38_16, e38_17, e38_20, e38_21, e38_22, e38_25, e38_28, e38_30, E38, zt0, zt1, zn3, not_false_eq_true, toListS, toListN, zk_some, zpi, if_true, if_false, i10, C2x X _ M G nv e2 n5, C3x X _ M G np e3 n8, isx_y hj (show nv < 2 ^ 31 by omega), isx_y hp (show np < 2 ^ 31 by omega), z8 hp8, cl8 hp8, C55, hs]
  · have key : ∀ Z w, w < K + 1 → vb (setw (cpB nv np Z (gb M 0)) j w) nv np ∧ rwB nv np (setw (cpB nv np Z (gb M 0)) j w) p n = Qle nv np (bm M) j p n w := fun Z w hw => by
      obtain ⟨z1, z2, z3⟩ := ST_z s Z
      have w1 : vb (setw (bm M) j w) nv np := vb_water vm hj (by omega)
      have az : ag nv np (setw (cpB nv np Z (gb M 0)) j w) (setw (bm M) j w) := ⟨z2.1, agV_u z2.2.1 rfl, z2.2.2⟩
      have w2 : vb (setw (cpB nv np Z (gb M 0)) j w) nv np := ag_v rfl (ag_s (show (setw (cpB nv np Z (gb M 0)) j w).1 6 = 0 from rfl) az) w1
      exact ⟨w2, rwB_c w2 rfl az p n hp⟩
    obtain ⟨Z1, -, lp⟩ := zsr (σ := zB) (n := K + 1) (f := fun w Z => zx X (d + 5) 38 45 [vR (2, 0, 0), vR (0, 0, 0), vI (nI j), vI (nI p), vI (nI n), vI (nI K), vI (nI w)] [] (hh (cb M 3 Z) G)) (P := fun _ _ => True) (Q := Qle nv np (bm M) j p n) (fun w Z hw _ hQ => by
      obtain ⟨k1, k2⟩ := key Z w hw
      obtain ⟨B', c39⟩ := C39 X d M G k1 p n hp hn
      rw [k2, hQ] at c39
      have t1 := T1z X (d + 3) G s Z
      have cu : u2 (cb M 3 (cpB nv np Z (gb M 0))) (5, 3, j) 3 (nI w) = cb M 3 (setw (cpB nv np Z (gb M 0)) j w) := cm_uV
      refine ⟨B', trivial, fun x ex => ?_⟩
      simp only [e38_45, e38_47, e38_49, nlt (show K < 2 ^ 31 by omega) (show w < 2 ^ 31 by omega)]
      rw [if_neg (by omega)]
      simp only [e38_52, e38_53, e38_56, e38_57, e38_60, e38_61, e38_64, e38_67, e38_68, e38_69, e38_71, e38_74, e38_75, e38_76, e38_78, e38_81, zt0, zt1, zn3, not_false_eq_true, toListS, toListN, zk_some, zpi, if_true, if_false, i10, t1, z5 hj5, cl5 hj5, cu, c39, Bool.false_eq_true, e38_87, e38_90, nI_1]
      exact ex) (K + 1) 0 (gb M 3) (by omega) trivial
    have hb := (fi_b (Q := Qle nv np (bm M) j p n) (K + 1) 0).2
    have ht := fi_t (Q := Qle nv np (bm M) j p n) (K + 1) 0
    have hl : lea nv np (bm M) j p n K = if fi (Qle nv np (bm M) j p n) 0 (K + 1) = K + 1 then -9 else nI (fi (Qle nv np (bm M) j p n) 0 (K + 1)) := rfl
    rw [nI_0, eself] at lp
    rw [hl]
    generalize fi (Qle nv np (bm M) j p n) 0 (K + 1) = m at lp hb ht ⊢
    have E0 : zd X (d + 5) 38 [vR (2, 0, 0), vR (0, 0, 0), vI (nI j), vI (nI p), vI (nI n)] (hh M G) = zx X (d + 5) 38 45 [vR (2, 0, 0), vR (0, 0, 0), vI (nI j), vI (nI p), vI (nI n), vI (nI K), vI 0] [] (hh M G) := by
      simp only [e38_0, e38_1, e38_2, e38_5, e38_8, e38_9, e38_10, e38_13, e38_16, e38_17, e38_20, e38_21, e38_22, e38_25, e38_28, e38_30, e38_31, e38_32, e38_35, e38_36, e38_37, e38_40, e38_42, e38_43, E38, zt0, zt1, zn3, not_false_eq_true, toListS, toListN, zk_some, zpi, if_true, if_false, i10, C2x X _ M G nv e2 n5, C3x X _ M G np e3 n8, isx_y hj (show nv < 2 ^ 31 by omega), isx_y hp (show np < 2 ^ 31 by omega), z8 hp8, cl8 hp8, z5 hj5, cl5 hj5, C55, (sSi_1 hs).1, C67, eK]
    by_cases e : m = K + 1
    · refine ⟨Z1, E0.trans (lp.trans ?_)⟩
      rw [if_pos e, e]
      simp only [e38_45, e38_47, e38_49, nlt (show K < 2 ^ 31 by omega) (show K + 1 < 2 ^ 31 by omega)]
      rw [if_pos (by omega)]
      simp only [e38_93, e38_95]
    · have hm : m < K + 1 := by omega
      obtain ⟨k1, k2⟩ := key Z1 m hm
      obtain ⟨B', c39⟩ := C39 X d M G k1 p n hp hn
      rw [k2, ht (by omega)] at c39
      have t1 := T1z X (d + 3) G s Z1
      have cu : u2 (cb M 3 (cpB nv np Z1 (gb M 0))) (5, 3, j) 3 (nI m) = cb M 3 (setw (cpB nv np Z1 (gb M 0)) j m) := cm_uV
      refine ⟨B', E0.trans (lp.trans ?_)⟩
      rw [if_neg e]
      simp only [e38_45, e38_47, e38_49, nlt (show K < 2 ^ 31 by omega) (show m < 2 ^ 31 by omega)]
      rw [if_neg (by omega)]
      simp only [e38_52, e38_53, e38_56, e38_57, e38_60, e38_61, e38_64, e38_67, e38_68, e38_69, e38_71, e38_74, e38_75, e38_76, e38_78, e38_81, e38_84, e38_86, zt0, zt1, zn3, not_false_eq_true, toListS, toListN, zk_some, zpi, if_true, if_false, i10, t1, z5 hj5, cl5 hj5, cu, c39]
theorem smv {M N : zM} (h : sm M N) (f5 : M (7, 0, 0) 5 = 0) : bm N = bm M ∧ N (7, 0, 0) 5 = 0 := ⟨gr_c (Or.inl rfl) h, (h (7, 0, 0) 5 rfl).trans f5⟩
theorem C194 (X : Nat × (Nat → Int32) × Value) (d : Nat) {M : zM} (G : zG) {nv np : Nat} (vm : vb (bm M) nv np) (f5 : M (7, 0, 0) 5 = 0) (j p n K : Nat) (l4 : Int32) (hj : j < nv) (hp : p < np) (hn : n < 2 ^ 30) (hK : brim (bm M).2.1 j = K) (hK2 : K ≤ 270) : ∃ (N : zM) (l8 : Int32), sm M N ∧ zx X (d + 9) 194 75 [vR (7, 0, 0), vI (nI j), vI (nI p), vI (nI n), vI l4, vI (nI (4 + 5 * j)), vI (nI K), vI (-9), vI 0] [] (hh M G) = zx X (d + 9) 194 130 [vR (7, 0, 0), vI (nI j), vI (nI p), vI (nI n), vI l4, vI (nI (4 + 5 * j)), vI (nI K), vI (lea nv np (bm M) j p n K), vI l8] [] (hh N G) := by
  have n5 := vm.1.2.2.1
  have hj5 : j < 5 := by omega
  have body : ∀ (N : zM) (w : Nat), sm M N → w < K + 1 → ∃ N', sm M N' ∧ zx X (d + 9) 194 87 [vR (7, 0, 0), vI (nI j), vI (nI p), vI (nI n), vI l4, vI (nI (4 + 5 * j)), vI (nI K), vI (-9), vI (nI w)] [] (hh N G) = zx X (d + 9) 194 75 [vR (7, 0, 0), vI (nI j), vI (nI p), vI (nI n), vI l4, vI (nI (4 + 5 * j)), vI (nI K), vI (if Qle nv np (bm M) j p n w = true then nI w else -9), vI (nI (w + 1))] [] (hh N' G) := by
    intro N w hs hw
    obtain ⟨eb, e5⟩ := smv hs f5
    have t5 := T150 X (d + 7) G (M := N)
    rw [eb] at t5
    have vw_ : vb (setw (bm M) j w) nv np := vb_water vm hj (by omega)
    obtain ⟨k, c193⟩ := C193 X d (cpK N (20, 0, 0) (21, 0, 0) 93) G (R := N (7, 0, 0)) vw_ e5 p n hp hn
    have mu : u2 (mb (cpK N (20, 0, 0) (21, 0, 0) 93) (bm M) (N (7, 0, 0))) (20, 0, 0) (4 + 5 * j + 3) (nI w) = mb (cpK N (20, 0, 0) (21, 0, 0) 93) (setw (bm M) j w) (N (7, 0, 0)) := mm_uV hj5 (by decide)
    have t151 := T151 X (d + 7) N G (bst nv np (setw (bm M) j w) k) (rS nv np (setw (bm M) j w) (N (7, 0, 0)) k)
    refine ⟨bk N (bst nv np (setw (bm M) j w) k) (rS nv np (setw (bm M) j w) (N (7, 0, 0)) k), sm_t hs (sm_bk (rS_o (by decide)) e5 (rS_o (by decide))), ?_⟩
    have hq : Qle nv np (bm M) j p n w = rwB nv np (setw (bm M) j w) p n := rfl
    rw [hq]
    cases hx : rwB nv np (setw (bm M) j w) p n with
    | true =>
      rw [hx] at c193
      simp only [e194_87, e194_88, e194_91, e194_92, e194_95, e194_97, e194_98, e194_99, e194_101, e194_102, e194_103, e194_104, e194_105, e194_108, zt0, zt1, zn3, not_false_eq_true, toListS, toListN, zk_some, zpi, if_true, if_false, i10, t5, ni3, wV hj5 (show 3 < 5 by decide), cV hj5 (show 3 < 5 by decide), mu, c193, e194_111, e194_113, e194_118, e194_120, e194_121, e194_124, e194_127, t151, nI_1]
    | false =>
      rw [hx] at c193
      simp only [e194_87, e194_88, e194_91, e194_92, e194_95, e194_97, e194_98, e194_99, e194_101, e194_102, e194_103, e194_104, e194_105, e194_108, zt0, zt1, zn3, not_false_eq_true, toListS, toListN, zk_some, zpi, if_true, if_false, i10, t5, ni3, wV hj5 (show 3 < 5 by decide), cV hj5 (show 3 < 5 by decide), mu, c193, Bool.false_eq_true, e194_116, e194_118, e194_120, e194_121, e194_124, e194_127, t151, nI_1]
  obtain ⟨N1, hs, lp⟩ := zsr (σ := zM) (n := K + 1) (f := fun w N => zx X (d + 9) 194 75 [vR (7, 0, 0), vI (nI j), vI (nI p), vI (nI n), vI l4, vI (nI (4 + 5 * j)), vI (nI K), vI (-9), vI (nI w)] [] (hh N G)) (P := fun _ N => sm M N) (Q := Qle nv np (bm M) j p n) (fun w N hw hs hQ => by
    obtain ⟨N', hs', b⟩ := body N w hs hw
    rw [hQ] at b
    refine ⟨N', hs', fun x ex => ?_⟩
    simp only [e194_75, e194_77, e194_79, nlt (show K < 2 ^ 31 by omega) (show w < 2 ^ 31 by omega)]
    rw [if_neg (by omega)]
    simp only [e194_82, e194_84]
    rw [if_neg (by decide), b]
    exact ex) (K + 1) 0 M (by omega) (sm_r M)
  have hb := (fi_b (Q := Qle nv np (bm M) j p n) (K + 1) 0).2
  have ht := fi_t (Q := Qle nv np (bm M) j p n) (K + 1) 0
  have hl : lea nv np (bm M) j p n K = if fi (Qle nv np (bm M) j p n) 0 (K + 1) = K + 1 then -9 else nI (fi (Qle nv np (bm M) j p n) 0 (K + 1)) := rfl
  rw [nI_0] at lp
  rw [hl]
  generalize fi (Qle nv np (bm M) j p n) 0 (K + 1) = m at lp hb ht ⊢
  by_cases e : m = K + 1
  · refine ⟨N1, nI (K + 1), hs, lp.trans ?_⟩
    rw [if_pos e, e]
    simp only [e194_75, e194_77, e194_79, nlt (show K < 2 ^ 31 by omega) (show K + 1 < 2 ^ 31 by omega)]
    rw [if_pos (by omega)]
  · have hm : m < K + 1 := by omega
    obtain ⟨N', hs', b⟩ := body N1 m hs hm
    rw [ht (by omega), if_pos rfl] at b
    have p0 : 0 ≤ nI m := by rw [i_le, nI_int (by omega)]; show (0 : Int) ≤ m; omega
    refine ⟨N', nI (m + 1), hs', lp.trans ?_⟩
    rw [if_neg e]
    simp only [e194_75, e194_77, e194_79, nlt (show K < 2 ^ 31 by omega) (show m < 2 ^ 31 by omega)]
    rw [if_neg (by omega)]
    simp only [e194_82, e194_84]
    rw [if_neg (by decide), b]
    simp only [e194_75, e194_77, e194_79, nlt (show K < 2 ^ 31 by omega) (show m + 1 < 2 ^ 31 by omega)]
    by_cases q : K < m + 1
    · rw [if_pos q]
    · rw [if_neg q]
      simp only [e194_82, e194_84]
      rw [if_pos p0]
theorem K19 (X : Nat × (Nat → Int32) × Value) (t : Nat) (M : zM) (G : zG) (x y n : Int32) (i : Inv t M) : okI X 92 194 [vI x, vI y, vI n] t M G := by
  obtain ⟨nv, np, s⟩ := ST_of i
  have s' := s
  obtain ⟨n5, n8, e2, e3, m0, m1, v, o6, f5, a, vc, ac, vm⟩ := s'
  rcases isx_c (n := nv) x (by omega) with ⟨h, -⟩ | ⟨j, hj, rfl, h⟩
  · refine ⟨-1, rfs M 1, G, rfm (rfs M 1) 1, G, ?_, ?_, Inv_rf i⟩
    · simp only [E92, e92_0, e92_1, e92_4, e92_5, e92_8, e92_11, e92_12, e92_15, e92_16, e92_19, e92_22, e92_23, e92_24, e92_27, e92_28, e92_29, e92_30, e92_32, e92_35, e92_37, e92_39, e92_42, e92_43, e92_45, e92_48, e92_49, e92_50, e92_53, e92_54, e92_57, e92_58, e92_59, e92_60, e92_63, zt0, zt1, zn3, not_false_eq_true, toListS, toListN, zk_some, zpi, if_true, if_false, i10, C2x X _ M G nv e2 n5, h, C114_1, q_lt_m1_0, q_le_m1_0, q_eq_m1_0]
    · simp only [E194, e194_0, e194_1, e194_2, e194_5, e194_8, e194_9, e194_10, e194_13, e194_16, e194_17, e194_18, e194_20, e194_23, e194_26, e194_27, e194_29, e194_31, e194_34, e194_35, e194_37, e194_40, e194_41, e194_42, e194_45, e194_47, e194_48, e194_51, e194_53, e194_54, e194_55, e194_56, e194_57, e194_60, e194_62, e194_63, e194_64, e194_65, e194_66, e194_68, e194_70, e194_72, e194_73, e194_75, e194_77, e194_79, e194_82, e194_84, e194_87, e194_88, e194_91, e194_92, e194_95, e194_97, e194_98, e194_99, e194_101, e194_102, e194_103, e194_104, e194_105, e194_108, e194_111, e194_113, e194_116, e194_118, e194_120, e194_121, e194_124, e194_127, e194_130, e194_132, zt0, zt1, zn3, not_false_eq_true, toListS, toListN, zk_some, zpi, if_true, if_false, i10, C132 X _ _ G _ nv (show rfs M 1 (20, 0, 0) 0 = nI nv from m0) (by omega), h, C129_1, q_lt_m1_0, q_le_m1_0, q_eq_m1_0]
  rcases isx_c (n := np) y (by omega) with ⟨q, -⟩ | ⟨p, hp, rfl, q⟩
  · refine ⟨-1, rfs M 1, G, rfm (rfs M 1) 1, G, ?_, ?_, Inv_rf i⟩
    · simp only [E92, e92_0, e92_1, e92_4, e92_5, e92_8, e92_11, e92_12, e92_15, e92_16, e92_19, e92_22, e92_23, e92_24, e92_27, e92_28, e92_29, e92_30, e92_32, e92_35, e92_37, e92_39, e92_42, e92_43, e92_45, e92_48, e92_49, e92_50, e92_53, e92_54, e92_57, e92_58, e92_59, e92_60, e92_63, zt0, zt1, zn3, not_false_eq_true, toListS, toListN, zk_some, zpi, if_true, if_false, i10, C2x X _ M G nv e2 n5, h, C3x X _ M G np e3 n8, q, C114_1, q_lt_m1_0, q_le_m1_0, q_eq_m1_0]
    · simp only [E194, e194_0, e194_1, e194_2, e194_5, e194_8, e194_9, e194_10, e194_13, e194_16, e194_17, e194_18, e194_20, e194_23, e194_26, e194_27, e194_29, e194_31, e194_34, e194_35, e194_37, e194_40, e194_41, e194_42, e194_45, e194_47, e194_48, e194_51, e194_53, e194_54, e194_55, e194_56, e194_57, e194_60, e194_62, e194_63, e194_64, e194_65, e194_66, e194_68, e194_70, e194_72, e194_73, e194_75, e194_77, e194_79, e194_82, e194_84, e194_87, e194_88, e194_91, e194_92, e194_95, e194_97, e194_98, e194_99, e194_101, e194_102, e194_103, e194_104, e194_105, e194_108, e194_111, e194_113, e194_116, e194_118, e194_120, e194_121, e194_124, e194_127, e194_130, e194_132, zt0, zt1, zn3, not_false_eq_true, toListS, toListN, zk_some, zpi, if_true, if_false, i10, C132 X _ _ G _ nv (show rfs M 1 (20, 0, 0) 0 = nI nv from m0) (by omega), h, C133 X _ _ G _ np (show rfs M 1 (20, 0, 0) 1 = nI np from m1) (by omega), q, C129_1, q_lt_m1_0, q_le_m1_0, q_eq_m1_0]
  rcases wrg_c n 1 60 (by decide) with ⟨w, -⟩ | ⟨w, -⟩ | ⟨w, -, k, hk1, hk, rfl⟩
  · have w : wrg n 1 60 = -4 := w
    refine ⟨-4, rfs M 4, G, rfm (rfs M 4) 4, G, ?_, ?_, Inv_rf i⟩
    · simp only [E92, e92_0, e92_1, e92_4, e92_5, e92_8, e92_11, e92_12, e92_15, e92_16, e92_19, e92_22, e92_23, e92_24, e92_27, e92_28, e92_29, e92_30, e92_32, e92_35, e92_37, e92_39, e92_42, e92_43, e92_45, e92_48, e92_49, e92_50, e92_53, e92_54, e92_57, e92_58, e92_59, e92_60, e92_63, zt0, zt1, zn3, not_false_eq_true, toListS, toListN, zk_some, zpi, if_true, if_false, i10, C2x X _ M G nv e2 n5, h, C3x X _ M G np e3 n8, q, C118, w, j_1, k_1, j_60, k_60, C114_4, q_lt_m4_0, q_le_m4_0, q_eq_m4_0]
    · simp only [E194, e194_0, e194_1, e194_2, e194_5, e194_8, e194_9, e194_10, e194_13, e194_16, e194_17, e194_18, e194_20, e194_23, e194_26, e194_27, e194_29, e194_31, e194_34, e194_35, e194_37, e194_40, e194_41, e194_42, e194_45, e194_47, e194_48, e194_51, e194_53, e194_54, e194_55, e194_56, e194_57, e194_60, e194_62, e194_63, e194_64, e194_65, e194_66, e194_68, e194_70, e194_72, e194_73, e194_75, e194_77, e194_79, e194_82, e194_84, e194_87, e194_88, e194_91, e194_92, e194_95, e194_97, e194_98, e194_99, e194_101, e194_102, e194_103, e194_104, e194_105, e194_108, e194_111, e194_113, e194_116, e194_118, e194_120, e194_121, e194_124, e194_127, e194_130, e194_132, zt0, zt1, zn3, not_false_eq_true, toListS, toListN, zk_some, zpi, if_true, if_false, i10, C132 X _ _ G _ nv (show rfs M 4 (20, 0, 0) 0 = nI nv from m0) (by omega), h, C133 X _ _ G _ np (show rfs M 4 (20, 0, 0) 1 = nI np from m1) (by omega), q, C136, w, j_1, k_1, j_60, k_60, C129_4, q_lt_m4_0, q_le_m4_0, q_eq_m4_0]
  · have w : wrg n 1 60 = -6 := w
    refine ⟨-6, rfs M 6, G, rfm (rfs M 6) 6, G, ?_, ?_, Inv_rf i⟩
    · simp only [E92, e92_0, e92_1, e92_4, e92_5, e92_8, e92_11, e92_12, e92_15, e92_16, e92_19, e92_22, e92_23, e92_24, e92_27, e92_28, e92_29, e92_30, e92_32, e92_35, e92_37, e92_39, e92_42, e92_43, e92_45, e92_48, e92_49, e92_50, e92_53, e92_54, e92_57, e92_58, e92_59, e92_60, e92_63, zt0, zt1, zn3, not_false_eq_true, toListS, toListN, zk_some, zpi, if_true, if_false, i10, C2x X _ M G nv e2 n5, h, C3x X _ M G np e3 n8, q, C118, w, j_1, k_1, j_60, k_60, C114_6, q_lt_m6_0, q_le_m6_0, q_eq_m6_0]
    · simp only [E194, e194_0, e194_1, e194_2, e194_5, e194_8, e194_9, e194_10, e194_13, e194_16, e194_17, e194_18, e194_20, e194_23, e194_26, e194_27, e194_29, e194_31, e194_34, e194_35, e194_37, e194_40, e194_41, e194_42, e194_45, e194_47, e194_48, e194_51, e194_53, e194_54, e194_55, e194_56, e194_57, e194_60, e194_62, e194_63, e194_64, e194_65, e194_66, e194_68, e194_70, e194_72, e194_73, e194_75, e194_77, e194_79, e194_82, e194_84, e194_87, e194_88, e194_91, e194_92, e194_95, e194_97, e194_98, e194_99, e194_101, e194_102, e194_103, e194_104, e194_105, e194_108, e194_111, e194_113, e194_116, e194_118, e194_120, e194_121, e194_124, e194_127, e194_130, e194_132, zt0, zt1, zn3, not_false_eq_true, toListS, toListN, zk_some, zpi, if_true, if_false, i10, C132 X _ _ G _ nv (show rfs M 6 (20, 0, 0) 0 = nI nv from m0) (by omega), h, C133 X _ _ G _ np (show rfs M 6 (20, 0, 0) 1 = nI np from m1) (by omega), q, C136, w, j_1, k_1, j_60, k_60, C129_6, q_lt_m6_0, q_le_m6_0, q_eq_m6_0]
  have w : wrg (nI k) 1 60 = 0 := w
  have hj5 : j < 5 := by omega
  have bv := brim_v (v.1.2.2.2.2.1 j hj)
  have sb : (sBr (vw M 0) j).toInt = brim (vw M 0) j := sBr_v (v.1.2.2.2.2.1 j hj)
  obtain ⟨K, hK, hK2⟩ : ∃ K : Nat, (sBr (vw M 0) j).toInt = K ∧ K ≤ 270 := ⟨(sBr (vw M 0) j).toInt.toNat, by have := bv.1; have e : brim (gb M 0).2.1 j = brim (vw M 0) j := rfl; omega, by have := bv.2; have e : brim (gb M 0).2.1 j = brim (vw M 0) j := rfl; omega⟩
  have eK : sBr (vw M 0) j = nI K := by rw [nI_up (x := sBr (vw M 0) j) (by omega), hK]; rfl
  have eq : sBr (vw M 0) j = sBr (bm M).2.1 j := by unfold sBr; rw [show vw M 0 j 0 = (bm M).2.1 j 0 from sV s hj (by decide), show vw M 0 j 2 = (bm M).2.1 j 2 from sV s hj (by decide)]
  have hKm : brim (bm M).2.1 j = K := by rw [← hK, eq, sBr_v (vm.1.2.2.2.2.1 j hj)]
  have eM : M (5, 0, j) 0 * M (5, 0, j) 2 = nI K := eK
  obtain ⟨B', c38⟩ := C38 X 6 G s j p k K hj hp (by omega) hK hK2
  have s2 : sm M (cb M 3 B') := sm_cb (by decide)
  have rv0 : cb M 3 B' (20, 0, 0) (4 + 5 * j) = M (5, 0, j) 0 := rV0 s hj
  have rv2 : cb M 3 B' (20, 0, 0) (4 + 5 * j + 2) = M (5, 0, j) 2 := rV s hj (by decide)
  obtain ⟨N, l8, hs, c194⟩ := C194 X 3 (M := cb M 3 B') G vm f5 j p k K 0 hj hp (by omega) hKm hK2
  rw [show bm (cb M 3 B') = bm M from rfl] at c194
  refine ⟨lea nv np (bm M) j p k K, cb M 3 B', G, N, G, ?_, ?_, Inv_c (sm_t s2 hs) (Nat.le_refl _) i⟩
  · simp only [E92, e92_0, e92_1, e92_4, e92_5, e92_8, e92_11, e92_12, e92_15, e92_16, e92_19, e92_22, e92_23, e92_24, e92_27, e92_28, e92_29, e92_30, e92_32, e92_35, e92_37, e92_39, e92_42, e92_43, e92_45, e92_48, e92_49, e92_50, e92_53, e92_54, e92_57, e92_58, e92_59, e92_60, e92_63, zt0, zt1, zn3, not_false_eq_true, toListS, toListN, zk_some, zpi, if_true, if_false, i10, C2x X _ M G nv e2 n5, h, C3x X _ M G np e3 n8, q, C118, w, j_1, k_1, j_60, k_60, c38]
  · simp only [e194_0, e194_1, e194_2, e194_5, e194_8, e194_9, e194_10, e194_13, e194_16, e194_17, e194_18, e194_20, e194_23, e194_26, e194_27, e194_29, e194_31, e194_34, e194_35, e194_37, e194_40, e194_41, e194_42, e194_45, e194_47, e194_48, e194_51, e194_53, e194_54, e194_55, e194_56, e194_57, e194_60, e194_62, e194_63, e194_64, e194_65, e194_66, e194_68, e194_70, e194_72, e194_73, E194, zt0, zt1, zn3, not_false_eq_true, toListS, toListN, zk_some, zpi, if_true, if_false, i10, C132 X _ _ G _ nv (show cb M 3 B' (20, 0, 0) 0 = nI nv from m0) (by omega), h, C133 X _ _ G _ np (show cb M 3 B' (20, 0, 0) 1 = nI np from m1) (by omega), q, C136, w, j_1, k_1, j_60, k_60, C134, niV, ni0, ni2, wV0 hj5, cV0 hj5, wV hj5 (show 2 < 5 by decide), cV hj5 (show 2 < 5 by decide), rv0, rv2, eM]
    refine Eq.trans c194 ?_
    simp only [e194_130, e194_132]
