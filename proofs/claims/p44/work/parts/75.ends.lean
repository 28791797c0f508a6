/-! THE LAW, fourth: told waters judged; the pipe that matters; what is laid; the end -/
def WT (n m : Nat) (B : zB) (j : Nat) : Int32 := (bst n m B j).2.1 0 3
/-- what stands while waters are told in list 1 -/
def EH (M : zM) (B K : zB) (T : Nat → Int32) (k : Nat) : Prop := gb M 0 = B ∧ gb M 1 = K ∧ M (6, 0, 0) 2 = 1 ∧ M (4, 2, 0) 1 = -1 ∧ M (4, 1, 0) 1 = nI 4 ∧ ∀ j, j < k → M (15, 1, 0) j = T j
theorem EH_sm {M M' : zM} {B K : zB} {T : Nat → Int32} {k : Nat} (h : sm M M') (r : EH M B K T k) : EH M' B K T k := by
  obtain ⟨r1, r2, r3, r4, r5, r6⟩ := r
  exact ⟨(gb_c (by decide) h).trans r1, (gb_c (by decide) h).trans r2, (h _ _ rfl).trans r3, (h _ _ rfl).trans r4, (h _ _ rfl).trans r5, fun j hj => (h (15, 1, 0) j rfl).trans (r6 j hj)⟩
theorem EH_p {M : zM} {B K : zB} {T T' : Nat → Int32} {k k' i : Nat} {x : Int32} (r : EH M B K T k) (h : ∀ j, j < k' → T' j = if j = i then x else T j) (hk : ∀ j, j < k' → j ≠ i → j < k) : EH (u2 M (15, 1, 0) i x) B K T' k' := by
  obtain ⟨r1, r2, r3, r4, r5, r6⟩ := r
  refine ⟨(gb_u2 (by decide)).trans r1, (gb_u2 (by decide)).trans r2, (u2_n (by decide)).trans r3, (u2_n (by decide)).trans r4, (u2_n (by decide)).trans r5, fun j hj => ?_⟩
  rw [h j hj]
  by_cases c : j = i
  · rw [if_pos c, c, u2_same]
  · rw [if_neg c, u2_f c]; exact r6 j (hk j hj c)
theorem EH_l {M N : zM} {B K : zB} {T : Nat → Int32} {q w : Nat} (r : EH M B K T 0) : EH (lay N M (15, 1, 0) q w) B K T 0 := by
  obtain ⟨r1, r2, r3, r4, r5, -⟩ := r
  exact ⟨(gb_la (by decide)).trans r1, (gb_la (by decide)).trans r2, (lay_n (by decide)).trans r3, (lay_n (by decide)).trans r4, (lay_n (by decide)).trans r5, fun j hj => absurd hj (Nat.not_lt_zero j)⟩
theorem ST_e {M : zM} {B : zB} {n m : Nat} (h : gb M 0 = B) (v : vb B n m) (o : B.1 6 = 0) : ST M n m := ST_h (by rw [h]; exact v) (by rw [show M (0, 0, 0) 6 = (gb M 0).1 6 from rfl, h]; exact o)
theorem WT_b {B : zB} {n m : Nat} (v : vb B n m) (hn : 0 < n) (j : Nat) : 0 ≤ (WT n m B j).toInt ∧ (WT n m B j).toInt ≤ 270 := vb_w (bst_v v j) 0 hn
/-- the first that is otherwise -/
theorem jr_t {n m : Nat} {B : zB} {T U : Nat → Int32} (e : ∀ j, j < 4 → U j = T j) : jr 4 (fi (Qj n m U B) 0 4) = jr 4 (fi (Qj n m T B) 0 4) := by
  rw [fi_c (Q := Qj n m U B) (Q' := Qj n m T B) 4 0 fun k _ hk => by unfold Qj; rw [e k (by omega)]]
theorem jr_4 {n m : Nat} {B : zB} {T : Nat → Int32} (q : ∀ j, j < 4 → Qj n m T B j = false) : jr 4 (fi (Qj n m T B) 0 4) = -9 := by
  have e : fi (Qj n m T B) 0 4 = 4 := by
    have b := fi_b (Q := Qj n m T B) 4 0
    by_cases c : fi (Qj n m T B) 0 4 < 4
    · have t := fi_t (Q := Qj n m T B) 4 0 (by omega)
      rw [q _ c] at t
      cases t
    · omega
  rw [e]
  rfl
theorem jr_2 {n m : Nat} {B : zB} {T : Nat → Int32} (q0 : Qj n m T B 0 = false) (q1 : Qj n m T B 1 = false) (q2 : Qj n m T B 2 = true) : jr 4 (fi (Qj n m T B) 0 4) = 2 := by
  have e : fi (Qj n m T B) 0 4 = 2 := by simp [fi, q0, q1, q2]
  rw [e]
  rfl
theorem Qj_s {n m : Nat} {B : zB} {T : Nat → Int32} {j : Nat} (e : T j = WT n m B j) : Qj n m T B j = false := decide_eq_false fun h => h.2 e
theorem Qj_m {n m : Nat} {B : zB} {T : Nat → Int32} {j : Nat} (e : T j = -2147483648) : Qj n m T B j = false := decide_eq_false fun h => h.1 e
theorem Qj_o {n m : Nat} {B : zB} {T : Nat → Int32} {j : Nat} (e : T j = WT n m B j + 1) (v : vb B n m) (hn : 0 < n) : Qj n m T B j = true := by
  have b := WT_b v hn j
  have e1 : (WT n m B j + 1).toInt = (WT n m B j).toInt + 1 := i_add_s (by rw [show (1 : Int32).toInt = 1 from rfl]; omega) (by rw [show (1 : Int32).toInt = 1 from rfl]; omega)
  refine decide_eq_true ⟨fun h => ?_, fun h => ?_⟩
  · rw [e] at h
    have := congrArg Int32.toInt h
    rw [e1, show (-2147483648 : Int32).toInt = -2147483648 from rfl] at this
    omega
  · rw [e] at h
    have := congrArg Int32.toInt h
    rw [e1, show ((bst n m B j).2.1 0 3).toInt = (WT n m B j).toInt from rfl] at this
    omega
theorem law_E {X : Nat × (Nat → Int32) × Value} (c1 c2 : Nat) (h1 : c1 ≤ 600000) (h2 : c2 ≤ 7302250) {l5 l6 l7 l8 l15 l16 l18 l19 l20 l21 l22 : Int32} {l9 l11 l13 : Int64} {a24 a25 : zV} {N : Nat} {a23 : zV} (G : zG) {B K : zB} {n m : Nat} (v : vb B n m) (o : B.1 6 = 0) (n2 : 2 ≤ n) (n3 : n ≤ 3) {M : zM} (b0 : gb M 0 = B) (b1 : gb M 1 = K) (b2 : M (6, 0, 0) 2 = 1) (b3 : M (4, 2, 0) 1 = -1) : ∃ M' b23, EH M' B K (WT n m B) 0 ∧ zw X c1 c2 9 243 557 [vR (50, 0, 0), vR (6, 0, 0), vI (nI n), vI (nI m), vI (nI N), vI l5, vI l6, vI l7, vI l8, vL l9, vN, vL l11, vN, vL l13, vN, vI l15, vI l16, vR (12, 1, 0), vI l18, vI l19, vI l20, vI l21, vI l22, a23, a24, a25] [] (hh M G) = zw X c1 c2 9 243 655 [vR (50, 0, 0), vR (6, 0, 0), vI (nI n), vI (nI m), vI (nI N), vI l5, vI l6, vI l7, vI l8, vL l9, vN, vL l11, vN, vL l13, vN, vI l15, vI l16, vR (12, 1, 0), vI l18, vI l19, vI l20, vI l21, vI l22, vI b23, a24, a25] [] (hh M' G) := by
  have y104 : zd X 8 104 [vR (6, 0, 0), vI 1, vI 4] (hh M G) = some (some (vI 1), hh (flR (u2 M (4, 1, 0) 1 (nI 4)) (15, 1, 0) 0 4 0) G) := Y104 X M G 1 4 (by decide) (by decide)
  have R0 : EH (flR (u2 M (4, 1, 0) 1 (nI 4)) (15, 1, 0) 0 4 0) B K (WT n m B) 0 := by
    refine ⟨?_, ?_, ?_, ?_, ?_, fun j hj => absurd hj (Nat.not_lt_zero j)⟩
    · rw [gb_fl (by decide), gb_u2 (by decide)]; exact b0
    · rw [gb_fl (by decide), gb_u2 (by decide)]; exact b1
    · rw [flR_n (by decide), u2_n (by decide)]; exact b2
    · rw [flR_n (by decide), u2_k (by decide)]; exact b3
    · rw [flR_n (by decide), u2_same]
  generalize flR (u2 M (4, 1, 0) 1 (nI 4)) (15, 1, 0) 0 4 0 = M1 at y104 R0
  have then_ : ∀ (z : zM) (T : Nat → Int32) (k j : Nat), EH z B K T k → j ≤ 99 → ∃ z', sm z z' ∧ zd X 8 86 [vR (6, 0, 0), vI (nI j), vI 0, vI 0] (hh z G) = some (some (vI (WT n m B j)), hh z' G) := fun z T k j R hj => by
    have y := Y86_0 X z G (ST_e R.1 v o) j hj (by omega)
    rw [R.1] at y
    exact y
  have put_ : ∀ (z : zM) (T : Nat → Int32) (k j : Nat) (x : Int32), EH z B K T k → j < 4 → zd X 8 105 [vR (6, 0, 0), vI 1, vI (nI j), vI x] (hh z G) = some (some (vI 1), hh (u2 z (15, 1, 0) j x) G) := fun z T k j x R hj => Y105 X z G 1 4 j x (by decide) (by decide) hj R.2.2.2.2.1
  have judge_ : ∀ (z : zM) (T : Nat → Int32), EH z B K T 4 → ∃ z', sm z z' ∧ zd X 8 101 [vR (6, 0, 0), vI 1] (hh z G) = some (some (vI (jr 4 (fi (Qj n m T B) 0 4))), hh z' G) := fun z T R => by
    have y := Y101 X z G (ST_e R.1 v o) 1 4 (by omega) (by decide) (by decide) R.2.2.2.2.1
    rw [R.1, jr_t (fun j hj => R.2.2.2.2.2 j hj)] at y
    exact y
  obtain ⟨M2, R2, L⟩ := zlr (σ := zM) (n := 4) (f := fun k z => zw X c1 c2 9 243 567 [vR (50, 0, 0), vR (6, 0, 0), vI (nI n), vI (nI m), vI (nI N), vI l5, vI l6, vI l7, vI l8, vL l9, vN, vL l11, vN, vL l13, vN, vI l15, vI l16, vR (12, 1, 0), vI l18, vI l19, vI l20, vI l21, vI l22, vI (nI k), a24, a25] [] (hh z G)) (P := fun k z => EH z B K (WT n m B) k) (fun k z hk R => by
    obtain ⟨z', fz, y86⟩ := then_ z _ k k R (by omega)
    have R' := EH_sm fz R
    have y105 := put_ z' _ k k (WT n m B k) R' hk
    refine ⟨u2 z' (15, 1, 0) k (WT n m B k), EH_p R' (fun j _ => by split; rename_i c; rw [c]; rfl) (fun j hj c => by omega), fun w ew => ?_⟩
    simp only [e243_567, e243_569, e243_570, n4le (show k < 2 ^ 31 by omega)]
    rw [if_neg (by omega)]
    simp only [e243_573, e243_574, e243_575, e243_577, e243_578, e243_580, e243_581, e243_582, e243_585, e243_588, e243_589, e243_592, h1, h2, toListS, toListN, zk_some, y86, y105, nI_1]
    exact ew) 4 0 M1 (by omega) R0
  rw [nI_0] at L
  -- as it is
  obtain ⟨M3, f3, y101⟩ := judge_ M2 _ R2
  rw [jr_4 fun j hj => Qj_s rfl] at y101
  have R3 := EH_sm f3 R2
  -- one more
  obtain ⟨M4, f4, y86⟩ := then_ M3 _ 4 2 R3 (by decide)
  have R4 := EH_sm f4 R3
  have y105 := put_ M4 _ 4 2 (WT n m B 2 + 1) R4 (by decide)
  have R5 := EH_p (T' := fun j => if j = 2 then WT n m B 2 + 1 else WT n m B j) (k' := 4) (x := WT n m B 2 + 1) (i := 2) R4 (fun j _ => rfl) (fun j hj _ => hj)
  generalize u2 M4 (15, 1, 0) 2 (WT n m B 2 + 1) = M5 at y105 R5
  obtain ⟨M6, f6, y101b⟩ := judge_ M5 _ R5
  rw [jr_2 (n := n) (m := m) (B := B) (T := fun j => if j = 2 then WT n m B 2 + 1 else WT n m B j) (Qj_s rfl) (Qj_s rfl) (Qj_o rfl v (by omega))] at y101b
  have R6 := EH_sm f6 R5
  -- the least int is skipped
  have y105b := put_ M6 _ 4 2 (-2147483648) R6 (by decide)
  have R7 := EH_p (T' := fun j => if j = 2 then -2147483648 else WT n m B j) (k' := 4) (x := -2147483648) (i := 2) R6 (fun j _ => by split <;> rfl) (fun j hj _ => hj)
  generalize u2 M6 (15, 1, 0) 2 (-2147483648) = M7 at y105b R7
  obtain ⟨M8, f8, y101c⟩ := judge_ M7 _ R7
  rw [jr_4 fun j hj => by
    by_cases c : j = 2
    · exact Qj_m (by rw [c]; rfl)
    · exact Qj_s (if_neg c)] at y101c
  have R8 := EH_sm f8 R7
  have y86' : zd X 8 86 [vR (6, 0, 0), vI 2, vI 0, vI 0] (hh M3 G) = some (some (vI (WT n m B 2)), hh M4 G) := y86
  have y105' : zd X 8 105 [vR (6, 0, 0), vI 1, vI 2, vI (WT n m B 2 + 1)] (hh M4 G) = some (some (vI 1), hh M5 G) := y105
  have y105b' : zd X 8 105 [vR (6, 0, 0), vI 1, vI 2, vI (-2147483648)] (hh M6 G) = some (some (vI 1), hh M7 G) := y105b
  refine ⟨M8, nI 4, ⟨R8.1, R8.2.1, R8.2.2.1, R8.2.2.2.1, R8.2.2.2.2.1, fun j hj => absurd hj (Nat.not_lt_zero j)⟩, ?_⟩
  simp only [e243_557, e243_558, e243_559, e243_560, e243_563, e243_564, e243_565, h1, h2, toListS, toListN, zk_some, y104]
  refine Eq.trans L ?_
  simp only [e243_567, e243_569, e243_570, n4le (show 4 < 2 ^ 31 by decide)]
  rw [if_pos (Nat.le_refl 4)]
  simp only [e243_595, e243_596, e243_597, e243_600, e243_602, h1, h2, toListS, toListN, zk_some, y101, if_true]
  simp only [e243_607, e243_608, e243_609, e243_610, e243_611, e243_612, e243_613, e243_614, e243_617, e243_618, e243_619, e243_622, e243_623, e243_624, e243_625, e243_628, e243_629, h1, h2, toListS, toListN, zk_some, y86', y105', y101b, if_true]
  simp only [e243_634, e243_635, e243_636, e243_637, e243_639, e243_642, e243_643, e243_644, e243_645, e243_648, e243_650, h1, h2, toListS, toListN, zk_some, y105b', y101c, if_true]
theorem law_F {X : Nat × (Nat → Int32) × Value} (c1 c2 : Nat) (h1 : c1 ≤ 600000) (h2 : c2 ≤ 7302250) {l5 l6 l8 l15 l16 l18 l19 l20 l21 l22 : Int32} {l9 l11 l13 : Int64} {a24 a25 : zV} {N : Nat} {x23 : Int32} (G : zG) {B K : zB} {n m : Nat} (v : vb B n m) (o : B.1 6 = 0) (n2 : 2 ≤ n) (n3 : n ≤ 3) (m1 : 1 ≤ m) (m3 : m ≤ 3) (N2 : N ≤ 16) (vK : vb K n m) (k5 : K.1 5 = 0) {M : zM} (R : EH M B K (WT n m B) 0) : ∃ M', zw X c1 c2 9 243 655 [vR (50, 0, 0), vR (6, 0, 0), vI (nI n), vI (nI m), vI (nI N), vI l5, vI l6, vI ((bst n m B N).1 4), vI l8, vL l9, vN, vL l11, vN, vL l13, vN, vI l15, vI l16, vR (12, 1, 0), vI l18, vI l19, vI l20, vI l21, vI l22, vI x23, a24, a25] [] (hh M G) = some (some (vI 1), hh M' G) := by
  have y94 := Y94 X M G (ST_e R.1 v o) N (by omega)
  rw [R.1] at y94
  obtain ⟨M1, f1, y94⟩ := y94
  obtain ⟨j, hj, ej⟩ := mat_t v (show 0 < m by omega) N
  rw [ej] at y94
  have R1 := EH_sm f1 R
  have y86 := Y86_2 X M1 G (ST_e R1.1 v o) N (by omega)
  rw [R1.1] at y86
  obtain ⟨M2, f2, y86⟩ := y86
  have R2 := EH_sm f2 R1
  have e4 : 4 - nI n = nI (4 - n) := nI_sub (a := 4) (b := n) (by omega)
  have e5 : 5 - nI n = nI (5 - n) := nI_sub (a := 5) (b := n) (by omega)
  have y106 : zd X 8 106 [vR (6, 0, 0), vI 1, vI (nI (4 - n))] (hh M2 G) = some (some (vI (nI n)), hh (lay M2 M2 (15, 1, 0) (4 - n) n) G) := Y106 X M2 G (ST_e R2.1 v o) 1 (4 - n) 4 (by decide) (by decide) R2.2.2.2.2.1 (by omega)
  have R3 := EH_l (N := M2) (q := 4 - n) (w := n) R2
  generalize lay M2 M2 (15, 1, 0) (4 - n) n = M3 at y106 R3
  have y106b : zd X 8 106 [vR (6, 0, 0), vI 1, vI (nI (5 - n))] (hh M3 G) = some (some (vI (-13)), hh (lay M3 M3 (15, 1, 0) (5 - n) (n - 1)) G) := Y106_n X M3 G (ST_e R3.1 v o) 1 (5 - n) 4 (n - 1) (by decide) (by decide) R3.2.2.2.2.1 (by omega) (by omega)
  have R4 := EH_l (N := M3) (q := 5 - n) (w := n - 1) R3
  generalize lay M3 M3 (15, 1, 0) (5 - n) (n - 1) = M4 at y106b R4
  have y101 : zd X 8 101 [vR (6, 0, 0), vI 2] (hh M4 G) = some (some (vI (-11)), hh M4 G) := Y101_m X M4 G (ST_e R4.1 v o) 2 (by omega) (by decide) R4.2.2.2.1
  have y112 := Y112 X M4 G (nv := n) (np := m) (by rw [R4.2.1]; exact vK) R4.2.2.1
  rw [show M4 (0, 1, 0) 5 = (gb M4 1).1 5 from rfl, R4.2.1, k5] at y112
  have j0 : ¬ nI j < 0 := nI_pos (by omega)
  refine ⟨cb M4 0 (cpB n m (gb M4 0) K), ?_⟩
  simp only [e243_655, e243_656, e243_658, e243_661, e243_663, e243_665, h1, h2, toListS, toListN, zk_some, y94, j0, if_false]
  simp only [e243_668, e243_670, e243_671, nle (show m < 2 ^ 31 by omega) (show j < 2 ^ 31 by omega)]
  rw [if_neg (by omega)]
  simp only [e243_674, e243_675, e243_677, e243_678, e243_679, e243_682, e243_684, h1, h2, toListS, toListN, zk_some, y86, if_true]
  simp only [e243_687, e243_688, e243_689, e243_690, e243_691, e243_692, e243_695, e243_696, h1, h2, toListS, toListN, zk_some, e4, y106, if_true]
  simp only [e243_699, e243_700, e243_701, e243_702, e243_703, e243_704, e243_707, e243_709, h1, h2, toListS, toListN, zk_some, e5, y106b, if_true]
  simp only [e243_712, e243_713, e243_714, e243_717, e243_719, h1, h2, toListS, toListN, zk_some, y101, if_true]
  simp only [e243_722, e243_723, e243_726, h1, h2, toListS, toListN, zk_some, y112, if_true]
  simp only [e243_729, e243_730, e243_733, e243_734, h1, h2, show ztz (vI 1) = true from rfl]
