/-! PIPES that are out; matters -/
theorem i_bit (x : Int32) : x &&& 1 = 0 ∨ x &&& 1 = 1 := by
  have e : (x &&& 1).toBitVec.toNat = x.toBitVec.toNat % 2 := by
    rw [Int32.toBitVec_and, BitVec.toNat_and, show (1 : Int32).toBitVec.toNat = 1 from rfl, Nat.and_one_is_mod]
  rcases (show x.toBitVec.toNat % 2 = 0 ∨ x.toBitVec.toNat % 2 = 1 by omega) with h | h
  · exact Or.inl (Int32.toBitVec_inj.mp (BitVec.eq_of_toNat_eq (by rw [e, h]; rfl)))
  · exact Or.inr (Int32.toBitVec_inj.mp (BitVec.eq_of_toNat_eq (by rw [e, h]; rfl)))
def seto (B : zB) (o : Int32) : zB := (uS B.1 6 o, B.2.1, B.2.2)
/-- RUNS of the PIPES that are out, below n, set to 0 -/
def zr (P : tV) (o : Int32) (n : Nat) : tV := fun q g => if g = 7 ∧ q < n ∧ o >>> (nI q &&& 31) &&& 1 = 1 then 0 else P q g
theorem zr_0 {P : tV} {o : Int32} : zr P o 0 = P := by
  funext q g
  unfold zr
  rw [if_neg (by omega)]
theorem zr_s1 {P : tV} {o : Int32} {n : Nat} (h : o >>> (nI n &&& 31) &&& 1 = 1) : uV (zr P o n) n 7 0 = zr P o (n + 1) := by
  funext q g
  unfold uV zr
  by_cases e : q = n ∧ g = 7
  · obtain ⟨rfl, rfl⟩ := e
    rw [if_pos ⟨rfl, rfl⟩, if_pos ⟨rfl, by omega, h⟩]
  · rw [if_neg e]
    by_cases c : g = 7 ∧ q < n ∧ o >>> (nI q &&& 31) &&& 1 = 1
    · rw [if_pos c, if_pos ⟨c.1, by omega, c.2.2⟩]
    · rw [if_neg c, if_neg (fun d => c ⟨d.1, by have := d.2.1; have : ¬ q = n := fun x => e ⟨x, d.1⟩; omega, d.2.2⟩)]
theorem zr_s0 {P : tV} {o : Int32} {n : Nat} (h : ¬ o >>> (nI n &&& 31) &&& 1 = 1) : uV (zr P o n) n 7 (zr P o n n 7) = zr P o (n + 1) := by
  rw [uV_same rfl]
  funext q g
  unfold zr
  by_cases c : g = 7 ∧ q < n ∧ o >>> (nI q &&& 31) &&& 1 = 1
  · rw [if_pos c, if_pos ⟨c.1, by omega, c.2.2⟩]
  · rw [if_neg c, if_neg (fun d => c ⟨d.1, by have := d.2.1; have : ¬ q = n := fun x => h (x ▸ d.2.2); omega, d.2.2⟩)]
theorem vb_o {B : zB} {nv np : Nat} (h : vb B nv np) (o : Int32) : vb (seto B o) nv np := h
theorem vb_z {B : zB} {nv np : Nat} (h : vb B nv np) (o : Int32) (n : Nat) : vb (uS B.1 6 o, B.2.1, zr B.2.2 o n) nv np := by
  obtain ⟨⟨v1, v2, v3, v4, v5, v6⟩, v7, v8, v9⟩ := h
  have k : ∀ q g, g ≠ 7 → zr B.2.2 o n q g = B.2.2 q g := fun q g hg => by
    unfold zr
    rw [if_neg (fun d => hg d.1)]
  refine ⟨vC_c rfl rfl (fun _ _ _ => rfl) k ⟨v1, v2, v3, v4, v5, v6⟩, v7, fun q hq => ?_, v9⟩
  show zr B.2.2 o n q 7 = 0 ∨ (zr B.2.2 o n q 7 = 1 ∧ ¬ sSi (zr B.2.2 o n) q = 0)
  rw [sSi_c (P := B.2.2) (k q 5 (by decide))]
  unfold zr
  split
  · exact Or.inl rfl
  · exact v8 q hq
theorem ag_z {B C : zB} {nv np : Nat} (h6 : B.1 6 = 0) (a : ag nv np B C) (o : Int32) : ag nv np (seto B o) (uS C.1 6 o, C.2.1, zr C.2.2 o np) := by
  obtain ⟨a1, a2, a3⟩ := a
  rw [h6] at a3
  refine ⟨fun f hf => ?_, a2, fun p g hp hg hn => ?_⟩
  · rcases hf with rfl | rfl | rfl | rfl | rfl
    · exact a1 2 (by decide)
    · exact a1 3 (by decide)
    · exact a1 4 (by decide)
    · exact a1 5 (by decide)
    · rfl
  · show B.2.2 p g = zr C.2.2 o np p g
    unfold zr
    rw [if_neg (fun d => ?_)]
    · exact a3 p g hp hg (fun _ => out_0 p)
    · have := hn d.1
      unfold outs at this
      rw [show (seto B o).1 6 = o from rfl, d.2.2] at this
      exact this (by decide)
def smo (nv np : Nat) (B : zB) (n : Nat) (o : Int32) : Int32 := (bst nv np (seto B o) n).1 4
theorem C43 (X : Nat × (Nat → Int32) × Value) (d : Nat) {M : zM} (G : zG) {nv np : Nat} (s : ST M nv np) (Z : zB) (o : Int32) (n : Nat) (hn : n < 2 ^ 31) : ∃ B', zd X (d + 5) 43 [vR (2, 0, 0), vR (0, 0, 0), vI o, vI (nI n)] (hh (cb M 3 Z) G) = some (some (vI (smo nv np (bm M) n o)), hh (cb M 3 B') G) := by
  have vm := s.2.2.2.2.2.2.2.2.2.2.2.2
  obtain ⟨z1, z2, z3⟩ := ST_z s Z
  have az : ag nv np (seto (cpB nv np Z (gb M 0)) o) (seto (bm M) o) := by
    obtain ⟨a1, a2, a3⟩ := z2
    rw [z3] at a3
    refine ⟨fun f hf => ?_, a2, fun p g hp hg _ => a3 p g hp hg (fun _ => out_0 p)⟩
    rcases hf with rfl | rfl | rfl | rfl | rfl
    · exact a1 2 (by decide)
    · exact a1 3 (by decide)
    · exact a1 4 (by decide)
    · exact a1 5 (by decide)
    · rfl
  have e : smo nv np (bm M) n o = smo nv np (cpB nv np Z (gb M 0)) n o := ((bst_c (vb_o z1 o) az n).1 4 (by decide)).symm
  have t1 := T1z X (d + 3) G s Z
  have cu : u2 (cb M 3 (cpB nv np Z (gb M 0))) (0, 3, 0) 6 o = cb M 3 (seto (cpB nv np Z (gb M 0)) o) := cm_uS
  have c31 := C31 X d M G nv np (seto (cpB nv np Z (gb M 0)) o) (vb_o z1 o) n hn
  refine ⟨bst nv np (seto (cpB nv np Z (gb M 0)) o) n, ?_⟩
  rw [e]
  simp only [E43, e43_0, e43_1, e43_4, e43_5, e43_8, e43_9, e43_12, e43_13, e43_16, e43_17, e43_18, e43_21, e43_22, e43_25, e43_28, zt0, zt1, zn3, not_false_eq_true, toListS, toListN, zk_some, zpi, if_true, if_false, i10, t1, cu, c31, cb_S]
  rfl
/-- the model's loop that sets RUNS of what is out to 0 -/
theorem mm_c6 {N : zM} {S : Nat → Int32} {V P : tV} {R : Nat → Int32} {o : Int32} : mm N S V P R = mm N (uS S 6 o) V P R := mm_cS fun f hf => by
  rcases hf with rfl | rfl | rfl | rfl <;> rfl
theorem C196 (X : Nat × (Nat → Int32) × Value) (d : Nat) {N M : zM} (G : zG) {nv np : Nat} (vm : vb (bm M) nv np) (f5 : M (7, 0, 0) 5 = 0) (hs : sm M N) (o : Int32) (n : Nat) (hn : n < 2 ^ 31) : ∃ N', sm M N' ∧ zd X (d + 9) 196 [vR (7, 0, 0), vI o, vI (nI n)] (hh N G) = some (some (vI (smo nv np (bm M) n o)), hh N' G) := by
  obtain ⟨eb, e5⟩ := smv hs f5
  have n8 := vm.1.2.2.2.1
  have t5 := T150 X (d + 7) G (M := N)
  rw [eb] at t5
  have cu : u2 (mb (cpK N (20, 0, 0) (21, 0, 0) 93) (bm M) (N (7, 0, 0))) (7, 0, 0) 5 o = mb (cpK N (20, 0, 0) (21, 0, 0) 93) (bm M) (uS (N (7, 0, 0)) 5 o) := mm_uR
  have lp := zlf (n := np) (f := fun p => zx X (d + 9) 196 11 [vR (7, 0, 0), vI o, vI (nI n), vI (nI p)] [] (hh (mb (cpK N (20, 0, 0) (21, 0, 0) 93) ((bm M).1, (bm M).2.1, zr (bm M).2.2 o p) (uS (N (7, 0, 0)) 5 o)) G)) (fun p hp w ew => by
    have p8 : p < 8 := by omega
    have c180 := C180 X (d + 7) (cpK N (20, 0, 0) (21, 0, 0) 93) G ((bm M).1, (bm M).2.1, zr (bm M).2.2 o p) (uS (N (7, 0, 0)) 5 o) p p8
    have mu : ∀ y, u2 (mb (cpK N (20, 0, 0) (21, 0, 0) 93) ((bm M).1, (bm M).2.1, zr (bm M).2.2 o p) (uS (N (7, 0, 0)) 5 o)) (20, 0, 0) (29 + 8 * p + 7) y = mb (cpK N (20, 0, 0) (21, 0, 0) 93) ((bm M).1, (bm M).2.1, uV (zr (bm M).2.2 o p) p 7 y) (uS (N (7, 0, 0)) 5 o) := fun y => mm_uP p8 (by decide)
    simp only [e196_11, e196_12, e196_13, e196_16, e196_17, e196_18, w1, t1, mb_1, vm.1.2.1, nle (show np < 2 ^ 31 by omega) (show p < 2 ^ 31 by omega)]
    rw [if_neg (by omega)]
    simp only [e196_21, e196_22, e196_25, e196_26, e196_29, e196_31, e196_32, e196_33, e196_34, e196_35, e196_36, e196_37, e196_38, zt0, zt1, zn3, not_false_eq_true, toListS, toListN, zk_some, zpi, C135, niP, ni7]
    by_cases q : o >>> (nI p &&& 31) &&& 1 = 1
    · rw [if_pos q]
      simp only [e196_41, e196_42, e196_50, e196_51, e196_54, wP p8 (show 7 < 8 by decide), cP p8 (show 7 < 8 by decide), mu, zr_s1 q, nI_1]
      exact ew
    · rw [if_neg q]
      simp only [e196_45, e196_46, e196_47, e196_50, e196_51, e196_54, zt0, zt1, zn3, not_false_eq_true, toListS, toListN, zk_some, zpi, c180, wP p8 (show 7 < 8 by decide), cP p8 (show 7 < 8 by decide), mu, zr_s0 q, nI_1]
      exact ew) np 0 (by omega)
  rw [nI_0, zr_0] at lp
  have v1 := vb_z vm o np
  have w149 := W149 X d (cpK N (20, 0, 0) (21, 0, 0) 93) G (B := (uS (bm M).1 6 o, (bm M).2.1, zr (bm M).2.2 o np)) (R := uS (N (7, 0, 0)) 5 o) v1 rfl n hn
  have ec : mb (cpK N (20, 0, 0) (21, 0, 0) 93) ((bm M).1, (bm M).2.1, zr (bm M).2.2 o np) (uS (N (7, 0, 0)) 5 o) = mb (cpK N (20, 0, 0) (21, 0, 0) 93) (uS (bm M).1 6 o, (bm M).2.1, zr (bm M).2.2 o np) (uS (N (7, 0, 0)) 5 o) := mm_c6
  have es : smo nv np (bm M) n o = (bst nv np (uS (bm M).1 6 o, (bm M).2.1, zr (bm M).2.2 o np) n).1 4 := (bst_c (vb_o vm o) (ag_z rfl ⟨fun _ _ => rfl, fun _ _ _ _ => rfl, fun _ _ _ _ _ => rfl⟩ o) n).1 4 (by decide)
  have t151 := T151 X (d + 7) N G (bst nv np (uS (bm M).1 6 o, (bm M).2.1, zr (bm M).2.2 o np) n) (rS nv np (uS (bm M).1 6 o, (bm M).2.1, zr (bm M).2.2 o np) (uS (N (7, 0, 0)) 5 o) n)
  refine ⟨bk N (bst nv np (uS (bm M).1 6 o, (bm M).2.1, zr (bm M).2.2 o np) n) (rS nv np (uS (bm M).1 6 o, (bm M).2.1, zr (bm M).2.2 o np) (uS (N (7, 0, 0)) 5 o) n), sm_t hs (sm_bk ((rS_o (by decide)).trans (uS_n (by decide))) e5 ((rS_o (by decide)).trans (uS_n (by decide)))), ?_⟩
  simp only [E196, e196_0, e196_1, e196_4, e196_5, e196_6, e196_9, e196_10, zt0, zt1, zn3, not_false_eq_true, toListS, toListN, zk_some, zpi, t5, cu]
  refine Eq.trans lp ?_
  simp only [e196_11, e196_12, e196_13, e196_16, e196_17, e196_18, w1, t1, mb_1, vm.1.2.1, nle (show np < 2 ^ 31 by omega) (show np < 2 ^ 31 by omega)]
  rw [if_pos (Nat.le_refl _), ec, es]
  simp only [e196_57, e196_58, e196_59, e196_62, e196_63, e196_66, e196_67, e196_68, e196_69, e196_70, e196_73, e196_74, zt0, zt1, zn3, not_false_eq_true, toListS, toListN, zk_some, zpi, w149, mb_3, w3, t3, t151]
def mt (W : Nat → Int32) : Nat → Int32 × Int32
  | 0 => (-9, -1)
  | p + 1 => if (mt W p).2 < W p then (nI p, W p) else mt W p
def Wm (nv np : Nat) (B : zB) (n p : Nat) : Int32 := iabs (smo nv np B n (1 <<< (nI p &&& 31)) - smo nv np B n 0)
theorem C42 (X : Nat × (Nat → Int32) × Value) (d : Nat) {M : zM} (G : zG) {nv np : Nat} (s : ST M nv np) (n : Nat) (hn : n < 2 ^ 31) : ∃ B', zd X (d + 6) 42 [vR (2, 0, 0), vR (0, 0, 0), vI (nI n)] (hh M G) = some (some (vI (mt (Wm nv np (bm M) n) np).1), hh (cb M 3 B') G) := by
  have n8 := s.2.1
  have e3 := s.2.2.2.1
  obtain ⟨B0, c0⟩ := C43 X d G s (gb M 3) 0 n hn
  rw [show cb M 3 (gb M 3) = M from cb_self M 3] at c0
  have g3 : ∀ Z, cb M 3 Z (0, 0, 0) 3 = nI np := fun Z => e3
  obtain ⟨⟨Z, l7⟩, -, lp⟩ := zlr (σ := zB × zV) (n := np) (f := fun p z => zx X (d + 6) 42 18 [vR (2, 0, 0), vR (0, 0, 0), vI (nI n), vI (smo nv np (bm M) n 0), vI (mt (Wm nv np (bm M) n) p).1, vI (mt (Wm nv np (bm M) n) p).2, vI (nI p), z.2] [] (hh (cb M 3 z.1) G)) (P := fun _ _ => True) (fun p z hp _ => by
    obtain ⟨B', c43⟩ := C43 X d G s z.1 (1 <<< (nI p &&& 31)) n hn
    have ew' : iabs (smo nv np (bm M) n (1 <<< (nI p &&& 31)) - smo nv np (bm M) n 0) = Wm nv np (bm M) n p := rfl
    refine ⟨(B', vI (Wm nv np (bm M) n p)), trivial, fun x ex => ?_⟩
    simp only [e42_18, e42_20, e42_21, e42_24, g3, nle (show np < 2 ^ 31 by omega) (show p < 2 ^ 31 by omega)]
    rw [if_neg (by omega)]
    simp only [e42_27, e42_28, e42_29, e42_30, e42_32, e42_33, e42_34, e42_37, e42_38, e42_39, e42_42, e42_44, e42_46, e42_48, zt0, zt1, zn3, not_false_eq_true, toListS, toListN, zk_some, zpi, c43, C236 X _ (hh M G), ew']
    by_cases c : (mt (Wm nv np (bm M) n) p).2 < Wm nv np (bm M) n p
    · rw [if_neg (by rw [i_lt] at c; rw [i_le]; omega)]
      simp only [e42_51, e42_53, e42_55, e42_57, e42_59, e42_62, nI_1]
      simp only [mt, if_pos c] at ex
      exact ex
    · rw [if_pos (by rw [i_lt] at c; rw [i_le]; omega)]
      simp only [e42_59, e42_62, nI_1]
      simp only [mt, if_neg c] at ex
      exact ex) np 0 (B0, vN) (by omega) trivial
  rw [nI_0, show mt (Wm nv np (bm M) n) 0 = (-9, -1) from rfl] at lp
  refine ⟨Z, ?_⟩
  simp only [E42, e42_0, e42_1, e42_2, e42_3, e42_4, e42_7, e42_8, e42_10, e42_12, e42_13, e42_15, e42_16, zt0, zt1, zn3, not_false_eq_true, toListS, toListN, zk_some, zpi, c0]
  refine Eq.trans lp ?_
  simp only [e42_18, e42_20, e42_21, e42_24, g3, nle (show np < 2 ^ 31 by omega) (show np < 2 ^ 31 by omega)]
  rw [if_pos (Nat.le_refl _)]
  simp only [e42_65, e42_67]
theorem K21 (X : Nat × (Nat → Int32) × Value) (t : Nat) (M : zM) (G : zG) (n : Int32) (i : Inv t M) : okI X 94 197 [vI n] t M G := by
  obtain ⟨nv, np, s⟩ := ST_of i
  have s' := s
  obtain ⟨n5, n8, e2, e3, m0, m1, v, o6, f5, a, vc, ac, vm⟩ := s'
  rcases wrg_c n 0 99 (by decide) with ⟨w, w'⟩ | ⟨w, w'⟩ | ⟨w, w', k, hk1, hk, rfl⟩
  · have w : wrg n 0 99 = -4 := w
    have w' : inz n 0 99 = 0 := w'
    refine ⟨-4, rfs M 4, G, rfm (rfs M 4) 4, G, ?_, ?_, Inv_rf i⟩
    · simp only [E94, e94_0, e94_1, e94_2, e94_4, e94_7, e94_8, e94_9, e94_12, e94_13, e94_14, e94_17, e94_18, e94_19, e94_22, e94_23, e94_26, e94_27, e94_30, zt0, zt1, zn3, not_false_eq_true, toListS, toListN, zk_some, zpi, if_true, if_false, i10, C118, w, j_0, k_0, j_99, k_99, C114_4, q_lt_m4_0, q_le_m4_0, q_eq_m4_0]
    · simp only [E197, e197_0, e197_1, e197_2, e197_3, e197_6, e197_9, e197_12, e197_13, e197_14, e197_15, e197_17, e197_20, e197_23, e197_24, e197_25, e197_26, e197_27, e197_30, e197_31, e197_33, e197_34, e197_35, e197_37, e197_38, e197_40, e197_42, e197_43, e197_46, e197_47, e197_48, e197_51, e197_52, e197_53, e197_55, e197_56, e197_57, e197_60, e197_61, e197_62, e197_65, e197_67, e197_69, e197_71, e197_74, e197_76, e197_79, e197_80, e197_81, e197_83, e197_85, e197_88, e197_90, e197_93, e197_96, e197_97, zt0, zt1, zn3, not_false_eq_true, toListS, toListN, zk_some, zpi, if_true, if_false, i10, C136, C128, w, w', j_0, k_0, j_99, k_99, C129_4, q_lt_m4_0, q_le_m4_0, q_eq_m4_0]
  · have w : wrg n 0 99 = -6 := w
    have w' : inz n 0 99 = 0 := w'
    refine ⟨-6, rfs M 6, G, rfm (rfs M 6) 6, G, ?_, ?_, Inv_rf i⟩
    · simp only [E94, e94_0, e94_1, e94_2, e94_4, e94_7, e94_8, e94_9, e94_12, e94_13, e94_14, e94_17, e94_18, e94_19, e94_22, e94_23, e94_26, e94_27, e94_30, zt0, zt1, zn3, not_false_eq_true, toListS, toListN, zk_some, zpi, if_true, if_false, i10, C118, w, j_0, k_0, j_99, k_99, C114_6, q_lt_m6_0, q_le_m6_0, q_eq_m6_0]
    · simp only [E197, e197_0, e197_1, e197_2, e197_3, e197_6, e197_9, e197_12, e197_13, e197_14, e197_15, e197_17, e197_20, e197_23, e197_24, e197_25, e197_26, e197_27, e197_30, e197_31, e197_33, e197_34, e197_35, e197_37, e197_38, e197_40, e197_42, e197_43, e197_46, e197_47, e197_48, e197_51, e197_52, e197_53, e197_55, e197_56, e197_57, e197_60, e197_61, e197_62, e197_65, e197_67, e197_69, e197_71, e197_74, e197_76, e197_79, e197_80, e197_81, e197_83, e197_85, e197_88, e197_90, e197_93, e197_96, e197_97, zt0, zt1, zn3, not_false_eq_true, toListS, toListN, zk_some, zpi, if_true, if_false, i10, C136, C128, w, w', j_0, k_0, j_99, k_99, C129_6, q_lt_m6_0, q_le_m6_0, q_eq_m6_0]
  have w : wrg (nI k) 0 99 = 0 := w
  have w' : inz (nI k) 0 99 = 1 := w'
  obtain ⟨B', c42⟩ := C42 X 5 G s k (by omega)
  have s2 : sm M (cb M 3 B') := sm_cb (by decide)
  obtain ⟨N0, hs0, c0⟩ := C196 X 2 (N := cb M 3 B') (M := M) G vm f5 s2 0 k (by omega)
  have m1v : ∀ {N : zM}, sm M N → N (20, 0, 0) 1 = nI np := fun hs => (hs (20, 0, 0) 1 rfl).trans m1
  obtain ⟨⟨N, l6⟩, hs, lp⟩ := zlr (σ := zM × zV) (n := np) (f := fun p z => zx X 12 197 40 [vR (7, 0, 0), vI (nI k), vI (smo nv np (bm M) k 0), vI (mt (Wm nv np (bm M) k) p).1, vI (mt (Wm nv np (bm M) k) p).2, vI (nI p), z.2] [] (hh z.1 G)) (P := fun _ z => sm M z.1) (fun p z hp hs => by
    obtain ⟨N', hs', c196⟩ := C196 X 2 (N := z.1) (M := M) G vm f5 hs (1 <<< (nI p &&& 31)) k (by omega)
    have ew' : iabs (smo nv np (bm M) k (1 <<< (nI p &&& 31)) - smo nv np (bm M) k 0) = Wm nv np (bm M) k p := rfl
    refine ⟨(N', vI (Wm nv np (bm M) k p)), hs', fun x ex => ?_⟩
    simp only [e197_40, e197_42, e197_43, e197_46, e197_47, e197_48, w1, t1, m1v hs, nle (show np < 2 ^ 31 by omega) (show p < 2 ^ 31 by omega)]
    rw [if_neg (by omega)]
    simp only [e197_51, e197_52, e197_53, e197_55, e197_56, e197_57, e197_60, e197_61, e197_62, e197_65, e197_67, e197_69, e197_71, zt0, zt1, zn3, not_false_eq_true, toListS, toListN, zk_some, zpi, c196, C236 X _ (hh M G), ew']
    by_cases c : (mt (Wm nv np (bm M) k) p).2 < Wm nv np (bm M) k p
    · rw [if_neg (by rw [i_lt] at c; rw [i_le]; omega)]
      simp only [e197_74, e197_76, e197_80, e197_81, e197_83, e197_85, e197_88, e197_90, e197_93, zt0, zt1, zn3, not_false_eq_true, toListS, toListN, zk_some, zpi, C237, imax, if_pos c, nI_1]
      simp only [mt, if_pos c] at ex
      exact ex
    · rw [if_pos (by rw [i_lt] at c; rw [i_le]; omega)]
      simp only [e197_79, e197_80, e197_81, e197_83, e197_85, e197_88, e197_90, e197_93, zt0, zt1, zn3, not_false_eq_true, toListS, toListN, zk_some, zpi, C237, imax, if_neg c, nI_1]
      simp only [mt, if_neg c] at ex
      exact ex) np 0 (N0, vN) (by omega) hs0
  have hs : sm M N := hs
  rw [nI_0, show mt (Wm nv np (bm M) k) 0 = (-9, -1) from rfl] at lp
  refine ⟨(mt (Wm nv np (bm M) k) np).1, cb M 3 B', G, N, G, ?_, ?_, Inv_c hs (Nat.le_refl _) i⟩
  · simp only [E94, e94_0, e94_1, e94_2, e94_4, e94_7, e94_8, e94_9, e94_12, e94_13, e94_14, e94_17, e94_18, e94_19, e94_22, e94_23, e94_26, e94_27, e94_30, zt0, zt1, zn3, not_false_eq_true, toListS, toListN, zk_some, zpi, if_true, if_false, i10, C118, w, j_0, k_0, j_99, k_99, c42]
  · simp only [e197_0, e197_1, e197_2, e197_3, e197_6, e197_9, e197_12, e197_13, e197_14, e197_15, e197_17, e197_20, e197_23, e197_24, e197_25, e197_26, e197_27, e197_30, e197_31, e197_33, e197_34, e197_35, e197_37, e197_38, E197, zt0, zt1, zn3, not_false_eq_true, toListS, toListN, zk_some, zpi, if_true, if_false, i10, C128, w', j_0, k_0, j_99, k_99, c0]
    refine Eq.trans lp ?_
    simp only [e197_40, e197_42, e197_43, e197_46, e197_47, e197_48, w1, t1, m1v hs, nle (show np < 2 ^ 31 by omega) (show np < 2 ^ 31 by omega)]
    rw [if_pos (Nat.le_refl _)]
    simp only [e197_96, e197_97]
