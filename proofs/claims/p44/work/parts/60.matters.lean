/-! PIPES that are out; matters -/
theorem i_bit (x : Int32) : x &&& 1 = 0 ∨ x &&& 1 = 1 := by
  have e : (x &&& 1).toBitVec.toNat = x.toBitVec.toNat % 2 := by
    rw [Int32.toBitVec_and, BitVec.toNat_and, show (1 : Int32).toBitVec.toNat = 1 from rfl, Nat.and_one_is_mod]
  rcases (show x.toBitVec.toNat % 2 = 0 ∨ x.toBitVec.toNat % 2 = 1 by omega) with h | h
  · exact Or.inl (Int32.toBitVec_inj.mp (BitVec.eq_of_toNat_eq (by rw [e, h]; rfl)))
  · exact Or.inr (Int32.toBitVec_inj.mp (BitVec.eq_of_toNat_eq (by rw [e, h]; rfl)))
def seto (B : zB) (o : Int32) : zB := (uS B.1 6 o, B.2.1, B.2.2)
/-- RUNS of the PIPES that are out, below n, set to 0 -/
def zr (P : tV) (o : Int32) (n : Nat) : tV := fun q g => if g = 7 ∧ q < n ∧ o >>> (nI q &&& 31) &&& 1 = 1 then 0 else P q g
theorem zr_0 {P : tV} {o : Int32} : zr P o 0 = P := by
  funext q g
  unfold zr
  rw [if_neg (by omega)]
theorem zr_s1 {P : tV} {o : Int32} {n : Nat} (h : o >>> (nI n &&& 31) &&& 1 = 1) : uV (zr P o n) n 7 0 = zr P o (n + 1) := by
  funext q g
  unfold uV zr
  by_cases e : q = n ∧ g = 7
  · obtain ⟨rfl, rfl⟩ := e
    rw [if_pos ⟨rfl, rfl⟩, if_pos ⟨rfl, by omega, h⟩]
  · rw [if_neg e]
    by_cases c : g = 7 ∧ q < n ∧ o >>> (nI q &&& 31) &&& 1 = 1
    · rw [if_pos c, if_pos ⟨c.1, by omega, c.2.2⟩]
    · rw [if_neg c, if_neg (fun d => c ⟨d.1, by have := d.2.1; have : ¬ q = n := fun x => e ⟨x, d.1⟩; omega, d.2.2⟩)]
theorem zr_s0 {P : tV} {o : Int32} {n : Nat} (h : ¬ o >>> (nI n &&& 31) &&& 1 = 1) : uV (zr P o n) n 7 (zr P o n n 7) = zr P o (n + 1) := by
  rw [uV_same rfl]
  funext q g
  unfold zr
  by_cases c : g = 7 ∧ q < n ∧ o >>> (nI q &&& 31) &&& 1 = 1
  · rw [if_pos c, if_pos ⟨c.1, by omega, c.2.2⟩]
  · rw [if_neg c, if_neg (fun d => c ⟨d.1, by have := d.2.1; have : ¬ q = n := fun x => h (x ▸ d.2.2); omega, d.2.2⟩)]
theorem vb_o {B : zB} {nv np : Nat} (h : vb B nv np) (o : Int32) : vb (seto B o) nv np := h
theorem vb_z {B : zB} {nv np : Nat} (h : vb B nv np) (o : Int32) (n : Nat) : vb (uS B.1 6 o, B.2.1, zr B.2.2 o n) nv np := by
  obtain ⟨⟨v1, v2, v3, v4, v5, v6⟩, v7, v8, v9⟩ := h
  have k : ∀ q g, g ≠ 7 → zr B.2.2 o n q g = B.2.2 q g := fun q g hg => by
    unfold zr
    rw [if_neg (fun d => hg d.1)]
  refine ⟨vC_c rfl rfl (fun _ _ _ => rfl) k ⟨v1, v2, v3, v4, v5, v6⟩, v7, fun q hq => ?_, v9⟩
  show zr B.2.2 o n q 7 = 0 ∨ (zr B.2.2 o n q 7 = 1 ∧ ¬ sSi (zr B.2.2 o n) q = 0)
  rw [sSi_c (P := B.2.2) (k q 5 (by decide))]
  unfold zr
  split
  · exact Or.inl rfl
  · exact v8 q hq
theorem ag_z {B C : zB} {nv np : Nat} (h6 : B.1 6 = 0) (a : ag nv np B C) (o : Int32) : ag nv np (seto B o) (uS C.1 6 o, C.2.1, zr C.2.2 o np) := by
  obtain ⟨a1, a2, a3⟩ := a
  rw [h6] at a3
  refine ⟨fun f hf => ?_, a2, fun p g hp hg hn => ?_⟩
  · rcases hf with rfl | rfl | rfl | rfl | rfl
    · exact a1 2 (by decide)
    · exact a1 3 (by decide)
    · exact a1 4 (by decide)
    · exact a1 5 (by decide)
    · rfl
  · show B.2.2 p g = zr C.2.2 o np p g
    unfold zr
    rw [if_neg (fun d => ?_)]
    · exact a3 p g hp hg (fun _ => out_0 p)
    · have := hn d.1
      unfold outs at this
      rw [show (seto B o).1 6 = o from rfl, d.2.2] at this
      exact this (by decide)
def smo (nv np : Nat) (B : zB) (n : Nat) (o : Int32) : Int32 := (bst nv np (seto B o) n).1 4
theorem C43 (X : Nat × (Nat → Int32) × Value) (d : Nat) {M : zM} (G : zG) {nv np : Nat} (s : ST M nv np) (Z : zB) (o : Int32) (n : Nat) (hn : n < 2 ^ 31) : ∃ B', zd X (d + 5) 43 [vR (2, 0, 0), vR (0, 0, 0), vI o, vI (nI n)] (hh (cb M 3 Z) G) = some (some (vI (smo nv np (bm M) n o)), hh (cb M 3 B') G) := by
  have vm := s.2.2.2.2.2.2.2.2.2.2.2.2
  obtain ⟨z1, z2, z3⟩ := ST_z s Z
  have az : ag nv np (seto (cpB nv np Z (gb M 0)) o) (seto (bm M) o) := by
    obtain ⟨a1, a2, a3⟩ := z2
    rw [z3] at a3
    refine ⟨fun f hf => ?_, a2, fun p g hp hg _ => a3 p g hp hg (fun _ => out_0 p)⟩
    rcases hf with rfl | rfl | rfl | rfl | rfl
    · exact a1 2 (by decide)
    · exact a1 3 (by decide)
    · exact a1 4 (by decide)
    · exact a1 5 (by decide)
    · rfl
  have e : smo nv np (bm M) n o = smo nv np (cpB nv np Z (gb M 0)) n o := ((bst_c (vb_o z1 o) az n).1 4 (by decide)).symm
  have t1 := T1z X (d + 3) G s Z
  have cu : u2 (cb M 3 (cpB nv np Z (gb M 0))) (0, 3, 0) 6 o = cb M 3 (seto (cpB nv np Z (gb M 0)) o) := cm_uS
  have c31 := C31 X d M G nv np (seto (cpB nv np Z (gb M 0)) o) (vb_o z1 o) n hn
  refine ⟨bst nv np (seto (cpB nv np Z (gb M 0)) o) n, ?_⟩
  rw [e]
  simp only [E43, e43_0, e43_1, e43_4, e43_5, e43_8, e43_9, e43_12, e43_13, e43_16, e43_17, e43_18, e43_21, e43_22, e43_25, e43_28, zt0, zt1, zn3, not_false_eq_true, toListS, toListN, zk_some, zpi, if_true, if_false, i10, t1, cu, c31, cb_S]
  rfl
def mt (W : Nat → Int32) : Nat → Int32 × Int32
  | 0 => (-9, -1)
  | p + 1 => if (mt W p).2 < W p then (nI p, W p) else mt W p
def Wm (nv np : Nat) (B : zB) (n p : Nat) : Int32 := iabs (smo nv np B n (1 <<< (nI p &&& 31)) - smo nv np B n 0)
theorem C42 (X : Nat × (Nat → Int32) × Value) (d : Nat) {M : zM} (G : zG) {nv np : Nat} (s : ST M nv np) (n : Nat) (hn : n < 2 ^ 31) : ∃ B', zd X (d + 6) 42 [vR (2, 0, 0), vR (0, 0, 0), vI (nI n)] (hh M G) = some (some (vI (mt (Wm nv np (bm M) n) np).1), hh (cb M 3 B') G) := by
  have n8 := s.2.1
  have e3 := s.2.2.2.1
  obtain ⟨B0, c0⟩ := C43 X d G s (gb M 3) 0 n hn
  rw [show cb M 3 (gb M 3) = M from cb_self M 3] at c0
  have g3 : ∀ Z, cb M 3 Z (0, 0, 0) 3 = nI np := fun Z => e3
  obtain ⟨⟨Z, l7⟩, -, lp⟩ := zlr (σ := zB × zV) (n := np) (f := fun p z => zx X (d + 6) 42 18 [vR (2, 0, 0), vR (0, 0, 0), vI (nI n), vI (smo nv np (bm M) n 0), vI (mt (Wm nv np (bm M) n) p).1, vI (mt (Wm nv np (bm M) n) p).2, vI (nI p), z.2] [] (hh (cb M 3 z.1) G)) (P := fun _ _ => True) (fun p z hp _ => by
    obtain ⟨B', c43⟩ := C43 X d G s z.1 (1 <<< (nI p &&& 31)) n hn
    have ew' : iabs (smo nv np (bm M) n (1 <<< (nI p &&& 31)) - smo nv np (bm M) n 0) = Wm nv np (bm M) n p := rfl
    refine ⟨(B', vI (Wm nv np (bm M) n p)), trivial, fun x ex => ?_⟩
    simp only [e42_18, e42_20, e42_21, e42_24, g3, nle (show np < 2 ^ 31 by omega) (show p < 2 ^ 31 by omega)]
    rw [if_neg (by omega)]
    simp only [e42_27, e42_28, e42_29, e42_30, e42_32, e42_33, e42_34, e42_37, e42_38, e42_39, e42_42, e42_44, e42_46, e42_48, zt0, zt1, zn3, not_false_eq_true, toListS, toListN, zk_some, zpi, c43, C236 X _ (hh M G), ew']
    by_cases c : (mt (Wm nv np (bm M) n) p).2 < Wm nv np (bm M) n p
    · rw [if_neg (by rw [i_lt] at c; rw [i_le]; omega)]
      simp only [e42_51, e42_53, e42_55, e42_57, e42_59, e42_62, nI_1]
      simp only [mt, if_pos c] at ex
      exact ex
    · rw [if_pos (by rw [i_lt] at c; rw [i_le]; omega)]
      simp only [e42_59, e42_62, nI_1]
      simp only [mt, if_neg c] at ex
      exact ex) np 0 (B0, vN) (by omega) trivial
  rw [nI_0, show mt (Wm nv np (bm M) n) 0 = (-9, -1) from rfl] at lp
  refine ⟨Z, ?_⟩
  simp only [E42, e42_0, e42_1, e42_2, e42_3, e42_4, e42_7, e42_8, e42_10, e42_12, e42_13, e42_15, e42_16, zt0, zt1, zn3, not_false_eq_true, toListS, toListN, zk_some, zpi, c0]
  refine Eq.trans lp ?_
  simp only [e42_18, e42_20, e42_21, e42_24, g3, nle (show np < 2 ^ 31 by omega) (show np < 2 ^ 31 by omega)]
  rw [if_pos (Nat.le_refl _)]
  simp only [e42_65, e42_67]
