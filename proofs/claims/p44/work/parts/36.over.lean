/-! THE STATE THAT CALLS BEGIN WITH; searching STEP by STEP -/
def bc (M : zM) (nv np : Nat) : zB := cpB nv np (gb M 3) (gb M 0)
def bm (M : zM) : zB := gb M 0
def ST (M : zM) (nv np : Nat) : Prop := nv ≤ 5 ∧ np ≤ 8 ∧ M (0, 0, 0) 2 = nI nv ∧ M (0, 0, 0) 3 = nI np ∧ True ∧ True ∧ vb (gb M 0) nv np ∧ M (0, 0, 0) 6 = 0 ∧ True ∧ ag nv np (gb M 0) (bm M) ∧ vb (bc M nv np) nv np ∧ ag nv np (bc M nv np) (bm M) ∧ vb (bm M) nv np
theorem ag_s {nv np : Nat} {B C : zB} (h : B.1 6 = 0) (a : ag nv np B C) : ag nv np C B := by
  obtain ⟨a1, a2, a3⟩ := a
  have e := a1 6 (by decide)
  rw [h] at e a3
  refine ⟨fun f hf => (a1 f hf).symm, fun j f hj hf => (a2 j f hj hf).symm, fun p g hp hg _ => ?_⟩
  exact (a3 p g hp hg (fun _ => out_0 p)).symm
theorem ag_t {nv np : Nat} {B C D : zB} (a : ag nv np B C) (b : ag nv np C D) : ag nv np B D := by
  obtain ⟨a1, a2, a3⟩ := a
  obtain ⟨b1, b2, b3⟩ := b
  rw [← a1 6 (by decide)] at b3
  exact ⟨fun f hf => (a1 f hf).trans (b1 f hf), fun j f hj hf => (a2 j f hj hf).trans (b2 j f hj hf), fun p g hp hg q => (a3 p g hp hg q).trans (b3 p g hp hg q)⟩
section TH
variable (X : Nat × (Nat → Int32) × Value) (d : Nat) {M : zM} (G : zG) {nv np : Nat}
theorem T1 (s : ST M nv np) : zd X (d + 1) 1 [vR (0, 3, 0), vR (0, 0, 0)] (hh M G) = some (none, hh (cb M 3 (bc M nv np)) G) := by
  obtain ⟨n5, n8, e2, e3, -, -, v, -⟩ := s
  have q := B1 X d M G 3 0 (gb M 3) (by decide) nv np e2 e3 n5 n8 (fun p hp => (v.2.2.1 p hp).imp id And.left)
  rw [cb_self] at q
  exact q
end TH
def fnd (Q : Nat → Bool) (s : Nat) : Nat → Int32
  | 0 => -9
  | m + 1 => if Q s = true then nI s else fnd Q (s + 1) m
theorem fnd_c {Q Q' : Nat → Bool} : ∀ (m s : Nat), (∀ k, s ≤ k → k < s + m → Q k = Q' k) → fnd Q s m = fnd Q' s m := by
  intro m
  induction m with
  | zero => intro _ _; rfl
  | succ m ih =>
    intro s h
    unfold fnd
    rw [h s (by omega) (by omega), ih (s + 1) fun k h1 h2 => h k (by omega) (by omega)]
theorem C2x (X : Nat × (Nat → Int32) × Value) (d : Nat) (M : zM) (G : zG) (nv : Nat) (h2 : M (0, 0, 0) 2 = nI nv) (h5 : nv ≤ 5) (x : Int32) : zd X d 2 [vR (0, 0, 0), vI x] (hh M G) = some (some (vI (isx nv x)), hh M G) := by rw [C2, sHv_x h2 h5]
theorem C3x (X : Nat × (Nat → Int32) × Value) (d : Nat) (M : zM) (G : zG) (np : Nat) (h3 : M (0, 0, 0) 3 = nI np) (h8 : np ≤ 8) (x : Int32) : zd X d 3 [vR (0, 0, 0), vI x] (hh M G) = some (some (vI (isx np x)), hh M G) := by rw [C3, sHp_x h3 h8]
/-! over -/
def Qov (nv np : Nat) (B : zB) (x : Int32) (s : Nat) : Bool := decide ((bst nv np B s).1 8 >>> (x &&& 31) &&& 1 = 1)
theorem L32 (X : Nat × (Nat → Int32) × Value) (d : Nat) (M : zM) (G : zG) (nv np : Nat) (B : zB) (h : vb B nv np) (x : Int32) : ∀ (m i : Nat), i + m = 200 → ∃ B', zx X (d + 4) 32 10 [vR (2, 0, 0), vR (0, 0, 0), vI x, vI (nI (i + 1))] [] (hh (cb M 3 (bst nv np B i)) G) = some (some (vI (fnd (Qov nv np B x) (i + 1) m)), hh (cb M 3 B') G) := by
  intro m
  induction m with
  | zero =>
    intro i hi
    have : i = 200 := by omega
    subst this
    refine ⟨bst nv np B 200, ?_⟩
    simp only [e32_10, e32_11, e32_14]
    rw [if_pos (by decide)]
    simp only [e32_47, e32_49]
    rfl
  | succ m ih =>
    intro i hi
    have hlt : ¬ (200 : Int32) < nI (i + 1) := by rw [i_lt, nI_int (by omega), show (200 : Int32).toInt = 200 from rfl]; omega
    have st := B11 X d M G 3 (bst nv np B i) nv np (bst_v h i)
    obtain ⟨B', ih'⟩ := ih (i + 1) (by omega)
    simp only [e32_10, e32_11, e32_14]
    rw [if_neg hlt]
    simp only [e32_17, e32_18, e32_21, e32_24, e32_25, e32_28, e32_31, e32_32, e32_33, e32_34, e32_35, e32_36, zt0, zt1, zn3, not_false_eq_true, toListS, toListN, zk_some, zpi, cb_S, cb_V, cb_P, st]
    by_cases q : (bst nv np B (i + 1)).1 8 >>> (x &&& 31) &&& 1 = 1
    · refine ⟨stp nv np (bst nv np B i), ?_⟩
      have q' : Qov nv np B x (i + 1) = true := decide_eq_true q
      unfold fnd
      rw [if_pos q']
      refine Eq.trans (if_pos q) ?_
      simp only [e32_39, e32_40, zt0, zt1, zn3, not_false_eq_true, toListS, toListN, zk_some, zpi]
    · refine ⟨B', ?_⟩
      have q' : ¬ Qov nv np B x (i + 1) = true := fun e => q (of_decide_eq_true e)
      unfold fnd
      rw [if_neg q', ← ih']
      refine Eq.trans (if_neg q) ?_
      simp only [e32_41, e32_44, nI_1]
      rfl
theorem C32 (X : Nat × (Nat → Int32) × Value) (d : Nat) {M : zM} (G : zG) {nv np : Nat} (s : ST M nv np) (x : Int32) : ∃ B', zd X (d + 4) 32 [vR (2, 0, 0), vR (0, 0, 0), vI x] (hh M G) = some (some (vI (fnd (Qov nv np (bc M nv np) x) 1 200)), hh (cb M 3 B') G) := by
  obtain ⟨B', l⟩ := L32 X d M G nv np (bc M nv np) s.2.2.2.2.2.2.2.2.2.2.1 x 200 0 (by omega)
  refine ⟨B', ?_⟩
  simp only [E32, e32_0, e32_1, e32_4, e32_5, e32_8, e32_9, zt0, zt1, zn3, not_false_eq_true, toListS, toListN, zk_some, zpi, T1 X _ G s]
  exact l
