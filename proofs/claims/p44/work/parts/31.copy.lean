/-! BENCHES AS ONE THING: S, V, P in one; a STEP of it; its copy -/
abbrev zB : Type := (Nat → Int32) × tV × tV
def cb (M : zM) (b : Nat) (B : zB) : zM := cm M b B.1 B.2.1 B.2.2
def gb (M : zM) (b : Nat) : zB := (M (0, b, 0), vw M b, pw M b)
theorem cb_self (M : zM) (b : Nat) : cb M b (gb M b) = M := cm_self
theorem cm_cm {M : zM} {b : Nat} {S S' : Nat → Int32} {V V' P P' : tV} : cm (cm M b S V P) b S' V' P' = cm M b S' V' P' := by
  funext k f
  obtain ⟨k1, k2, k3⟩ := k
  simp only [cm]
  split
  · rfl
  · split
    · rfl
    · split <;> rfl
def stp (nv np : Nat) (B : zB) : zB := sStp B.1 B.2.1 B.2.2 nv np
def vb (B : zB) (nv np : Nat) : Prop := vB B.1 B.2.1 B.2.2 nv np
theorem cb_S {M : zM} {b f : Nat} {B : zB} : cb M b B (0, b, 0) f = B.1 f := cm_S
theorem cb_V {M : zM} {b j f : Nat} {B : zB} : cb M b B (5, b, j) f = B.2.1 j f := cm_V
theorem cb_P {M : zM} {b p g : Nat} {B : zB} : cb M b B (3, b, p) g = B.2.2 p g := cm_P
theorem gb_cb {M : zM} {b : Nat} {B : zB} : gb (cb M b B) b = B := by
  unfold gb cb
  rw [cm_vw, cm_pw, cm_Sf]
theorem cb_cb {M : zM} {b : Nat} {B B' : zB} : cb (cb M b B) b B' = cb M b B' := cm_cm
theorem B11 (X : Nat × (Nat → Int32) × Value) (d : Nat) (M : zM) (G : zG) (b : Nat) (B : zB) (nv np : Nat) (h : vb B nv np) : zd X (d + 3) 11 [vR (0, b, 0)] (hh (cb M b B) G) = some (none, hh (cb M b (stp nv np B)) G) := C11 X d M G b B.1 B.2.1 B.2.2 nv np (vC_end h.1)
theorem stp_v {B : zB} {nv np : Nat} (h : vb B nv np) : vb (stp nv np B) nv np := (sStp_v h).1
/-- n STEPS -/
def bst (nv np : Nat) (B : zB) : Nat → zB
  | 0 => B
  | n + 1 => stp nv np (bst nv np B n)
theorem bst_v {B : zB} {nv np : Nat} (h : vb B nv np) (n : Nat) : vb (bst nv np B n) nv np := by
  induction n with
  | zero => exact h
  | succ n ih => exact stp_v ih
theorem sStp_6 {S : Nat → Int32} {V P : tV} {nv np : Nat} : (sStp S V P nv np).1 6 = S 6 := by
  unfold sStp
  dsimp only
  have k := sSs_k (uS (uS S 7 0) 8 0) (sPs (S 6) (S 5) (tpV V nv) P np).1 nv 6 (by decide) (by decide) (by decide)
  split
  · exact k
  · exact (uS_n (by decide)).trans k
theorem bst_6 {B : zB} {nv np : Nat} (n : Nat) : (bst nv np B n).1 6 = B.1 6 := by
  induction n with
  | zero => rfl
  | succ n ih => exact sStp_6.trans ih
/-- alike as far as calls look -/
def ag (nv np : Nat) (B B' : zB) : Prop := agS B.1 B'.1 ∧ agV nv B.2.1 B'.2.1 ∧ agP np (B.1 6) B.2.2 B'.2.2
theorem stp_c {B B' : zB} {nv np : Nat} (h : vb B nv np) (a : ag nv np B B') : ag nv np (stp nv np B) (stp nv np B') ∧ (stp nv np B).1 7 = (stp nv np B').1 7 ∧ (stp nv np B).1 8 = (stp nv np B').1 8 := by
  have q := sStp_c (vC_end h.1) a.1 a.2.1 a.2.2
  refine ⟨⟨fun f hf => q.1 f (by omega) (by omega), q.2.1, ?_⟩, q.1 7 (by decide) (by decide), q.1 8 (by decide) (by decide)⟩
  rw [show (stp nv np B).1 6 = B.1 6 from sStp_6]
  exact q.2.2
theorem bst_c {B B' : zB} {nv np : Nat} (h : vb B nv np) (a : ag nv np B B') (n : Nat) : ag nv np (bst nv np B n) (bst nv np B' n) := by
  induction n with
  | zero => exact a
  | succ n ih => exact (stp_c (bst_v h n) ih).1
theorem bst_78 {B B' : zB} {nv np : Nat} (h : vb B nv np) (a : ag nv np B B') (n : Nat) : (bst nv np B (n + 1)).1 7 = (bst nv np B' (n + 1)).1 7 ∧ (bst nv np B (n + 1)).1 8 = (bst nv np B' (n + 1)).1 8 := (stp_c (bst_v h n) (bst_c h a n)).2
/-! Bench.copy -/
def cpA (n w : Nat) (T U : tV) : tV := fun j f => if j < n ∧ f < w then U j f else T j f
theorem cpA_0 (w : Nat) (T U : tV) : cpA 0 w T U = T := by funext j f; simp [cpA]
theorem cpA_s (i w : Nat) (T U : tV) : (fun j f => if j = i ∧ f < w then U j f else cpA i w T U j f) = cpA (i + 1) w T U := by
  funext j f
  unfold cpA
  by_cases e : j = i
  · subst e
    by_cases q : f < w
    · simp [q]
    · simp [q]
  · by_cases q : j < i
    · simp [e, q, Nat.lt_succ_of_lt q]
    · have : ¬ j < i + 1 := by omega
      simp [e, q, this]
section CP
variable (X : Nat × (Nat → Int32) × Value) (d : Nat) (M : zM) (G : zG)
theorem cm_vo {M : zM} {b c : Nat} {S : Nat → Int32} {V P : tV} (h : c ≠ b) {j f : Nat} : cm M b S V P (5, c, j) f = vw M c j f := cm_o (by simp [h])
theorem cm_po {M : zM} {b c : Nat} {S : Nat → Int32} {V P : tV} (h : c ≠ b) {j f : Nat} : cm M b S V P (3, c, j) f = pw M c j f := cm_o (by simp [h])
theorem cm_so {M : zM} {b c : Nat} {S : Nat → Int32} {V P : tV} (h : c ≠ b) {f : Nat} : cm M b S V P (0, c, 0) f = M (0, c, 0) f := cm_o (by simp [h])
theorem C66 (b c : Nat) (S : Nat → Int32) (V P : tV) (j : Nat) (h : c ≠ b) : zd X d 66 [vR (5, b, j), vR (5, c, j)] (hh (cm M b S V P) G) = some (none, hh (cm M b S (fun k f => if k = j ∧ f < 5 then vw M c k f else V k f) P) G) := by
  simp only [E66, e66_0, e66_1, e66_2, e66_5, e66_8, e66_9, e66_10, e66_13, e66_16, e66_17, e66_18, e66_21, e66_24, e66_25, e66_26, e66_29, e66_32, e66_33, e66_34, e66_37, e66_40, zt0, zt1, zn3, not_false_eq_true, toListS, toListN, zk_some, zpi, cm_S, cm_V, cm_P, cm_vw, cm_pw, cm_uS, cm_uV, cm_uP, cm_Sf, cm_vo h]
  have e : uV (uV (uV (uV (uV V j 0 (vw M c j 0)) j 1 (vw M c j 1)) j 2 (vw M c j 2)) j 3 (vw M c j 3)) j 4 (vw M c j 4) = (fun k f => if k = j ∧ f < 5 then vw M c k f else V k f) := by
    funext k f
    unfold uV
    by_cases q : k = j
    · subst q
      by_cases q5 : f < 5
      · rcases (show f = 0 ∨ f = 1 ∨ f = 2 ∨ f = 3 ∨ f = 4 by omega) with rfl | rfl | rfl | rfl | rfl <;> simp
      · rw [if_neg (by omega), if_neg (by omega), if_neg (by omega), if_neg (by omega), if_neg (by omega), if_neg (by omega)]
    · simp [q]
  rw [e]
theorem C54 (b c : Nat) (S : Nat → Int32) (V P : tV) (j : Nat) (h : c ≠ b) (hz : pw M c j 7 = 0 ∨ pw M c j 7 = 1) : zd X d 54 [vR (3, b, j), vR (3, c, j)] (hh (cm M b S V P) G) = some (none, hh (cm M b S V (fun k f => if k = j ∧ f < 8 then pw M c k f else P k f)) G) := by
  simp only [E54, e54_0, e54_1, e54_2, e54_5, e54_8, e54_9, e54_10, e54_13, e54_16, e54_17, e54_18, e54_21, e54_24, e54_25, e54_26, e54_29, e54_32, e54_33, e54_34, e54_37, e54_40, e54_41, e54_42, e54_45, e54_48, e54_49, e54_50, e54_53, e54_56, e54_57, e54_58, e54_61, e54_64, zt0, zt1, zn3, not_false_eq_true, toListS, toListN, zk_some, zpi, cm_S, cm_V, cm_P, cm_vw, cm_pw, cm_uS, cm_uV, cm_uP, cm_Sf, cm_po h, hz]
  have e : uV (uV (uV (uV (uV (uV (uV (uV P j 0 (pw M c j 0)) j 1 (pw M c j 1)) j 2 (pw M c j 2)) j 3 (pw M c j 3)) j 4 (pw M c j 4)) j 5 (pw M c j 5)) j 6 (pw M c j 6)) j 7 (pw M c j 7) = (fun k f => if k = j ∧ f < 8 then pw M c k f else P k f) := by
    funext k f
    unfold uV
    by_cases q : k = j
    · subst q
      by_cases q5 : f < 8
      · rcases (show f = 0 ∨ f = 1 ∨ f = 2 ∨ f = 3 ∨ f = 4 ∨ f = 5 ∨ f = 6 ∨ f = 7 by omega) with rfl | rfl | rfl | rfl | rfl | rfl | rfl | rfl <;> simp
      · rw [if_neg (by omega), if_neg (by omega), if_neg (by omega), if_neg (by omega), if_neg (by omega), if_neg (by omega), if_neg (by omega), if_neg (by omega), if_neg (by omega)]
    · simp [q]
  rw [e]
theorem L1a (b c : Nat) (S : Nat → Int32) (V P : tV) (h : c ≠ b) (nv : Nat) (hS : S 2 = nI nv) (h5 : nv ≤ 5) : ∀ (m i : Nat), i + m = nv → zx X (d + 1) 1 10 [vR (0, b, 0), vR (0, c, 0), vI (nI i)] [] (hh (cm M b S (cpA i 5 V (vw M c)) P) G) = zx X (d + 1) 1 39 [vR (0, b, 0), vR (0, c, 0), vI (nI nv)] [] (hh (cm M b S (cpA nv 5 V (vw M c)) P) G) := by
  intro m
  induction m with
  | zero =>
    intro i hi
    have : i = nv := by omega
    subst this
    simp only [e1_10, e1_11, e1_12, e1_15, cm_S, cm_V, cm_P, cm_vw, cm_pw, cm_uS, cm_uV, cm_uP, cm_Sf, hS]
    rw [if_pos (nI_le (Nat.le_refl _) (by omega))]
  | succ m ih =>
    intro i hi
    have hz := zin_nI (i := i) (n := 5) (by omega) (by decide)
    have hc : (nI i).toNatClampNeg = i := nI_clamp (by omega)
    have hlt : ¬ nI nv ≤ nI i := nI_ge (by omega) (by omega)
    simp only [e1_10, e1_11, e1_12, e1_15, cm_S, cm_V, cm_P, cm_vw, cm_pw, cm_uS, cm_uV, cm_uP, cm_Sf, hS]
    rw [if_neg hlt]
    simp only [e1_18, e1_19, e1_22, e1_23, e1_24, e1_25, e1_28, e1_29, e1_30, e1_33, e1_36, zt0, zt1, zn3, not_false_eq_true, toListS, toListN, zk_some, zpi, hz, hc, C66 X d M G b c S _ P i h, cpA_s, nI_1]
    exact ih (i + 1) (by omega)
theorem L1b (b c : Nat) (S : Nat → Int32) (V P : tV) (h : c ≠ b) (np : Nat) (hS : S 3 = nI np) (h8 : np ≤ 8) (h01 : ∀ p, p < np → pw M c p 7 = 0 ∨ pw M c p 7 = 1) : ∀ (m i : Nat), i + m = np → zx X (d + 1) 1 49 [vR (0, b, 0), vR (0, c, 0), vI (nI i)] [] (hh (cm M b S V (cpA i 8 P (pw M c))) G) = zx X (d + 1) 1 78 [vR (0, b, 0), vR (0, c, 0), vI (nI np)] [] (hh (cm M b S V (cpA np 8 P (pw M c))) G) := by
  intro m
  induction m with
  | zero =>
    intro i hi
    have : i = np := by omega
    subst this
    simp only [e1_49, e1_50, e1_51, e1_54, cm_S, cm_V, cm_P, cm_vw, cm_pw, cm_uS, cm_uV, cm_uP, cm_Sf, hS]
    rw [if_pos (nI_le (Nat.le_refl _) (by omega))]
  | succ m ih =>
    intro i hi
    have hz := zin_nI (i := i) (n := 8) (by omega) (by decide)
    have hc : (nI i).toNatClampNeg = i := nI_clamp (by omega)
    have hlt : ¬ nI np ≤ nI i := nI_ge (by omega) (by omega)
    simp only [e1_49, e1_50, e1_51, e1_54, cm_S, cm_V, cm_P, cm_vw, cm_pw, cm_uS, cm_uV, cm_uP, cm_Sf, hS]
    rw [if_neg hlt]
    simp only [e1_57, e1_58, e1_61, e1_62, e1_63, e1_64, e1_67, e1_68, e1_69, e1_72, e1_75, zt0, zt1, zn3, not_false_eq_true, toListS, toListN, zk_some, zpi, hz, hc, C54 X d M G b c S V _ i h (h01 i (by omega)), cpA_s, nI_1]
    exact ih (i + 1) (by omega)
def cpB (nv np : Nat) (B C : zB) : zB := (uS (uS (uS (uS (uS B.1 2 (C.1 2)) 3 (C.1 3)) 4 (C.1 4)) 5 (C.1 5)) 6 0, cpA nv 5 B.2.1 C.2.1, cpA np 8 B.2.2 C.2.2)
theorem cb_o {M : zM} {b c : Nat} {B : zB} (h : c ≠ b) : gb (cb M b B) c = gb M c := by
  unfold gb cb
  refine Prod.ext (funext fun f => cm_so h) (Prod.ext (funext fun j => funext fun f => cm_vo (S := B.1) (V := B.2.1) (P := B.2.2) h) (funext fun j => funext fun f => cm_po (S := B.1) (V := B.2.1) (P := B.2.2) h))
theorem B1 (b c : Nat) (B : zB) (h : c ≠ b) (nv np : Nat) (hv : M (0, c, 0) 2 = nI nv) (hp : M (0, c, 0) 3 = nI np) (h5 : nv ≤ 5) (h8 : np ≤ 8) (h01 : ∀ p, p < np → pw M c p 7 = 0 ∨ pw M c p 7 = 1) : zd X (d + 1) 1 [vR (0, b, 0), vR (0, c, 0)] (hh (cb M b B) G) = some (none, hh (cb M b (cpB nv np B (gb M c))) G) := by
  have a1 := L1a X d M G b c (uS B.1 2 (nI nv)) B.2.1 B.2.2 h nv uS_s h5 nv 0 (by omega)
  have a2 := L1b X d M G b c (uS (uS B.1 2 (nI nv)) 3 (nI np)) (cpA nv 5 B.2.1 (vw M c)) B.2.2 h np uS_s h8 h01 np 0 (by omega)
  rw [cpA_0, nI_0] at a1 a2
  unfold cb
  simp only [E1, e1_0, e1_1, e1_2, e1_5, e1_8, e1_9, zt0, zt1, zn3, not_false_eq_true, toListS, toListN, zk_some, zpi, cm_S, cm_V, cm_P, cm_vw, cm_pw, cm_uS, cm_uV, cm_uP, cm_Sf, cm_so h, hv]
  rw [a1]
  simp only [e1_39, e1_40, e1_41, e1_44, e1_47, e1_48, zt0, zt1, zn3, not_false_eq_true, toListS, toListN, zk_some, zpi, cm_S, cm_V, cm_P, cm_vw, cm_pw, cm_uS, cm_uV, cm_uP, cm_Sf, cm_so h, hp]
  refine Eq.trans a2 ?_
  simp only [e1_78, e1_79, e1_80, e1_83, e1_86, e1_87, e1_88, e1_91, e1_94, e1_95, e1_96, e1_99, zt0, zt1, zn3, not_false_eq_true, toListS, toListN, zk_some, zpi, cm_S, cm_V, cm_P, cm_vw, cm_pw, cm_uS, cm_uV, cm_uP, cm_Sf, cm_so h, hp, cpB, gb, hv]
end CP
theorem cpB_ag {nv np : Nat} {B C : zB} (h6 : C.1 6 = 0) : ag nv np C (cpB nv np B C) := by
  refine ⟨fun f hf => ?_, fun j f hj hf => ?_, fun p g hp hg _ => ?_⟩
  · rcases hf with rfl | rfl | rfl | rfl | rfl
    · rfl
    · rfl
    · rfl
    · rfl
    · exact h6
  · exact (if_pos ⟨hj, hf⟩).symm
  · exact (if_pos ⟨hp, hg⟩).symm
theorem out_0 (p : Nat) : ¬ outs 0 p := by unfold outs; simp
/-- alike: what stands of one stands of the other, if none is out -/
theorem ag_v {nv np : Nat} {B C : zB} (h6 : B.1 6 = 0) (a : ag nv np B C) (h : vb B nv np) : vb C nv np := by
  obtain ⟨aS, aV, aP⟩ := a
  rw [h6] at aP
  obtain ⟨⟨e2, e3, n5, n8, hV, hP⟩, hw, hr, r⟩ := h
  have p (p g : Nat) (hp : p < np) (hg : g < 8) : B.2.2 p g = C.2.2 p g := aP p g hp hg (fun _ => out_0 p)
  refine ⟨⟨(aS 2 (by decide)).symm.trans e2, (aS 3 (by decide)).symm.trans e3, n5, n8, fun j hj => ?_, fun q hq => ?_⟩, fun j hj => ?_, fun q hq => ?_, ?_⟩
  · have := hV j hj
    unfold vV at *
    rwa [← aV j 0 hj (by decide), ← aV j 1 hj (by decide), ← aV j 2 hj (by decide), ← aV j 4 hj (by decide)]
  · obtain ⟨a, c, h0, h1, ha, hc, hn, m1, m2, r⟩ := hP q hq
    unfold vM at m1 m2
    refine ⟨a, c, (p q 0 hq (by decide)).symm.trans h0, (p q 1 hq (by decide)).symm.trans h1, ha, hc, hn, ?_, ?_, ?_⟩
    · unfold vM
      rwa [← p q 2 hq (by decide), ← aV a 1 ha (by decide), ← aV a 2 ha (by decide)]
    · unfold vM
      rwa [← p q 3 hq (by decide), ← aV c 1 hc (by decide), ← aV c 2 hc (by decide)]
    · rwa [← p q 4 hq (by decide), ← p q 5 hq (by decide), ← p q 6 hq (by decide)]
  · have := hw j hj
    unfold wat brim at *
    rwa [← aV j 3 hj (by decide), ← aV j 0 hj (by decide), ← aV j 2 hj (by decide)]
  · have := hr q hq
    unfold sSi at *
    rwa [← p q 7 hq (by decide), ← p q 5 hq (by decide)]
  · rwa [← aS 4 (by decide), ← aS 5 (by decide)]
