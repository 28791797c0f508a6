/-! whatIs -/
theorem uV_uV {V : tV} {j f : Nat} {x y : Int32} : uV (uV V j f x) j f y = uV V j f y := by
  funext j' f'
  unfold uV
  split <;> rfl
theorem uV_cc {V : tV} {j f g : Nat} {x y : Int32} (h : f ≠ g) : uV (uV V j f x) j g y = uV (uV V j g y) j f x := by
  funext j' f'
  unfold uV
  by_cases h1 : j' = j ∧ f' = f
  · obtain ⟨rfl, rfl⟩ := h1
    simp [h]
  · simp [h1]
/-- a PIPE as whatIs tries it -/
def pk (P : tV) (p fld : Nat) (k r : Int32) : tV := uV (uV P p fld k) p 4 r
theorem pk_r {P : tV} {p fld : Nat} {k r r' : Int32} : uV (pk P p fld k r) p 4 r' = pk P p fld k r' := uV_uV
theorem pk_k {P : tV} {p fld : Nat} {k k' r : Int32} (h : fld ≠ 4) : uV (pk P p fld k r) p fld k' = pk P p fld k' r := by
  unfold pk
  rw [uV_cc (f := 4) (g := fld) (Ne.symm h), uV_uV]
theorem pk_s {P : tV} {p fld : Nat} : pk P p fld (P p fld) (P p 4) = P := by
  unfold pk
  rw [uV_same (V := P) (j := p) (f := fld) rfl, uV_same rfl]
theorem pk_o {P : tV} {p fld : Nat} {k r : Int32} {g : Nat} (h1 : g ≠ fld) (h2 : g ≠ 4) : pk P p fld k r p g = P p g := by
  unfold pk
  rw [uV_f h2, uV_f h1]
/-- not as told with RATE r + 1 -/
def Qg (V P : tV) (p a c fld : Nat) (st k : Int32) (T : Nat → Int32) (r : Nat) : Bool := decide (¬ wG V (pk P p fld k (nI (r + 1))) p a c st = T r)
def isA (Q : Nat → Bool) : Nat → Int32
  | 0 => 1
  | r + 1 => if Q r = true then 0 else isA Q r
theorem isA_01 (Q : Nat → Bool) : ∀ n, isA Q n = 0 ∨ isA Q n = 1 := by
  intro n
  induction n with
  | zero => exact Or.inr rfl
  | succ n ih =>
    unfold isA
    split
    · exact Or.inl rfl
    · exact ih
theorem isA_0 {Q : Nat → Bool} : ∀ (n m : Nat), m < n → Q m = true → isA Q n = 0 := by
  intro n
  induction n with
  | zero => intro m h; omega
  | succ n ih =>
    intro m h q
    unfold isA
    by_cases e : m = n
    · subst e; rw [if_pos q]
    · split
      · rfl
      · exact ih m (by omega) q
theorem isA_1 {Q : Nat → Bool} : ∀ n, (∀ m, m < n → Q m = false) → isA Q n = 1 := by
  intro n
  induction n with
  | zero => intro _; rfl
  | succ n ih =>
    intro h
    unfold isA
    rw [if_neg (by rw [h n (by omega)]; decide)]
    exact ih fun m hm => h m (by omega)
theorem isA_c {Q Q' : Nat → Bool} : ∀ n, (∀ m, m < n → Q m = Q' m) → isA Q n = isA Q' n := by
  intro n
  induction n with
  | zero => intro _; rfl
  | succ n ih =>
    intro h
    unfold isA
    rw [h n (by omega), ih fun m hm => h m (by omega)]
theorem C14c (X : Nat × (Nat → Int32) × Value) (d : Nat) (M : zM) (G : zG) (S : Nat → Int32) (V P : tV) (p a c nv : Nat) (h2 : S 2 = nI nv) (h5 : nv ≤ 5) (ha : P p 0 = nI a) (hc : P p 1 = nI c) (ha1 : a < nv) (hc1 : c < nv) (hA : ¬ V a 0 + V c 0 = 0) : zd X (d + 2) 14 [vR (0, 3, 0), vR (3, 3, p)] (hh (cm M 3 S V P) G) = some (some (vI (wG V P p a c (S 5))), hh (cm M 3 S V P) G) := by
  have q := C14 X d (cm M 3 S V P) G 3 p a c nv (cm_S.trans h2) h5 (cm_P.trans ha) (cm_P.trans hc) ha1 hc1 (by rw [cm_vw]; exact hA)
  rw [cm_vw, cm_pw, cm_S] at q
  exact q
theorem C50 (X : Nat × (Nat → Int32) × Value) (d : Nat) (M : zM) (G : zG) (S : Nat → Int32) (V P : tV) (p a c nv l n fld : Nat) (k x : Int32) (hp : p < 8) (h2 : S 2 = nI nv) (h5 : nv ≤ 5) (ha : P p 0 = nI a) (hc : P p 1 = nI c) (ha1 : a < nv) (hc1 : c < nv) (hA : ¬ V a 0 + V c 0 = 0) (hf : fld = 5 ∨ fld = 6) (hl : l < 4) (hn : n ≤ 20) (e2 : M (4, l, 0) 1 = nI n) : ∃ x', zd X (d + 3) 50 [vR (2, 0, 0), vR (3, 3, p), vR (4, l, 0)] (hh (cm M 3 S V (pk P p fld k x)) G) = some (some (vI (isA (Qg V P p a c fld (S 5) k (M (15, l, 0))) (min n 9))), hh (cm M 3 S V (pk P p fld k x')) G) := by
  have hlq : n ≤ hln (15, l, 0) := by rw [hln_r, if_pos hl]; exact hn
  have es : ∀ P', cm M 3 S V P' (4, l, 0) 1 = nI n := fun P' => e2
  have ep : ∀ P' k, cm M 3 S V P' (15, l, 0) k = M (15, l, 0) k := fun P' k => rfl
  have c14 := fun y => C14c X d M G S V (pk P p fld k y) p a c nv h2 h5 ((pk_o (by omega) (by decide)).trans ha) ((pk_o (by omega) (by decide)).trans hc) ha1 hc1 hA
  have hb := fi_b (Q := Qg V P p a c fld (S 5) k (M (15, l, 0))) (min n 9) 0
  obtain ⟨x1, -, lp⟩ := zsr (σ := Int32) (n := min n 9) (f := fun r x => zx X (d + 3) 50 2 [vR (2, 0, 0), vR (3, 3, p), vR (4, l, 0), vI (nI (r + 1))] [] (hh (cm M 3 S V (pk P p fld k x)) G)) (P := fun _ _ => True) (Q := Qg V P p a c fld (S 5) k (M (15, l, 0))) (fun r x hr _ hQ => by
    have hQ' := of_decide_eq_false hQ
    have hQ2 : wG V (pk P p fld k (nI (r + 1))) p a c (S 5) = M (15, l, 0) r := Classical.not_not.mp hQ'
    have c62 := C62 X (d + 2) (cm M 3 S V (pk P p fld k x)) G l n (nI r) (es _) hlq
    rw [isx_y (show r < n by omega) (by omega)] at c62
    have hz : zin (nI r) (hln (15, l, 0)) = true := zin_nI (by omega) (by rw [hln_r]; split <;> decide)
    have hc : (nI r).toNatClampNeg = r := nI_clamp (by omega)
    have g9 : ¬ (9 : Int32) < nI (r + 1) := by rw [show (9 : Int32) = nI 9 from rfl, nlt (by decide) (by omega)]; omega
    refine ⟨nI (r + 1), trivial, fun w ew => ?_⟩
    simp only [e50_2, e50_3, e50_5]
    rw [if_neg g9]
    simp only [e50_8, e50_9, e50_10, e50_11, e50_12, e50_15, e50_18, e50_19, e50_20, e50_23, e50_24, e50_27, e50_28, e50_31, e50_32, e50_35, e50_36, e50_37, e50_38, e50_39, zt0, zt1, zn3, not_false_eq_true, toListS, toListN, zk_some, zpi, if_true, if_false, i10, cm_S, cm_V, cm_P, cm_vw, cm_pw, cm_uS, cm_uV, cm_uP, cm_Sf, nI_p, c62, pk_r, c14, hz, hc, ep]
    rw [if_pos hQ2]
    simp only [e50_44, e50_47, nI_1]
    exact ew) (min n 9) 0 x (by omega) trivial
  have hn1 := fi_n (Q := Qg V P p a c fld (S 5) k (M (15, l, 0))) (min n 9) 0
  have ht1 := fi_t (Q := Qg V P p a c fld (S 5) k (M (15, l, 0))) (min n 9) 0
  generalize fi (Qg V P p a c fld (S 5) k (M (15, l, 0))) 0 (min n 9) = m at lp hb hn1 ht1
  have E0 : zd X (d + 3) 50 [vR (2, 0, 0), vR (3, 3, p), vR (4, l, 0)] (hh (cm M 3 S V (pk P p fld k x)) G) = zx X (d + 3) 50 2 [vR (2, 0, 0), vR (3, 3, p), vR (4, l, 0), vI (nI (0 + 1))] [] (hh (cm M 3 S V (pk P p fld k x)) G) := by
    simp only [E50, e50_0, e50_1]
    rfl
  by_cases e : m = min n 9
  · rw [isA_1 _ (fun q hq => hn1 q (by omega) (by omega))]
    refine ⟨x1, E0.trans (lp.trans ?_)⟩
    rw [e]
    simp only [e50_2, e50_3, e50_5]
    by_cases g9 : (9 : Int32) < nI (min n 9 + 1)
    · rw [if_pos g9]
      simp only [e50_50, e50_51, zt1]
    · rw [if_neg g9]
      rw [show (9 : Int32) = nI 9 from rfl, nlt (by decide) (by omega)] at g9
      have c62 := C62 X (d + 2) (cm M 3 S V (pk P p fld k x1)) G l n (nI (min n 9)) (es _) hlq
      rw [show isx n (nI (min n 9)) = 0 from inz_n (by rw [nI_int (by omega)]; omega)] at c62
      simp only [e50_8, e50_9, e50_10, e50_11, e50_12, e50_15, e50_50, e50_51, zt0, zt1, zn3, not_false_eq_true, toListS, toListN, zk_some, zpi, if_true, if_false, i10, nI_p, c62]
  · have hQ := ht1 (by omega)
    rw [isA_0 _ m (by omega) hQ]
    have hQ' := of_decide_eq_true hQ
    refine ⟨nI (m + 1), E0.trans (lp.trans ?_)⟩
    have c62 := C62 X (d + 2) (cm M 3 S V (pk P p fld k x1)) G l n (nI m) (es _) hlq
    rw [isx_y (show m < n by omega) (by omega)] at c62
    have hz : zin (nI m) (hln (15, l, 0)) = true := zin_nI (by omega) (by rw [hln_r]; split <;> decide)
    have hc : (nI m).toNatClampNeg = m := nI_clamp (by omega)
    have g9 : ¬ (9 : Int32) < nI (m + 1) := by rw [show (9 : Int32) = nI 9 from rfl, nlt (by decide) (by omega)]; omega
    simp only [e50_2, e50_3, e50_5]
    rw [if_neg g9]
    simp only [e50_8, e50_9, e50_10, e50_11, e50_12, e50_15, e50_18, e50_19, e50_20, e50_23, e50_24, e50_27, e50_28, e50_31, e50_32, e50_35, e50_36, e50_37, e50_38, e50_39, zt0, zt1, zn3, not_false_eq_true, toListS, toListN, zk_some, zpi, if_true, if_false, i10, cm_S, cm_V, cm_P, cm_vw, cm_pw, cm_uS, cm_uV, cm_uP, cm_Sf, nI_p, c62, pk_r, c14, hz, hc, ep]
    rw [if_neg hQ']
    simp only [e50_42, e50_43, zt0]
/-- the bits for which all is as told -/
def bits (Q : Nat → Int32) : Nat → Int32
  | 0 => 0
  | k + 1 => if Q k = 0 then bits Q k else bits Q k ||| 1 <<< (nI k &&& 31)
theorem bits_c {Q Q' : Nat → Int32} : ∀ n, (∀ m, m < n → Q m = Q' m) → bits Q n = bits Q' n := by
  intro n
  induction n with
  | zero => intro _; rfl
  | succ n ih =>
    intro h
    unfold bits
    rw [h n (by omega), ih fun m hm => h m (by omega)]
theorem C48 (X : Nat × (Nat → Int32) × Value) (d : Nat) {M : zM} (G : zG) {nv np : Nat} (s : ST M nv np) (p a c l n : Nat) (hp : p < np) (ha : (bc M nv np).2.2 p 0 = nI a) (hc : (bc M nv np).2.2 p 1 = nI c) (ha1 : a < nv) (hc1 : c < nv) (hA : ¬ (bc M nv np).2.1 a 0 + (bc M nv np).2.1 c 0 = 0) (hl : l < 4) (hn : n ≤ 20) (e2 : M (4, l, 0) 1 = nI n) : ∃ B', zd X (d + 4) 48 [vR (2, 0, 0), vR (0, 0, 0), vI (nI p), vR (4, l, 0)] (hh M G) = some (some (vI (bits (fun k => isA (Qg (bc M nv np).2.1 (bc M nv np).2.2 p a c 5 ((bc M nv np).1 5) (nI k) (M (15, l, 0))) (min n 9)) 6)), hh (cb M 3 B') G) := by
  have vc := s.2.2.2.2.2.2.2.2.2.2.1
  have n5 := s.1
  have n8 := s.2.1
  have hp8 : p < 8 := by omega
  have t1 := T1 X (d + 2) G s
  generalize hB : bc M nv np = B at vc ha hc hA t1 ⊢
  obtain ⟨S, V, P⟩ := B
  have g2 : S 2 = nI nv := vc.1.1
  have g3 : ∀ P', cm M 3 S V P' (0, 3, 0) 3 = nI np := fun P' => cm_S.trans vc.1.2.1
  have c50 := fun k x => C50 X d M G S V P p a c nv l n 5 k x hp8 g2 n5 ha hc ha1 hc1 hA (by decide) hl hn e2
  obtain ⟨⟨y, x⟩, -, lp⟩ := zlr (σ := Int32 × Int32) (n := 6) (f := fun k yx => zx X (d + 4) 48 14 [vR (2, 0, 0), vR (0, 0, 0), vI (nI p), vR (4, l, 0), vI (bits (fun k => isA (Qg V P p a c 5 (S 5) (nI k) (M (15, l, 0))) (min n 9)) k), vI (nI k)] [] (hh (cm M 3 S V (pk P p 5 yx.1 yx.2)) G)) (P := fun _ _ => True) (fun k yx hk _ => by
    obtain ⟨x', c50'⟩ := c50 (nI k) yx.2
    have g5 : ¬ (5 : Int32) < nI k := by rw [show (5 : Int32) = nI 5 from rfl, nlt (by decide) (by omega)]; omega
    have c3 := C3b X (d + 3) (cm M 3 S V (pk P p 5 yx.1 yx.2)) G 3 np (g3 _) n8 (nI p)
    rw [isx_y hp (by omega)] at c3
    refine ⟨(nI k, x'), trivial, fun w ew => ?_⟩
    simp only [e48_14, e48_16, e48_17]
    rw [if_neg g5]
    simp only [e48_20, e48_21, e48_24, e48_25, e48_28, e48_31, e48_32, e48_35, e48_38, e48_39, e48_40, e48_42, e48_45, e48_46, e48_47, e48_50, e48_53, e48_54, e48_55, e48_56, e48_59, zt0, zt1, zn3, not_false_eq_true, toListS, toListN, zk_some, zpi, if_true, if_false, i10, cm_S, cm_V, cm_P, cm_vw, cm_pw, cm_uS, cm_uV, cm_uP, cm_Sf, c3, z8 hp8, cl8 hp8, pk_k (show 5 ≠ 4 by decide), c50']
    rcases isA_01 (Qg V P p a c 5 (S 5) (nI k) (M (15, l, 0))) (min n 9) with q | q
    · rw [if_pos q]
      simp only [e48_71, e48_74, nI_1]
      simp only [bits, if_pos q] at ew
      exact ew
    · have q' : ¬ isA (Qg V P p a c 5 (S 5) (nI k) (M (15, l, 0))) (min n 9) = 0 := by rw [q]; decide
      rw [if_neg q']
      simp only [e48_62, e48_64, e48_65, e48_67, e48_68, e48_69, e48_71, e48_74, nI_1]
      simp only [bits, if_neg q'] at ew
      exact ew) 6 0 (P p 5, P p 4) (by omega) trivial
  refine ⟨(S, V, pk P p 5 y x), ?_⟩
  rw [nI_0] at lp
  dsimp only at lp
  rw [pk_s] at lp
  simp only [E48, e48_0, e48_1, e48_4, e48_5, e48_8, e48_9, e48_11, e48_12, zt0, zt1, zn3, not_false_eq_true, toListS, toListN, zk_some, zpi, t1]
  refine Eq.trans lp ?_
  simp only [e48_14, e48_16, e48_17]
  rw [if_pos (by decide)]
  simp only [e48_77, e48_79]
  rfl
theorem C49 (X : Nat × (Nat → Int32) × Value) (d : Nat) {M : zM} (G : zG) {nv np : Nat} (s : ST M nv np) (p a c l n : Nat) (hp : p < np) (ha : (bc M nv np).2.2 p 0 = nI a) (hc : (bc M nv np).2.2 p 1 = nI c) (ha1 : a < nv) (hc1 : c < nv) (hA : ¬ (bc M nv np).2.1 a 0 + (bc M nv np).2.1 c 0 = 0) (hl : l < 4) (hn : n ≤ 20) (e2 : M (4, l, 0) 1 = nI n) : ∃ B', zd X (d + 4) 49 [vR (2, 0, 0), vR (0, 0, 0), vI (nI p), vR (4, l, 0)] (hh M G) = some (some (vI (bits (fun k => isA (Qg (bc M nv np).2.1 (bc M nv np).2.2 p a c 6 ((bc M nv np).1 5) (nI k) (M (15, l, 0))) (min n 9)) 10)), hh (cb M 3 B') G) := by
  have vc := s.2.2.2.2.2.2.2.2.2.2.1
  have n5 := s.1
  have n8 := s.2.1
  have hp8 : p < 8 := by omega
  have t1 := T1 X (d + 2) G s
  generalize hB : bc M nv np = B at vc ha hc hA t1 ⊢
  obtain ⟨S, V, P⟩ := B
  have g2 : S 2 = nI nv := vc.1.1
  have g3 : ∀ P', cm M 3 S V P' (0, 3, 0) 3 = nI np := fun P' => cm_S.trans vc.1.2.1
  have c50 := fun k x => C50 X d M G S V P p a c nv l n 6 k x hp8 g2 n5 ha hc ha1 hc1 hA (by decide) hl hn e2
  obtain ⟨⟨y, x⟩, -, lp⟩ := zlr (σ := Int32 × Int32) (n := 10) (f := fun k yx => zx X (d + 4) 49 14 [vR (2, 0, 0), vR (0, 0, 0), vI (nI p), vR (4, l, 0), vI (bits (fun k => isA (Qg V P p a c 6 (S 5) (nI k) (M (15, l, 0))) (min n 9)) k), vI (nI k)] [] (hh (cm M 3 S V (pk P p 6 yx.1 yx.2)) G)) (P := fun _ _ => True) (fun k yx hk _ => by
    obtain ⟨x', c50'⟩ := c50 (nI k) yx.2
    have g5 : ¬ (9 : Int32) < nI k := by rw [show (9 : Int32) = nI 9 from rfl, nlt (by decide) (by omega)]; omega
    have c3 := C3b X (d + 3) (cm M 3 S V (pk P p 6 yx.1 yx.2)) G 3 np (g3 _) n8 (nI p)
    rw [isx_y hp (by omega)] at c3
    refine ⟨(nI k, x'), trivial, fun w ew => ?_⟩
    simp only [e49_14, e49_16, e49_18]
    rw [if_neg g5]
    simp only [e49_21, e49_22, e49_25, e49_26, e49_29, e49_32, e49_33, e49_36, e49_39, e49_40, e49_41, e49_43, e49_46, e49_47, e49_48, e49_51, e49_54, e49_55, e49_56, e49_57, e49_60, zt0, zt1, zn3, not_false_eq_true, toListS, toListN, zk_some, zpi, if_true, if_false, i10, cm_S, cm_V, cm_P, cm_vw, cm_pw, cm_uS, cm_uV, cm_uP, cm_Sf, c3, z8 hp8, cl8 hp8, pk_k (show 6 ≠ 4 by decide), c50']
    rcases isA_01 (Qg V P p a c 6 (S 5) (nI k) (M (15, l, 0))) (min n 9) with q | q
    · rw [if_pos q]
      simp only [e49_72, e49_75, nI_1]
      simp only [bits, if_pos q] at ew
      exact ew
    · have q' : ¬ isA (Qg V P p a c 6 (S 5) (nI k) (M (15, l, 0))) (min n 9) = 0 := by rw [q]; decide
      rw [if_neg q']
      simp only [e49_63, e49_65, e49_66, e49_68, e49_69, e49_70, e49_72, e49_75, nI_1]
      simp only [bits, if_neg q'] at ew
      exact ew) 10 0 (P p 6, P p 4) (by omega) trivial
  refine ⟨(S, V, pk P p 6 y x), ?_⟩
  rw [nI_0] at lp
  dsimp only at lp
  rw [pk_s] at lp
  simp only [E49, e49_0, e49_1, e49_4, e49_5, e49_8, e49_9, e49_11, e49_12, zt0, zt1, zn3, not_false_eq_true, toListS, toListN, zk_some, zpi, t1]
  refine Eq.trans lp ?_
  simp only [e49_14, e49_16, e49_18]
  rw [if_pos (by decide)]
  simp only [e49_78, e49_80]
  rfl
theorem i_and1 (x : Int32) : x &&& 0 = 0 := Int32.and_zero
