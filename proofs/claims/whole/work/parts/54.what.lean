/-! whatIs -/
theorem uV_uV {V : tV} {j f : Nat} {x y : Int32} : uV (uV V j f x) j f y = uV V j f y := by
  funext j' f'
  unfold uV
  split <;> rfl
theorem uV_cc {V : tV} {j f g : Nat} {x y : Int32} (h : f ≠ g) : uV (uV V j f x) j g y = uV (uV V j g y) j f x := by
  funext j' f'
  unfold uV
  by_cases h1 : j' = j ∧ f' = f
  · obtain ⟨rfl, rfl⟩ := h1
    simp [h]
  · simp [h1]
/-- a PIPE as whatIs tries it -/
def pk (P : tV) (p fld : Nat) (k r : Int32) : tV := uV (uV P p fld k) p 4 r
theorem pk_r {P : tV} {p fld : Nat} {k r r' : Int32} : uV (pk P p fld k r) p 4 r' = pk P p fld k r' := uV_uV
theorem pk_k {P : tV} {p fld : Nat} {k k' r : Int32} (h : fld ≠ 4) : uV (pk P p fld k r) p fld k' = pk P p fld k' r := by
  unfold pk
  rw [uV_cc (f := 4) (g := fld) (Ne.symm h), uV_uV]
theorem pk_s {P : tV} {p fld : Nat} : pk P p fld (P p fld) (P p 4) = P := by
  unfold pk
  rw [uV_same (V := P) (j := p) (f := fld) rfl, uV_same rfl]
theorem pk_o {P : tV} {p fld : Nat} {k r : Int32} {g : Nat} (h1 : g ≠ fld) (h2 : g ≠ 4) : pk P p fld k r p g = P p g := by
  unfold pk
  rw [uV_f h2, uV_f h1]
/-- not as told with RATE r + 1 -/
def Qg (V P : tV) (p a c fld : Nat) (st k : Int32) (T : Nat → Int32) (r : Nat) : Bool := decide (¬ wG V (pk P p fld k (nI (r + 1))) p a c st = T r)
def isA (Q : Nat → Bool) : Nat → Int32
  | 0 => 1
  | r + 1 => if Q r = true then 0 else isA Q r
theorem isA_01 (Q : Nat → Bool) : ∀ n, isA Q n = 0 ∨ isA Q n = 1 := by
  intro n
  induction n with
  | zero => exact Or.inr rfl
  | succ n ih =>
    unfold isA
    split
    · exact Or.inl rfl
    · exact ih
theorem isA_0 {Q : Nat → Bool} : ∀ (n m : Nat), m < n → Q m = true → isA Q n = 0 := by
  intro n
  induction n with
  | zero => intro m h; omega
  | succ n ih =>
    intro m h q
    unfold isA
    by_cases e : m = n
    · subst e; rw [if_pos q]
    · split
      · rfl
      · exact ih m (by omega) q
theorem isA_1 {Q : Nat → Bool} : ∀ n, (∀ m, m < n → Q m = false) → isA Q n = 1 := by
  intro n
  induction n with
  | zero => intro _; rfl
  | succ n ih =>
    intro h
    unfold isA
    rw [if_neg (by rw [h n (by omega)]; decide)]
    exact ih fun m hm => h m (by omega)
theorem isA_c {Q Q' : Nat → Bool} : ∀ n, (∀ m, m < n → Q m = Q' m) → isA Q n = isA Q' n := by
  intro n
  induction n with
  | zero => intro _; rfl
  | succ n ih =>
    intro h
    unfold isA
    rw [h n (by omega), ih fun m hm => h m (by omega)]
theorem C14c (X : Nat × (Nat → Int32) × Value) (d : Nat) (M : zM) (G : zG) (S : Nat → Int32) (V P : tV) (p a c nv : Nat) (h2 : S 2 = nI nv) (h5 : nv ≤ 5) (ha : P p 0 = nI a) (hc : P p 1 = nI c) (ha1 : a < nv) (hc1 : c < nv) (hA : ¬ V a 0 + V c 0 = 0) : zd X (d + 2) 14 [vR (0, 3, 0), vR (3, 3, p)] (hh (cm M 3 S V P) G) = some (some (vI (wG V P p a c (S 5))), hh (cm M 3 S V P) G) := by
  have q := C14 X d (cm M 3 S V P) G 3 p a c nv (cm_S.trans h2) h5 (cm_P.trans ha) (cm_P.trans hc) ha1 hc1 (by rw [cm_vw]; exact hA)
  rw [cm_vw, cm_pw, cm_S] at q
  exact q
theorem C50 (X : Nat × (Nat → Int32) × Value) (d : Nat) (M : zM) (G : zG) (S : Nat → Int32) (V P : tV) (p a c nv l n fld : Nat) (k x : Int32) (hp : p < 8) (h2 : S 2 = nI nv) (h5 : nv ≤ 5) (ha : P p 0 = nI a) (hc : P p 1 = nI c) (ha1 : a < nv) (hc1 : c < nv) (hA : ¬ V a 0 + V c 0 = 0) (hf : fld = 5 ∨ fld = 6) (hl : l < 4) (hn : n ≤ 20) (e2 : M (4, l, 0) 1 = nI n) : ∃ x', zd X (d + 3) 50 [vR (2, 0, 0), vR (3, 3, p), vR (4, l, 0)] (hh (cm M 3 S V (pk P p fld k x)) G) = some (some (vI (isA (Qg V P p a c fld (S 5) k (M (15, l, 0))) (min n 9))), hh (cm M 3 S V (pk P p fld k x')) G) := by
  have hlq : n ≤ hln (15, l, 0) := by rw [hln_r, if_pos hl]; exact hn
  have es : ∀ P', cm M 3 S V P' (4, l, 0) 1 = nI n := fun P' => e2
  have ep : ∀ P' k, cm M 3 S V P' (15, l, 0) k = M (15, l, 0) k := fun P' k => rfl
  have c14 := fun y => C14c X d M G S V (pk P p fld k y) p a c nv h2 h5 ((pk_o (by omega) (by decide)).trans ha) ((pk_o (by omega) (by decide)).trans hc) ha1 hc1 hA
  have hb := fi_b (Q := Qg V P p a c fld (S 5) k (M (15, l, 0))) (min n 9) 0
  obtain ⟨x1, -, lp⟩ := zsr (σ := Int32) (n := min n 9) (f := fun r x => zx X (d + 3) 50 2 [vR (2, 0, 0), vR (3, 3, p), vR (4, l, 0), vI (nI (r + 1))] [] (hh (cm M 3 S V (pk P p fld k x)) G)) (P := fun _ _ => True) (Q := Qg V P p a c fld (S 5) k (M (15, l, 0))) (fun r x hr _ hQ => by
    have hQ' := of_decide_eq_false hQ
    have hQ2 : wG V (pk P p fld k (nI (r + 1))) p a c (S 5) = M (15, l, 0) r := Classical.not_not.mp hQ'
    have c62 := C62 X (d + 2) (cm M 3 S V (pk P p fld k x)) G l n (nI r) (es _) hlq
    rw [isx_y (show r < n by omega) (by omega)] at c62
    have hz : zin (nI r) (hln (15, l, 0)) = true := zin_nI (by omega) (by rw [hln_r]; split <;> decide)
    have hc : (nI r).toNatClampNeg = r := nI_clamp (by omega)
    have g9 : ¬ (9 : Int32) < nI (r + 1) := by rw [show (9 : Int32) = nI 9 from rfl, nlt (by decide) (by omega)]; omega
    refine ⟨nI (r + 1), trivial, fun w ew => ?_⟩
    simp only [e50_2, e50_3, e50_5]
    rw [if_neg g9]
    simp only [e50_8, e50_9, e50_10, e50_11, e50_12, e50_15, e50_18, e50_19, e50_20, e50_23, e50_24, e50_27, e50_28, e50_31, e50_32, e50_35, e50_36, e50_37, e50_38, e50_39, zt0, zt1, zn3, not_false_eq_true, toListS, toListN, zk_some, zpi, if_true, if_false, i10, cm_S, cm_V, cm_P, cm_vw, cm_pw, cm_uS, cm_uV, cm_uP, cm_Sf, nI_p, c62, pk_r, c14, hz, hc, ep]
    rw [if_pos hQ2]
    simp only [e50_44, e50_47, nI_1]
    exact ew) (min n 9) 0 x (by omega) trivial
  have hn1 := fi_n (Q := Qg V P p a c fld (S 5) k (M (15, l, 0))) (min n 9) 0
  have ht1 := fi_t (Q := Qg V P p a c fld (S 5) k (M (15, l, 0))) (min n 9) 0
  generalize fi (Qg V P p a c fld (S 5) k (M (15, l, 0))) 0 (min n 9) = m at lp hb hn1 ht1
  have E0 : zd X (d + 3) 50 [vR (2, 0, 0), vR (3, 3, p), vR (4, l, 0)] (hh (cm M 3 S V (pk P p fld k x)) G) = zx X (d + 3) 50 2 [vR (2, 0, 0), vR (3, 3, p), vR (4, l, 0), vI (nI (0 + 1))] [] (hh (cm M 3 S V (pk P p fld k x)) G) := by
    simp only [E50, e50_0, e50_1]
    rfl
  by_cases e : m = min n 9
  · rw [isA_1 _ (fun q hq => hn1 q (by omega) (by omega))]
    refine ⟨x1, E0.trans (lp.trans ?_)⟩
    rw [e]
    simp only [e50_2, e50_3, e50_5]
    by_cases g9 : (9 : Int32) < nI (min n 9 + 1)
    · rw [if_pos g9]
      simp only [e50_50, e50_51, zt1]
    · rw [if_neg g9]
      rw [show (9 : Int32) = nI 9 from rfl, nlt (by decide) (by omega)] at g9
      have c62 := C62 X (d + 2) (cm M 3 S V (pk P p fld k x1)) G l n (nI (min n 9)) (es _) hlq
      rw [show isx n (nI (min n 9)) = 0 from inz_n (by rw [nI_int (by omega)]; omega)] at c62
      simp only [e50_8, e50_9, e50_10, e50_11, e50_12, e50_15, e50_50, e50_51, zt0, zt1, zn3, not_false_eq_true, toListS, toListN, zk_some, zpi, if_true, if_false, i10, nI_p, c62]
  · have hQ := ht1 (by omega)
    rw [isA_0 _ m (by omega) hQ]
    have hQ' := of_decide_eq_true hQ
    refine ⟨nI (m + 1), E0.trans (lp.trans ?_)⟩
    have c62 := C62 X (d + 2) (cm M 3 S V (pk P p fld k x1)) G l n (nI m) (es _) hlq
    rw [isx_y (show m < n by omega) (by omega)] at c62
    have hz : zin (nI m) (hln (15, l, 0)) = true := zin_nI (by omega) (by rw [hln_r]; split <;> decide)
    have hc : (nI m).toNatClampNeg = m := nI_clamp (by omega)
    have g9 : ¬ (9 : Int32) < nI (m + 1) := by rw [show (9 : Int32) = nI 9 from rfl, nlt (by decide) (by omega)]; omega
    simp only [e50_2, e50_3, e50_5]
    rw [if_neg g9]
    simp only [e50_8, e50_9, e50_10, e50_11, e50_12, e50_15, e50_18, e50_19, e50_20, e50_23, e50_24, e50_27, e50_28, e50_31, e50_32, e50_35, e50_36, e50_37, e50_38, e50_39, zt0, zt1, zn3, not_false_eq_true, toListS, toListN, zk_some, zpi, if_true, if_false, i10, cm_S, cm_V, cm_P, cm_vw, cm_pw, cm_uS, cm_uV, cm_uP, cm_Sf, nI_p, c62, pk_r, c14, hz, hc, ep]
    rw [if_neg hQ']
    simp only [e50_42, e50_43, zt0]
/-- the bits for which all is as told -/
def bits (Q : Nat → Int32) : Nat → Int32
  | 0 => 0
  | k + 1 => if Q k = 0 then bits Q k else bits Q k ||| 1 <<< (nI k &&& 31)
theorem bits_c {Q Q' : Nat → Int32} : ∀ n, (∀ m, m < n → Q m = Q' m) → bits Q n = bits Q' n := by
  intro n
  induction n with
  | zero => intro _; rfl
  | succ n ih =>
    intro h
    unfold bits
    rw [h n (by omega), ih fun m hm => h m (by omega)]
theorem C48 (X : Nat × (Nat → Int32) × Value) (d : Nat) {M : zM} (G : zG) {nv np : Nat} (s : ST M nv np) (p a c l n : Nat) (hp : p < np) (ha : (bc M nv np).2.2 p 0 = nI a) (hc : (bc M nv np).2.2 p 1 = nI c) (ha1 : a < nv) (hc1 : c < nv) (hA : ¬ (bc M nv np).2.1 a 0 + (bc M nv np).2.1 c 0 = 0) (hl : l < 4) (hn : n ≤ 20) (e2 : M (4, l, 0) 1 = nI n) : ∃ B', zd X (d + 4) 48 [vR (2, 0, 0), vR (0, 0, 0), vI (nI p), vR (4, l, 0)] (hh M G) = some (some (vI (bits (fun k => isA (Qg (bc M nv np).2.1 (bc M nv np).2.2 p a c 5 ((bc M nv np).1 5) (nI k) (M (15, l, 0))) (min n 9)) 6)), hh (cb M 3 B') G) := by
  have vc := s.2.2.2.2.2.2.2.2.2.2.1
  have n5 := s.1
  have n8 := s.2.1
  have hp8 : p < 8 := by omega
  have t1 := T1 X (d + 2) G s
  generalize hB : bc M nv np = B at vc ha hc hA t1 ⊢
  obtain ⟨S, V, P⟩ := B
  have g2 : S 2 = nI nv := vc.1.1
  have g3 : ∀ P', cm M 3 S V P' (0, 3, 0) 3 = nI np := fun P' => cm_S.trans vc.1.2.1
  have c50 := fun k x => C50 X d M G S V P p a c nv l n 5 k x hp8 g2 n5 ha hc ha1 hc1 hA (by decide) hl hn e2
  obtain ⟨⟨y, x⟩, -, lp⟩ := zlr (σ := Int32 × Int32) (n := 6) (f := fun k yx => zx X (d + 4) 48 14 [vR (2, 0, 0), vR (0, 0, 0), vI (nI p), vR (4, l, 0), vI (bits (fun k => isA (Qg V P p a c 5 (S 5) (nI k) (M (15, l, 0))) (min n 9)) k), vI (nI k)] [] (hh (cm M 3 S V (pk P p 5 yx.1 yx.2)) G)) (P := fun _ _ => True) (fun k yx hk _ => by
    obtain ⟨x', c50'⟩ := c50 (nI k) yx.2
    have g5 : ¬ (5 : Int32) < nI k := by rw [show (5 : Int32) = nI 5 from rfl, nlt (by decide) (by omega)]; omega
    have c3 := C3b X (d + 3) (cm M 3 S V (pk P p 5 yx.1 yx.2)) G 3 np (g3 _) n8 (nI p)
    rw [isx_y hp (by omega)] at c3
    refine ⟨(nI k, x'), trivial, fun w ew => ?_⟩
    simp only [e48_14, e48_16, e48_17]
    rw [if_neg g5]
    simp only [e48_20, e48_21, e48_24, e48_25, e48_28, e48_31, e48_32, e48_35, e48_38, e48_39, e48_40, e48_42, e48_45, e48_46, e48_47, e48_50, e48_53, e48_54, e48_55, e48_56, e48_59, zt0, zt1, zn3, not_false_eq_true, toListS, toListN, zk_some, zpi, if_true, if_false, i10, cm_S, cm_V, cm_P, cm_vw, cm_pw, cm_uS, cm_uV, cm_uP, cm_Sf, c3, z8 hp8, cl8 hp8, pk_k (show 5 ≠ 4 by decide), c50']
    rcases isA_01 (Qg V P p a c 5 (S 5) (nI k) (M (15, l, 0))) (min n 9) with q | q
    · rw [if_pos q]
      simp only [e48_71, e48_74, nI_1]
      simp only [bits, if_pos q] at ew
      exact ew
    · have q' : ¬ isA (Qg V P p a c 5 (S 5) (nI k) (M (15, l, 0))) (min n 9) = 0 := by rw [q]; decide
      rw [if_neg q']
      simp only [e48_62, e48_64, e48_65, e48_67, e48_68, e48_69, e48_71, e48_74, nI_1]
      simp only [bits, if_neg q'] at ew
      exact ew) 6 0 (P p 5, P p 4) (by omega) trivial
  refine ⟨(S, V, pk P p 5 y x), ?_⟩
  rw [nI_0] at lp
  dsimp only at lp
  rw [pk_s] at lp
  simp only [E48, e48_0, e48_1, e48_4, e48_5, e48_8, e48_9, e48_11, e48_12, zt0, zt1, zn3, not_false_eq_true, toListS, toListN, zk_some, zpi, t1]
  refine Eq.trans lp ?_
  simp only [e48_14, e48_16, e48_17]
  rw [if_pos (by decide)]
  simp only [e48_77, e48_79]
  rfl
theorem C49 (X : Nat × (Nat → Int32) × Value) (d : Nat) {M : zM} (G : zG) {nv np : Nat} (s : ST M nv np) (p a c l n : Nat) (hp : p < np) (ha : (bc M nv np).2.2 p 0 = nI a) (hc : (bc M nv np).2.2 p 1 = nI c) (ha1 : a < nv) (hc1 : c < nv) (hA : ¬ (bc M nv np).2.1 a 0 + (bc M nv np).2.1 c 0 = 0) (hl : l < 4) (hn : n ≤ 20) (e2 : M (4, l, 0) 1 = nI n) : ∃ B', zd X (d + 4) 49 [vR (2, 0, 0), vR (0, 0, 0), vI (nI p), vR (4, l, 0)] (hh M G) = some (some (vI (bits (fun k => isA (Qg (bc M nv np).2.1 (bc M nv np).2.2 p a c 6 ((bc M nv np).1 5) (nI k) (M (15, l, 0))) (min n 9)) 10)), hh (cb M 3 B') G) := by
  have vc := s.2.2.2.2.2.2.2.2.2.2.1
  have n5 := s.1
  have n8 := s.2.1
  have hp8 : p < 8 := by omega
  have t1 := T1 X (d + 2) G s
  generalize hB : bc M nv np = B at vc ha hc hA t1 ⊢
  obtain ⟨S, V, P⟩ := B
  have g2 : S 2 = nI nv := vc.1.1
  have g3 : ∀ P', cm M 3 S V P' (0, 3, 0) 3 = nI np := fun P' => cm_S.trans vc.1.2.1
  have c50 := fun k x => C50 X d M G S V P p a c nv l n 6 k x hp8 g2 n5 ha hc ha1 hc1 hA (by decide) hl hn e2
  obtain ⟨⟨y, x⟩, -, lp⟩ := zlr (σ := Int32 × Int32) (n := 10) (f := fun k yx => zx X (d + 4) 49 14 [vR (2, 0, 0), vR (0, 0, 0), vI (nI p), vR (4, l, 0), vI (bits (fun k => isA (Qg V P p a c 6 (S 5) (nI k) (M (15, l, 0))) (min n 9)) k), vI (nI k)] [] (hh (cm M 3 S V (pk P p 6 yx.1 yx.2)) G)) (P := fun _ _ => True) (fun k yx hk _ => by
    obtain ⟨x', c50'⟩ := c50 (nI k) yx.2
    have g5 : ¬ (9 : Int32) < nI k := by rw [show (9 : Int32) = nI 9 from rfl, nlt (by decide) (by omega)]; omega
    have c3 := C3b X (d + 3) (cm M 3 S V (pk P p 6 yx.1 yx.2)) G 3 np (g3 _) n8 (nI p)
    rw [isx_y hp (by omega)] at c3
    refine ⟨(nI k, x'), trivial, fun w ew => ?_⟩
    simp only [e49_14, e49_16, e49_18]
    rw [if_neg g5]
    simp only [e49_21, e49_22, e49_25, e49_26, e49_29, e49_32, e49_33, e49_36, e49_39, e49_40, e49_41, e49_43, e49_46, e49_47, e49_48, e49_51, e49_54, e49_55, e49_56, e49_57, e49_60, zt0, zt1, zn3, not_false_eq_true, toListS, toListN, zk_some, zpi, if_true, if_false, i10, cm_S, cm_V, cm_P, cm_vw, cm_pw, cm_uS, cm_uV, cm_uP, cm_Sf, c3, z8 hp8, cl8 hp8, pk_k (show 6 ≠ 4 by decide), c50']
    rcases isA_01 (Qg V P p a c 6 (S 5) (nI k) (M (15, l, 0))) (min n 9) with q | q
    · rw [if_pos q]
      simp only [e49_72, e49_75, nI_1]
      simp only [bits, if_pos q] at ew
      exact ew
    · have q' : ¬ isA (Qg V P p a c 6 (S 5) (nI k) (M (15, l, 0))) (min n 9) = 0 := by rw [q]; decide
      rw [if_neg q']
      simp only [e49_63, e49_65, e49_66, e49_68, e49_69, e49_70, e49_72, e49_75, nI_1]
      simp only [bits, if_neg q'] at ew
      exact ew) 10 0 (P p 6, P p 4) (by omega) trivial
  refine ⟨(S, V, pk P p 6 y x), ?_⟩
  rw [nI_0] at lp
  dsimp only at lp
  rw [pk_s] at lp
  simp only [E49, e49_0, e49_1, e49_4, e49_5, e49_8, e49_9, e49_11, e49_12, zt0, zt1, zn3, not_false_eq_true, toListS, toListN, zk_some, zpi, t1]
  refine Eq.trans lp ?_
  simp only [e49_14, e49_16, e49_18]
  rw [if_pos (by decide)]
  simp only [e49_78, e49_80]
  rfl
theorem i_and1 (x : Int32) : x &&& 0 = 0 := Int32.and_zero
theorem C209 (X : Nat × (Nat → Int32) × Value) (d : Nat) (M : zM) (G : zG) (S : Nat → Int32) (V P : tV) (R : Nat → Int32) (p a c l n fld : Nat) (k x : Int32) (hp : p < 8) (ha : P p 0 = nI a) (hc : P p 1 = nI c) (ha5 : a < 5) (hc5 : c < 5) (hA1 : 0 < (V a 0 + V c 0).toInt) (hA : ¬ V a 0 + V c 0 = 0) (h7 : P p 7 = 0 ∨ P p 7 = 1) (hf : fld = 5 ∨ fld = 6) (hl : l < 4) (hn : n ≤ 20) (e2 : M (28, 0, 0) l = nI n) : ∃ x', zd X (d + 6) 209 [vR (7, 0, 0), vI (nI l), vI (nI p)] (hh (mm M S V (pk P p fld k x) R) G) = some (some (vI (isA (Qg V P p a c fld (S 5) k (fun z => M (29, 0, 0) (20 * l + z))) (min n 9))), hh (mm M S V (pk P p fld k x') R) G) := by
  have es : ∀ P', mm M S V P' R (28, 0, 0) l = nI n := fun P' => e2
  have ep : ∀ P' k, mm M S V P' R (29, 0, 0) k = M (29, 0, 0) k := fun P' k => rfl
  have c146 := fun y => C146 X d M G S V (pk P p fld k y) R p a c hp ((pk_o (by omega) (by decide)).trans ha) ((pk_o (by omega) (by decide)).trans hc) ha5 hc5 hA
  obtain ⟨x1, -, lp⟩ := zlr (σ := Int32) (n := min n 9) (f := fun r x => zx X (d + 6) 209 5 [vR (7, 0, 0), vI (nI l), vI (nI p), vI (isA (Qg V P p a c fld (S 5) k (fun z => M (29, 0, 0) (20 * l + z))) r), vI (nI r)] [] (hh (mm M S V (pk P p fld k x) R) G)) (P := fun _ _ => True) (fun r x hr _ => by
    have hz : zin (nI (20 * l + r)) 80 = true := zin_nI (by omega) (by decide)
    have hc' : (nI (20 * l + r)).toNatClampNeg = 20 * l + r := nI_clamp (by omega)
    have g9 : ¬ (9 : Int32) ≤ nI r := by rw [show (9 : Int32) = nI 9 from rfl, nle (by decide) (by omega)]; omega
    have eq : nAm (S 5) V (pk P p fld k (nI (r + 1))) p a c = wG V (pk P p fld k (nI (r + 1))) p a c (S 5) := (wG_eq _ _ _ _ _ _ hA1 (by
      rw [show pk P p fld k (nI (r + 1)) p 4 = nI (r + 1) from uV_s, nI_int (by omega)]; omega) (by rw [pk_o (by omega) (by decide)]; exact h7)).symm
    refine ⟨nI (r + 1), trivial, fun w ew => ?_⟩
    simp only [e209_5, e209_7, e209_8, e209_11, e209_12, e209_13, zin_nI (show l < 4 by omega) (show 4 < 2 ^ 31 by decide), nI_clamp (show l < 2 ^ 31 by omega), es, nle (show n < 2 ^ 31 by omega) (show r < 2 ^ 31 by omega)]
    rw [if_neg (by omega)]
    simp only [e209_16, e209_18, e209_20]
    rw [if_neg g9]
    simp only [e209_23, e209_24, e209_27, e209_28, e209_31, e209_33, e209_34, e209_36, e209_37, e209_38, e209_39, e209_40, e209_41, e209_42, e209_45, e209_46, e209_49, e209_51, e209_52, e209_53, e209_55, e209_56, e209_57, zt0, zt1, zn3, not_false_eq_true, toListS, toListN, zk_some, zpi, if_true, if_false, i10, nI_1, C135, niP, ni6, wP hp (show 6 < 8 by decide), cP hp (show 6 < 8 by decide), mm_uP hp (show 6 < 8 by decide), mi6, pk_r, c146, n20, hz, hc', ep]
    by_cases q : wG V (pk P p fld k (nI (r + 1))) p a c (S 5) = M (29, 0, 0) (20 * l + r)
    · have qf : ¬ Qg V P p a c fld (S 5) k (fun z => M (29, 0, 0) (20 * l + z)) r = true := fun e => (of_decide_eq_true e) q
      rw [eq, if_pos q]
      simp only [e209_60, e209_61, e209_65, e209_66, e209_67, e209_70, nI_1]
      simp only [isA, if_neg qf] at ew
      rcases isA_01 (Qg V P p a c fld (S 5) k (fun z => M (29, 0, 0) (20 * l + z))) r with u | u
      · rw [u] at ew ⊢
        exact ew
      · rw [u] at ew ⊢
        exact ew
    · have qf : Qg V P p a c fld (S 5) k (fun z => M (29, 0, 0) (20 * l + z)) r = true := decide_eq_true q
      rw [eq, if_neg q]
      simp only [e209_64, e209_65, e209_66, e209_67, e209_70, nI_1, i_and1]
      simp only [isA, if_pos qf] at ew
      exact ew) (min n 9) 0 x (by omega) trivial
  refine ⟨x1, ?_⟩
  have z01 : ztz (vI (isA (Qg V P p a c fld (S 5) k (fun z => M (29, 0, 0) (20 * l + z))) (min n 9))) = true := by
    rcases isA_01 (Qg V P p a c fld (S 5) k (fun z => M (29, 0, 0) (20 * l + z))) (min n 9) with u | u <;> rw [u] <;> rfl
  rw [nI_0] at lp
  simp only [E209, e209_0, e209_1, e209_2, e209_3]
  refine Eq.trans lp ?_
  simp only [e209_5, e209_7, e209_8, e209_11, e209_12, e209_13, zin_nI (show l < 4 by omega) (show 4 < 2 ^ 31 by decide), nI_clamp (show l < 2 ^ 31 by omega), es, nle (show n < 2 ^ 31 by omega) (show min n 9 < 2 ^ 31 by omega)]
  by_cases q : n ≤ min n 9
  · rw [if_pos q]
    simp only [e209_73, e209_74, z01]
  · rw [if_neg q]
    simp only [e209_16, e209_18, e209_20]
    rw [if_pos (by rw [show (9 : Int32) = nI 9 from rfl, nle (by decide) (by omega)]; omega)]
    simp only [e209_73, e209_74, z01]
theorem C210_0 (X : Nat × (Nat → Int32) × Value) (d : Nat) (M : zM) (G : zG) (S : Nat → Int32) (V P : tV) (R : Nat → Int32) (p a c l n : Nat) (hp : p < 8) (ha : P p 0 = nI a) (hc : P p 1 = nI c) (ha5 : a < 5) (hc5 : c < 5) (hA1 : 0 < (V a 0 + V c 0).toInt) (hA : ¬ V a 0 + V c 0 = 0) (h7 : P p 7 = 0 ∨ P p 7 = 1) (hl : l < 4) (hn : n ≤ 20) (e2 : M (28, 0, 0) l = nI n) : ∃ P', zx X (d + 7) 210 60 [vR (7, 0, 0), vI (nI l), vI (nI p), vI 0, vI 0, vI 0] [] (hh (mm M S V P R) G) = zx X (d + 7) 210 117 [vR (7, 0, 0), vI (nI l), vI (nI p), vI 0, vI (bits (fun k => isA (Qg V P p a c 5 (S 5) (nI k) (fun z => M (29, 0, 0) (20 * l + z))) (min n 9)) 6), vI 6] [] (hh (mm M S V P' R) G) := by
  have c209 := fun k x => C209 X d M G S V P R p a c l n 5 k x hp ha hc ha5 hc5 hA1 hA h7 (by decide) hl hn e2
  obtain ⟨⟨y, x⟩, -, lp⟩ := zlr (σ := Int32 × Int32) (n := 6) (f := fun k yx => zx X (d + 7) 210 60 [vR (7, 0, 0), vI (nI l), vI (nI p), vI 0, vI (bits (fun k => isA (Qg V P p a c 5 (S 5) (nI k) (fun z => M (29, 0, 0) (20 * l + z))) (min n 9)) k), vI (nI k)] [] (hh (mm M S V (pk P p 5 yx.1 yx.2) R) G)) (P := fun _ _ => True) (fun k yx hk _ => by
    obtain ⟨x', c209'⟩ := c209 (nI k) yx.2
    have g5 : ¬ (6 : Int32) ≤ nI k := by rw [show (6 : Int32) = nI 6 from rfl, nle (by decide) (by omega)]; omega
    refine ⟨(nI k, x'), trivial, fun w ew => ?_⟩
    simp only [e210_60, e210_62, e210_63, e210_66, e210_68, e210_73, if_true, if_false, i10]
    rw [if_neg g5]
    simp only [e210_76, e210_77, e210_80, e210_81, e210_84, e210_85, e210_86, e210_88, e210_89, e210_91, e210_92, e210_93, e210_94, e210_97, zt0, zt1, zn3, not_false_eq_true, toListS, toListN, zk_some, zpi, if_true, if_false, i10, C135, niP, ni0, ni1, wP0 hp, cP0 hp, mm_uP0 hp, pk_k (show 5 ≠ 4 by decide), c209']
    rcases isA_01 (Qg V P p a c 5 (S 5) (nI k) (fun z => M (29, 0, 0) (20 * l + z))) (min n 9) with q | q
    · rw [if_pos q]
      simp only [e210_107, e210_108, e210_109, e210_111, e210_114, nI_1, Int32.or_zero]
      simp only [bits, if_pos q] at ew
      exact ew
    · have q' : ¬ isA (Qg V P p a c 5 (S 5) (nI k) (fun z => M (29, 0, 0) (20 * l + z))) (min n 9) = 0 := by rw [q]; decide
      rw [if_neg q']
      simp only [e210_100, e210_101, e210_103, e210_104, e210_108, e210_109, e210_111, e210_114, nI_1]
      simp only [bits, if_neg q'] at ew
      exact ew) 6 0 (P p 5, P p 4) (by omega) trivial
  refine ⟨pk P p 5 y x, ?_⟩
  rw [nI_0] at lp
  dsimp only at lp
  rw [pk_s] at lp
  refine lp.trans ?_
  simp only [e210_60, e210_62, e210_63, e210_66, e210_68, e210_73, if_true, if_false, i10]
  rw [if_pos (by decide)]
  rfl
theorem C210_1 (X : Nat × (Nat → Int32) × Value) (d : Nat) (M : zM) (G : zG) (S : Nat → Int32) (V P : tV) (R : Nat → Int32) (p a c l n : Nat) (hp : p < 8) (ha : P p 0 = nI a) (hc : P p 1 = nI c) (ha5 : a < 5) (hc5 : c < 5) (hA1 : 0 < (V a 0 + V c 0).toInt) (hA : ¬ V a 0 + V c 0 = 0) (h7 : P p 7 = 0 ∨ P p 7 = 1) (hl : l < 4) (hn : n ≤ 20) (e2 : M (28, 0, 0) l = nI n) : ∃ P', zx X (d + 7) 210 60 [vR (7, 0, 0), vI (nI l), vI (nI p), vI 1, vI 0, vI 0] [] (hh (mm M S V P R) G) = zx X (d + 7) 210 117 [vR (7, 0, 0), vI (nI l), vI (nI p), vI 1, vI (bits (fun k => isA (Qg V P p a c 6 (S 5) (nI k) (fun z => M (29, 0, 0) (20 * l + z))) (min n 9)) 10), vI 10] [] (hh (mm M S V P' R) G) := by
  have c209 := fun k x => C209 X d M G S V P R p a c l n 6 k x hp ha hc ha5 hc5 hA1 hA h7 (by decide) hl hn e2
  obtain ⟨⟨y, x⟩, -, lp⟩ := zlr (σ := Int32 × Int32) (n := 10) (f := fun k yx => zx X (d + 7) 210 60 [vR (7, 0, 0), vI (nI l), vI (nI p), vI 1, vI (bits (fun k => isA (Qg V P p a c 6 (S 5) (nI k) (fun z => M (29, 0, 0) (20 * l + z))) (min n 9)) k), vI (nI k)] [] (hh (mm M S V (pk P p 6 yx.1 yx.2) R) G)) (P := fun _ _ => True) (fun k yx hk _ => by
    obtain ⟨x', c209'⟩ := c209 (nI k) yx.2
    have g5 : ¬ (10 : Int32) ≤ nI k := by rw [show (10 : Int32) = nI 10 from rfl, nle (by decide) (by omega)]; omega
    refine ⟨(nI k, x'), trivial, fun w ew => ?_⟩
    simp only [e210_60, e210_62, e210_63, e210_71, e210_73, if_true, if_false, i10]
    rw [if_neg g5]
    simp only [e210_76, e210_77, e210_80, e210_81, e210_84, e210_85, e210_86, e210_88, e210_89, e210_91, e210_92, e210_93, e210_94, e210_97, zt0, zt1, zn3, not_false_eq_true, toListS, toListN, zk_some, zpi, if_true, if_false, i10, C135, niP, ni0, ni1, wP hp (show 1 < 8 by decide), cP hp (show 1 < 8 by decide), mm_uP hp (show 1 < 8 by decide), mi1, pk_k (show 6 ≠ 4 by decide), c209']
    rcases isA_01 (Qg V P p a c 6 (S 5) (nI k) (fun z => M (29, 0, 0) (20 * l + z))) (min n 9) with q | q
    · rw [if_pos q]
      simp only [e210_107, e210_108, e210_109, e210_111, e210_114, nI_1, Int32.or_zero]
      simp only [bits, if_pos q] at ew
      exact ew
    · have q' : ¬ isA (Qg V P p a c 6 (S 5) (nI k) (fun z => M (29, 0, 0) (20 * l + z))) (min n 9) = 0 := by rw [q]; decide
      rw [if_neg q']
      simp only [e210_100, e210_101, e210_103, e210_104, e210_108, e210_109, e210_111, e210_114, nI_1]
      simp only [bits, if_neg q'] at ew
      exact ew) 10 0 (P p 6, P p 4) (by omega) trivial
  refine ⟨pk P p 6 y x, ?_⟩
  rw [nI_0] at lp
  dsimp only at lp
  rw [pk_s] at lp
  refine lp.trans ?_
  simp only [e210_60, e210_62, e210_63, e210_71, e210_73, if_true, if_false, i10]
  rw [if_pos (by decide)]
  rfl
theorem K29 (X : Nat × (Nat → Int32) × Value) (t : Nat) (M : zM) (G : zG) (x y z : Int32) (i : Inv t M) : okI X 102 210 [vI x, vI y, vI z] t M G := by
  obtain ⟨nv, np, s⟩ := ST_of i
  have s' := s
  obtain ⟨n5, n8, v2, v3, m0, m1, v, o6, f5, a, vc, ac, vm⟩ := s'
  rcases isx_c (n := 4) x (by decide) with ⟨h, -⟩ | ⟨l, hl, rfl, h⟩
  · refine ⟨-1, rfs M 1, G, rfm (rfs M 1) 1, G, ?_, ?_, Inv_rf i⟩
    · simp only [E102, e102_0, e102_1, e102_4, e102_7, e102_8, e102_11, e102_12, e102_15, e102_18, e102_19, e102_20, e102_23, e102_24, e102_25, e102_28, e102_29, e102_30, e102_33, e102_34, e102_36, e102_39, e102_40, e102_41, e102_44, e102_45, e102_46, e102_49, e102_52, e102_54, e102_55, e102_56, e102_59, e102_60, e102_63, e102_64, e102_67, e102_68, e102_69, e102_72, e102_73, e102_74, e102_77, e102_80, e102_81, e102_84, e102_85, e102_88, e102_89, e102_90, e102_93, e102_94, e102_95, e102_98, zt0, zt1, zn3, not_false_eq_true, toListS, toListN, zk_some, zpi, if_true, if_false, i10, C119, h, C114_1, q_lt_m1_0, q_le_m1_0, q_eq_m1_0]
    · simp only [E210, e210_0, e210_1, e210_4, e210_7, e210_8, e210_9, e210_12, e210_15, e210_16, e210_17, e210_20, e210_21, e210_22, e210_23, e210_24, e210_25, e210_28, e210_31, e210_32, e210_34, e210_37, e210_38, e210_39, e210_42, e210_43, e210_44, e210_47, e210_49, e210_50, e210_51, e210_53, e210_54, e210_57, e210_58, e210_60, e210_62, e210_63, e210_66, e210_68, e210_71, e210_73, e210_76, e210_77, e210_80, e210_81, e210_84, e210_85, e210_86, e210_88, e210_89, e210_91, e210_92, e210_93, e210_94, e210_97, e210_100, e210_101, e210_103, e210_104, e210_107, e210_108, e210_109, e210_111, e210_114, e210_117, e210_118, e210_121, e210_123, zt0, zt1, zn3, not_false_eq_true, toListS, toListN, zk_some, zpi, if_true, if_false, i10, C207, h, C129_1, q_lt_m1_0, q_le_m1_0, q_eq_m1_0]
  rcases isx_c (n := np) y (by omega) with ⟨q, -⟩ | ⟨p, hp, rfl, q⟩
  · refine ⟨-1, rfs M 1, G, rfm (rfs M 1) 1, G, ?_, ?_, Inv_rf i⟩
    · simp only [E102, e102_0, e102_1, e102_4, e102_7, e102_8, e102_11, e102_12, e102_15, e102_18, e102_19, e102_20, e102_23, e102_24, e102_25, e102_28, e102_29, e102_30, e102_33, e102_34, e102_36, e102_39, e102_40, e102_41, e102_44, e102_45, e102_46, e102_49, e102_52, e102_54, e102_55, e102_56, e102_59, e102_60, e102_63, e102_64, e102_67, e102_68, e102_69, e102_72, e102_73, e102_74, e102_77, e102_80, e102_81, e102_84, e102_85, e102_88, e102_89, e102_90, e102_93, e102_94, e102_95, e102_98, zt0, zt1, zn3, not_false_eq_true, toListS, toListN, zk_some, zpi, if_true, if_false, i10, C119, h, C3x X _ M G np v3 n8, q, C114_1, q_lt_m1_0, q_le_m1_0, q_eq_m1_0]
    · simp only [E210, e210_0, e210_1, e210_4, e210_7, e210_8, e210_9, e210_12, e210_15, e210_16, e210_17, e210_20, e210_21, e210_22, e210_23, e210_24, e210_25, e210_28, e210_31, e210_32, e210_34, e210_37, e210_38, e210_39, e210_42, e210_43, e210_44, e210_47, e210_49, e210_50, e210_51, e210_53, e210_54, e210_57, e210_58, e210_60, e210_62, e210_63, e210_66, e210_68, e210_71, e210_73, e210_76, e210_77, e210_80, e210_81, e210_84, e210_85, e210_86, e210_88, e210_89, e210_91, e210_92, e210_93, e210_94, e210_97, e210_100, e210_101, e210_103, e210_104, e210_107, e210_108, e210_109, e210_111, e210_114, e210_117, e210_118, e210_121, e210_123, zt0, zt1, zn3, not_false_eq_true, toListS, toListN, zk_some, zpi, if_true, if_false, i10, C207, h, C133 X _ _ G _ np (show rfs M 1 (20, 0, 0) 1 = nI np from m1) (by omega), q, C129_1, q_lt_m1_0, q_le_m1_0, q_eq_m1_0]
  rcases inz_c z 1 (by decide) with ⟨g, gn⟩ | ⟨g, w, hw, rfl⟩
  · have g' : inz z 0 1 = 0 := g
    rcases rng_n (lit := 1) rfl gn with c1 | ⟨c1, c2⟩
    · refine ⟨-2, rfs M 2, G, rfm (rfs M 2) 2, G, ?_, ?_, Inv_rf i⟩
      · simp only [E102, e102_0, e102_1, e102_4, e102_7, e102_8, e102_11, e102_12, e102_15, e102_18, e102_19, e102_20, e102_23, e102_24, e102_25, e102_28, e102_29, e102_30, e102_33, e102_34, e102_36, e102_39, e102_40, e102_41, e102_44, e102_45, e102_46, e102_49, e102_52, e102_54, e102_55, e102_56, e102_59, e102_60, e102_63, e102_64, e102_67, e102_68, e102_69, e102_72, e102_73, e102_74, e102_77, e102_80, e102_81, e102_84, e102_85, e102_88, e102_89, e102_90, e102_93, e102_94, e102_95, e102_98, zt0, zt1, zn3, not_false_eq_true, toListS, toListN, zk_some, zpi, if_true, if_false, i10, C119, h, C3x X _ M G np v3 n8, q, c1, C114_2, q_lt_m2_0, q_le_m2_0, q_eq_m2_0]
      · simp only [E210, e210_0, e210_1, e210_4, e210_7, e210_8, e210_9, e210_12, e210_15, e210_16, e210_17, e210_20, e210_21, e210_22, e210_23, e210_24, e210_25, e210_28, e210_31, e210_32, e210_34, e210_37, e210_38, e210_39, e210_42, e210_43, e210_44, e210_47, e210_49, e210_50, e210_51, e210_53, e210_54, e210_57, e210_58, e210_60, e210_62, e210_63, e210_66, e210_68, e210_71, e210_73, e210_76, e210_77, e210_80, e210_81, e210_84, e210_85, e210_86, e210_88, e210_89, e210_91, e210_92, e210_93, e210_94, e210_97, e210_100, e210_101, e210_103, e210_104, e210_107, e210_108, e210_109, e210_111, e210_114, e210_117, e210_118, e210_121, e210_123, zt0, zt1, zn3, not_false_eq_true, toListS, toListN, zk_some, zpi, if_true, if_false, i10, C207, h, C133 X _ _ G _ np (show rfs M 2 (20, 0, 0) 1 = nI np from m1) (by omega), q, C128, j_0, j_1, g', C129_2, q_lt_m2_0, q_le_m2_0, q_eq_m2_0]
    · refine ⟨-2, rfs M 2, G, rfm (rfs M 2) 2, G, ?_, ?_, Inv_rf i⟩
      · simp only [E102, e102_0, e102_1, e102_4, e102_7, e102_8, e102_11, e102_12, e102_15, e102_18, e102_19, e102_20, e102_23, e102_24, e102_25, e102_28, e102_29, e102_30, e102_33, e102_34, e102_36, e102_39, e102_40, e102_41, e102_44, e102_45, e102_46, e102_49, e102_52, e102_54, e102_55, e102_56, e102_59, e102_60, e102_63, e102_64, e102_67, e102_68, e102_69, e102_72, e102_73, e102_74, e102_77, e102_80, e102_81, e102_84, e102_85, e102_88, e102_89, e102_90, e102_93, e102_94, e102_95, e102_98, zt0, zt1, zn3, not_false_eq_true, toListS, toListN, zk_some, zpi, if_true, if_false, i10, C119, h, C3x X _ M G np v3 n8, q, c1, c2, C114_2, q_lt_m2_0, q_le_m2_0, q_eq_m2_0]
      · simp only [E210, e210_0, e210_1, e210_4, e210_7, e210_8, e210_9, e210_12, e210_15, e210_16, e210_17, e210_20, e210_21, e210_22, e210_23, e210_24, e210_25, e210_28, e210_31, e210_32, e210_34, e210_37, e210_38, e210_39, e210_42, e210_43, e210_44, e210_47, e210_49, e210_50, e210_51, e210_53, e210_54, e210_57, e210_58, e210_60, e210_62, e210_63, e210_66, e210_68, e210_71, e210_73, e210_76, e210_77, e210_80, e210_81, e210_84, e210_85, e210_86, e210_88, e210_89, e210_91, e210_92, e210_93, e210_94, e210_97, e210_100, e210_101, e210_103, e210_104, e210_107, e210_108, e210_109, e210_111, e210_114, e210_117, e210_118, e210_121, e210_123, zt0, zt1, zn3, not_false_eq_true, toListS, toListN, zk_some, zpi, if_true, if_false, i10, C207, h, C133 X _ _ G _ np (show rfs M 2 (20, 0, 0) 1 = nI np from m1) (by omega), q, C128, j_0, j_1, g', C129_2, q_lt_m2_0, q_le_m2_0, q_eq_m2_0]
  have hp8 : p < 8 := by omega
  obtain ⟨e1, e2⟩ := i.2.2.2.2.1 l hl
  rcases e2 with e2 | ⟨n, hn, e2, e3⟩
  · have e2' : M (28, 0, 0) l = -1 := e1.symm.trans e2
    rcases (show w = 0 ∨ w = 1 by omega) with rfl | rfl
    · show okI X 102 210 [vI (nI l), vI (nI p), vI 0] t M G
      have g' : inz 0 0 1 = 1 := rfl
      refine ⟨-11, M, G, M, G, ?_, ?_, i⟩
      · simp only [E102, e102_0, e102_1, e102_4, e102_7, e102_8, e102_11, e102_12, e102_15, e102_18, e102_19, e102_20, e102_23, e102_24, e102_25, e102_28, e102_29, e102_30, e102_33, e102_34, e102_36, e102_39, e102_40, e102_41, e102_44, e102_45, e102_46, e102_49, e102_52, e102_54, e102_55, e102_56, e102_59, e102_60, e102_63, e102_64, e102_67, e102_68, e102_69, e102_72, e102_73, e102_74, e102_77, e102_80, e102_81, e102_84, e102_85, e102_88, e102_89, e102_90, e102_93, e102_94, e102_95, e102_98, zt0, zt1, zn3, not_false_eq_true, toListS, toListN, zk_some, zpi, if_true, if_false, i10, C119, h, C3x X _ M G np v3 n8, q, zin_nI (show l < 4 by omega) (show 4 < 2 ^ 31 by decide), nI_clamp (show l < 2 ^ 31 by omega), D61, e2, show ((0 : Int32) ≤ -1) = False by decide, q_lt_0_0, q_le_0_0, q_lt_0_1, q_le_0_1, q_eq_0_1]
      · simp only [E210, e210_0, e210_1, e210_4, e210_7, e210_8, e210_9, e210_12, e210_15, e210_16, e210_17, e210_20, e210_21, e210_22, e210_23, e210_24, e210_25, e210_28, e210_31, e210_32, e210_34, e210_37, e210_38, e210_39, e210_42, e210_43, e210_44, e210_47, e210_49, e210_50, e210_51, e210_53, e210_54, e210_57, e210_58, e210_60, e210_62, e210_63, e210_66, e210_68, e210_71, e210_73, e210_76, e210_77, e210_80, e210_81, e210_84, e210_85, e210_86, e210_88, e210_89, e210_91, e210_92, e210_93, e210_94, e210_97, e210_100, e210_101, e210_103, e210_104, e210_107, e210_108, e210_109, e210_111, e210_114, e210_117, e210_118, e210_121, e210_123, zt0, zt1, zn3, not_false_eq_true, toListS, toListN, zk_some, zpi, if_true, if_false, i10, C207, h, C133 X _ M G _ np m1 (by omega), q, C128, j_0, j_1, g', zin_nI (show l < 4 by omega) (show 4 < 2 ^ 31 by decide), nI_clamp (show l < 2 ^ 31 by omega), e2', show ((0 : Int32) ≤ -1) = False by decide]
    · show okI X 102 210 [vI (nI l), vI (nI p), vI 1] t M G
      have g' : inz 1 0 1 = 1 := rfl
      refine ⟨-11, M, G, M, G, ?_, ?_, i⟩
      · simp only [E102, e102_0, e102_1, e102_4, e102_7, e102_8, e102_11, e102_12, e102_15, e102_18, e102_19, e102_20, e102_23, e102_24, e102_25, e102_28, e102_29, e102_30, e102_33, e102_34, e102_36, e102_39, e102_40, e102_41, e102_44, e102_45, e102_46, e102_49, e102_52, e102_54, e102_55, e102_56, e102_59, e102_60, e102_63, e102_64, e102_67, e102_68, e102_69, e102_72, e102_73, e102_74, e102_77, e102_80, e102_81, e102_84, e102_85, e102_88, e102_89, e102_90, e102_93, e102_94, e102_95, e102_98, zt0, zt1, zn3, not_false_eq_true, toListS, toListN, zk_some, zpi, if_true, if_false, i10, C119, h, C3x X _ M G np v3 n8, q, zin_nI (show l < 4 by omega) (show 4 < 2 ^ 31 by decide), nI_clamp (show l < 2 ^ 31 by omega), D61, e2, show ((0 : Int32) ≤ -1) = False by decide, q_lt_1_0, q_le_1_0, q_eq_1_0, q_lt_1_1, q_le_1_1]
      · simp only [E210, e210_0, e210_1, e210_4, e210_7, e210_8, e210_9, e210_12, e210_15, e210_16, e210_17, e210_20, e210_21, e210_22, e210_23, e210_24, e210_25, e210_28, e210_31, e210_32, e210_34, e210_37, e210_38, e210_39, e210_42, e210_43, e210_44, e210_47, e210_49, e210_50, e210_51, e210_53, e210_54, e210_57, e210_58, e210_60, e210_62, e210_63, e210_66, e210_68, e210_71, e210_73, e210_76, e210_77, e210_80, e210_81, e210_84, e210_85, e210_86, e210_88, e210_89, e210_91, e210_92, e210_93, e210_94, e210_97, e210_100, e210_101, e210_103, e210_104, e210_107, e210_108, e210_109, e210_111, e210_114, e210_117, e210_118, e210_121, e210_123, zt0, zt1, zn3, not_false_eq_true, toListS, toListN, zk_some, zpi, if_true, if_false, i10, C207, h, C133 X _ M G _ np m1 (by omega), q, C128, j_0, j_1, g', zin_nI (show l < 4 by omega) (show 4 < 2 ^ 31 by decide), nI_clamp (show l < 2 ^ 31 by omega), e2', show ((0 : Int32) ≤ -1) = False by decide]
  have e2' : M (28, 0, 0) l = nI n := e1.symm.trans e2
  have p0 : 0 ≤ nI n := by rw [i_le, nI_int (by omega)]; show (0 : Int) ≤ n; omega
  obtain ⟨a1, c1, pa, pc, ha, hc, -, A1, A2, r1, -⟩ := pip vc hp
  obtain ⟨a2, c2, pa2, pc2, ha2, hc2, -, B1, B2, r2, -⟩ := pip vm hp
  have aq : ∀ g, g < 8 → (bc M nv np).2.2 p g = (bm M).2.2 p g := fun g hg => ac.2.2 p g hp hg (fun _ => by rw [show (bc M nv np).1 6 = 0 from rfl]; exact out_0 p)
  have f1 : nI a1 = nI a2 := pa.symm.trans ((aq 0 (by decide)).trans pa2)
  have f2 : nI c1 = nI c2 := pc.symm.trans ((aq 1 (by decide)).trans pc2)
  rw [neq (by omega) (by omega)] at f1 f2
  subst f1
  subst f2
  rcases (show w = 0 ∨ w = 1 by omega) with rfl | rfl
  · show okI X 102 210 [vI (nI l), vI (nI p), vI 0] t M G
    have g' : inz 0 0 1 = 1 := rfl
    obtain ⟨B', cc⟩ := C48 X 7 G s p a1 c1 l n hp pa pc ha hc A2 hl hn e2
    have s2 : sm M (cb M 3 B') := sm_cb (by decide)
    have m1' : cb M 3 B' (20, 0, 0) 1 = nI np := m1
    obtain ⟨P', mc⟩ := C210_0 X 5 (cpK (cb M 3 B') (20, 0, 0) (21, 0, 0) 93) G (bm M).1 (bm M).2.1 (bm M).2.2 (cb M 3 B' (7, 0, 0)) p a1 c1 l n hp8 pa2 pc2 (by omega) (by omega) B1 B2 ((vm.2.2.1 p hp).imp id And.left) hl hn e2'
    have t5 := T150 X 10 G (M := cb M 3 B')
    rw [show bm (cb M 3 B') = bm M from rfl] at t5
    have eq : bits (fun k => isA (Qg (bc M nv np).2.1 (bc M nv np).2.2 p a1 c1 5 ((bc M nv np).1 5) (nI k) (M (15, l, 0))) (min n 9)) 6 = bits (fun k => isA (Qg (bm M).2.1 (bm M).2.2 p a1 c1 5 ((bm M).1 5) (nI k) (fun z => M (29, 0, 0) (20 * l + z))) (min n 9)) 6 := by
      refine bits_c _ fun k _ => isA_c _ fun r hr => ?_
      unfold Qg
      rw [ac.1 5 (by decide), e3 r (by omega), wG_c (V' := (bm M).2.1) (P' := pk (bm M).2.2 p 5 (nI k) (nI (r + 1))) (fun f hf => ac.2.1 a1 f ha hf) (fun f hf => ac.2.1 c1 f hc hf) (fun g hg => ?_)]
      unfold pk uV
      split
      · rfl
      · split
        · rfl
        · exact ac.2.2 p g hp hg (fun _ => by rw [show (bc M nv np).1 6 = 0 from rfl]; exact out_0 p)
    refine ⟨bits (fun k => isA (Qg (bc M nv np).2.1 (bc M nv np).2.2 p a1 c1 5 ((bc M nv np).1 5) (nI k) (M (15, l, 0))) (min n 9)) 6, cb M 3 B', G, bk (cb M 3 B') ((bm M).1, (bm M).2.1, P') (cb M 3 B' (7, 0, 0)), G, ?_, ?_, Inv_c (sm_t s2 (sm_bk rfl f5 rfl)) (Nat.le_refl _) i⟩
    · simp only [E102, e102_0, e102_1, e102_4, e102_7, e102_8, e102_11, e102_12, e102_15, e102_18, e102_19, e102_20, e102_23, e102_24, e102_25, e102_28, e102_29, e102_30, e102_33, e102_34, e102_36, e102_39, e102_40, e102_41, e102_44, e102_45, e102_46, e102_49, e102_52, e102_54, e102_55, e102_56, e102_59, e102_60, e102_63, e102_64, e102_67, e102_68, e102_69, e102_72, e102_73, e102_74, e102_77, e102_80, e102_81, e102_84, e102_85, e102_88, e102_89, e102_90, e102_93, e102_94, e102_95, e102_98, zt0, zt1, zn3, not_false_eq_true, toListS, toListN, zk_some, zpi, if_true, if_false, i10, C119, h, C3x X _ M G np v3 n8, q, zin_nI (show l < 4 by omega) (show 4 < 2 ^ 31 by decide), nI_clamp (show l < 2 ^ 31 by omega), D61, e2, p0, q_lt_0_0, q_le_0_0, q_lt_0_1, q_le_0_1, q_eq_0_1, cc]
    · rw [eq]
      have e2c : cb M 3 B' (28, 0, 0) l = nI n := e2'
      simp only [e210_0, e210_1, e210_4, e210_7, e210_8, e210_9, e210_12, e210_15, e210_16, e210_17, e210_20, e210_21, e210_22, e210_23, e210_24, e210_25, e210_28, e210_31, e210_32, e210_34, e210_37, e210_38, e210_39, e210_42, e210_43, e210_44, e210_47, e210_49, e210_50, e210_51, e210_53, e210_54, e210_57, e210_58, E210, zt0, zt1, zn3, not_false_eq_true, toListS, toListN, zk_some, zpi, if_true, if_false, i10, C207, h, C133 X _ _ G _ np m1' (by omega), q, C128, j_0, j_1, g', zin_nI (show l < 4 by omega) (show 4 < 2 ^ 31 by decide), nI_clamp (show l < 2 ^ 31 by omega), e2c, p0, t5]
      refine Eq.trans mc ?_
      simp only [e210_117, e210_118, e210_121, e210_123, zt0, zt1, zn3, not_false_eq_true, toListS, toListN, zk_some, zpi, show mm (cpK (cb M 3 B') (20, 0, 0) (21, 0, 0) 93) (bm M).1 (bm M).2.1 P' (cb M 3 B' (7, 0, 0)) = mb (cpK (cb M 3 B') (20, 0, 0) (21, 0, 0) 93) ((bm M).1, (bm M).2.1, P') (cb M 3 B' (7, 0, 0)) from rfl, T151 X _ (cb M 3 B') G]
      rfl
  · show okI X 102 210 [vI (nI l), vI (nI p), vI 1] t M G
    have g' : inz 1 0 1 = 1 := rfl
    obtain ⟨B', cc⟩ := C49 X 7 G s p a1 c1 l n hp pa pc ha hc A2 hl hn e2
    have s2 : sm M (cb M 3 B') := sm_cb (by decide)
    have m1' : cb M 3 B' (20, 0, 0) 1 = nI np := m1
    obtain ⟨P', mc⟩ := C210_1 X 5 (cpK (cb M 3 B') (20, 0, 0) (21, 0, 0) 93) G (bm M).1 (bm M).2.1 (bm M).2.2 (cb M 3 B' (7, 0, 0)) p a1 c1 l n hp8 pa2 pc2 (by omega) (by omega) B1 B2 ((vm.2.2.1 p hp).imp id And.left) hl hn e2'
    have t5 := T150 X 10 G (M := cb M 3 B')
    rw [show bm (cb M 3 B') = bm M from rfl] at t5
    have eq : bits (fun k => isA (Qg (bc M nv np).2.1 (bc M nv np).2.2 p a1 c1 6 ((bc M nv np).1 5) (nI k) (M (15, l, 0))) (min n 9)) 10 = bits (fun k => isA (Qg (bm M).2.1 (bm M).2.2 p a1 c1 6 ((bm M).1 5) (nI k) (fun z => M (29, 0, 0) (20 * l + z))) (min n 9)) 10 := by
      refine bits_c _ fun k _ => isA_c _ fun r hr => ?_
      unfold Qg
      rw [ac.1 5 (by decide), e3 r (by omega), wG_c (V' := (bm M).2.1) (P' := pk (bm M).2.2 p 6 (nI k) (nI (r + 1))) (fun f hf => ac.2.1 a1 f ha hf) (fun f hf => ac.2.1 c1 f hc hf) (fun g hg => ?_)]
      unfold pk uV
      split
      · rfl
      · split
        · rfl
        · exact ac.2.2 p g hp hg (fun _ => by rw [show (bc M nv np).1 6 = 0 from rfl]; exact out_0 p)
    refine ⟨bits (fun k => isA (Qg (bc M nv np).2.1 (bc M nv np).2.2 p a1 c1 6 ((bc M nv np).1 5) (nI k) (M (15, l, 0))) (min n 9)) 10, cb M 3 B', G, bk (cb M 3 B') ((bm M).1, (bm M).2.1, P') (cb M 3 B' (7, 0, 0)), G, ?_, ?_, Inv_c (sm_t s2 (sm_bk rfl f5 rfl)) (Nat.le_refl _) i⟩
    · simp only [E102, e102_0, e102_1, e102_4, e102_7, e102_8, e102_11, e102_12, e102_15, e102_18, e102_19, e102_20, e102_23, e102_24, e102_25, e102_28, e102_29, e102_30, e102_33, e102_34, e102_36, e102_39, e102_40, e102_41, e102_44, e102_45, e102_46, e102_49, e102_52, e102_54, e102_55, e102_56, e102_59, e102_60, e102_63, e102_64, e102_67, e102_68, e102_69, e102_72, e102_73, e102_74, e102_77, e102_80, e102_81, e102_84, e102_85, e102_88, e102_89, e102_90, e102_93, e102_94, e102_95, e102_98, zt0, zt1, zn3, not_false_eq_true, toListS, toListN, zk_some, zpi, if_true, if_false, i10, C119, h, C3x X _ M G np v3 n8, q, zin_nI (show l < 4 by omega) (show 4 < 2 ^ 31 by decide), nI_clamp (show l < 2 ^ 31 by omega), D61, e2, p0, q_lt_1_0, q_le_1_0, q_eq_1_0, q_lt_1_1, q_le_1_1, cc]
    · rw [eq]
      have e2c : cb M 3 B' (28, 0, 0) l = nI n := e2'
      simp only [e210_0, e210_1, e210_4, e210_7, e210_8, e210_9, e210_12, e210_15, e210_16, e210_17, e210_20, e210_21, e210_22, e210_23, e210_24, e210_25, e210_28, e210_31, e210_32, e210_34, e210_37, e210_38, e210_39, e210_42, e210_43, e210_44, e210_47, e210_49, e210_50, e210_51, e210_53, e210_54, e210_57, e210_58, E210, zt0, zt1, zn3, not_false_eq_true, toListS, toListN, zk_some, zpi, if_true, if_false, i10, C207, h, C133 X _ _ G _ np m1' (by omega), q, C128, j_0, j_1, g', zin_nI (show l < 4 by omega) (show 4 < 2 ^ 31 by decide), nI_clamp (show l < 2 ^ 31 by omega), e2c, p0, t5]
      refine Eq.trans mc ?_
      simp only [e210_117, e210_118, e210_121, e210_123, zt0, zt1, zn3, not_false_eq_true, toListS, toListN, zk_some, zpi, show mm (cpK (cb M 3 B') (20, 0, 0) (21, 0, 0) 93) (bm M).1 (bm M).2.1 P' (cb M 3 B' (7, 0, 0)) = mb (cpK (cb M 3 B') (20, 0, 0) (21, 0, 0) 93) ((bm M).1, (bm M).2.1, P') (cb M 3 B' (7, 0, 0)) from rfl, T151 X _ (cb M 3 B') G]
      rfl
