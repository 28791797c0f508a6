/-! WHAT STANDS OF A BENCH, and that a STEP keeps it -/
theorem i_mul_s {a b : Int32} (h1 : -2147483648 ≤ a.toInt * b.toInt) (h2 : a.toInt * b.toInt < 2147483648) : (a * b).toInt = a.toInt * b.toInt := by
  rw [Int32.toInt_mul, Int.bmod_eq_of_le] <;> omega
theorem i_add_s {a b : Int32} (h1 : -2147483648 ≤ a.toInt + b.toInt) (h2 : a.toInt + b.toInt < 2147483648) : (a + b).toInt = a.toInt + b.toInt := by
  rw [Int32.toInt_add, Int.bmod_eq_of_le] <;> omega
theorem i_sub_s {a b : Int32} (h1 : -2147483648 ≤ a.toInt - b.toInt) (h2 : a.toInt - b.toInt < 2147483648) : (a - b).toInt = a.toInt - b.toInt := by
  rw [Int32.toInt_sub, Int.bmod_eq_of_le] <;> omega
theorem i_neg_s {a : Int32} (h1 : -2147483648 < a.toInt) : (-a).toInt = -a.toInt := by
  have := Int32.toInt_lt a
  rw [Int32.toInt_neg, Int.bmod_eq_of_le] <;> omega
theorem mul_bd {x y p q : Int} (h1 : 0 ≤ x) (h2 : x ≤ p) (h3 : 0 ≤ y) (h4 : y ≤ q) : 0 ≤ x * y ∧ x * y ≤ p * q :=
  ⟨Int.mul_nonneg h1 h3, Int.mul_le_mul h2 h4 h3 (by omega)⟩
theorem i_imin (a b : Int32) : (imin a b).toInt = min a.toInt b.toInt := by
  unfold imin
  by_cases h : b < a
  · rw [if_pos h]; rw [i_lt] at h; omega
  · rw [if_neg h]; rw [i_lt] at h; omega
theorem i_imax (a b : Int32) : (imax a b).toInt = max a.toInt b.toInt := by
  unfold imax
  by_cases h : a < b
  · rw [if_pos h]; rw [i_lt] at h; omega
  · rw [if_neg h]; rw [i_lt] at h; omega
theorem i_div_b {u a : Int32} (hu : 0 ≤ u.toInt) (ha : 0 < a.toInt) : 0 ≤ (u / a).toInt ∧ (u / a).toInt ≤ u.toInt := by
  refine ⟨i_div_nn hu ha, ?_⟩
  rw [Int32.toInt_div]
  have h1 : 0 ≤ u.toInt.tdiv a.toInt := Int.tdiv_nonneg hu (by omega)
  have h2 : u.toInt.tdiv a.toInt ≤ u.toInt := Int.tdiv_le_self a.toInt hu
  have h3 := Int32.toInt_lt u
  rw [Int.bmod_eq_of_le] <;> omega
/-- a vessel's figures; its water up to m -/
def vV (V : tV) (j : Nat) : Prop := 1 ≤ (V j 0).toInt ∧ (V j 0).toInt ≤ 9 ∧ 0 ≤ (V j 1).toInt ∧ (V j 1).toInt ≤ 20 ∧ 1 ≤ (V j 2).toInt ∧ (V j 2).toInt ≤ 30 ∧ 0 ≤ (V j 4).toInt ∧ (V j 4).toInt ≤ 9
def vM (V : tV) (j : Nat) (m : Int32) : Prop := (V j 1).toInt ≤ m.toInt ∧ m.toInt ≤ (V j 1).toInt + (V j 2).toInt
def vP (V P : tV) (nv p : Nat) : Prop := ∃ a c, P p 0 = nI a ∧ P p 1 = nI c ∧ a < nv ∧ c < nv ∧ a ≠ c ∧ vM V a (P p 2) ∧ vM V c (P p 3) ∧ 1 ≤ (P p 4).toInt ∧ (P p 4).toInt ≤ 9 ∧ 0 ≤ (P p 5).toInt ∧ (P p 5).toInt ≤ 5 ∧ 0 ≤ (P p 6).toInt ∧ (P p 6).toInt ≤ 9
/-- counts, vessels, pipes: all but WATER and RUNS -/
def vC (S : Nat → Int32) (V P : tV) (nv np : Nat) : Prop := S 2 = nI nv ∧ S 3 = nI np ∧ nv ≤ 5 ∧ np ≤ 8 ∧ (∀ j, j < nv → vV V j) ∧ (∀ p, p < np → vP V P nv p)
def wat (V : tV) (j : Nat) : Int := (V j 3).toInt
def brim (V : tV) (j : Nat) : Int := (V j 0).toInt * (V j 2).toInt
/-- all that holds between calls -/
def vB (S : Nat → Int32) (V P : tV) (nv np : Nat) : Prop := vC S V P nv np ∧ (∀ j, j < nv → 0 ≤ wat V j ∧ wat V j ≤ brim V j) ∧ hRn P np ∧ 0 ≤ (S 4).toInt ∧ (S 4).toInt ≤ 2000000000 ∧ 0 ≤ (S 5).toInt ∧ (S 5).toInt ≤ 9999
def tot (V : tV) : Nat → Int
  | 0 => 0
  | n + 1 => tot V n + wat V n
theorem tot_nn {V : tV} {n : Nat} (h : ∀ j, j < n → 0 ≤ wat V j) : 0 ≤ tot V n := by
  induction n with
  | zero => exact Int.le_refl _
  | succ n ih =>
    have := ih fun j hj => h j (by omega)
    have := h n (by omega)
    simp only [tot]
    omega
theorem tot_le {V : tV} {n : Nat} (h : ∀ j, j < n → 0 ≤ wat V j) : ∀ j, j < n → wat V j ≤ tot V n := by
  induction n with
  | zero => intro j hj; omega
  | succ n ih =>
    intro j hj
    have h0 := tot_nn (V := V) (n := n) fun j hj => h j (by omega)
    have h1 := h n (by omega)
    simp only [tot]
    by_cases e : j = n
    · subst e; omega
    · have := ih (fun j hj => h j (by omega)) j (by omega)
      omega
theorem tot_c {V W : tV} {n : Nat} (h : ∀ j, j < n → wat V j = wat W j) : tot V n = tot W n := by
  induction n with
  | zero => rfl
  | succ n ih => simp only [tot]; rw [ih fun j hj => h j (by omega), h n (by omega)]
theorem wat_u {V : tV} {j k : Nat} {x : Int32} : wat (uV V j 3 x) k = if k = j then x.toInt else wat V k := by
  unfold wat uV
  by_cases e : k = j
  · simp [e]
  · simp [e]
theorem tot_u {V : tV} {j n : Nat} {x : Int32} (hj : j < n) : tot (uV V j 3 x) n = tot V n - wat V j + x.toInt := by
  induction n with
  | zero => omega
  | succ n ih =>
    simp only [tot]
    rw [wat_u]
    by_cases e : n = j
    · subst e
      rw [if_pos rfl, tot_c (W := V) (fun k hk => by rw [wat_u, if_neg (by omega)])]
      omega
    · rw [if_neg e, ih (by omega)]
      omega
theorem sHt_v {V : tV} {j : Nat} (h : vV V j) (h0 : 0 ≤ wat V j) (h1 : wat V j ≤ 1395) : (sHt V j).toInt = (V j 1).toInt * (V j 0).toInt + wat V j ∧ 0 ≤ (V j 1).toInt * (V j 0).toInt ∧ (V j 1).toInt * (V j 0).toInt ≤ 180 := by
  obtain ⟨a1, a2, b1, b2, -⟩ := h
  have q := mul_bd b1 b2 (show 0 ≤ (V j 0).toInt by omega) a2
  unfold wat at *
  have e : (V j 1 * V j 0).toInt = (V j 1).toInt * (V j 0).toInt := i_mul_s (by omega) (by omega)
  unfold sHt
  rw [i_add_s (by omega) (by omega), e]
  omega
theorem sWa_v {V : tV} {j : Nat} {m : Int32} (h : vV V j) (hm : vM V j m) (h0 : 0 ≤ wat V j) (h1 : wat V j ≤ 1395) : 0 ≤ (sWa V j m).toInt ∧ (sWa V j m).toInt ≤ wat V j := by
  have hh1 := sHt_v h h0 h1
  obtain ⟨a1, a2, b1, b2, r1, r2, -⟩ := h
  obtain ⟨m1, m2⟩ := hm
  have q := mul_bd (show 0 ≤ m.toInt by omega) (show m.toInt ≤ 50 by omega) (show 0 ≤ (V j 0).toInt by omega) a2
  have em : (m * V j 0).toInt = m.toInt * (V j 0).toInt := i_mul_s (by omega) (by omega)
  have q2 : (V j 1).toInt * (V j 0).toInt ≤ m.toInt * (V j 0).toInt := Int.mul_le_mul_of_nonneg_right m1 (by omega)
  rw [sWa_eq, i_imax, i_sub_s (by omega) (by omega), em, hh1.1, show (0 : Int32).toInt = 0 from rfl]
  omega
theorem sHd_v {V : tV} {j : Nat} {m : Int32} (h : vV V j) (hm : vM V j m) (h0 : 0 ≤ wat V j) (h1 : wat V j ≤ 1395) : 0 ≤ (sHd V j m).toInt ∧ (sHd V j m).toInt ≤ 1575 := by
  have hh1 := sHt_v h h0 h1
  obtain ⟨a1, a2, b1, b2, r1, r2, -⟩ := h
  obtain ⟨m1, m2⟩ := hm
  have q := mul_bd (show 0 ≤ m.toInt by omega) (show m.toInt ≤ 50 by omega) (show 0 ≤ (V j 0).toInt by omega) a2
  have em : (m * V j 0).toInt = m.toInt * (V j 0).toInt := i_mul_s (by omega) (by omega)
  rw [sHd_eq, i_imax, em, hh1.1]
  omega
theorem sUn_v {V P : tV} {p a c : Nat} (ha : vV V a) (hc : vV V c) (hm : vM V a (P p 2)) (ho : vM V c (P p 3)) (h0 : 0 ≤ wat V a) (h1 : wat V a ≤ 1395) (g0 : 0 ≤ wat V c) (g1 : wat V c ≤ 1395) : -14175 ≤ (sUn V P p a c).toInt ∧ (sUn V P p a c).toInt ≤ 14175 := by
  have ea := sHd_v ha hm h0 h1
  have ec := sHd_v hc ho g0 g1
  have qa := mul_bd ea.1 ea.2 (show 0 ≤ (V c 0).toInt by have := hc.1; omega) hc.2.1
  have qc := mul_bd ec.1 ec.2 (show 0 ≤ (V a 0).toInt by have := ha.1; omega) ha.2.1
  have e1 : (sHd V a (P p 2) * V c 0).toInt = (sHd V a (P p 2)).toInt * (V c 0).toInt := i_mul_s (by omega) (by omega)
  have e2 : (sHd V c (P p 3) * V a 0).toInt = (sHd V c (P p 3)).toInt * (V a 0).toInt := i_mul_s (by omega) (by omega)
  unfold sUn
  rw [i_sub_s (by omega) (by omega), e1, e2]
  omega
theorem sWi_v {P : tV} {p : Nat} {st : Int32} (h1 : 1 ≤ (P p 4).toInt) (h9 : (P p 4).toInt ≤ 9) : 0 ≤ (sWi P p st).toInt := by
  unfold sWi
  split
  · rw [i_mul_s] <;> rw [show (2 : Int32).toInt = 2 from rfl] <;> omega
  · split
    · decide
    · split
      · split
        · omega
        · decide
      · omega
/-- what goes is there -/
theorem sFl_v {V P : tV} {p a c : Nat} {st : Int32} (ha : vV V a) (hc : vV V c) (hm : vM V a (P p 2)) (ho : vM V c (P p 3)) (h1 : 1 ≤ (P p 4).toInt) (h9 : (P p 4).toInt ≤ 9) (ha0 : 0 ≤ wat V a) (ha1 : wat V a ≤ 1395) (hc0 : 0 ≤ wat V c) (hc1 : wat V c ≤ 1395) : -wat V c ≤ (sFl V P p a c st).toInt ∧ (sFl V P p a c st).toInt ≤ wat V a := by
  have hu := sUn_v (P := P) (p := p) ha hc hm ho ha0 ha1 hc0 hc1
  have wa := sWa_v ha hm ha0 ha1
  have wc := sWa_v hc ho hc0 hc1
  have eA : (V a 0 + V c 0).toInt = (V a 0).toInt + (V c 0).toInt := by
    have := ha.1; have := ha.2.1; have := hc.1; have := hc.2.1
    exact i_add_s (by omega) (by omega)
  have pA : 0 < (V a 0 + V c 0).toInt := by have := ha.1; have := hc.1; omega
  unfold sFl
  rw [if_pos (i_1le pA)]
  split
  · rename_i q
    rw [i_le] at q
    split
    · have en : (-sUn V P p a c).toInt = -(sUn V P p a c).toInt := i_neg_s (by omega)
      have qd := i_div_b (u := -sUn V P p a c) (a := V a 0 + V c 0) (by rw [en]; simp at q; omega) pA
      have ei := i_imin (P p 4) (imin (sWa V c (P p 3)) (-sUn V P p a c / (V a 0 + V c 0)))
      rw [i_imin (sWa V c (P p 3))] at ei
      rw [i_neg_s (by omega)]
      omega
    · rw [show (0 : Int32).toInt = 0 from rfl]; omega
  · rename_i q
    rw [i_le] at q
    have qd := i_div_b (u := sUn V P p a c) (a := V a 0 + V c 0) (by simp at q; omega) pA
    have w := sWi_v (st := st) h1 h9
    rw [i_imin, i_imin]
    omega
theorem vV_c {V W : tV} {j : Nat} (h : ∀ f, f ≠ 3 → W j f = V j f) (hv : vV V j) : vV W j := by
  unfold vV
  rw [h 0 (by decide), h 1 (by decide), h 2 (by decide), h 4 (by decide)]
  exact hv
theorem vM_c {V W : tV} {j : Nat} {m : Int32} (h : ∀ f, f ≠ 3 → W j f = V j f) (hv : vM V j m) : vM W j m := by
  unfold vM
  rw [h 1 (by decide), h 2 (by decide)]
  exact hv
theorem vP_c {V W P Q : tV} {nv p : Nat} (h : ∀ j f, f ≠ 3 → W j f = V j f) (k : ∀ q g, g ≠ 7 → Q q g = P q g) (hv : vP V P nv p) : vP W Q nv p := by
  obtain ⟨a, c, h0, h1, ha, hc, hn, m1, m2, r⟩ := hv
  refine ⟨a, c, (k p 0 (by decide)).trans h0, (k p 1 (by decide)).trans h1, ha, hc, hn, ?_, ?_, ?_⟩
  · rw [k p 2 (by decide)]; exact vM_c (h a) m1
  · rw [k p 3 (by decide)]; exact vM_c (h c) m2
  · rw [k p 4 (by decide), k p 5 (by decide), k p 6 (by decide)]; exact r
theorem vC_c {S S' : Nat → Int32} {V W P Q : tV} {nv np : Nat} (h2 : S' 2 = S 2) (h3 : S' 3 = S 3) (h : ∀ j f, f ≠ 3 → W j f = V j f) (k : ∀ q g, g ≠ 7 → Q q g = P q g) (hv : vC S V P nv np) : vC S' W Q nv np := by
  obtain ⟨e2, e3, n5, n8, hV, hP⟩ := hv
  exact ⟨h2.trans e2, h3.trans e3, n5, n8, fun j hj => vV_c (h j) (hV j hj), fun p hp => vP_c h k (hP p hp)⟩
theorem vC_end {S : Nat → Int32} {V P : tV} {nv np : Nat} (hv : vC S V P nv np) : sEnd S V P nv np := by
  obtain ⟨e2, e3, n5, n8, hV, hP⟩ := hv
  refine ⟨e2, e3, n5, n8, fun p hp => ?_⟩
  obtain ⟨a, c, h0, h1, ha, hc, -⟩ := hP p hp
  refine ⟨a, c, h0, h1, ha, hc, fun e => ?_⟩
  have va := hV a ha
  have vc := hV c hc
  have eA : (V a 0 + V c 0).toInt = (V a 0).toInt + (V c 0).toInt := by
    have := va.1; have := va.2.1; have := vc.1; have := vc.2.1
    exact i_add_s (by omega) (by omega)
  rw [e] at eA
  have := va.1; have := vc.1
  simp at eA
  omega
theorem vC_num {S : Nat → Int32} {V P : tV} {nv np : Nat} (hv : vC S V P nv np) : sNum V P nv np := by
  obtain ⟨e2, e3, n5, n8, hV, hP⟩ := hv
  refine ⟨fun j hj => ⟨?_, (hV j hj).2.1⟩, fun p hp => ?_⟩
  · have := (hV j hj).1; omega
  · obtain ⟨a, c, h0, h1, ha, hc, hn, m1, m2, r, -⟩ := hP p hp
    omega
/-- waters that stand while PIPES have their turns -/
def vT (V : tV) (nv : Nat) (T : Int) : Prop := (∀ j, j < nv → 0 ≤ wat V j) ∧ tot V nv = T
theorem sTw_t {S : Nat → Int32} {V P : tV} {nv np p a c : Nat} {st : Int32} {T : Int} (hv : vC S V P nv np) (hp : p < np) (h0 : P p 0 = nI a) (h1 : P p 1 = nI c) (ha : a < nv) (hc : c < nv) (hT : T ≤ 1395) (hw : vT V nv T) : vT (sTw st V P p a c).1 nv T := by
  obtain ⟨e2, e3, n5, n8, hV, hP⟩ := hv
  obtain ⟨a', c', h0', h1', ha', hc', hn, m1, m2, r1, r2, -⟩ := hP p hp
  have ea : a' = a := by
    have q := h0'.symm.trans h0
    have := congrArg Int32.toNatClampNeg q
    rwa [nI_clamp (by omega), nI_clamp (by omega)] at this
  have ec : c' = c := by
    have q := h1'.symm.trans h1
    have := congrArg Int32.toNatClampNeg q
    rwa [nI_clamp (by omega), nI_clamp (by omega)] at this
  subst ea ec
  obtain ⟨hn0, ht⟩ := hw
  have la := tot_le hn0 a' ha
  have lc := tot_le hn0 c' hc
  have b := sFl_v (st := st) (hV a' ha) (hV c' hc) m1 m2 r1 r2 (hn0 a' ha) (by omega) (hn0 c' hc) (by omega)
  have w1 := hn0 a' ha
  have w2 := hn0 c' hc
  have s1 : (V a' 3 - sFl V P p a' c' st).toInt = wat V a' - (sFl V P p a' c' st).toInt := i_sub_s (by unfold wat at *; omega) (by unfold wat at *; omega)
  have e1 : uV V a' 3 (V a' 3 - sFl V P p a' c' st) c' 3 = V c' 3 := uV_j (Ne.symm hn)
  have s2 : (V c' 3 + sFl V P p a' c' st).toInt = wat V c' + (sFl V P p a' c' st).toInt := i_add_s (by unfold wat at *; omega) (by unfold wat at *; omega)
  refine ⟨fun j hj => ?_, ?_⟩
  · simp only [sTw]
    rw [wat_u, wat_u, e1, s1, s2]
    split
    · omega
    · split
      · omega
      · exact hn0 j hj
  · simp only [sTw]
    rw [tot_u hc, tot_u ha, wat_u, if_neg (Ne.symm hn), e1, s1, s2]
    omega
theorem sTn_t {S : Nat → Int32} {V P : tV} {nv np p a c : Nat} {st : Int32} {T : Int} (hv : vC S V P nv np) (hp : p < np) (h0 : P p 0 = nI a) (h1 : P p 1 = nI c) (ha : a < nv) (hc : c < nv) (hT : T ≤ 1395) (hw : vT V nv T) : vT (sTn st V P p a c).1 nv T := by
  unfold sTn
  split
  · exact sTw_t hv hp h0 h1 ha hc hT hw
  · split
    · split
      · exact hw
      · exact sTw_t (P := uV P p 7 1) (vC_c rfl rfl (fun _ _ _ => rfl) (fun q g hg => uV_f hg) hv) hp ((uV_f (by decide)).trans h0) ((uV_f (by decide)).trans h1) ha hc hT hw
    · exact sTw_t hv hp h0 h1 ha hc hT hw
theorem sPs_t {S : Nat → Int32} {V P : tV} {nv np : Nat} {o st : Int32} {T : Int} (hv : vC S V P nv np) (hT : T ≤ 1395) (hw : vT V nv T) : ∀ m, m ≤ np → vT (sPs o st V P m).1 nv T := by
  intro m
  induction m with
  | zero => intro _; exact hw
  | succ m ih =>
    intro hm
    have ih' := ih (by omega)
    unfold sPs
    split
    · obtain ⟨a, c, h0, h1, ha, hc, -⟩ := hv.2.2.2.2.2 m (by omega)
      have h5 := hv.2.2.1
      have hk := sPs_k o st V P m
      rw [h0, h1, nI_clamp (by omega), nI_clamp (by omega)]
      exact sTn_t (vC_c (S := S) rfl rfl hk.1 hk.2 hv) (by omega) ((hk.2 m 0 (by decide)).trans h0) ((hk.2 m 1 (by decide)).trans h1) ha hc hT ih'
    · exact ih'
theorem brim_v {V : tV} {j : Nat} (h : vV V j) : 0 ≤ brim V j ∧ brim V j ≤ 270 := by
  obtain ⟨a1, a2, b1, b2, r1, r2, -⟩ := h
  exact mul_bd (by omega) a2 (by omega) r2
theorem sBr_v {V : tV} {j : Nat} (h : vV V j) : (sBr V j).toInt = brim V j := by
  have q := brim_v h
  unfold brim at *
  exact i_mul_s (by omega) (by omega)
theorem tpV_t {V : tV} {nv : Nat} (h5 : nv ≤ 5) (hV : ∀ j, j < nv → vV V j) (hw : ∀ j, j < nv → 0 ≤ wat V j ∧ wat V j ≤ brim V j) : ∃ T, T ≤ 1395 ∧ 0 ≤ T ∧ vT (tpV V nv) nv T := by
  have e : ∀ j, j < nv → wat (tpV V nv) j = wat V j + (V j 4).toInt := by
    intro j hj
    have e3 : tpV V nv j 3 = V j 3 + V j 4 := if_pos ⟨rfl, hj⟩
    unfold wat
    rw [e3]
    have q := brim_v (hV j hj)
    have w := hw j hj
    obtain ⟨a1, a2, b1, b2, r1, r2, t1, t2⟩ := hV j hj
    unfold wat at w
    exact i_add_s (by omega) (by omega)
  have b : ∀ j, j < nv → 0 ≤ wat (tpV V nv) j ∧ wat (tpV V nv) j ≤ 279 := by
    intro j hj
    have q := brim_v (hV j hj)
    have w := hw j hj
    obtain ⟨a1, a2, b1, b2, r1, r2, t1, t2⟩ := hV j hj
    rw [e j hj]
    omega
  have tb : ∀ n, n ≤ nv → tot (tpV V nv) n ≤ 279 * n := by
    intro n
    induction n with
    | zero => intro _; exact Int.le_refl _
    | succ n ih =>
      intro hn
      have := ih (by omega)
      have := (b n (by omega)).2
      simp only [tot]
      omega
  have := tb nv (Nat.le_refl _)
  refine ⟨_, ?_, tot_nn fun j hj => (b j hj).1, fun j hj => (b j hj).1, rfl⟩
  omega
