/-! A BENCH'S STEP (class) -/
section BS
variable (X : Nat × (Nat → Int32) × Value) (d : Nat) (M : zM) (G : zG) (b : Nat) (S : Nat → Int32) (V P : tV)
def sAb (V : tV) (j : Nat) : Int32 := V j 3 - sBr V j
def spV (V : tV) (j : Nat) : tV := if 0 < sAb V j then uV V j 3 (V j 3 - sAb V j) else V
def spS (S : Nat → Int32) (V : tV) (v : Int32) : Nat → Int32 := if 0 < sAb V v.toNatClampNeg then uS (uS (uS S 7 (S 7 + sAb V v.toNatClampNeg)) 8 (S 8 ||| 1 <<< (v &&& 31))) 4 (imin (2000000000 - sAb V v.toNatClampNeg) (S 4) + sAb V v.toNatClampNeg) else S
theorem uS_s {S : Nat → Int32} {f : Nat} {x : Int32} : uS S f x f = x := if_pos rfl
theorem uS_n {S : Nat → Int32} {f g : Nat} {x : Int32} (h : g ≠ f) : uS S f x g = S g := if_neg h
theorem uV_s {V : tV} {j f : Nat} {x : Int32} : uV V j f x j f = x := if_pos ⟨rfl, rfl⟩
theorem uV_f {V : tV} {j j' f f' : Nat} {x : Int32} (h : f' ≠ f) : uV V j f x j' f' = V j' f' := if_neg fun q => h q.2
theorem uV_j {V : tV} {j j' f f' : Nat} {x : Int32} (h : j' ≠ j) : uV V j f x j' f' = V j' f' := if_neg fun q => h q.1
theorem C12 (v : Int32) (hz : zin v 5 = true) : zd X (d + 1) 12 [vR (0, b, 0), vI v] (hh (cm M b S V P) G) = some (none, hh (cm M b (spS S V v) (spV V v.toNatClampNeg) P) G) := by
  simp only [E12, e12_0, e12_1, e12_4, e12_5, e12_6, e12_7, e12_8, e12_11, e12_12, e12_15, e12_16, e12_17, e12_18, e12_21, e12_22, e12_23, e12_24, e12_27, e12_28, e12_29, e12_32, e12_33, e12_34, e12_37, e12_38, e12_39, e12_42, e12_43, e12_44, e12_47, e12_48, e12_49, e12_50, e12_51, e12_54, e12_55, e12_57, e12_58, e12_59, e12_60, e12_63, e12_66, e12_67, e12_68, e12_71, zt0, zt1, zn3, not_false_eq_true, toListS, toListN, zk_some, zpi, D238, C67, hz, cm_S, cm_V, cm_P, cm_vw, cm_pw, cm_uS, cm_uV, cm_uP, cm_Sf, uS_s, uS_n, uV_s, ne_eq, Nat.reduceEqDiff]
  show (if 0 < sAb V v.toNatClampNeg then _ else _) = _
  by_cases h : 0 < sAb V v.toNatClampNeg
  · rw [if_pos h, spS, spV, if_pos h, if_pos h]
    rfl
  · rw [if_neg h, spS, spV, if_neg h, if_neg h]
theorem i10 : ((1 : Int32) = 0) = False := by decide
theorem z01 {c : Prop} {iP : Decidable c} : (@ite Int32 c iP 0 1) = 0 ∨ (@ite Int32 c iP 0 1) = 1 := by by_cases h : c <;> simp [h]
theorem sAt_01 (V P : tV) (p a : Nat) : sAt V P p a = 0 ∨ sAt V P p a = 1 := z01
theorem z00 : ((0 : Int32) = 0 ∨ (0 : Int32) = 1) := Or.inl rfl
def sRn (P : tV) (p : Nat) (x : Int32) : tV := uV P p 7 x
/-- a pipe's turn: V, P behind it; a, b: its ends -/
def sTw (stp : Int32) (V P : tV) (p a b : Nat) : tV × tV :=
  let V1 := uV V a 3 (V a 3 - sFl V P p a b stp)
  let V2 := uV V1 b 3 (V1 b 3 + sFl V P p a b stp)
  (V2, if sFl V P p a b stp = 0 then uV P p 7 0 else if sWa V2 a (P p 2) = 0 then uV P p 7 0 else P)
def sTn (stp : Int32) (V P : tV) (p a b : Nat) : tV × tV :=
  if sSi P p = 0 then sTw stp V P p a b else if P p 7 = 0 then (if sAt V P p a = 0 then (V, uV P p 7 0) else sTw stp V (uV P p 7 1) p a b) else sTw stp V P p a b
theorem C13w (p a c : Nat) (hA : ¬ V a 0 + V c 0 = 0) :
    zx X (d + 2) 13 74 [vR (0, b, 0), vR (3, b, p), vR (5, b, a), vR (5, b, c), vN] [] (hh (cm M b S V P) G) = some (none, hh (cm M b S (sTw (S 5) V P p a c).1 (sTw (S 5) V P p a c).2) G) := by
  have hA' : ¬ vw (cm M b S V P) b a 0 + vw (cm M b S V P) b c 0 = 0 := by rw [cm_vw]; exact hA
  simp only [e13_0, e13_1, e13_2, e13_5, e13_8, e13_11, e13_12, e13_13, e13_16, e13_19, e13_22, e13_23, e13_24, e13_27, e13_28, e13_31, e13_32, e13_33, e13_34, e13_37, e13_38, e13_41, e13_42, e13_43, e13_44, e13_47, e13_50, e13_51, e13_54, e13_57, e13_58, e13_59, e13_60, e13_63, e13_66, e13_67, e13_70, e13_73, e13_74, e13_75, e13_76, e13_77, e13_78, e13_81, e13_84, e13_86, e13_87, e13_88, e13_91, e13_93, e13_94, e13_97, e13_98, e13_99, e13_102, e13_104, e13_105, e13_108, e13_110, e13_113, e13_114, e13_115, e13_118, e13_121, e13_124, e13_125, e13_126, e13_129, C58 X _ _ _ _ _ _ _ _ hA', C70, cm_S, cm_V, cm_P, cm_vw, cm_pw, cm_uS, cm_uV, cm_uP, cm_Sf, zt0, zt1, zn3, not_false_eq_true, toListS, toListN, zk_some, zpi, true_or, or_true, ne_eq]
  by_cases q1 : sFl V P p a c (S 5) = 0
  · simp only [sTw, if_pos q1]
  · simp only [sTw, if_neg q1]
    split <;> rfl
theorem C13 (p : Nat) (h1 : sHv S (P p 0) = 1) (h2 : sHv S (P p 1) = 1) (hz1 : zin (P p 0) 5 = true) (hz2 : zin (P p 1) 5 = true) (hA : ¬ V (P p 0).toNatClampNeg 0 + V (P p 1).toNatClampNeg 0 = 0) :
    zd X (d + 2) 13 [vR (0, b, 0), vR (3, b, p)] (hh (cm M b S V P) G) = some (none, hh (cm M b S (sTn (S 5) V P p (P p 0).toNatClampNeg (P p 1).toNatClampNeg).1 (sTn (S 5) V P p (P p 0).toNatClampNeg (P p 1).toNatClampNeg).2) G) := by
  simp only [E13, e13_0, e13_1, e13_2, e13_5, e13_8, e13_11, e13_12, e13_13, e13_16, e13_19, e13_22, e13_23, e13_24, e13_27, e13_28, e13_31, e13_32, e13_33, e13_34, e13_37, e13_38, e13_41, e13_42, e13_43, e13_44, e13_47, e13_50, e13_51, e13_54, e13_57, e13_58, e13_59, e13_60, e13_63, e13_66, e13_67, e13_70, e13_73, C2, C55, C57, h1, h2, hz1, hz2, i10, cm_S, cm_V, cm_P, cm_vw, cm_pw, cm_uS, cm_uV, cm_uP, cm_Sf, zt0, zt1, zn3, not_false_eq_true, toListS, toListN, zk_some, zpi, true_or, or_true, sAt_01, if_false, ne_eq, C13w X d M G b S V _ _ _ _ hA]
  by_cases q1 : sSi P p = 0
  · simp only [sTn, if_pos q1]
  · by_cases q2 : P p 7 = 0
    · by_cases q3 : sAt V P p (P p 0).toNatClampNeg = 0
      · simp only [sTn, if_neg q1, if_pos q2, q3, uV_s, if_true]
      · have q4 := (sAt_01 V P p (P p 0).toNatClampNeg).resolve_left q3
        simp only [sTn, if_neg q1, if_pos q2, q4, uV_s, i10, if_false]
    · simp only [sTn, if_neg q1, if_neg q2]
theorem zin_nI {i n : Nat} (h : i < n) (hn : n < 2 ^ 31) : zin (nI i) n = true := by
  unfold zin
  rw [nI_clamp (by omega)]
  simp only [decide_eq_true h, Bool.and_true, decide_eq_true_eq]
  exact nI_pos (by omega)
def tpV (V : tV) (n : Nat) : tV := fun j f => if f = 3 ∧ j < n then V j 3 + V j 4 else V j f
theorem tpV_0 (V : tV) : tpV V 0 = V := by
  funext j f
  simp [tpV]
theorem tpV_s (V : tV) (i : Nat) : uV (tpV V i) i 3 (tpV V i i 3 + tpV V i i 4) = tpV V (i + 1) := by
  funext j f
  unfold uV tpV
  by_cases hf : f = 3
  · subst hf
    by_cases hj : j = i
    · subst hj
      simp
    · by_cases hl : j < i
      · simp [hj, hl, Nat.lt_succ_of_lt hl]
      · have : ¬ j < i + 1 := by omega
        simp [hj, hl, this]
  · simp [hf]
theorem L11a (nv : Nat) (hS : S 2 = nI nv) (h5 : nv ≤ 5) : ∀ (m i : Nat), i + m = nv → zx X d 11 12 [vR (0, b, 0), vI (nI i)] [] (hh (cm M b S (tpV V i) P) G) = zx X d 11 49 [vR (0, b, 0), vI (nI nv)] [] (hh (cm M b S (tpV V nv) P) G) := by
  intro m
  induction m with
  | zero =>
    intro i hi
    have : i = nv := by omega
    subst this
    simp only [e11_12, e11_13, e11_14, e11_17, cm_S, cm_V, cm_P, cm_vw, cm_pw, cm_uS, cm_uV, cm_uP, cm_Sf, hS]
    rw [if_pos (nI_le (Nat.le_refl _) (by omega))]
  | succ m ih =>
    intro i hi
    have hz := zin_nI (i := i) (n := 5) (by omega) (by decide)
    have hc : (nI i).toNatClampNeg = i := nI_clamp (by omega)
    have hlt : ¬ nI nv ≤ nI i := nI_ge (by omega) (by omega)
    rw [e11_12, e11_13, e11_14, e11_17, cm_S, hS, if_neg hlt]
    simp only [e11_20, e11_21, e11_24, e11_25, e11_26, e11_27, e11_30, e11_31, e11_34, e11_35, e11_36, e11_39, e11_40, e11_43, e11_46, cm_S, cm_V, cm_P, cm_vw, cm_pw, cm_uS, cm_uV, cm_uP, cm_Sf, hz, hc, tpV_s, nI_1]
    exact ih (i + 1) (by omega)
/-- the pipes' turns -/
def sPs (o stp : Int32) (V P : tV) : Nat → tV × tV
  | 0 => (V, P)
  | i + 1 => if (o >>> (nI i &&& 31)) &&& 1 = 0 then sTn stp (sPs o stp V P i).1 (sPs o stp V P i).2 i (P i 0).toNatClampNeg (P i 1).toNatClampNeg else sPs o stp V P i
theorem sTw_k (stp : Int32) (V P : tV) (p a c : Nat) : (∀ j f, f ≠ 3 → (sTw stp V P p a c).1 j f = V j f) ∧ (∀ q g, g ≠ 7 → (sTw stp V P p a c).2 q g = P q g) := by
  refine ⟨fun j f hf => ?_, fun q g hg => ?_⟩
  · simp only [sTw, uV_f hf]
  · simp only [sTw]
    split
    · exact uV_f hg
    · split
      · exact uV_f hg
      · rfl
theorem sTn_k (stp : Int32) (V P : tV) (p a c : Nat) : (∀ j f, f ≠ 3 → (sTn stp V P p a c).1 j f = V j f) ∧ (∀ q g, g ≠ 7 → (sTn stp V P p a c).2 q g = P q g) := by
  unfold sTn
  split
  · exact sTw_k ..
  · split
    · split
      · exact ⟨fun _ _ _ => rfl, fun q g hg => uV_f hg⟩
      · exact ⟨(sTw_k ..).1, fun q g hg => ((sTw_k ..).2 q g hg).trans (uV_f hg)⟩
    · exact sTw_k ..
theorem sPs_k (o stp : Int32) (V P : tV) (n : Nat) : (∀ j f, f ≠ 3 → (sPs o stp V P n).1 j f = V j f) ∧ (∀ q g, g ≠ 7 → (sPs o stp V P n).2 q g = P q g) := by
  induction n with
  | zero => exact ⟨fun _ _ _ => rfl, fun _ _ _ => rfl⟩
  | succ n ih =>
    unfold sPs
    split
    · exact ⟨fun j f hf => ((sTn_k ..).1 j f hf).trans (ih.1 j f hf), fun q g hg => ((sTn_k ..).2 q g hg).trans (ih.2 q g hg)⟩
    · exact ih
/-- a bench whose numbers may stand: vessels and pipes there are, the pipes' ends are vessels -/
def sEnd (S : Nat → Int32) (V P : tV) (nv np : Nat) : Prop := S 2 = nI nv ∧ S 3 = nI np ∧ nv ≤ 5 ∧ np ≤ 8 ∧ ∀ p, p < np → ∃ a c, P p 0 = nI a ∧ P p 1 = nI c ∧ a < nv ∧ c < nv ∧ ¬ V a 0 + V c 0 = 0
theorem sHv_1 {S : Nat → Int32} {nv a : Nat} (hS : S 2 = nI nv) (h5 : nv ≤ 5) (ha : a < nv) : sHv S (nI a) = 1 := by
  unfold sHv
  rw [if_neg (nI_pos (by omega)), hS, if_neg (nI_ge ha (by omega))]
theorem L11b (nv np : Nat) (hE : sEnd S V P nv np) : ∀ (m i : Nat), i + m = np → zx X (d + 3) 11 51 [vR (0, b, 0), vI (nI i)] [] (hh (cm M b S (sPs (S 6) (S 5) V P i).1 (sPs (S 6) (S 5) V P i).2) G) = zx X (d + 3) 11 86 [vR (0, b, 0), vI (nI np)] [] (hh (cm M b S (sPs (S 6) (S 5) V P np).1 (sPs (S 6) (S 5) V P np).2) G) := by
  obtain ⟨hS, hS3, h5, h8, hp⟩ := hE
  intro m
  induction m with
  | zero =>
    intro i hi
    have : i = np := by omega
    subst this
    simp only [e11_51, e11_52, e11_53, e11_56, cm_S, cm_V, cm_P, cm_vw, cm_pw, cm_uS, cm_uV, cm_uP, cm_Sf, hS3]
    rw [if_pos (nI_le (Nat.le_refl _) (by omega))]
  | succ m ih =>
    intro i hi
    have hz := zin_nI (i := i) (n := 8) (by omega) (by decide)
    have hc : (nI i).toNatClampNeg = i := nI_clamp (by omega)
    have hlt : ¬ nI np ≤ nI i := nI_ge (by omega) (by omega)
    obtain ⟨a, c, ha, hcc, ha1, hc1, hA⟩ := hp i (by omega)
    have hk := sPs_k (S 6) (S 5) V P i
    have e0 : (sPs (S 6) (S 5) V P i).2 i 0 = nI a := (hk.2 i 0 (by decide)).trans ha
    have e1 : (sPs (S 6) (S 5) V P i).2 i 1 = nI c := (hk.2 i 1 (by decide)).trans hcc
    have ca : (nI a).toNatClampNeg = a := nI_clamp (by omega)
    have cc : (nI c).toNatClampNeg = c := nI_clamp (by omega)
    have ih' := ih (i + 1) (by omega)
    have hT := C13 X d M G b S (sPs (S 6) (S 5) V P i).1 (sPs (S 6) (S 5) V P i).2 i (by rw [e0]; exact sHv_1 hS h5 ha1) (by rw [e1]; exact sHv_1 hS h5 hc1) (by rw [e0]; exact zin_nI (by omega) (by decide)) (by rw [e1]; exact zin_nI (by omega) (by decide)) (by rw [e0, e1, ca, cc, hk.1 a 0 (by decide), hk.1 c 0 (by decide)]; exact hA)
    rw [e0, e1] at hT
    rw [e11_51, e11_52, e11_53, e11_56, cm_S, hS3, if_neg hlt]
    simp only [e11_59, e11_60, e11_63, e11_64, e11_65, e11_66, e11_67, cm_S, cm_V, cm_P, cm_vw, cm_pw, cm_uS, cm_uV, cm_uP, cm_Sf]
    by_cases ho : (S 6) >>> (nI i &&& 31) &&& 1 = 0
    · rw [if_pos ho]
      simp only [e11_70, e11_71, e11_72, e11_75, e11_76, e11_77, e11_80, e11_83, zt0, zt1, zn3, not_false_eq_true, toListS, toListN, zk_some, zpi, cm_S, cm_V, cm_P, cm_vw, cm_pw, cm_uS, cm_uV, cm_uP, cm_Sf, hz, hc, hT, nI_1]
      rw [← ih']
      simp only [sPs, if_pos ho, ha, hcc]
    · rw [if_neg ho]
      simp only [e11_80, e11_83, nI_1]
      rw [← ih']
      simp only [sPs, if_neg ho]
/-- what is above the rims runs over -/
def sSs (S : Nat → Int32) (V : tV) : Nat → (Nat → Int32) × tV
  | 0 => (S, V)
  | i + 1 => (spS (sSs S V i).1 (sSs S V i).2 (nI i), spV (sSs S V i).2 i)
theorem spS_k (S : Nat → Int32) (V : tV) (v : Int32) (f : Nat) (h7 : f ≠ 7) (h8 : f ≠ 8) (h4 : f ≠ 4) : spS S V v f = S f := by
  unfold spS
  split
  · rw [uS_n h4, uS_n h8, uS_n h7]
  · rfl
theorem sSs_k (S : Nat → Int32) (V : tV) (n f : Nat) (h7 : f ≠ 7) (h8 : f ≠ 8) (h4 : f ≠ 4) : (sSs S V n).1 f = S f := by
  induction n with
  | zero => rfl
  | succ n ih => exact (spS_k _ _ _ f h7 h8 h4).trans ih
theorem L11c (nv : Nat) (hS : S 2 = nI nv) (h5 : nv ≤ 5) : ∀ (m i : Nat), i + m = nv → zx X (d + 2) 11 88 [vR (0, b, 0), vI (nI i)] [] (hh (cm M b (sSs S V i).1 (sSs S V i).2 P) G) = zx X (d + 2) 11 107 [vR (0, b, 0), vI (nI nv)] [] (hh (cm M b (sSs S V nv).1 (sSs S V nv).2 P) G) := by
  intro m
  induction m with
  | zero =>
    intro i hi
    have : i = nv := by omega
    subst this
    have e := (sSs_k S V i 2 (by decide) (by decide) (by decide)).trans hS
    simp only [e11_88, e11_89, e11_90, e11_93, cm_S, cm_V, cm_P, cm_vw, cm_pw, cm_uS, cm_uV, cm_uP, cm_Sf, e]
    rw [if_pos (nI_le (Nat.le_refl _) (by omega))]
  | succ m ih =>
    intro i hi
    have hz := zin_nI (i := i) (n := 5) (by omega) (by decide)
    have hc : (nI i).toNatClampNeg = i := nI_clamp (by omega)
    have hlt : ¬ nI nv ≤ nI i := nI_ge (by omega) (by omega)
    have e := (sSs_k S V i 2 (by decide) (by decide) (by decide)).trans hS
    have hT := C12 X d M G b (sSs S V i).1 (sSs S V i).2 P (nI i) hz
    rw [hc] at hT
    rw [e11_88, e11_89, e11_90, e11_93, cm_S, e, if_neg hlt]
    simp only [e11_96, e11_97, e11_98, e11_101, e11_104, zt0, zt1, zn3, not_false_eq_true, toListS, toListN, zk_some, zpi, hT, nI_1]
    exact ih (i + 1) (by omega)
/-- a STEP -/
def sStp (S : Nat → Int32) (V P : tV) (nv np : Nat) : (Nat → Int32) × tV × tV :=
  let S0 := uS (uS S 7 0) 8 0
  let W := sPs (S 6) (S 5) (tpV V nv) P np
  let Z := sSs S0 W.1 nv
  (if 9999 ≤ Z.1 5 then Z.1 else uS Z.1 5 (Z.1 5 + 1), Z.2, W.2)
theorem C11 (nv np : Nat) (hE : sEnd S V P nv np) : zd X (d + 3) 11 [vR (0, b, 0)] (hh (cm M b S V P) G) = some (none, hh (cm M b (sStp S V P nv np).1 (sStp S V P nv np).2.1 (sStp S V P nv np).2.2) G) := by
  have hE1 : sEnd (uS (uS S 7 0) 8 0) (tpV V nv) P nv np := by
    obtain ⟨h1, h2, h3, h4, h5⟩ := hE
    refine ⟨h1, h2, h3, h4, fun p hp => ?_⟩
    obtain ⟨a, c, q1, q2, q3, q4, q5⟩ := h5 p hp
    exact ⟨a, c, q1, q2, q3, q4, by simpa [tpV] using q5⟩
  have a1 := L11a X (d + 3) M G b (uS (uS S 7 0) 8 0) V P nv hE1.1 hE1.2.2.1 nv 0 (by omega)
  have a2 := L11b X d M G b (uS (uS S 7 0) 8 0) (tpV V nv) P nv np hE1 np 0 (by omega)
  rw [tpV_0] at a1
  have e6 : uS (uS S 7 0) 8 0 6 = S 6 := rfl
  have e5 : uS (uS S 7 0) 8 0 5 = S 5 := rfl
  rw [e6, e5] at a2
  have a3 := L11c X (d + 1) M G b (uS (uS S 7 0) 8 0) (sPs (S 6) (S 5) (tpV V nv) P np).1 (sPs (S 6) (S 5) (tpV V nv) P np).2 nv hE1.1 hE1.2.2.1 nv 0 (by omega)
  simp only [E11, e11_0, e11_1, e11_2, e11_5, e11_6, e11_7, e11_10, e11_11, cm_S, cm_V, cm_P, cm_vw, cm_pw, cm_uS, cm_uV, cm_uP, cm_Sf]
  rw [nI_0] at a1 a2 a3
  rw [a1]
  simp only [e11_49, e11_50]
  rw [show (cm M b (uS (uS S 7 0) 8 0) (tpV V nv) P) = cm M b (uS (uS S 7 0) 8 0) (sPs (S 6) (S 5) (tpV V nv) P 0).1 (sPs (S 6) (S 5) (tpV V nv) P 0).2 from rfl, a2]
  simp only [e11_86, e11_87]
  rw [show (cm M b (uS (uS S 7 0) 8 0) (sPs (S 6) (S 5) (tpV V nv) P np).1 (sPs (S 6) (S 5) (tpV V nv) P np).2) = cm M b (sSs (uS (uS S 7 0) 8 0) (sPs (S 6) (S 5) (tpV V nv) P np).1 0).1 (sSs (uS (uS S 7 0) 8 0) (sPs (S 6) (S 5) (tpV V nv) P np).1 0).2 (sPs (S 6) (S 5) (tpV V nv) P np).2 from rfl, a3]
  simp only [e11_107, e11_108, e11_111, e11_114, e11_117, e11_118, e11_119, e11_122, e11_123, e11_124, e11_127, cm_S, cm_V, cm_P, cm_vw, cm_pw, cm_uS, cm_uV, cm_uP, cm_Sf]
  simp only [sStp]
  split <;> rfl
end BS
