/-! A BENCH'S STEP (class) -/
section BS
variable (X : Nat × (Nat → Int32) × Value) (d : Nat) (M : zM) (G : zG) (b : Nat) (S : Nat → Int32) (V P : tV)
def sAb (V : tV) (j : Nat) : Int32 := V j 3 - sBr V j
def spV (V : tV) (j : Nat) : tV := if 0 < sAb V j then uV V j 3 (V j 3 - sAb V j) else V
def spS (S : Nat → Int32) (V : tV) (v : Int32) : Nat → Int32 := if 0 < sAb V v.toNatClampNeg then uS (uS (uS S 7 (S 7 + sAb V v.toNatClampNeg)) 8 (S 8 ||| 1 <<< (v &&& 31))) 4 (imin (2000000000 - sAb V v.toNatClampNeg) (S 4) + sAb V v.toNatClampNeg) else S
theorem uS_s {S : Nat → Int32} {f : Nat} {x : Int32} : uS S f x f = x := if_pos rfl
theorem uS_n {S : Nat → Int32} {f g : Nat} {x : Int32} (h : g ≠ f) : uS S f x g = S g := if_neg h
theorem uV_s {V : tV} {j f : Nat} {x : Int32} : uV V j f x j f = x := if_pos ⟨rfl, rfl⟩
theorem uV_f {V : tV} {j j' f f' : Nat} {x : Int32} (h : f' ≠ f) : uV V j f x j' f' = V j' f' := if_neg fun q => h q.2
theorem uV_j {V : tV} {j j' f f' : Nat} {x : Int32} (h : j' ≠ j) : uV V j f x j' f' = V j' f' := if_neg fun q => h q.1
theorem C12 (v : Int32) (hz : zin v 5 = true) : zd X (d + 1) 12 [vR (0, b, 0), vI v] (hh (cm M b S V P) G) = some (none, hh (cm M b (spS S V v) (spV V v.toNatClampNeg) P) G) := by
  simp only [E12, e12_0, e12_1, e12_4, e12_5, e12_6, e12_7, e12_8, e12_11, e12_12, e12_15, e12_16, e12_17, e12_18, e12_21, e12_22, e12_23, e12_24, e12_27, e12_28, e12_29, e12_32, e12_33, e12_34, e12_37, e12_38, e12_39, e12_42, e12_43, e12_44, e12_47, e12_48, e12_49, e12_50, e12_51, e12_54, e12_55, e12_57, e12_58, e12_59, e12_60, e12_63, e12_66, e12_67, e12_68, e12_71, zt0, zt1, zn3, not_false_eq_true, toListS, toListN, zk_some, zpi, D238, C67, hz, cm_S, cm_V, cm_P, cm_vw, cm_pw, cm_uS, cm_uV, cm_uP, cm_Sf, uS_s, uS_n, uV_s, ne_eq, Nat.reduceEqDiff]
  show (if 0 < sAb V v.toNatClampNeg then _ else _) = _
  by_cases h : 0 < sAb V v.toNatClampNeg
  · rw [if_pos h, spS, spV, if_pos h, if_pos h]
    rfl
  · rw [if_neg h, spS, spV, if_neg h, if_neg h]
theorem i10 : ((1 : Int32) = 0) = False := by decide
theorem z01 {c : Prop} {iP : Decidable c} : (@ite Int32 c iP 0 1) = 0 ∨ (@ite Int32 c iP 0 1) = 1 := by by_cases h : c <;> simp [h]
theorem sAt_01 (V P : tV) (p a : Nat) : sAt V P p a = 0 ∨ sAt V P p a = 1 := z01
theorem z00 : ((0 : Int32) = 0 ∨ (0 : Int32) = 1) := Or.inl rfl
def sRn (P : tV) (p : Nat) (x : Int32) : tV := uV P p 7 x
/-- a pipe's turn: V, P behind it; a, b: its ends -/
def sTw (stp : Int32) (V P : tV) (p a b : Nat) : tV × tV :=
  let V1 := uV V a 3 (V a 3 - sFl V P p a b stp)
  let V2 := uV V1 b 3 (V1 b 3 + sFl V P p a b stp)
  (V2, if sFl V P p a b stp = 0 then uV P p 7 0 else if sWa V2 a (P p 2) = 0 then uV P p 7 0 else P)
def sTn (stp : Int32) (V P : tV) (p a b : Nat) : tV × tV :=
  if sSi P p = 0 then sTw stp V P p a b else if P p 7 = 0 then (if sAt V P p a = 0 then (V, uV P p 7 0) else sTw stp V (uV P p 7 1) p a b) else sTw stp V P p a b
theorem C13w (p a c : Nat) (hA : ¬ V a 0 + V c 0 = 0) :
    zx X (d + 2) 13 74 [vR (0, b, 0), vR (3, b, p), vR (5, b, a), vR (5, b, c), vN] [] (hh (cm M b S V P) G) = some (none, hh (cm M b S (sTw (S 5) V P p a c).1 (sTw (S 5) V P p a c).2) G) := by
  have hA' : ¬ vw (cm M b S V P) b a 0 + vw (cm M b S V P) b c 0 = 0 := by rw [cm_vw]; exact hA
  simp only [e13_0, e13_1, e13_2, e13_5, e13_8, e13_11, e13_12, e13_13, e13_16, e13_19, e13_22, e13_23, e13_24, e13_27, e13_28, e13_31, e13_32, e13_33, e13_34, e13_37, e13_38, e13_41, e13_42, e13_43, e13_44, e13_47, e13_50, e13_51, e13_54, e13_57, e13_58, e13_59, e13_60, e13_63, e13_66, e13_67, e13_70, e13_73, e13_74, e13_75, e13_76, e13_77, e13_78, e13_81, e13_84, e13_86, e13_87, e13_88, e13_91, e13_93, e13_94, e13_97, e13_98, e13_99, e13_102, e13_104, e13_105, e13_108, e13_110, e13_113, e13_114, e13_115, e13_118, e13_121, e13_124, e13_125, e13_126, e13_129, C58 X _ _ _ _ _ _ _ _ hA', C70, cm_S, cm_V, cm_P, cm_vw, cm_pw, cm_uS, cm_uV, cm_uP, cm_Sf, zt0, zt1, zn3, not_false_eq_true, toListS, toListN, zk_some, zpi, true_or, or_true, ne_eq]
  by_cases q1 : sFl V P p a c (S 5) = 0
  · simp only [sTw, if_pos q1]
  · simp only [sTw, if_neg q1]
    split <;> rfl
theorem C13 (p : Nat) (h1 : sHv S (P p 0) = 1) (h2 : sHv S (P p 1) = 1) (hz1 : zin (P p 0) 5 = true) (hz2 : zin (P p 1) 5 = true) (hA : ¬ V (P p 0).toNatClampNeg 0 + V (P p 1).toNatClampNeg 0 = 0) :
    zd X (d + 2) 13 [vR (0, b, 0), vR (3, b, p)] (hh (cm M b S V P) G) = some (none, hh (cm M b S (sTn (S 5) V P p (P p 0).toNatClampNeg (P p 1).toNatClampNeg).1 (sTn (S 5) V P p (P p 0).toNatClampNeg (P p 1).toNatClampNeg).2) G) := by
  simp only [E13, e13_0, e13_1, e13_2, e13_5, e13_8, e13_11, e13_12, e13_13, e13_16, e13_19, e13_22, e13_23, e13_24, e13_27, e13_28, e13_31, e13_32, e13_33, e13_34, e13_37, e13_38, e13_41, e13_42, e13_43, e13_44, e13_47, e13_50, e13_51, e13_54, e13_57, e13_58, e13_59, e13_60, e13_63, e13_66, e13_67, e13_70, e13_73, C2, C55, C57, h1, h2, hz1, hz2, i10, cm_S, cm_V, cm_P, cm_vw, cm_pw, cm_uS, cm_uV, cm_uP, cm_Sf, zt0, zt1, zn3, not_false_eq_true, toListS, toListN, zk_some, zpi, true_or, or_true, sAt_01, if_false, ne_eq, C13w X d M G b S V _ _ _ _ hA]
  by_cases q1 : sSi P p = 0
  · simp only [sTn, if_pos q1]
  · by_cases q2 : P p 7 = 0
    · by_cases q3 : sAt V P p (P p 0).toNatClampNeg = 0
      · simp only [sTn, if_neg q1, if_pos q2, q3, uV_s, if_true]
      · have q4 := (sAt_01 V P p (P p 0).toNatClampNeg).resolve_left q3
        simp only [sTn, if_neg q1, if_pos q2, q4, uV_s, i10, if_false]
    · simp only [sTn, if_neg q1, if_neg q2]
end BS
