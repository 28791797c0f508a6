/-! small queries: of, ofPipe, level, goes, all, count -/
theorem z5 {j : Nat} (h : j < 5) : zin (nI j) 5 = true := zin_nI h (by decide)
theorem z8 {j : Nat} (h : j < 8) : zin (nI j) 8 = true := zin_nI h (by decide)
theorem cl5 {j : Nat} (h : j < 5) : (nI j).toNatClampNeg = j := nI_clamp (by omega)
theorem cl8 {j : Nat} (h : j < 8) : (nI j).toNatClampNeg = j := nI_clamp (by omega)
theorem sV {M : zM} {nv np : Nat} (s : ST M nv np) {j f : Nat} (hj : j < nv) (hf : f < 5) : M (5, 0, j) f = (bm M).2.1 j f := s.2.2.2.2.2.2.2.2.2.1.2.1 j f hj hf
theorem sP {M : zM} {nv np : Nat} (s : ST M nv np) {p g : Nat} (hp : p < np) (hg : g < 8) : M (3, 0, p) g = (bm M).2.2 p g := s.2.2.2.2.2.2.2.2.2.1.2.2 p g hp hg (fun _ => by rw [show (gb M 0).1 6 = 0 from s.2.2.2.2.2.2.2.1]; exact out_0 p)
/-- a pipe's ends and its rate -/
theorem pip {B : zB} {nv np p : Nat} (h : vb B nv np) (hp : p < np) : ∃ a c, B.2.2 p 0 = nI a ∧ B.2.2 p 1 = nI c ∧ a < nv ∧ c < nv ∧ a ≠ c ∧ 0 < (B.2.1 a 0 + B.2.1 c 0).toInt ∧ ¬ B.2.1 a 0 + B.2.1 c 0 = 0 ∧ 1 ≤ (B.2.2 p 4).toInt ∧ (B.2.2 p 4).toInt ≤ 9 := by
  obtain ⟨a, c, e1, e2, h1, h2, h3, -, -, h4, h5, -⟩ := h.1.2.2.2.2.2 p hp
  have va := h.1.2.2.2.2.1 a h1
  have vc := h.1.2.2.2.2.1 c h2
  have e : (B.2.1 a 0 + B.2.1 c 0).toInt = (B.2.1 a 0).toInt + (B.2.1 c 0).toInt := i_add_s (by have := va.1; have := vc.1; omega) (by have := va.2.1; have := vc.2.1; omega)
  have e' : 0 < (B.2.1 a 0 + B.2.1 c 0).toInt := by have := va.1; have := vc.1; omega
  refine ⟨a, c, e1, e2, h1, h2, h3, e', fun q => ?_, h4, h5⟩
  rw [q] at e'
  exact absurd e' (by decide)
theorem sCr_eq (V P : tV) (p a : Nat) (hs : ¬ sSi P p = 0) : sCr V P p a = nCr V P p a := by
  unfold sCr nCr
  rcases (sSi_1 hs).2 with h | h
  · rw [h, if_neg (show ¬ (1 : Int32) = 3 by decide), if_pos rfl]
  · rw [h, if_pos rfl, if_neg (show ¬ (3 : Int32) = 1 by decide)]
    unfold imax
    by_cases q : V a 1 + V a 2 - P p 6 ≤ P p 2
    · rw [if_pos q, if_neg (by rw [i_le] at q; rw [i_lt]; omega)]
    · rw [if_neg q, if_pos (by rw [i_le] at q; rw [i_lt]; omega)]
/-- what a PIPE would GO -/
def wG (V P : tV) (p a c : Nat) (st : Int32) : Int32 := if sSi P p = 0 then sFl V P p a c st else if P p 7 = 0 then (if sAt V P p a = 0 then 0 else sFl V P p a c st) else sFl V P p a c st
theorem wG_eq (V P : tV) (p a c : Nat) (st : Int32) (hA : 0 < (V a 0 + V c 0).toInt) (hr : 0 ≤ (P p 4).toInt) (h7 : P p 7 = 0 ∨ P p 7 = 1) : wG V P p a c st = nAm st V P p a c := by
  unfold wG
  by_cases hs : sSi P p = 0
  · rw [if_pos hs]
    exact sFl_eq V P p a c st hA hr (Or.inl hs)
  · rw [if_neg hs]
    rcases h7 with h0 | h1
    · rw [if_pos h0, sAt_eq V P p a hs h0]
      by_cases hn : nRn V P p a = 0
      · rw [if_pos hn]
        unfold nAm
        split
        · split
          · rfl
          · rw [if_neg]
            rcases (sSi_1 hs).2 with e | e <;> rw [e] <;> decide
        · have e : nRa st V P p a = 0 := by
            unfold nRa
            rcases (sSi_1 hs).2 with e | e
            · rw [if_pos e, if_pos hn]
            · rw [e, if_neg (by decide), if_pos rfl, if_pos hn]
          rw [nGo, e, imin_le0 _ rfl]
          refine imin_nn (i_div_nn ?_ hA) (imax_0 _)
          rename_i q
          unfold iabs
          rw [if_pos (by rw [i_le] at *; simp at *; omega)]
          rw [i_le] at q
          simp at q
          omega
      · rw [if_neg hn]
        have f := sFl_eq V (uV P p 7 1) p a c st hA (by rw [uV_f (by decide)]; exact hr) (Or.inr uV_s)
        have e1 : sFl V (uV P p 7 1) p a c st = sFl V P p a c st := sFl_c (fun _ _ => rfl) (fun _ _ => rfl) (fun g hg => uV_f (by omega))
        have n1 : nRn V P p a = 1 := by
          unfold nRn at hn ⊢
          rw [h0, if_neg (show ¬ (0 : Int32) = 1 by decide)] at hn ⊢
          by_cases q : sHt V a < nCr V P p a * V a 0
          · rw [if_pos q] at hn; exact absurd rfl hn
          · rw [if_neg q]
        have n2 : nRn V (uV P p 7 1) p a = 1 := by unfold nRn; rw [uV_s, if_pos rfl]
        have e2 : nAm st V (uV P p 7 1) p a c = nAm st V P p a c := by
          unfold nAm nGo nRa
          rw [n1, n2]
          have q0 : ∀ g, g ≠ 7 → uV P p 7 1 p g = P p g := fun g hg => uV_f hg
          have u : nUn V (uV P p 7 1) p a c = nUn V P p a c := by unfold nUn; rw [q0 2 (by decide), q0 3 (by decide)]
          rw [u, q0 2 (by decide), q0 3 (by decide), q0 4 (by decide), q0 5 (by decide), q0 6 (by decide)]
        rw [← e1, f, e2]
    · rw [if_neg (by rw [h1]; decide)]
      exact sFl_eq V P p a c st hA hr (Or.inr h1)
theorem wG_c {V V' P P' : tV} {p a c : Nat} {st : Int32} (ha : ∀ f, f < 5 → V a f = V' a f) (hc : ∀ f, f < 5 → V c f = V' c f) (hp : ∀ g, g < 8 → P p g = P' p g) : wG V P p a c st = wG V' P' p a c st := by
  unfold wG
  rw [sFl_c ha hc (fun g hg => hp g (by omega)), sAt_c ha (fun g hg => hp g (by omega)), hp 7 (by decide), sSi_c (P := P') (Q := P) (hp 5 (by decide))]
theorem C14 (X : Nat × (Nat → Int32) × Value) (d : Nat) (M : zM) (G : zG) (b p a c nv : Nat) (h2 : M (0, b, 0) 2 = nI nv) (h5 : nv ≤ 5) (ha : M (3, b, p) 0 = nI a) (hc : M (3, b, p) 1 = nI c) (ha1 : a < nv) (hc1 : c < nv) (hA : ¬ vw M b a 0 + vw M b c 0 = 0) : zd X (d + 2) 14 [vR (0, b, 0), vR (3, b, p)] (hh M G) = some (some (vI (wG (vw M b) (pw M b) p a c (M (0, b, 0) 5))), hh M G) := by
  unfold wG
  by_cases q1 : sSi (pw M b) p = 0
  · rw [if_pos q1]
    simp only [E14, e14_0, e14_1, e14_2, e14_5, e14_8, e14_11, e14_12, e14_13, e14_16, e14_19, e14_22, e14_23, e14_24, e14_25, e14_28, e14_29, e14_32, e14_33, e14_34, e14_35, e14_38, e14_41, e14_42, e14_45, e14_48, e14_49, e14_50, e14_53, e14_56, e14_57, e14_60, e14_61, e14_62, e14_63, e14_66, e14_67, e14_70, e14_71, e14_72, e14_73, e14_76, e14_77, e14_80, e14_81, e14_82, e14_85, e14_88, zt0, zt1, zn3, not_false_eq_true, toListS, toListN, zk_some, zpi, if_true, if_false, i10, C2b X _ _ G b nv h2 h5, C55, C57, C58 X _ _ _ _ _ _ _ _ hA, ha, hc, isx_y ha1 (show nv < 2 ^ 31 by omega), isx_y hc1 (show nv < 2 ^ 31 by omega), z5 (show a < 5 by omega), z5 (show c < 5 by omega), cl5 (show a < 5 by omega), cl5 (show c < 5 by omega), q1]
  · rw [if_neg q1]
    by_cases q2 : pw M b p 7 = 0
    · rw [if_pos q2]
      have q2' : M (3, b, p) 7 = 0 := q2
      by_cases q3 : sAt (vw M b) (pw M b) p a = 0
      · rw [if_pos q3]
        simp only [E14, e14_0, e14_1, e14_2, e14_5, e14_8, e14_11, e14_12, e14_13, e14_16, e14_19, e14_22, e14_23, e14_24, e14_25, e14_28, e14_29, e14_32, e14_33, e14_34, e14_35, e14_38, e14_41, e14_42, e14_45, e14_48, e14_49, e14_50, e14_53, e14_56, e14_57, e14_60, e14_61, e14_62, e14_63, e14_66, e14_67, e14_70, e14_71, e14_72, e14_73, e14_76, e14_77, e14_80, e14_81, e14_82, e14_85, e14_88, zt0, zt1, zn3, not_false_eq_true, toListS, toListN, zk_some, zpi, if_true, if_false, i10, C2b X _ _ G b nv h2 h5, C55, C57, C58 X _ _ _ _ _ _ _ _ hA, ha, hc, isx_y ha1 (show nv < 2 ^ 31 by omega), isx_y hc1 (show nv < 2 ^ 31 by omega), z5 (show a < 5 by omega), z5 (show c < 5 by omega), cl5 (show a < 5 by omega), cl5 (show c < 5 by omega), (sSi_1 q1).1, q2', q3]
      · rw [if_neg q3]
        simp only [E14, e14_0, e14_1, e14_2, e14_5, e14_8, e14_11, e14_12, e14_13, e14_16, e14_19, e14_22, e14_23, e14_24, e14_25, e14_28, e14_29, e14_32, e14_33, e14_34, e14_35, e14_38, e14_41, e14_42, e14_45, e14_48, e14_49, e14_50, e14_53, e14_56, e14_57, e14_60, e14_61, e14_62, e14_63, e14_66, e14_67, e14_70, e14_71, e14_72, e14_73, e14_76, e14_77, e14_80, e14_81, e14_82, e14_85, e14_88, zt0, zt1, zn3, not_false_eq_true, toListS, toListN, zk_some, zpi, if_true, if_false, i10, C2b X _ _ G b nv h2 h5, C55, C57, C58 X _ _ _ _ _ _ _ _ hA, ha, hc, isx_y ha1 (show nv < 2 ^ 31 by omega), isx_y hc1 (show nv < 2 ^ 31 by omega), z5 (show a < 5 by omega), z5 (show c < 5 by omega), cl5 (show a < 5 by omega), cl5 (show c < 5 by omega), (sSi_1 q1).1, q2', (sAt_01 (vw M b) (pw M b) p a).resolve_left q3]
    · rw [if_neg q2]
      have q2' : ¬ M (3, b, p) 7 = 0 := q2
      simp only [E14, e14_0, e14_1, e14_2, e14_5, e14_8, e14_11, e14_12, e14_13, e14_16, e14_19, e14_22, e14_23, e14_24, e14_25, e14_28, e14_29, e14_32, e14_33, e14_34, e14_35, e14_38, e14_41, e14_42, e14_45, e14_48, e14_49, e14_50, e14_53, e14_56, e14_57, e14_60, e14_61, e14_62, e14_63, e14_66, e14_67, e14_70, e14_71, e14_72, e14_73, e14_76, e14_77, e14_80, e14_81, e14_82, e14_85, e14_88, zt0, zt1, zn3, not_false_eq_true, toListS, toListN, zk_some, zpi, if_true, if_false, i10, C2b X _ _ G b nv h2 h5, C55, C57, C58 X _ _ _ _ _ _ _ _ hA, ha, hc, isx_y ha1 (show nv < 2 ^ 31 by omega), isx_y hc1 (show nv < 2 ^ 31 by omega), z5 (show a < 5 by omega), z5 (show c < 5 by omega), cl5 (show a < 5 by omega), cl5 (show c < 5 by omega), (sSi_1 q1).1, q2', if_neg q2']
theorem C15 (X : Nat × (Nat → Int32) × Value) (d : Nat) (M : zM) (G : zG) (b p a nv : Nat) (h2 : M (0, b, 0) 2 = nI nv) (h5 : nv ≤ 5) (ha : M (3, b, p) 0 = nI a) (ha1 : a < nv) : zd X (d + 1) 15 [vR (0, b, 0), vR (3, b, p)] (hh M G) = some (some (vI (if sSi (pw M b) p = 0 then -9 else sCr (vw M b) (pw M b) p a)), hh M G) := by
  by_cases q1 : sSi (pw M b) p = 0
  · rw [if_pos q1]
    simp only [E15, e15_0, e15_1, e15_4, e15_7, e15_8, e15_9, e15_12, e15_15, e15_18, e15_19, e15_20, e15_23, e15_24, e15_27, e15_28, e15_31, e15_34, e15_36, zt0, zt1, zn3, not_false_eq_true, toListS, toListN, zk_some, zpi, if_true, if_false, i10, C2b X _ _ G b nv h2 h5, C55, C56, ha, isx_y ha1 (show nv < 2 ^ 31 by omega), z5 (show a < 5 by omega), cl5 (show a < 5 by omega), q1]
  · rw [if_neg q1]
    simp only [E15, e15_0, e15_1, e15_4, e15_7, e15_8, e15_9, e15_12, e15_15, e15_18, e15_19, e15_20, e15_23, e15_24, e15_27, e15_28, e15_31, e15_34, e15_36, zt0, zt1, zn3, not_false_eq_true, toListS, toListN, zk_some, zpi, if_true, if_false, i10, C2b X _ _ G b nv h2 h5, C55, C56, ha, isx_y ha1 (show nv < 2 ^ 31 by omega), z5 (show a < 5 by omega), cl5 (show a < 5 by omega), (sSi_1 q1).1]
def sal (V : tV) (x : Int32) : Nat → Int32
  | 0 => x
  | n + 1 => sal V x n + V n 3
theorem sal_c {V W : tV} {x y : Int32} (e : x = y) : ∀ n, (∀ j, j < n → V j 3 = W j 3) → sal V x n = sal W y n := by
  intro n
  induction n with
  | zero => intro _; exact e
  | succ n ih =>
    intro h
    unfold sal
    rw [ih fun j hj => h j (by omega), h n (by omega)]
