/-! small queries: of, ofPipe, level, goes, all, count -/
theorem z5 {j : Nat} (h : j < 5) : zin (nI j) 5 = true := zin_nI h (by decide)
theorem z8 {j : Nat} (h : j < 8) : zin (nI j) 8 = true := zin_nI h (by decide)
theorem cl5 {j : Nat} (h : j < 5) : (nI j).toNatClampNeg = j := nI_clamp (by omega)
theorem cl8 {j : Nat} (h : j < 8) : (nI j).toNatClampNeg = j := nI_clamp (by omega)
theorem mbs (M : zM) : mb M (bm M) (M (7, 0, 0)) = M := mb_self M 0
theorem sV {M : zM} {nv np : Nat} (s : ST M nv np) {j f : Nat} (hj : j < nv) (hf : f < 5) : M (5, 0, j) f = (bm M).2.1 j f := s.2.2.2.2.2.2.2.2.2.1.2.1 j f hj hf
theorem sP {M : zM} {nv np : Nat} (s : ST M nv np) {p g : Nat} (hp : p < np) (hg : g < 8) : M (3, 0, p) g = (bm M).2.2 p g := s.2.2.2.2.2.2.2.2.2.1.2.2 p g hp hg (fun _ => by rw [show (gb M 0).1 6 = 0 from s.2.2.2.2.2.2.2.1]; exact out_0 p)
theorem rV {M : zM} {nv np : Nat} (s : ST M nv np) {j f : Nat} (hj : j < nv) (hf : f < 5) : M (20, 0, 0) (4 + 5 * j + f) = M (5, 0, j) f := (sV s hj hf).symm
theorem rV0 {M : zM} {nv np : Nat} (s : ST M nv np) {j : Nat} (hj : j < nv) : M (20, 0, 0) (4 + 5 * j) = M (5, 0, j) 0 := (sV s (f := 0) hj (by decide)).symm
theorem rP {M : zM} {nv np : Nat} (s : ST M nv np) {p g : Nat} (hp : p < np) (hg : g < 8) : M (20, 0, 0) (29 + 8 * p + g) = M (3, 0, p) (mi g) := by
  have hp8 : p < 8 := by have := s.2.1; omega
  have e := mb_P (M := M) (B := bm M) (R := M (7, 0, 0)) hp8 hg
  rw [mbs] at e
  rw [e, sP s hp (by rcases (show g = 0 ∨ g = 1 ∨ g = 2 ∨ g = 3 ∨ g = 4 ∨ g = 5 ∨ g = 6 ∨ g = 7 by omega) with rfl | rfl | rfl | rfl | rfl | rfl | rfl | rfl <;> decide)]
theorem rP0 {M : zM} {nv np : Nat} (s : ST M nv np) {p : Nat} (hp : p < np) : M (20, 0, 0) (29 + 8 * p) = M (3, 0, p) 5 := rP s (g := 0) hp (by decide)
/-- a pipe's ends and its rate -/
theorem pip {B : zB} {nv np p : Nat} (h : vb B nv np) (hp : p < np) : ∃ a c, B.2.2 p 0 = nI a ∧ B.2.2 p 1 = nI c ∧ a < nv ∧ c < nv ∧ a ≠ c ∧ 0 < (B.2.1 a 0 + B.2.1 c 0).toInt ∧ ¬ B.2.1 a 0 + B.2.1 c 0 = 0 ∧ 1 ≤ (B.2.2 p 4).toInt ∧ (B.2.2 p 4).toInt ≤ 9 := by
  obtain ⟨a, c, e1, e2, h1, h2, h3, -, -, h4, h5, -⟩ := h.1.2.2.2.2.2 p hp
  have va := h.1.2.2.2.2.1 a h1
  have vc := h.1.2.2.2.2.1 c h2
  have e : (B.2.1 a 0 + B.2.1 c 0).toInt = (B.2.1 a 0).toInt + (B.2.1 c 0).toInt := i_add_s (by have := va.1; have := vc.1; omega) (by have := va.2.1; have := vc.2.1; omega)
  have e' : 0 < (B.2.1 a 0 + B.2.1 c 0).toInt := by have := va.1; have := vc.1; omega
  refine ⟨a, c, e1, e2, h1, h2, h3, e', fun q => ?_, h4, h5⟩
  rw [q] at e'
  exact absurd e' (by decide)
theorem sCr_eq (V P : tV) (p a : Nat) (hs : ¬ sSi P p = 0) : sCr V P p a = nCr V P p a := by
  unfold sCr nCr
  rcases (sSi_1 hs).2 with h | h
  · rw [h, if_neg (show ¬ (1 : Int32) = 3 by decide), if_pos rfl]
  · rw [h, if_pos rfl, if_neg (show ¬ (3 : Int32) = 1 by decide)]
    unfold imax
    by_cases q : V a 1 + V a 2 - P p 6 ≤ P p 2
    · rw [if_pos q, if_neg (by rw [i_le] at q; rw [i_lt]; omega)]
    · rw [if_neg q, if_pos (by rw [i_le] at q; rw [i_lt]; omega)]
/-- what a PIPE would GO -/
def wG (V P : tV) (p a c : Nat) (st : Int32) : Int32 := if sSi P p = 0 then sFl V P p a c st else if P p 7 = 0 then (if sAt V P p a = 0 then 0 else sFl V P p a c st) else sFl V P p a c st
theorem wG_eq (V P : tV) (p a c : Nat) (st : Int32) (hA : 0 < (V a 0 + V c 0).toInt) (hr : 0 ≤ (P p 4).toInt) (h7 : P p 7 = 0 ∨ P p 7 = 1) : wG V P p a c st = nAm st V P p a c := by
  unfold wG
  by_cases hs : sSi P p = 0
  · rw [if_pos hs]
    exact sFl_eq V P p a c st hA hr (Or.inl hs)
  · rw [if_neg hs]
    rcases h7 with h0 | h1
    · rw [if_pos h0, sAt_eq V P p a hs h0]
      by_cases hn : nRn V P p a = 0
      · rw [if_pos hn]
        unfold nAm
        split
        · split
          · rfl
          · rw [if_neg]
            rcases (sSi_1 hs).2 with e | e <;> rw [e] <;> decide
        · have e : nRa st V P p a = 0 := by
            unfold nRa
            rcases (sSi_1 hs).2 with e | e
            · rw [if_pos e, if_pos hn]
            · rw [e, if_neg (by decide), if_pos rfl, if_pos hn]
          rw [nGo, e, imin_le0 _ rfl]
          refine imin_nn (i_div_nn ?_ hA) (imax_0 _)
          rename_i q
          unfold iabs
          rw [if_pos (by rw [i_le] at *; simp at *; omega)]
          rw [i_le] at q
          simp at q
          omega
      · rw [if_neg hn]
        have f := sFl_eq V (uV P p 7 1) p a c st hA (by rw [uV_f (by decide)]; exact hr) (Or.inr uV_s)
        have e1 : sFl V (uV P p 7 1) p a c st = sFl V P p a c st := sFl_c (fun _ _ => rfl) (fun _ _ => rfl) (fun g hg => uV_f (by omega))
        have n1 : nRn V P p a = 1 := by
          unfold nRn at hn ⊢
          rw [h0, if_neg (show ¬ (0 : Int32) = 1 by decide)] at hn ⊢
          by_cases q : sHt V a < nCr V P p a * V a 0
          · rw [if_pos q] at hn; exact absurd rfl hn
          · rw [if_neg q]
        have n2 : nRn V (uV P p 7 1) p a = 1 := by unfold nRn; rw [uV_s, if_pos rfl]
        have e2 : nAm st V (uV P p 7 1) p a c = nAm st V P p a c := by
          unfold nAm nGo nRa
          rw [n1, n2]
          have q0 : ∀ g, g ≠ 7 → uV P p 7 1 p g = P p g := fun g hg => uV_f hg
          have u : nUn V (uV P p 7 1) p a c = nUn V P p a c := by unfold nUn; rw [q0 2 (by decide), q0 3 (by decide)]
          rw [u, q0 2 (by decide), q0 3 (by decide), q0 4 (by decide), q0 5 (by decide), q0 6 (by decide)]
        rw [← e1, f, e2]
    · rw [if_neg (by rw [h1]; decide)]
      exact sFl_eq V P p a c st hA hr (Or.inr h1)
theorem wG_c {V V' P P' : tV} {p a c : Nat} {st : Int32} (ha : ∀ f, f < 5 → V a f = V' a f) (hc : ∀ f, f < 5 → V c f = V' c f) (hp : ∀ g, g < 8 → P p g = P' p g) : wG V P p a c st = wG V' P' p a c st := by
  unfold wG
  rw [sFl_c ha hc (fun g hg => hp g (by omega)), sAt_c ha (fun g hg => hp g (by omega)), hp 7 (by decide), sSi_c (P := P') (Q := P) (hp 5 (by decide))]
theorem C14 (X : Nat × (Nat → Int32) × Value) (d : Nat) (M : zM) (G : zG) (b p a c nv : Nat) (h2 : M (0, b, 0) 2 = nI nv) (h5 : nv ≤ 5) (ha : M (3, b, p) 0 = nI a) (hc : M (3, b, p) 1 = nI c) (ha1 : a < nv) (hc1 : c < nv) (hA : ¬ vw M b a 0 + vw M b c 0 = 0) : zd X (d + 2) 14 [vR (0, b, 0), vR (3, b, p)] (hh M G) = some (some (vI (wG (vw M b) (pw M b) p a c (M (0, b, 0) 5))), hh M G) := by
  unfold wG
  by_cases q1 : sSi (pw M b) p = 0
  · rw [if_pos q1]
    simp only [E14, e14_0, e14_1, e14_2, e14_5, e14_8, e14_11, e14_12, e14_13, e14_16, e14_19, e14_22, e14_23, e14_24, e14_25, e14_28, e14_29, e14_32, e14_33, e14_34, e14_35, e14_38, e14_41, e14_42, e14_45, e14_48, e14_49, e14_50, e14_53, e14_56, e14_57, e14_60, e14_61, e14_62, e14_63, e14_66, e14_67, e14_70, e14_71, e14_72, e14_73, e14_76, e14_77, e14_80, e14_81, e14_82, e14_85, e14_88, zt0, zt1, zn3, not_false_eq_true, toListS, toListN, zk_some, zpi, if_true, if_false, i10, C2b X _ _ G b nv h2 h5, C55, C57, C58 X _ _ _ _ _ _ _ _ hA, ha, hc, isx_y ha1 (show nv < 2 ^ 31 by omega), isx_y hc1 (show nv < 2 ^ 31 by omega), z5 (show a < 5 by omega), z5 (show c < 5 by omega), cl5 (show a < 5 by omega), cl5 (show c < 5 by omega), q1]
  · rw [if_neg q1]
    by_cases q2 : pw M b p 7 = 0
    · rw [if_pos q2]
      have q2' : M (3, b, p) 7 = 0 := q2
      by_cases q3 : sAt (vw M b) (pw M b) p a = 0
      · rw [if_pos q3]
        simp only [E14, e14_0, e14_1, e14_2, e14_5, e14_8, e14_11, e14_12, e14_13, e14_16, e14_19, e14_22, e14_23, e14_24, e14_25, e14_28, e14_29, e14_32, e14_33, e14_34, e14_35, e14_38, e14_41, e14_42, e14_45, e14_48, e14_49, e14_50, e14_53, e14_56, e14_57, e14_60, e14_61, e14_62, e14_63, e14_66, e14_67, e14_70, e14_71, e14_72, e14_73, e14_76, e14_77, e14_80, e14_81, e14_82, e14_85, e14_88, zt0, zt1, zn3, not_false_eq_true, toListS, toListN, zk_some, zpi, if_true, if_false, i10, C2b X _ _ G b nv h2 h5, C55, C57, C58 X _ _ _ _ _ _ _ _ hA, ha, hc, isx_y ha1 (show nv < 2 ^ 31 by omega), isx_y hc1 (show nv < 2 ^ 31 by omega), z5 (show a < 5 by omega), z5 (show c < 5 by omega), cl5 (show a < 5 by omega), cl5 (show c < 5 by omega), (sSi_1 q1).1, q2', q3]
      · rw [if_neg q3]
        simp only [E14, e14_0, e14_1, e14_2, e14_5, e14_8, e14_11, e14_12, e14_13, e14_16, e14_19, e14_22, e14_23, e14_24, e14_25, e14_28, e14_29, e14_32, e14_33, e14_34, e14_35, e14_38, e14_41, e14_42, e14_45, e14_48, e14_49, e14_50, e14_53, e14_56, e14_57, e14_60, e14_61, e14_62, e14_63, e14_66, e14_67, e14_70, e14_71, e14_72, e14_73, e14_76, e14_77, e14_80, e14_81, e14_82, e14_85, e14_88, zt0, zt1, zn3, not_false_eq_true, toListS, toListN, zk_some, zpi, if_true, if_false, i10, C2b X _ _ G b nv h2 h5, C55, C57, C58 X _ _ _ _ _ _ _ _ hA, ha, hc, isx_y ha1 (show nv < 2 ^ 31 by omega), isx_y hc1 (show nv < 2 ^ 31 by omega), z5 (show a < 5 by omega), z5 (show c < 5 by omega), cl5 (show a < 5 by omega), cl5 (show c < 5 by omega), (sSi_1 q1).1, q2', (sAt_01 (vw M b) (pw M b) p a).resolve_left q3]
    · rw [if_neg q2]
      have q2' : ¬ M (3, b, p) 7 = 0 := q2
      simp only [E14, e14_0, e14_1, e14_2, e14_5, e14_8, e14_11, e14_12, e14_13, e14_16, e14_19, e14_22, e14_23, e14_24, e14_25, e14_28, e14_29, e14_32, e14_33, e14_34, e14_35, e14_38, e14_41, e14_42, e14_45, e14_48, e14_49, e14_50, e14_53, e14_56, e14_57, e14_60, e14_61, e14_62, e14_63, e14_66, e14_67, e14_70, e14_71, e14_72, e14_73, e14_76, e14_77, e14_80, e14_81, e14_82, e14_85, e14_88, zt0, zt1, zn3, not_false_eq_true, toListS, toListN, zk_some, zpi, if_true, if_false, i10, C2b X _ _ G b nv h2 h5, C55, C57, C58 X _ _ _ _ _ _ _ _ hA, ha, hc, isx_y ha1 (show nv < 2 ^ 31 by omega), isx_y hc1 (show nv < 2 ^ 31 by omega), z5 (show a < 5 by omega), z5 (show c < 5 by omega), cl5 (show a < 5 by omega), cl5 (show c < 5 by omega), (sSi_1 q1).1, q2', if_neg q2']
theorem C15 (X : Nat × (Nat → Int32) × Value) (d : Nat) (M : zM) (G : zG) (b p a nv : Nat) (h2 : M (0, b, 0) 2 = nI nv) (h5 : nv ≤ 5) (ha : M (3, b, p) 0 = nI a) (ha1 : a < nv) : zd X (d + 1) 15 [vR (0, b, 0), vR (3, b, p)] (hh M G) = some (some (vI (if sSi (pw M b) p = 0 then -9 else sCr (vw M b) (pw M b) p a)), hh M G) := by
  by_cases q1 : sSi (pw M b) p = 0
  · rw [if_pos q1]
    simp only [E15, e15_0, e15_1, e15_4, e15_7, e15_8, e15_9, e15_12, e15_15, e15_18, e15_19, e15_20, e15_23, e15_24, e15_27, e15_28, e15_31, e15_34, e15_36, zt0, zt1, zn3, not_false_eq_true, toListS, toListN, zk_some, zpi, if_true, if_false, i10, C2b X _ _ G b nv h2 h5, C55, C56, ha, isx_y ha1 (show nv < 2 ^ 31 by omega), z5 (show a < 5 by omega), cl5 (show a < 5 by omega), q1]
  · rw [if_neg q1]
    simp only [E15, e15_0, e15_1, e15_4, e15_7, e15_8, e15_9, e15_12, e15_15, e15_18, e15_19, e15_20, e15_23, e15_24, e15_27, e15_28, e15_31, e15_34, e15_36, zt0, zt1, zn3, not_false_eq_true, toListS, toListN, zk_some, zpi, if_true, if_false, i10, C2b X _ _ G b nv h2 h5, C55, C56, ha, isx_y ha1 (show nv < 2 ^ 31 by omega), z5 (show a < 5 by omega), cl5 (show a < 5 by omega), (sSi_1 q1).1]
theorem K9 (X : Nat × (Nat → Int32) × Value) (t : Nat) (M : zM) (G : zG) (x w : Int32) (i : Inv t M) : okI X 82 174 [vI x, vI w] t M G := by
  obtain ⟨nv, np, s⟩ := ST_of i
  have s' := s
  obtain ⟨n5, n8, e2, e3, m0, m1, v, o6, f5, a, vc, ac, vm⟩ := s'
  rcases isx_c (n := nv) x (by omega) with ⟨h, -⟩ | ⟨j, hj, rfl, h⟩
  · refine ⟨-1, rfs M 1, G, rfm (rfs M 1) 1, G, ?_, ?_, Inv_rf i⟩
    · simp only [E82, e82_0, e82_1, e82_4, e82_5, e82_8, e82_11, e82_12, e82_13, e82_16, e82_17, e82_18, e82_21, e82_24, e82_25, e82_26, e82_27, e82_28, e82_64, e82_65, e82_68, e82_69, e82_70, e82_73, e82_74, e82_75, e82_78, e82_79, e82_80, e82_83, e82_84, e82_85, e82_88, e82_89, e82_90, e82_92, e82_95, zt0, zt1, zn3, not_false_eq_true, toListS, toListN, zk_some, zpi, if_true, if_false, i10, C2x X _ M G nv e2 n5, h, C114_1, q_lt_m1_0, q_le_m1_0, q_eq_m1_0]
    · simp only [E174, e174_0, e174_1, e174_2, e174_5, e174_8, e174_9, e174_10, e174_13, e174_14, e174_15, e174_16, e174_17, e174_20, e174_23, e174_26, e174_27, e174_30, e174_31, e174_34, e174_35, e174_36, e174_37, e174_40, e174_41, e174_43, e174_46, zt0, zt1, zn3, not_false_eq_true, toListS, toListN, zk_some, zpi, if_true, if_false, i10, C132 X _ _ G _ nv (show rfs M 1 (20, 0, 0) 0 = nI nv from m0) (by omega), h, C129_1, q_lt_m1_0, q_le_m1_0, q_eq_m1_0]
  · have hj5 : j < 5 := by omega
    rcases inz_c w 4 (by decide) with ⟨g, gn⟩ | ⟨g, l, hl, rfl⟩
    · have g' : inz w 0 4 = 0 := g
      have w5 : ¬ w = 0 ∧ ¬ w = 1 ∧ ¬ w = 2 ∧ ¬ w = 3 ∧ ¬ w = 4 := ⟨fun e => gn (by rw [e]; decide), fun e => gn (by rw [e]; decide), fun e => gn (by rw [e]; decide), fun e => gn (by rw [e]; decide), fun e => gn (by rw [e]; decide)⟩
      refine ⟨-2, rfs M 2, G, rfm (rfs M 2) 2, G, ?_, ?_, Inv_rf i⟩
      · simp only [E82, e82_0, e82_1, e82_4, e82_5, e82_8, e82_11, e82_12, e82_13, e82_16, e82_17, e82_18, e82_21, e82_24, e82_25, e82_26, e82_27, e82_28, e82_64, e82_65, e82_68, e82_69, e82_70, e82_73, e82_74, e82_75, e82_78, e82_79, e82_80, e82_83, e82_84, e82_85, e82_88, e82_89, e82_90, e82_92, e82_95, zt0, zt1, zn3, not_false_eq_true, toListS, toListN, zk_some, zpi, if_true, if_false, i10, C2x X _ M G nv e2 n5, h, z5 hj5, cl5 hj5, w5, C114_2, q_lt_m2_0, q_le_m2_0, q_eq_m2_0]
      · simp only [E174, e174_0, e174_1, e174_2, e174_5, e174_8, e174_9, e174_10, e174_13, e174_14, e174_15, e174_16, e174_17, e174_20, e174_23, e174_26, e174_27, e174_30, e174_31, e174_34, e174_35, e174_36, e174_37, e174_40, e174_41, e174_43, e174_46, zt0, zt1, zn3, not_false_eq_true, toListS, toListN, zk_some, zpi, if_true, if_false, i10, C132 X _ _ G _ nv (show rfs M 2 (20, 0, 0) 0 = nI nv from m0) (by omega), h, C128, g', j_0, j_4, C129_2, q_lt_m2_0, q_le_m2_0, q_eq_m2_0]
    · rcases (show l = 0 ∨ l = 1 ∨ l = 2 ∨ l = 3 ∨ l = 4 by omega) with rfl | rfl | rfl | rfl | rfl
      · show okI X 82 174 [vI (nI j), vI 0] t M G
        have g' : inz 0 0 4 = 1 := rfl
        refine ⟨M (5, 0, j) 0, M, G, M, G, ?_, ?_, i⟩
        · simp only [E82, e82_0, e82_1, e82_4, e82_5, e82_8, e82_11, e82_12, e82_13, e82_16, e82_17, e82_18, e82_21, e82_24, e82_25, e82_26, e82_27, e82_28, e82_64, e82_65, e82_68, e82_69, e82_70, e82_73, e82_74, e82_75, e82_78, e82_79, e82_80, e82_83, e82_84, e82_85, e82_88, e82_89, e82_90, e82_92, e82_95, zt0, zt1, zn3, not_false_eq_true, toListS, toListN, zk_some, zpi, if_true, if_false, i10, C2x X _ M G nv e2 n5, h, z5 hj5, cl5 hj5, q_lt_0_0, q_le_0_0, q_lt_0_1, q_le_0_1, q_eq_0_1, q_lt_0_2, q_le_0_2, q_eq_0_2, q_lt_0_3, q_le_0_3, q_eq_0_3, q_lt_0_4, q_le_0_4, q_eq_0_4]
        · simp only [E174, e174_0, e174_1, e174_2, e174_5, e174_8, e174_9, e174_10, e174_13, e174_14, e174_15, e174_16, e174_17, e174_20, e174_23, e174_26, e174_27, e174_30, e174_31, e174_34, e174_35, e174_36, e174_37, e174_40, e174_41, e174_43, e174_46, zt0, zt1, zn3, not_false_eq_true, toListS, toListN, zk_some, zpi, if_true, if_false, i10, C132 X _ M G _ nv m0 (by omega), h, C128, j_0, j_4, C134, niV, ni0, ni1, ni2, ni3, ni4, wV0 hj5, cV0 hj5, rV0 s hj, wV hj5 (show 1 < 5 by decide), cV hj5 (show 1 < 5 by decide), rV s hj (show 1 < 5 by decide), wV hj5 (show 2 < 5 by decide), cV hj5 (show 2 < 5 by decide), rV s hj (show 2 < 5 by decide), wV hj5 (show 3 < 5 by decide), cV hj5 (show 3 < 5 by decide), rV s hj (show 3 < 5 by decide), wV hj5 (show 4 < 5 by decide), cV hj5 (show 4 < 5 by decide), rV s hj (show 4 < 5 by decide), g']
      · show okI X 82 174 [vI (nI j), vI 1] t M G
        have g' : inz 1 0 4 = 1 := rfl
        refine ⟨M (5, 0, j) 1, M, G, M, G, ?_, ?_, i⟩
        · simp only [E82, e82_0, e82_1, e82_4, e82_5, e82_8, e82_11, e82_12, e82_13, e82_16, e82_17, e82_18, e82_21, e82_24, e82_25, e82_26, e82_27, e82_28, e82_64, e82_65, e82_68, e82_69, e82_70, e82_73, e82_74, e82_75, e82_78, e82_79, e82_80, e82_83, e82_84, e82_85, e82_88, e82_89, e82_90, e82_92, e82_95, zt0, zt1, zn3, not_false_eq_true, toListS, toListN, zk_some, zpi, if_true, if_false, i10, C2x X _ M G nv e2 n5, h, z5 hj5, cl5 hj5, q_lt_1_0, q_le_1_0, q_eq_1_0, q_lt_1_1, q_le_1_1, q_lt_1_2, q_le_1_2, q_eq_1_2, q_lt_1_3, q_le_1_3, q_eq_1_3, q_lt_1_4, q_le_1_4, q_eq_1_4]
        · simp only [E174, e174_0, e174_1, e174_2, e174_5, e174_8, e174_9, e174_10, e174_13, e174_14, e174_15, e174_16, e174_17, e174_20, e174_23, e174_26, e174_27, e174_30, e174_31, e174_34, e174_35, e174_36, e174_37, e174_40, e174_41, e174_43, e174_46, zt0, zt1, zn3, not_false_eq_true, toListS, toListN, zk_some, zpi, if_true, if_false, i10, C132 X _ M G _ nv m0 (by omega), h, C128, j_0, j_4, C134, niV, ni0, ni1, ni2, ni3, ni4, wV0 hj5, cV0 hj5, rV0 s hj, wV hj5 (show 1 < 5 by decide), cV hj5 (show 1 < 5 by decide), rV s hj (show 1 < 5 by decide), wV hj5 (show 2 < 5 by decide), cV hj5 (show 2 < 5 by decide), rV s hj (show 2 < 5 by decide), wV hj5 (show 3 < 5 by decide), cV hj5 (show 3 < 5 by decide), rV s hj (show 3 < 5 by decide), wV hj5 (show 4 < 5 by decide), cV hj5 (show 4 < 5 by decide), rV s hj (show 4 < 5 by decide), g']
      · show okI X 82 174 [vI (nI j), vI 2] t M G
        have g' : inz 2 0 4 = 1 := rfl
        refine ⟨M (5, 0, j) 2, M, G, M, G, ?_, ?_, i⟩
        · simp only [E82, e82_0, e82_1, e82_4, e82_5, e82_8, e82_11, e82_12, e82_13, e82_16, e82_17, e82_18, e82_21, e82_24, e82_25, e82_26, e82_27, e82_28, e82_64, e82_65, e82_68, e82_69, e82_70, e82_73, e82_74, e82_75, e82_78, e82_79, e82_80, e82_83, e82_84, e82_85, e82_88, e82_89, e82_90, e82_92, e82_95, zt0, zt1, zn3, not_false_eq_true, toListS, toListN, zk_some, zpi, if_true, if_false, i10, C2x X _ M G nv e2 n5, h, z5 hj5, cl5 hj5, q_lt_2_0, q_le_2_0, q_eq_2_0, q_lt_2_1, q_le_2_1, q_eq_2_1, q_lt_2_2, q_le_2_2, q_lt_2_3, q_le_2_3, q_eq_2_3, q_lt_2_4, q_le_2_4, q_eq_2_4]
        · simp only [E174, e174_0, e174_1, e174_2, e174_5, e174_8, e174_9, e174_10, e174_13, e174_14, e174_15, e174_16, e174_17, e174_20, e174_23, e174_26, e174_27, e174_30, e174_31, e174_34, e174_35, e174_36, e174_37, e174_40, e174_41, e174_43, e174_46, zt0, zt1, zn3, not_false_eq_true, toListS, toListN, zk_some, zpi, if_true, if_false, i10, C132 X _ M G _ nv m0 (by omega), h, C128, j_0, j_4, C134, niV, ni0, ni1, ni2, ni3, ni4, wV0 hj5, cV0 hj5, rV0 s hj, wV hj5 (show 1 < 5 by decide), cV hj5 (show 1 < 5 by decide), rV s hj (show 1 < 5 by decide), wV hj5 (show 2 < 5 by decide), cV hj5 (show 2 < 5 by decide), rV s hj (show 2 < 5 by decide), wV hj5 (show 3 < 5 by decide), cV hj5 (show 3 < 5 by decide), rV s hj (show 3 < 5 by decide), wV hj5 (show 4 < 5 by decide), cV hj5 (show 4 < 5 by decide), rV s hj (show 4 < 5 by decide), g']
      · show okI X 82 174 [vI (nI j), vI 3] t M G
        have g' : inz 3 0 4 = 1 := rfl
        refine ⟨M (5, 0, j) 3, M, G, M, G, ?_, ?_, i⟩
        · simp only [E82, e82_0, e82_1, e82_4, e82_5, e82_8, e82_11, e82_12, e82_13, e82_16, e82_17, e82_18, e82_21, e82_24, e82_25, e82_26, e82_27, e82_28, e82_64, e82_65, e82_68, e82_69, e82_70, e82_73, e82_74, e82_75, e82_78, e82_79, e82_80, e82_83, e82_84, e82_85, e82_88, e82_89, e82_90, e82_92, e82_95, zt0, zt1, zn3, not_false_eq_true, toListS, toListN, zk_some, zpi, if_true, if_false, i10, C2x X _ M G nv e2 n5, h, z5 hj5, cl5 hj5, q_lt_3_0, q_le_3_0, q_eq_3_0, q_lt_3_1, q_le_3_1, q_eq_3_1, q_lt_3_2, q_le_3_2, q_eq_3_2, q_lt_3_3, q_le_3_3, q_lt_3_4, q_le_3_4, q_eq_3_4]
        · simp only [E174, e174_0, e174_1, e174_2, e174_5, e174_8, e174_9, e174_10, e174_13, e174_14, e174_15, e174_16, e174_17, e174_20, e174_23, e174_26, e174_27, e174_30, e174_31, e174_34, e174_35, e174_36, e174_37, e174_40, e174_41, e174_43, e174_46, zt0, zt1, zn3, not_false_eq_true, toListS, toListN, zk_some, zpi, if_true, if_false, i10, C132 X _ M G _ nv m0 (by omega), h, C128, j_0, j_4, C134, niV, ni0, ni1, ni2, ni3, ni4, wV0 hj5, cV0 hj5, rV0 s hj, wV hj5 (show 1 < 5 by decide), cV hj5 (show 1 < 5 by decide), rV s hj (show 1 < 5 by decide), wV hj5 (show 2 < 5 by decide), cV hj5 (show 2 < 5 by decide), rV s hj (show 2 < 5 by decide), wV hj5 (show 3 < 5 by decide), cV hj5 (show 3 < 5 by decide), rV s hj (show 3 < 5 by decide), wV hj5 (show 4 < 5 by decide), cV hj5 (show 4 < 5 by decide), rV s hj (show 4 < 5 by decide), g']
      · show okI X 82 174 [vI (nI j), vI 4] t M G
        have g' : inz 4 0 4 = 1 := rfl
        refine ⟨M (5, 0, j) 4, M, G, M, G, ?_, ?_, i⟩
        · simp only [E82, e82_0, e82_1, e82_4, e82_5, e82_8, e82_11, e82_12, e82_13, e82_16, e82_17, e82_18, e82_21, e82_24, e82_25, e82_26, e82_27, e82_28, e82_64, e82_65, e82_68, e82_69, e82_70, e82_73, e82_74, e82_75, e82_78, e82_79, e82_80, e82_83, e82_84, e82_85, e82_88, e82_89, e82_90, e82_92, e82_95, zt0, zt1, zn3, not_false_eq_true, toListS, toListN, zk_some, zpi, if_true, if_false, i10, C2x X _ M G nv e2 n5, h, z5 hj5, cl5 hj5, q_lt_4_0, q_le_4_0, q_eq_4_0, q_lt_4_1, q_le_4_1, q_eq_4_1, q_lt_4_2, q_le_4_2, q_eq_4_2, q_lt_4_3, q_le_4_3, q_eq_4_3, q_lt_4_4, q_le_4_4]
        · simp only [E174, e174_0, e174_1, e174_2, e174_5, e174_8, e174_9, e174_10, e174_13, e174_14, e174_15, e174_16, e174_17, e174_20, e174_23, e174_26, e174_27, e174_30, e174_31, e174_34, e174_35, e174_36, e174_37, e174_40, e174_41, e174_43, e174_46, zt0, zt1, zn3, not_false_eq_true, toListS, toListN, zk_some, zpi, if_true, if_false, i10, C132 X _ M G _ nv m0 (by omega), h, C128, j_0, j_4, C134, niV, ni0, ni1, ni2, ni3, ni4, wV0 hj5, cV0 hj5, rV0 s hj, wV hj5 (show 1 < 5 by decide), cV hj5 (show 1 < 5 by decide), rV s hj (show 1 < 5 by decide), wV hj5 (show 2 < 5 by decide), cV hj5 (show 2 < 5 by decide), rV s hj (show 2 < 5 by decide), wV hj5 (show 3 < 5 by decide), cV hj5 (show 3 < 5 by decide), rV s hj (show 3 < 5 by decide), wV hj5 (show 4 < 5 by decide), cV hj5 (show 4 < 5 by decide), rV s hj (show 4 < 5 by decide), g']
theorem K10 (X : Nat × (Nat → Int32) × Value) (t : Nat) (M : zM) (G : zG) (x w : Int32) (i : Inv t M) : okI X 83 175 [vI x, vI w] t M G := by
  obtain ⟨nv, np, s⟩ := ST_of i
  have s' := s
  obtain ⟨n5, n8, e2, e3, m0, m1, v, o6, f5, a, vc, ac, vm⟩ := s'
  rcases isx_c (n := np) x (by omega) with ⟨h, -⟩ | ⟨p, hp, rfl, h⟩
  · refine ⟨-1, rfs M 1, G, rfm (rfs M 1) 1, G, ?_, ?_, Inv_rf i⟩
    · simp only [E83, e83_0, e83_1, e83_4, e83_5, e83_8, e83_11, e83_12, e83_13, e83_16, e83_17, e83_18, e83_21, e83_24, e83_25, e83_26, e83_27, e83_28, e83_80, e83_81, e83_84, e83_85, e83_86, e83_89, e83_90, e83_91, e83_94, e83_95, e83_96, e83_99, e83_100, e83_101, e83_104, e83_105, e83_106, e83_109, e83_110, e83_111, e83_114, e83_115, e83_116, e83_119, e83_122, e83_123, e83_126, e83_127, e83_128, e83_129, e83_132, e83_133, e83_136, e83_137, e83_138, e83_140, e83_143, zt0, zt1, zn3, not_false_eq_true, toListS, toListN, zk_some, zpi, if_true, if_false, i10, C3x X _ M G np e3 n8, h, C114_1, q_lt_m1_0, q_le_m1_0, q_eq_m1_0]
    · simp only [E175, e175_0, e175_1, e175_2, e175_5, e175_8, e175_9, e175_10, e175_13, e175_14, e175_15, e175_16, e175_17, e175_20, e175_23, e175_26, e175_27, e175_29, e175_32, e175_33, e175_34, e175_36, e175_39, e175_40, e175_43, e175_44, e175_47, e175_48, e175_49, e175_50, e175_51, e175_52, e175_55, e175_56, e175_59, e175_60, e175_61, e175_62, e175_65, e175_68, e175_69, e175_70, e175_73, e175_76, e175_78, zt0, zt1, zn3, not_false_eq_true, toListS, toListN, zk_some, zpi, if_true, if_false, i10, C133 X _ _ G _ np (show rfs M 1 (20, 0, 0) 1 = nI np from m1) (by omega), h, C129_1, q_lt_m1_0, q_le_m1_0, q_eq_m1_0]
  · have hp8 : p < 8 := by omega
    rcases inz_c w 8 (by decide) with ⟨g, gn⟩ | ⟨g, l, hl, rfl⟩
    · have g' : inz w 0 8 = 0 := g
      have w5 : ¬ w = 0 ∧ ¬ w = 1 ∧ ¬ w = 2 ∧ ¬ w = 3 ∧ ¬ w = 4 ∧ ¬ w = 5 ∧ ¬ w = 6 ∧ ¬ w = 7 ∧ ¬ w = 8 := ⟨fun e => gn (by rw [e]; decide), fun e => gn (by rw [e]; decide), fun e => gn (by rw [e]; decide), fun e => gn (by rw [e]; decide), fun e => gn (by rw [e]; decide), fun e => gn (by rw [e]; decide), fun e => gn (by rw [e]; decide), fun e => gn (by rw [e]; decide), fun e => gn (by rw [e]; decide)⟩
      refine ⟨-2, rfs M 2, G, rfm (rfs M 2) 2, G, ?_, ?_, Inv_rf i⟩
      · simp only [E83, e83_0, e83_1, e83_4, e83_5, e83_8, e83_11, e83_12, e83_13, e83_16, e83_17, e83_18, e83_21, e83_24, e83_25, e83_26, e83_27, e83_28, e83_80, e83_81, e83_84, e83_85, e83_86, e83_89, e83_90, e83_91, e83_94, e83_95, e83_96, e83_99, e83_100, e83_101, e83_104, e83_105, e83_106, e83_109, e83_110, e83_111, e83_114, e83_115, e83_116, e83_119, e83_122, e83_123, e83_126, e83_127, e83_128, e83_129, e83_132, e83_133, e83_136, e83_137, e83_138, e83_140, e83_143, zt0, zt1, zn3, not_false_eq_true, toListS, toListN, zk_some, zpi, if_true, if_false, i10, C3x X _ M G np e3 n8, h, z8 hp8, cl8 hp8, w5, C114_2, q_lt_m2_0, q_le_m2_0, q_eq_m2_0]
      · simp only [E175, e175_0, e175_1, e175_2, e175_5, e175_8, e175_9, e175_10, e175_13, e175_14, e175_15, e175_16, e175_17, e175_20, e175_23, e175_26, e175_27, e175_29, e175_32, e175_33, e175_34, e175_36, e175_39, e175_40, e175_43, e175_44, e175_47, e175_48, e175_49, e175_50, e175_51, e175_52, e175_55, e175_56, e175_59, e175_60, e175_61, e175_62, e175_65, e175_68, e175_69, e175_70, e175_73, e175_76, e175_78, zt0, zt1, zn3, not_false_eq_true, toListS, toListN, zk_some, zpi, if_true, if_false, i10, C133 X _ _ G _ np (show rfs M 2 (20, 0, 0) 1 = nI np from m1) (by omega), h, C128, g', j_0, j_8, C129_2, q_lt_m2_0, q_le_m2_0, q_eq_m2_0]
    · rcases (show l = 0 ∨ l = 1 ∨ l = 2 ∨ l = 3 ∨ l = 4 ∨ l = 5 ∨ l = 6 ∨ l = 7 ∨ l = 8 by omega) with rfl | rfl | rfl | rfl | rfl | rfl | rfl | rfl | rfl
      · show okI X 83 175 [vI (nI p), vI 0] t M G
        have g' : inz 0 0 8 = 1 := rfl
        refine ⟨M (3, 0, p) 5, M, G, M, G, ?_, ?_, i⟩
        · simp only [E83, e83_0, e83_1, e83_4, e83_5, e83_8, e83_11, e83_12, e83_13, e83_16, e83_17, e83_18, e83_21, e83_24, e83_25, e83_26, e83_27, e83_28, e83_80, e83_81, e83_84, e83_85, e83_86, e83_89, e83_90, e83_91, e83_94, e83_95, e83_96, e83_99, e83_100, e83_101, e83_104, e83_105, e83_106, e83_109, e83_110, e83_111, e83_114, e83_115, e83_116, e83_119, e83_122, e83_123, e83_126, e83_127, e83_128, e83_129, e83_132, e83_133, e83_136, e83_137, e83_138, e83_140, e83_143, zt0, zt1, zn3, not_false_eq_true, toListS, toListN, zk_some, zpi, if_true, if_false, i10, C3x X _ M G np e3 n8, h, z8 hp8, cl8 hp8, q_lt_0_0, q_le_0_0, q_lt_0_1, q_le_0_1, q_eq_0_1, q_lt_0_2, q_le_0_2, q_eq_0_2, q_lt_0_3, q_le_0_3, q_eq_0_3, q_lt_0_4, q_le_0_4, q_eq_0_4, q_lt_0_5, q_le_0_5, q_eq_0_5, q_lt_0_6, q_le_0_6, q_eq_0_6, q_lt_0_7, q_le_0_7, q_eq_0_7, q_lt_0_8, q_le_0_8, q_eq_0_8]
        · simp only [E175, e175_0, e175_1, e175_2, e175_5, e175_8, e175_9, e175_10, e175_13, e175_14, e175_15, e175_16, e175_17, e175_20, e175_23, e175_26, e175_27, e175_29, e175_32, e175_33, e175_34, e175_36, e175_39, e175_40, e175_43, e175_44, e175_47, e175_48, e175_49, e175_50, e175_51, e175_52, e175_55, e175_56, e175_59, e175_60, e175_61, e175_62, e175_65, e175_68, e175_69, e175_70, e175_73, e175_76, e175_78, zt0, zt1, zn3, not_false_eq_true, toListS, toListN, zk_some, zpi, if_true, if_false, i10, C133 X _ M G _ np m1 (by omega), h, C128, j_0, j_8, C135, niP, ni0, ni1, ni2, ni3, ni4, ni5, ni6, ni7, wP0 hp8, cP0 hp8, rP0 s hp, wP hp8 (show 1 < 8 by decide), cP hp8 (show 1 < 8 by decide), rP s hp (show 1 < 8 by decide), mi1, wP hp8 (show 2 < 8 by decide), cP hp8 (show 2 < 8 by decide), rP s hp (show 2 < 8 by decide), mi2, wP hp8 (show 3 < 8 by decide), cP hp8 (show 3 < 8 by decide), rP s hp (show 3 < 8 by decide), mi3, wP hp8 (show 4 < 8 by decide), cP hp8 (show 4 < 8 by decide), rP s hp (show 4 < 8 by decide), mi4, wP hp8 (show 5 < 8 by decide), cP hp8 (show 5 < 8 by decide), rP s hp (show 5 < 8 by decide), mi5, wP hp8 (show 6 < 8 by decide), cP hp8 (show 6 < 8 by decide), rP s hp (show 6 < 8 by decide), mi6, wP hp8 (show 7 < 8 by decide), cP hp8 (show 7 < 8 by decide), rP s hp (show 7 < 8 by decide), mi7, g', show ((8 : Int32) ≤ 0) = False by decide]
      · show okI X 83 175 [vI (nI p), vI 1] t M G
        have g' : inz 1 0 8 = 1 := rfl
        refine ⟨M (3, 0, p) 6, M, G, M, G, ?_, ?_, i⟩
        · simp only [E83, e83_0, e83_1, e83_4, e83_5, e83_8, e83_11, e83_12, e83_13, e83_16, e83_17, e83_18, e83_21, e83_24, e83_25, e83_26, e83_27, e83_28, e83_80, e83_81, e83_84, e83_85, e83_86, e83_89, e83_90, e83_91, e83_94, e83_95, e83_96, e83_99, e83_100, e83_101, e83_104, e83_105, e83_106, e83_109, e83_110, e83_111, e83_114, e83_115, e83_116, e83_119, e83_122, e83_123, e83_126, e83_127, e83_128, e83_129, e83_132, e83_133, e83_136, e83_137, e83_138, e83_140, e83_143, zt0, zt1, zn3, not_false_eq_true, toListS, toListN, zk_some, zpi, if_true, if_false, i10, C3x X _ M G np e3 n8, h, z8 hp8, cl8 hp8, q_lt_1_0, q_le_1_0, q_eq_1_0, q_lt_1_1, q_le_1_1, q_lt_1_2, q_le_1_2, q_eq_1_2, q_lt_1_3, q_le_1_3, q_eq_1_3, q_lt_1_4, q_le_1_4, q_eq_1_4, q_lt_1_5, q_le_1_5, q_eq_1_5, q_lt_1_6, q_le_1_6, q_eq_1_6, q_lt_1_7, q_le_1_7, q_eq_1_7, q_lt_1_8, q_le_1_8, q_eq_1_8]
        · simp only [E175, e175_0, e175_1, e175_2, e175_5, e175_8, e175_9, e175_10, e175_13, e175_14, e175_15, e175_16, e175_17, e175_20, e175_23, e175_26, e175_27, e175_29, e175_32, e175_33, e175_34, e175_36, e175_39, e175_40, e175_43, e175_44, e175_47, e175_48, e175_49, e175_50, e175_51, e175_52, e175_55, e175_56, e175_59, e175_60, e175_61, e175_62, e175_65, e175_68, e175_69, e175_70, e175_73, e175_76, e175_78, zt0, zt1, zn3, not_false_eq_true, toListS, toListN, zk_some, zpi, if_true, if_false, i10, C133 X _ M G _ np m1 (by omega), h, C128, j_0, j_8, C135, niP, ni0, ni1, ni2, ni3, ni4, ni5, ni6, ni7, wP0 hp8, cP0 hp8, rP0 s hp, wP hp8 (show 1 < 8 by decide), cP hp8 (show 1 < 8 by decide), rP s hp (show 1 < 8 by decide), mi1, wP hp8 (show 2 < 8 by decide), cP hp8 (show 2 < 8 by decide), rP s hp (show 2 < 8 by decide), mi2, wP hp8 (show 3 < 8 by decide), cP hp8 (show 3 < 8 by decide), rP s hp (show 3 < 8 by decide), mi3, wP hp8 (show 4 < 8 by decide), cP hp8 (show 4 < 8 by decide), rP s hp (show 4 < 8 by decide), mi4, wP hp8 (show 5 < 8 by decide), cP hp8 (show 5 < 8 by decide), rP s hp (show 5 < 8 by decide), mi5, wP hp8 (show 6 < 8 by decide), cP hp8 (show 6 < 8 by decide), rP s hp (show 6 < 8 by decide), mi6, wP hp8 (show 7 < 8 by decide), cP hp8 (show 7 < 8 by decide), rP s hp (show 7 < 8 by decide), mi7, g', show ((8 : Int32) ≤ 1) = False by decide]
      · show okI X 83 175 [vI (nI p), vI 2] t M G
        have g' : inz 2 0 8 = 1 := rfl
        refine ⟨M (3, 0, p) 0, M, G, M, G, ?_, ?_, i⟩
        · simp only [E83, e83_0, e83_1, e83_4, e83_5, e83_8, e83_11, e83_12, e83_13, e83_16, e83_17, e83_18, e83_21, e83_24, e83_25, e83_26, e83_27, e83_28, e83_80, e83_81, e83_84, e83_85, e83_86, e83_89, e83_90, e83_91, e83_94, e83_95, e83_96, e83_99, e83_100, e83_101, e83_104, e83_105, e83_106, e83_109, e83_110, e83_111, e83_114, e83_115, e83_116, e83_119, e83_122, e83_123, e83_126, e83_127, e83_128, e83_129, e83_132, e83_133, e83_136, e83_137, e83_138, e83_140, e83_143, zt0, zt1, zn3, not_false_eq_true, toListS, toListN, zk_some, zpi, if_true, if_false, i10, C3x X _ M G np e3 n8, h, z8 hp8, cl8 hp8, q_lt_2_0, q_le_2_0, q_eq_2_0, q_lt_2_1, q_le_2_1, q_eq_2_1, q_lt_2_2, q_le_2_2, q_lt_2_3, q_le_2_3, q_eq_2_3, q_lt_2_4, q_le_2_4, q_eq_2_4, q_lt_2_5, q_le_2_5, q_eq_2_5, q_lt_2_6, q_le_2_6, q_eq_2_6, q_lt_2_7, q_le_2_7, q_eq_2_7, q_lt_2_8, q_le_2_8, q_eq_2_8]
        · simp only [E175, e175_0, e175_1, e175_2, e175_5, e175_8, e175_9, e175_10, e175_13, e175_14, e175_15, e175_16, e175_17, e175_20, e175_23, e175_26, e175_27, e175_29, e175_32, e175_33, e175_34, e175_36, e175_39, e175_40, e175_43, e175_44, e175_47, e175_48, e175_49, e175_50, e175_51, e175_52, e175_55, e175_56, e175_59, e175_60, e175_61, e175_62, e175_65, e175_68, e175_69, e175_70, e175_73, e175_76, e175_78, zt0, zt1, zn3, not_false_eq_true, toListS, toListN, zk_some, zpi, if_true, if_false, i10, C133 X _ M G _ np m1 (by omega), h, C128, j_0, j_8, C135, niP, ni0, ni1, ni2, ni3, ni4, ni5, ni6, ni7, wP0 hp8, cP0 hp8, rP0 s hp, wP hp8 (show 1 < 8 by decide), cP hp8 (show 1 < 8 by decide), rP s hp (show 1 < 8 by decide), mi1, wP hp8 (show 2 < 8 by decide), cP hp8 (show 2 < 8 by decide), rP s hp (show 2 < 8 by decide), mi2, wP hp8 (show 3 < 8 by decide), cP hp8 (show 3 < 8 by decide), rP s hp (show 3 < 8 by decide), mi3, wP hp8 (show 4 < 8 by decide), cP hp8 (show 4 < 8 by decide), rP s hp (show 4 < 8 by decide), mi4, wP hp8 (show 5 < 8 by decide), cP hp8 (show 5 < 8 by decide), rP s hp (show 5 < 8 by decide), mi5, wP hp8 (show 6 < 8 by decide), cP hp8 (show 6 < 8 by decide), rP s hp (show 6 < 8 by decide), mi6, wP hp8 (show 7 < 8 by decide), cP hp8 (show 7 < 8 by decide), rP s hp (show 7 < 8 by decide), mi7, g', show ((8 : Int32) ≤ 2) = False by decide]
      · show okI X 83 175 [vI (nI p), vI 3] t M G
        have g' : inz 3 0 8 = 1 := rfl
        refine ⟨M (3, 0, p) 1, M, G, M, G, ?_, ?_, i⟩
        · simp only [E83, e83_0, e83_1, e83_4, e83_5, e83_8, e83_11, e83_12, e83_13, e83_16, e83_17, e83_18, e83_21, e83_24, e83_25, e83_26, e83_27, e83_28, e83_80, e83_81, e83_84, e83_85, e83_86, e83_89, e83_90, e83_91, e83_94, e83_95, e83_96, e83_99, e83_100, e83_101, e83_104, e83_105, e83_106, e83_109, e83_110, e83_111, e83_114, e83_115, e83_116, e83_119, e83_122, e83_123, e83_126, e83_127, e83_128, e83_129, e83_132, e83_133, e83_136, e83_137, e83_138, e83_140, e83_143, zt0, zt1, zn3, not_false_eq_true, toListS, toListN, zk_some, zpi, if_true, if_false, i10, C3x X _ M G np e3 n8, h, z8 hp8, cl8 hp8, q_lt_3_0, q_le_3_0, q_eq_3_0, q_lt_3_1, q_le_3_1, q_eq_3_1, q_lt_3_2, q_le_3_2, q_eq_3_2, q_lt_3_3, q_le_3_3, q_lt_3_4, q_le_3_4, q_eq_3_4, q_lt_3_5, q_le_3_5, q_eq_3_5, q_lt_3_6, q_le_3_6, q_eq_3_6, q_lt_3_7, q_le_3_7, q_eq_3_7, q_lt_3_8, q_le_3_8, q_eq_3_8]
        · simp only [E175, e175_0, e175_1, e175_2, e175_5, e175_8, e175_9, e175_10, e175_13, e175_14, e175_15, e175_16, e175_17, e175_20, e175_23, e175_26, e175_27, e175_29, e175_32, e175_33, e175_34, e175_36, e175_39, e175_40, e175_43, e175_44, e175_47, e175_48, e175_49, e175_50, e175_51, e175_52, e175_55, e175_56, e175_59, e175_60, e175_61, e175_62, e175_65, e175_68, e175_69, e175_70, e175_73, e175_76, e175_78, zt0, zt1, zn3, not_false_eq_true, toListS, toListN, zk_some, zpi, if_true, if_false, i10, C133 X _ M G _ np m1 (by omega), h, C128, j_0, j_8, C135, niP, ni0, ni1, ni2, ni3, ni4, ni5, ni6, ni7, wP0 hp8, cP0 hp8, rP0 s hp, wP hp8 (show 1 < 8 by decide), cP hp8 (show 1 < 8 by decide), rP s hp (show 1 < 8 by decide), mi1, wP hp8 (show 2 < 8 by decide), cP hp8 (show 2 < 8 by decide), rP s hp (show 2 < 8 by decide), mi2, wP hp8 (show 3 < 8 by decide), cP hp8 (show 3 < 8 by decide), rP s hp (show 3 < 8 by decide), mi3, wP hp8 (show 4 < 8 by decide), cP hp8 (show 4 < 8 by decide), rP s hp (show 4 < 8 by decide), mi4, wP hp8 (show 5 < 8 by decide), cP hp8 (show 5 < 8 by decide), rP s hp (show 5 < 8 by decide), mi5, wP hp8 (show 6 < 8 by decide), cP hp8 (show 6 < 8 by decide), rP s hp (show 6 < 8 by decide), mi6, wP hp8 (show 7 < 8 by decide), cP hp8 (show 7 < 8 by decide), rP s hp (show 7 < 8 by decide), mi7, g', show ((8 : Int32) ≤ 3) = False by decide]
      · show okI X 83 175 [vI (nI p), vI 4] t M G
        have g' : inz 4 0 8 = 1 := rfl
        refine ⟨M (3, 0, p) 2, M, G, M, G, ?_, ?_, i⟩
        · simp only [E83, e83_0, e83_1, e83_4, e83_5, e83_8, e83_11, e83_12, e83_13, e83_16, e83_17, e83_18, e83_21, e83_24, e83_25, e83_26, e83_27, e83_28, e83_80, e83_81, e83_84, e83_85, e83_86, e83_89, e83_90, e83_91, e83_94, e83_95, e83_96, e83_99, e83_100, e83_101, e83_104, e83_105, e83_106, e83_109, e83_110, e83_111, e83_114, e83_115, e83_116, e83_119, e83_122, e83_123, e83_126, e83_127, e83_128, e83_129, e83_132, e83_133, e83_136, e83_137, e83_138, e83_140, e83_143, zt0, zt1, zn3, not_false_eq_true, toListS, toListN, zk_some, zpi, if_true, if_false, i10, C3x X _ M G np e3 n8, h, z8 hp8, cl8 hp8, q_lt_4_0, q_le_4_0, q_eq_4_0, q_lt_4_1, q_le_4_1, q_eq_4_1, q_lt_4_2, q_le_4_2, q_eq_4_2, q_lt_4_3, q_le_4_3, q_eq_4_3, q_lt_4_4, q_le_4_4, q_lt_4_5, q_le_4_5, q_eq_4_5, q_lt_4_6, q_le_4_6, q_eq_4_6, q_lt_4_7, q_le_4_7, q_eq_4_7, q_lt_4_8, q_le_4_8, q_eq_4_8]
        · simp only [E175, e175_0, e175_1, e175_2, e175_5, e175_8, e175_9, e175_10, e175_13, e175_14, e175_15, e175_16, e175_17, e175_20, e175_23, e175_26, e175_27, e175_29, e175_32, e175_33, e175_34, e175_36, e175_39, e175_40, e175_43, e175_44, e175_47, e175_48, e175_49, e175_50, e175_51, e175_52, e175_55, e175_56, e175_59, e175_60, e175_61, e175_62, e175_65, e175_68, e175_69, e175_70, e175_73, e175_76, e175_78, zt0, zt1, zn3, not_false_eq_true, toListS, toListN, zk_some, zpi, if_true, if_false, i10, C133 X _ M G _ np m1 (by omega), h, C128, j_0, j_8, C135, niP, ni0, ni1, ni2, ni3, ni4, ni5, ni6, ni7, wP0 hp8, cP0 hp8, rP0 s hp, wP hp8 (show 1 < 8 by decide), cP hp8 (show 1 < 8 by decide), rP s hp (show 1 < 8 by decide), mi1, wP hp8 (show 2 < 8 by decide), cP hp8 (show 2 < 8 by decide), rP s hp (show 2 < 8 by decide), mi2, wP hp8 (show 3 < 8 by decide), cP hp8 (show 3 < 8 by decide), rP s hp (show 3 < 8 by decide), mi3, wP hp8 (show 4 < 8 by decide), cP hp8 (show 4 < 8 by decide), rP s hp (show 4 < 8 by decide), mi4, wP hp8 (show 5 < 8 by decide), cP hp8 (show 5 < 8 by decide), rP s hp (show 5 < 8 by decide), mi5, wP hp8 (show 6 < 8 by decide), cP hp8 (show 6 < 8 by decide), rP s hp (show 6 < 8 by decide), mi6, wP hp8 (show 7 < 8 by decide), cP hp8 (show 7 < 8 by decide), rP s hp (show 7 < 8 by decide), mi7, g', show ((8 : Int32) ≤ 4) = False by decide]
      · show okI X 83 175 [vI (nI p), vI 5] t M G
        have g' : inz 5 0 8 = 1 := rfl
        refine ⟨M (3, 0, p) 3, M, G, M, G, ?_, ?_, i⟩
        · simp only [E83, e83_0, e83_1, e83_4, e83_5, e83_8, e83_11, e83_12, e83_13, e83_16, e83_17, e83_18, e83_21, e83_24, e83_25, e83_26, e83_27, e83_28, e83_80, e83_81, e83_84, e83_85, e83_86, e83_89, e83_90, e83_91, e83_94, e83_95, e83_96, e83_99, e83_100, e83_101, e83_104, e83_105, e83_106, e83_109, e83_110, e83_111, e83_114, e83_115, e83_116, e83_119, e83_122, e83_123, e83_126, e83_127, e83_128, e83_129, e83_132, e83_133, e83_136, e83_137, e83_138, e83_140, e83_143, zt0, zt1, zn3, not_false_eq_true, toListS, toListN, zk_some, zpi, if_true, if_false, i10, C3x X _ M G np e3 n8, h, z8 hp8, cl8 hp8, q_lt_5_0, q_le_5_0, q_eq_5_0, q_lt_5_1, q_le_5_1, q_eq_5_1, q_lt_5_2, q_le_5_2, q_eq_5_2, q_lt_5_3, q_le_5_3, q_eq_5_3, q_lt_5_4, q_le_5_4, q_eq_5_4, q_lt_5_5, q_le_5_5, q_lt_5_6, q_le_5_6, q_eq_5_6, q_lt_5_7, q_le_5_7, q_eq_5_7, q_lt_5_8, q_le_5_8, q_eq_5_8]
        · simp only [E175, e175_0, e175_1, e175_2, e175_5, e175_8, e175_9, e175_10, e175_13, e175_14, e175_15, e175_16, e175_17, e175_20, e175_23, e175_26, e175_27, e175_29, e175_32, e175_33, e175_34, e175_36, e175_39, e175_40, e175_43, e175_44, e175_47, e175_48, e175_49, e175_50, e175_51, e175_52, e175_55, e175_56, e175_59, e175_60, e175_61, e175_62, e175_65, e175_68, e175_69, e175_70, e175_73, e175_76, e175_78, zt0, zt1, zn3, not_false_eq_true, toListS, toListN, zk_some, zpi, if_true, if_false, i10, C133 X _ M G _ np m1 (by omega), h, C128, j_0, j_8, C135, niP, ni0, ni1, ni2, ni3, ni4, ni5, ni6, ni7, wP0 hp8, cP0 hp8, rP0 s hp, wP hp8 (show 1 < 8 by decide), cP hp8 (show 1 < 8 by decide), rP s hp (show 1 < 8 by decide), mi1, wP hp8 (show 2 < 8 by decide), cP hp8 (show 2 < 8 by decide), rP s hp (show 2 < 8 by decide), mi2, wP hp8 (show 3 < 8 by decide), cP hp8 (show 3 < 8 by decide), rP s hp (show 3 < 8 by decide), mi3, wP hp8 (show 4 < 8 by decide), cP hp8 (show 4 < 8 by decide), rP s hp (show 4 < 8 by decide), mi4, wP hp8 (show 5 < 8 by decide), cP hp8 (show 5 < 8 by decide), rP s hp (show 5 < 8 by decide), mi5, wP hp8 (show 6 < 8 by decide), cP hp8 (show 6 < 8 by decide), rP s hp (show 6 < 8 by decide), mi6, wP hp8 (show 7 < 8 by decide), cP hp8 (show 7 < 8 by decide), rP s hp (show 7 < 8 by decide), mi7, g', show ((8 : Int32) ≤ 5) = False by decide]
      · show okI X 83 175 [vI (nI p), vI 6] t M G
        have g' : inz 6 0 8 = 1 := rfl
        refine ⟨M (3, 0, p) 4, M, G, M, G, ?_, ?_, i⟩
        · simp only [E83, e83_0, e83_1, e83_4, e83_5, e83_8, e83_11, e83_12, e83_13, e83_16, e83_17, e83_18, e83_21, e83_24, e83_25, e83_26, e83_27, e83_28, e83_80, e83_81, e83_84, e83_85, e83_86, e83_89, e83_90, e83_91, e83_94, e83_95, e83_96, e83_99, e83_100, e83_101, e83_104, e83_105, e83_106, e83_109, e83_110, e83_111, e83_114, e83_115, e83_116, e83_119, e83_122, e83_123, e83_126, e83_127, e83_128, e83_129, e83_132, e83_133, e83_136, e83_137, e83_138, e83_140, e83_143, zt0, zt1, zn3, not_false_eq_true, toListS, toListN, zk_some, zpi, if_true, if_false, i10, C3x X _ M G np e3 n8, h, z8 hp8, cl8 hp8, q_lt_6_0, q_le_6_0, q_eq_6_0, q_lt_6_1, q_le_6_1, q_eq_6_1, q_lt_6_2, q_le_6_2, q_eq_6_2, q_lt_6_3, q_le_6_3, q_eq_6_3, q_lt_6_4, q_le_6_4, q_eq_6_4, q_lt_6_5, q_le_6_5, q_eq_6_5, q_lt_6_6, q_le_6_6, q_lt_6_7, q_le_6_7, q_eq_6_7, q_lt_6_8, q_le_6_8, q_eq_6_8]
        · simp only [E175, e175_0, e175_1, e175_2, e175_5, e175_8, e175_9, e175_10, e175_13, e175_14, e175_15, e175_16, e175_17, e175_20, e175_23, e175_26, e175_27, e175_29, e175_32, e175_33, e175_34, e175_36, e175_39, e175_40, e175_43, e175_44, e175_47, e175_48, e175_49, e175_50, e175_51, e175_52, e175_55, e175_56, e175_59, e175_60, e175_61, e175_62, e175_65, e175_68, e175_69, e175_70, e175_73, e175_76, e175_78, zt0, zt1, zn3, not_false_eq_true, toListS, toListN, zk_some, zpi, if_true, if_false, i10, C133 X _ M G _ np m1 (by omega), h, C128, j_0, j_8, C135, niP, ni0, ni1, ni2, ni3, ni4, ni5, ni6, ni7, wP0 hp8, cP0 hp8, rP0 s hp, wP hp8 (show 1 < 8 by decide), cP hp8 (show 1 < 8 by decide), rP s hp (show 1 < 8 by decide), mi1, wP hp8 (show 2 < 8 by decide), cP hp8 (show 2 < 8 by decide), rP s hp (show 2 < 8 by decide), mi2, wP hp8 (show 3 < 8 by decide), cP hp8 (show 3 < 8 by decide), rP s hp (show 3 < 8 by decide), mi3, wP hp8 (show 4 < 8 by decide), cP hp8 (show 4 < 8 by decide), rP s hp (show 4 < 8 by decide), mi4, wP hp8 (show 5 < 8 by decide), cP hp8 (show 5 < 8 by decide), rP s hp (show 5 < 8 by decide), mi5, wP hp8 (show 6 < 8 by decide), cP hp8 (show 6 < 8 by decide), rP s hp (show 6 < 8 by decide), mi6, wP hp8 (show 7 < 8 by decide), cP hp8 (show 7 < 8 by decide), rP s hp (show 7 < 8 by decide), mi7, g', show ((8 : Int32) ≤ 6) = False by decide]
      · show okI X 83 175 [vI (nI p), vI 7] t M G
        have g' : inz 7 0 8 = 1 := rfl
        refine ⟨M (3, 0, p) 7, M, G, M, G, ?_, ?_, i⟩
        · simp only [E83, e83_0, e83_1, e83_4, e83_5, e83_8, e83_11, e83_12, e83_13, e83_16, e83_17, e83_18, e83_21, e83_24, e83_25, e83_26, e83_27, e83_28, e83_80, e83_81, e83_84, e83_85, e83_86, e83_89, e83_90, e83_91, e83_94, e83_95, e83_96, e83_99, e83_100, e83_101, e83_104, e83_105, e83_106, e83_109, e83_110, e83_111, e83_114, e83_115, e83_116, e83_119, e83_122, e83_123, e83_126, e83_127, e83_128, e83_129, e83_132, e83_133, e83_136, e83_137, e83_138, e83_140, e83_143, zt0, zt1, zn3, not_false_eq_true, toListS, toListN, zk_some, zpi, if_true, if_false, i10, C3x X _ M G np e3 n8, h, z8 hp8, cl8 hp8, q_lt_7_0, q_le_7_0, q_eq_7_0, q_lt_7_1, q_le_7_1, q_eq_7_1, q_lt_7_2, q_le_7_2, q_eq_7_2, q_lt_7_3, q_le_7_3, q_eq_7_3, q_lt_7_4, q_le_7_4, q_eq_7_4, q_lt_7_5, q_le_7_5, q_eq_7_5, q_lt_7_6, q_le_7_6, q_eq_7_6, q_lt_7_7, q_le_7_7, q_lt_7_8, q_le_7_8, q_eq_7_8, b01 ((v.2.2.1 p hp).imp id And.left : M (3, 0, p) 7 = 0 ∨ M (3, 0, p) 7 = 1)]
        · simp only [E175, e175_0, e175_1, e175_2, e175_5, e175_8, e175_9, e175_10, e175_13, e175_14, e175_15, e175_16, e175_17, e175_20, e175_23, e175_26, e175_27, e175_29, e175_32, e175_33, e175_34, e175_36, e175_39, e175_40, e175_43, e175_44, e175_47, e175_48, e175_49, e175_50, e175_51, e175_52, e175_55, e175_56, e175_59, e175_60, e175_61, e175_62, e175_65, e175_68, e175_69, e175_70, e175_73, e175_76, e175_78, zt0, zt1, zn3, not_false_eq_true, toListS, toListN, zk_some, zpi, if_true, if_false, i10, C133 X _ M G _ np m1 (by omega), h, C128, j_0, j_8, C135, niP, ni0, ni1, ni2, ni3, ni4, ni5, ni6, ni7, wP0 hp8, cP0 hp8, rP0 s hp, wP hp8 (show 1 < 8 by decide), cP hp8 (show 1 < 8 by decide), rP s hp (show 1 < 8 by decide), mi1, wP hp8 (show 2 < 8 by decide), cP hp8 (show 2 < 8 by decide), rP s hp (show 2 < 8 by decide), mi2, wP hp8 (show 3 < 8 by decide), cP hp8 (show 3 < 8 by decide), rP s hp (show 3 < 8 by decide), mi3, wP hp8 (show 4 < 8 by decide), cP hp8 (show 4 < 8 by decide), rP s hp (show 4 < 8 by decide), mi4, wP hp8 (show 5 < 8 by decide), cP hp8 (show 5 < 8 by decide), rP s hp (show 5 < 8 by decide), mi5, wP hp8 (show 6 < 8 by decide), cP hp8 (show 6 < 8 by decide), rP s hp (show 6 < 8 by decide), mi6, wP hp8 (show 7 < 8 by decide), cP hp8 (show 7 < 8 by decide), rP s hp (show 7 < 8 by decide), mi7, g', show ((8 : Int32) ≤ 7) = False by decide]
      · show okI X 83 175 [vI (nI p), vI 8] t M G
        have g' : inz 8 0 8 = 1 := rfl
        obtain ⟨a1, c1, pa, pc, ha, hc, -, -⟩ := pip v hp
        have pa' : M (3, 0, p) 0 = nI a1 := pa
        have ca : (bm M).2.2 p 0 = nI a1 := (sP s hp (by decide)).symm.trans pa
        have c143 := C143 X 10 M G (bm M).1 (bm M).2.1 (bm M).2.2 (M (7, 0, 0)) p a1 hp8 ca (by omega)
        rw [show mm M (bm M).1 (bm M).2.1 (bm M).2.2 (M (7, 0, 0)) = M from mbs M] at c143
        have e : (if sSi (pw M 0) p = 0 then -9 else sCr (vw M 0) (pw M 0) p a1) = (if sSi (pw M 0) p = 0 then -9 else nCr (bm M).2.1 (bm M).2.2 p a1) := by
          by_cases q : sSi (pw M 0) p = 0
          · rw [if_pos q, if_pos q]
          · rw [if_neg q, if_neg q, sCr_eq _ _ _ _ q]
            unfold nCr pw vw
            rw [sP s hp (show 5 < 8 by decide), sP s hp (show 2 < 8 by decide), sP s hp (show 6 < 8 by decide), sV s ha (show 1 < 5 by decide), sV s ha (show 2 < 5 by decide)]
        refine ⟨if sSi (pw M 0) p = 0 then -9 else sCr (vw M 0) (pw M 0) p a1, M, G, M, G, ?_, ?_, i⟩
        · simp only [E83, e83_0, e83_1, e83_4, e83_5, e83_8, e83_11, e83_12, e83_13, e83_16, e83_17, e83_18, e83_21, e83_24, e83_25, e83_26, e83_27, e83_28, e83_80, e83_81, e83_84, e83_85, e83_86, e83_89, e83_90, e83_91, e83_94, e83_95, e83_96, e83_99, e83_100, e83_101, e83_104, e83_105, e83_106, e83_109, e83_110, e83_111, e83_114, e83_115, e83_116, e83_119, e83_122, e83_123, e83_126, e83_127, e83_128, e83_129, e83_132, e83_133, e83_136, e83_137, e83_138, e83_140, e83_143, zt0, zt1, zn3, not_false_eq_true, toListS, toListN, zk_some, zpi, if_true, if_false, i10, C3x X _ M G np e3 n8, h, z8 hp8, cl8 hp8, q_lt_8_0, q_le_8_0, q_eq_8_0, q_lt_8_1, q_le_8_1, q_eq_8_1, q_lt_8_2, q_le_8_2, q_eq_8_2, q_lt_8_3, q_le_8_3, q_eq_8_3, q_lt_8_4, q_le_8_4, q_eq_8_4, q_lt_8_5, q_le_8_5, q_eq_8_5, q_lt_8_6, q_le_8_6, q_eq_8_6, q_lt_8_7, q_le_8_7, q_eq_8_7, q_lt_8_8, q_le_8_8, C15 X _ M G 0 p a1 nv e2 n5 pa' ha]
        · rw [e]
          have e5 : sSi (pw M 0) p = (if M (3, 0, p) 5 = 1 then 1 else if M (3, 0, p) 5 = 3 then 1 else 0) := rfl
          by_cases q : sSi (pw M 0) p = 0
          · rw [if_pos q]
            have q' := e5.symm.trans q
            simp only [E175, e175_0, e175_1, e175_2, e175_5, e175_8, e175_9, e175_10, e175_13, e175_14, e175_15, e175_16, e175_17, e175_20, e175_23, e175_26, e175_27, e175_29, e175_32, e175_33, e175_34, e175_36, e175_39, e175_40, e175_43, e175_44, e175_47, e175_48, e175_49, e175_50, e175_51, e175_52, e175_55, e175_56, e175_59, e175_60, e175_61, e175_62, e175_65, e175_68, e175_69, e175_70, e175_73, e175_76, e175_78, zt0, zt1, zn3, not_false_eq_true, toListS, toListN, zk_some, zpi, if_true, if_false, i10, C133 X _ M G _ np m1 (by omega), h, C128, j_0, j_8, C135, niP, ni0, ni1, ni2, ni3, ni4, ni5, ni6, ni7, wP0 hp8, cP0 hp8, rP0 s hp, wP hp8 (show 1 < 8 by decide), cP hp8 (show 1 < 8 by decide), rP s hp (show 1 < 8 by decide), mi1, wP hp8 (show 2 < 8 by decide), cP hp8 (show 2 < 8 by decide), rP s hp (show 2 < 8 by decide), mi2, wP hp8 (show 3 < 8 by decide), cP hp8 (show 3 < 8 by decide), rP s hp (show 3 < 8 by decide), mi3, wP hp8 (show 4 < 8 by decide), cP hp8 (show 4 < 8 by decide), rP s hp (show 4 < 8 by decide), mi4, wP hp8 (show 5 < 8 by decide), cP hp8 (show 5 < 8 by decide), rP s hp (show 5 < 8 by decide), mi5, wP hp8 (show 6 < 8 by decide), cP hp8 (show 6 < 8 by decide), rP s hp (show 6 < 8 by decide), mi6, wP hp8 (show 7 < 8 by decide), cP hp8 (show 7 < 8 by decide), rP s hp (show 7 < 8 by decide), mi7, g', C142, q', q_le_8_8]
          · rw [if_neg q]
            have q' := e5.symm.trans (sSi_1 q).1
            simp only [E175, e175_0, e175_1, e175_2, e175_5, e175_8, e175_9, e175_10, e175_13, e175_14, e175_15, e175_16, e175_17, e175_20, e175_23, e175_26, e175_27, e175_29, e175_32, e175_33, e175_34, e175_36, e175_39, e175_40, e175_43, e175_44, e175_47, e175_48, e175_49, e175_50, e175_51, e175_52, e175_55, e175_56, e175_59, e175_60, e175_61, e175_62, e175_65, e175_68, e175_69, e175_70, e175_73, e175_76, e175_78, zt0, zt1, zn3, not_false_eq_true, toListS, toListN, zk_some, zpi, if_true, if_false, i10, C133 X _ M G _ np m1 (by omega), h, C128, j_0, j_8, C135, niP, ni0, ni1, ni2, ni3, ni4, ni5, ni6, ni7, wP0 hp8, cP0 hp8, rP0 s hp, wP hp8 (show 1 < 8 by decide), cP hp8 (show 1 < 8 by decide), rP s hp (show 1 < 8 by decide), mi1, wP hp8 (show 2 < 8 by decide), cP hp8 (show 2 < 8 by decide), rP s hp (show 2 < 8 by decide), mi2, wP hp8 (show 3 < 8 by decide), cP hp8 (show 3 < 8 by decide), rP s hp (show 3 < 8 by decide), mi3, wP hp8 (show 4 < 8 by decide), cP hp8 (show 4 < 8 by decide), rP s hp (show 4 < 8 by decide), mi4, wP hp8 (show 5 < 8 by decide), cP hp8 (show 5 < 8 by decide), rP s hp (show 5 < 8 by decide), mi5, wP hp8 (show 6 < 8 by decide), cP hp8 (show 6 < 8 by decide), rP s hp (show 6 < 8 by decide), mi6, wP hp8 (show 7 < 8 by decide), cP hp8 (show 7 < 8 by decide), rP s hp (show 7 < 8 by decide), mi7, g', C142, q', c143, q_le_8_8]
theorem K12 (X : Nat × (Nat → Int32) × Value) (t : Nat) (M : zM) (G : zG) (x : Int32) (i : Inv t M) : okL X 85 179 [vI x] t M G := by
  obtain ⟨nv, np, s⟩ := ST_of i
  have s' := s
  obtain ⟨n5, n8, e2, e3, m0, m1, v, o6, f5, a, vc, ac, vm⟩ := s'
  rcases isx_c (n := np) x (by omega) with ⟨h, -⟩ | ⟨p, hp, rfl, h⟩
  · refine ⟨4000000000000000000 - Int32.toInt64 (-1), rfs M 1, G, rfm (rfs M 1) 1, G, ?_, ?_, Inv_rf i⟩
    · simp only [E85, e85_0, e85_1, e85_4, e85_5, e85_8, e85_11, e85_12, e85_13, e85_16, e85_17, e85_18, e85_21, e85_22, e85_25, e85_28, e85_29, e85_30, e85_33, e85_34, zt0, zt1, zn3, not_false_eq_true, toListS, toListN, zk_some, zpi, if_true, if_false, i10, C3x X _ M G np e3 n8, h, C115_1]
    · simp only [E179, e179_0, e179_1, e179_2, e179_5, e179_8, e179_9, e179_10, e179_13, e179_14, e179_17, e179_18, e179_19, e179_22, zt0, zt1, zn3, not_false_eq_true, toListS, toListN, zk_some, zpi, if_true, if_false, i10, C133 X _ _ G _ np (show rfs M 1 (20, 0, 0) 1 = nI np from m1) (by omega), h, C130_1]
  · have hp8 : p < 8 := by omega
    obtain ⟨a1, c1, pa, pc, ha, hc, -, A1, A2, r1, -⟩ := pip v hp
    have c14 := C14 X 9 M G 0 p a1 c1 nv e2 n5 pa pc ha hc A2
    obtain ⟨a2, c2, pa2, pc2, ha2, hc2, -, B1, B2, r2, -⟩ := pip vm hp
    have f1 : nI a1 = nI a2 := pa.symm.trans ((sP s hp (by decide)).trans pa2)
    have f2 : nI c1 = nI c2 := pc.symm.trans ((sP s hp (by decide)).trans pc2)
    rw [neq (by omega) (by omega)] at f1 f2
    subst f1
    subst f2
    have c146 := C146 X 6 M G (bm M).1 (bm M).2.1 (bm M).2.2 (M (7, 0, 0)) p a1 c1 hp8 pa2 pc2 (by omega) (by omega) B2
    rw [show mm M (bm M).1 (bm M).2.1 (bm M).2.2 (M (7, 0, 0)) = M from mbs M] at c146
    have e : wG (vw M 0) (pw M 0) p a1 c1 (M (0, 0, 0) 5) = nAm ((bm M).1 5) (bm M).2.1 (bm M).2.2 p a1 c1 := by
      rw [wG_c (V' := (bm M).2.1) (P' := (bm M).2.2) (fun f hf => sV s ha hf) (fun f hf => sV s hc hf) (fun g hg => sP s hp hg), show M (0, 0, 0) 5 = (bm M).1 5 from a.1 5 (by decide)]
      exact wG_eq _ _ _ _ _ _ B1 (by omega) ((vm.2.2.1 p hp).imp id And.left)
    refine ⟨(wG (vw M 0) (pw M 0) p a1 c1 (M (0, 0, 0) 5)).toInt64, M, G, M, G, ?_, ?_, i⟩
    · simp only [E85, e85_0, e85_1, e85_4, e85_5, e85_8, e85_11, e85_12, e85_13, e85_16, e85_17, e85_18, e85_21, e85_22, e85_25, e85_28, e85_29, e85_30, e85_33, e85_34, zt0, zt1, zn3, not_false_eq_true, toListS, toListN, zk_some, zpi, if_true, if_false, i10, C3x X _ M G np e3 n8, h, z8 hp8, cl8 hp8, c14]
    · rw [e]
      simp only [E179, e179_0, e179_1, e179_2, e179_5, e179_8, e179_9, e179_10, e179_13, e179_14, e179_17, e179_18, e179_19, e179_22, zt0, zt1, zn3, not_false_eq_true, toListS, toListN, zk_some, zpi, if_true, if_false, i10, C133 X _ M G _ np m1 (by omega), h, c146]
theorem K11 (X : Nat × (Nat → Int32) × Value) (t : Nat) (M : zM) (G : zG) (x w : Int32) (i : Inv t M) : okL X 84 178 [vI x, vI w] t M G := by
  obtain ⟨nv, np, s⟩ := ST_of i
  have s' := s
  obtain ⟨n5, n8, e2, e3, m0, m1, v, o6, f5, a, vc, ac, vm⟩ := s'
  rcases isx_c (n := nv) x (by omega) with ⟨h, -⟩ | ⟨j, hj, rfl, h⟩
  · refine ⟨4000000000000000000 - Int32.toInt64 (-1), rfs M 1, G, rfm (rfs M 1) 1, G, ?_, ?_, Inv_rf i⟩
    · simp only [E84, e84_0, e84_1, e84_4, e84_5, e84_8, e84_11, e84_12, e84_13, e84_16, e84_17, e84_18, e84_21, e84_22, e84_23, e84_26, e84_27, e84_29, e84_32, e84_33, e84_34, e84_37, e84_40, e84_41, e84_42, e84_43, e84_44, e84_47, e84_48, e84_49, e84_52, e84_53, e84_54, e84_57, zt0, zt1, zn3, not_false_eq_true, toListS, toListN, zk_some, zpi, if_true, if_false, i10, C2x X _ M G nv e2 n5, h, C115_1]
    · simp only [E178, e178_0, e178_1, e178_2, e178_5, e178_8, e178_9, e178_10, e178_13, e178_14, e178_15, e178_16, e178_17, e178_18, e178_21, e178_24, e178_25, e178_26, e178_29, e178_30, e178_31, e178_34, e178_35, e178_38, e178_39, e178_40, e178_41, e178_42, e178_43, e178_46, e178_49, e178_50, e178_52, e178_55, zt0, zt1, zn3, not_false_eq_true, toListS, toListN, zk_some, zpi, if_true, if_false, i10, C132 X _ _ G _ nv (show rfs M 1 (20, 0, 0) 0 = nI nv from m0) (by omega), h, C130_1]
  · have hj5 : j < 5 := by omega
    rcases inz_c w 1 (by decide) with ⟨g, gn⟩ | ⟨g, l, hl, rfl⟩
    · have g' : inz w 0 1 = 0 := g
      rcases rng_n (lit := 1) rfl gn with c1 | ⟨c1, c2⟩
      · refine ⟨4000000000000000000 - Int32.toInt64 (-2), rfs M 2, G, rfm (rfs M 2) 2, G, ?_, ?_, Inv_rf i⟩
        · simp only [E84, e84_0, e84_1, e84_4, e84_5, e84_8, e84_11, e84_12, e84_13, e84_16, e84_17, e84_18, e84_21, e84_22, e84_23, e84_26, e84_27, e84_29, e84_32, e84_33, e84_34, e84_37, e84_40, e84_41, e84_42, e84_43, e84_44, e84_47, e84_48, e84_49, e84_52, e84_53, e84_54, e84_57, zt0, zt1, zn3, not_false_eq_true, toListS, toListN, zk_some, zpi, if_true, if_false, i10, C2x X _ M G nv e2 n5, h, z5 hj5, cl5 hj5, c1, C115_2]
        · simp only [E178, e178_0, e178_1, e178_2, e178_5, e178_8, e178_9, e178_10, e178_13, e178_14, e178_15, e178_16, e178_17, e178_18, e178_21, e178_24, e178_25, e178_26, e178_29, e178_30, e178_31, e178_34, e178_35, e178_38, e178_39, e178_40, e178_41, e178_42, e178_43, e178_46, e178_49, e178_50, e178_52, e178_55, zt0, zt1, zn3, not_false_eq_true, toListS, toListN, zk_some, zpi, if_true, if_false, i10, C132 X _ _ G _ nv (show rfs M 2 (20, 0, 0) 0 = nI nv from m0) (by omega), h, C128, j_0, j_1, g', C130_2]
      · refine ⟨4000000000000000000 - Int32.toInt64 (-2), rfs M 2, G, rfm (rfs M 2) 2, G, ?_, ?_, Inv_rf i⟩
        · simp only [E84, e84_0, e84_1, e84_4, e84_5, e84_8, e84_11, e84_12, e84_13, e84_16, e84_17, e84_18, e84_21, e84_22, e84_23, e84_26, e84_27, e84_29, e84_32, e84_33, e84_34, e84_37, e84_40, e84_41, e84_42, e84_43, e84_44, e84_47, e84_48, e84_49, e84_52, e84_53, e84_54, e84_57, zt0, zt1, zn3, not_false_eq_true, toListS, toListN, zk_some, zpi, if_true, if_false, i10, C2x X _ M G nv e2 n5, h, z5 hj5, cl5 hj5, c1, c2, C115_2]
        · simp only [E178, e178_0, e178_1, e178_2, e178_5, e178_8, e178_9, e178_10, e178_13, e178_14, e178_15, e178_16, e178_17, e178_18, e178_21, e178_24, e178_25, e178_26, e178_29, e178_30, e178_31, e178_34, e178_35, e178_38, e178_39, e178_40, e178_41, e178_42, e178_43, e178_46, e178_49, e178_50, e178_52, e178_55, zt0, zt1, zn3, not_false_eq_true, toListS, toListN, zk_some, zpi, if_true, if_false, i10, C132 X _ _ G _ nv (show rfs M 2 (20, 0, 0) 0 = nI nv from m0) (by omega), h, C128, j_0, j_1, g', C130_2]
    · have w := v.2.1 j hj
      have vj := v.1.2.2.2.2.1 j hj
      have ht := sHt_v vj w.1 (by have := brim_v vj; omega)
      have hn : (0 : Int) ≤ (sHt (vw M 0) j).toInt := by have := w.1; rw [show (sHt (vw M 0) j).toInt = _ from ht.1]; omega
      have hl' : (sHt (vw M 0) j).toInt < 2 ^ 31 := Int32.toInt_lt _
      have an : (0 : Int) ≤ (M (5, 0, j) 0).toInt := by have := vj.1; exact Int.le_trans (by decide) this
      have a1 : (1 : Int) ≤ (M (5, 0, j) 0).toInt := vj.1
      have al : (M (5, 0, j) 0).toInt < 2 ^ 31 := Int32.toInt_lt _
      have c123 := fun q => C123 X 10 (hh M G) (sHt (vw M 0) j).toInt.toNat (M (5, 0, j) 0).toInt.toNat q (by omega) (by omega) (by omega)
      have c177 := fun q => C177 X 10 (hh M G) (sHt (vw M 0) j).toInt.toNat (M (5, 0, j) 0).toInt.toNat q (by omega) (by omega) (by omega)
      have c137 := C137 X 10 M G (bm M).1 (bm M).2.1 (bm M).2.2 (M (7, 0, 0)) j hj5
      rw [show mm M (bm M).1 (bm M).2.1 (bm M).2.2 (M (7, 0, 0)) = M from mbs M, show sHt (bm M).2.1 j = sHt (vw M 0) j from (sHt_c (fun f hf => sV s hj hf)).symm] at c137
      rcases (show l = 0 ∨ l = 1 by omega) with rfl | rfl
      · show okL X 84 178 [vI (nI j), vI 0] t M G
        have g' : inz 0 0 1 = 1 := rfl
        refine ⟨prt (sHt (vw M 0) j).toInt.toNat (M (5, 0, j) 0).toInt.toNat 0, M, G, M, G, ?_, ?_, i⟩
        · simp only [E84, e84_0, e84_1, e84_4, e84_5, e84_8, e84_11, e84_12, e84_13, e84_16, e84_17, e84_18, e84_21, e84_22, e84_23, e84_26, e84_27, e84_29, e84_32, e84_33, e84_34, e84_37, e84_40, e84_41, e84_42, e84_43, e84_44, e84_47, e84_48, e84_49, e84_52, e84_53, e84_54, e84_57, zt0, zt1, zn3, not_false_eq_true, toListS, toListN, zk_some, zpi, if_true, if_false, i10, C2x X _ M G nv e2 n5, h, z5 hj5, cl5 hj5, q_lt_0_0, q_le_0_0, q_lt_0_1, q_le_0_1, q_eq_0_1, C68, lI_up hn, lI_up an, c123]
        · simp only [E178, e178_0, e178_1, e178_2, e178_5, e178_8, e178_9, e178_10, e178_13, e178_14, e178_15, e178_16, e178_17, e178_18, e178_21, e178_24, e178_25, e178_26, e178_29, e178_30, e178_31, e178_34, e178_35, e178_38, e178_39, e178_40, e178_41, e178_42, e178_43, e178_46, e178_49, e178_50, e178_52, e178_55, zt0, zt1, zn3, not_false_eq_true, toListS, toListN, zk_some, zpi, if_true, if_false, i10, C132 X _ M G _ nv m0 (by omega), h, C128, j_0, j_4, C134, niV, ni0, ni1, ni2, ni3, ni4, wV0 hj5, cV0 hj5, rV0 s hj, wV hj5 (show 1 < 5 by decide), cV hj5 (show 1 < 5 by decide), rV s hj (show 1 < 5 by decide), wV hj5 (show 2 < 5 by decide), cV hj5 (show 2 < 5 by decide), rV s hj (show 2 < 5 by decide), wV hj5 (show 3 < 5 by decide), cV hj5 (show 3 < 5 by decide), rV s hj (show 3 < 5 by decide), wV hj5 (show 4 < 5 by decide), cV hj5 (show 4 < 5 by decide), rV s hj (show 4 < 5 by decide), g', j_1, c137, lI_up hn, lI_up an, c177]
      · show okL X 84 178 [vI (nI j), vI 1] t M G
        have g' : inz 1 0 1 = 1 := rfl
        refine ⟨prt (sHt (vw M 0) j).toInt.toNat (M (5, 0, j) 0).toInt.toNat 1, M, G, M, G, ?_, ?_, i⟩
        · simp only [E84, e84_0, e84_1, e84_4, e84_5, e84_8, e84_11, e84_12, e84_13, e84_16, e84_17, e84_18, e84_21, e84_22, e84_23, e84_26, e84_27, e84_29, e84_32, e84_33, e84_34, e84_37, e84_40, e84_41, e84_42, e84_43, e84_44, e84_47, e84_48, e84_49, e84_52, e84_53, e84_54, e84_57, zt0, zt1, zn3, not_false_eq_true, toListS, toListN, zk_some, zpi, if_true, if_false, i10, C2x X _ M G nv e2 n5, h, z5 hj5, cl5 hj5, q_lt_1_0, q_le_1_0, q_eq_1_0, q_lt_1_1, q_le_1_1, C68, lI_up hn, lI_up an, c123]
        · simp only [E178, e178_0, e178_1, e178_2, e178_5, e178_8, e178_9, e178_10, e178_13, e178_14, e178_15, e178_16, e178_17, e178_18, e178_21, e178_24, e178_25, e178_26, e178_29, e178_30, e178_31, e178_34, e178_35, e178_38, e178_39, e178_40, e178_41, e178_42, e178_43, e178_46, e178_49, e178_50, e178_52, e178_55, zt0, zt1, zn3, not_false_eq_true, toListS, toListN, zk_some, zpi, if_true, if_false, i10, C132 X _ M G _ nv m0 (by omega), h, C128, j_0, j_4, C134, niV, ni0, ni1, ni2, ni3, ni4, wV0 hj5, cV0 hj5, rV0 s hj, wV hj5 (show 1 < 5 by decide), cV hj5 (show 1 < 5 by decide), rV s hj (show 1 < 5 by decide), wV hj5 (show 2 < 5 by decide), cV hj5 (show 2 < 5 by decide), rV s hj (show 2 < 5 by decide), wV hj5 (show 3 < 5 by decide), cV hj5 (show 3 < 5 by decide), rV s hj (show 3 < 5 by decide), wV hj5 (show 4 < 5 by decide), cV hj5 (show 4 < 5 by decide), rV s hj (show 4 < 5 by decide), g', j_1, c137, lI_up hn, lI_up an, c177]
def sal (V : tV) (x : Int32) : Nat → Int32
  | 0 => x
  | n + 1 => sal V x n + V n 3
theorem sal_c {V W : tV} {x y : Int32} (e : x = y) : ∀ n, (∀ j, j < n → V j 3 = W j 3) → sal V x n = sal W y n := by
  intro n
  induction n with
  | zero => intro _; exact e
  | succ n ih =>
    intro h
    unfold sal
    rw [ih fun j hj => h j (by omega), h n (by omega)]
theorem K27 (X : Nat × (Nat → Int32) × Value) (t : Nat) (M : zM) (G : zG) (i : Inv t M) : okI X 100 206 [] t M G := by
  obtain ⟨nv, np, s⟩ := ST_of i
  have s' := s
  obtain ⟨n5, n8, e2, e3, m0, m1, v, o6, f5, a, vc, ac, vm⟩ := s'
  have l := zlf (n := nv) (f := fun k => zx X 12 100 10 [vR (6, 0, 0), vI (sal (vw M 0) (M (0, 0, 0) 4) k), vI (nI k)] [] (hh M G)) (fun k hk w ew => by
    have hk5 : k < 5 := by omega
    simp only [e100_10, e100_11, e100_12, e100_15, e100_18, e2, nle (show nv < 2 ^ 31 by omega) (show k < 2 ^ 31 by omega)]
    rw [if_neg (by omega)]
    simp only [e100_21, e100_22, e100_23, e100_26, e100_29, e100_30, e100_31, e100_34, e100_35, e100_36, e100_39, zt0, zt1, zn3, not_false_eq_true, toListS, toListN, zk_some, zpi, z5 hk5, cl5 hk5, nI_1]
    exact ew) nv 0 (by omega)
  have l2 := zlf (n := nv) (f := fun k => zx X 12 206 9 [vR (7, 0, 0), vI (sal (vw M 0) (M (0, 0, 0) 4) k), vI (nI k)] [] (hh M G)) (fun k hk w ew => by
    have hk5 : k < 5 := by omega
    simp only [e206_9, e206_10, e206_11, e206_14, e206_15, e206_16, w0, t0, m0, nle (show nv < 2 ^ 31 by omega) (show k < 2 ^ 31 by omega)]
    rw [if_neg (by omega)]
    simp only [e206_19, e206_20, e206_21, e206_24, e206_25, e206_28, e206_29, e206_30, e206_31, e206_32, e206_33, e206_36, zt0, zt1, zn3, not_false_eq_true, toListS, toListN, zk_some, zpi, C134, niV, ni3, wV hk5 (show 3 < 5 by decide), cV hk5 (show 3 < 5 by decide), rV s hk (show 3 < 5 by decide), nI_1]
    exact ew) nv 0 (by omega)
  rw [nI_0] at l l2
  refine ⟨sal (vw M 0) (M (0, 0, 0) 4) nv, M, G, M, G, ?_, ?_, i⟩
  · simp only [E100, e100_0, e100_1, e100_4, e100_7, e100_8, e100_9, zt0, zt1, zn3, not_false_eq_true, toListS, toListN, zk_some, zpi]
    refine Eq.trans l ?_
    simp only [e100_10, e100_11, e100_12, e100_15, e100_18, e2, nle (show nv < 2 ^ 31 by omega) (show nv < 2 ^ 31 by omega)]
    rw [if_pos (Nat.le_refl _)]
    simp only [e100_42, e100_43]
  · have e4 : M (20, 0, 0) 3 = M (0, 0, 0) 4 := (a.1 4 (by decide)).symm
    simp only [E206, e206_0, e206_1, e206_4, e206_5, e206_6, e206_7, e206_8, zt0, zt1, zn3, not_false_eq_true, toListS, toListN, zk_some, zpi, w3, t3, e4]
    refine Eq.trans l2 ?_
    simp only [e206_9, e206_10, e206_11, e206_14, e206_15, e206_16, w0, t0, m0, nle (show nv < 2 ^ 31 by omega) (show nv < 2 ^ 31 by omega)]
    rw [if_pos (Nat.le_refl _)]
    simp only [e206_39, e206_40]
