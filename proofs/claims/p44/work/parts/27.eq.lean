/-! THE CLASS'S STEP IS THE MODEL'S -/
theorem i_ext {a b : Int32} (h : a.toInt = b.toInt) : a = b := Int32.toInt_inj.mp h
theorem i_lt {a b : Int32} : a < b ↔ a.toInt < b.toInt := Int32.lt_iff_toInt_lt
theorem i_le {a b : Int32} : a ≤ b ↔ a.toInt ≤ b.toInt := Int32.le_iff_toInt_le
theorem imin_c (a b : Int32) : imin a b = imin b a := by
  unfold imin
  by_cases h1 : b < a
  · have h2 : ¬ a < b := by rw [i_lt] at *; omega
    rw [if_pos h1, if_neg h2]
  · by_cases h2 : a < b
    · rw [if_neg h1, if_pos h2]
    · rw [if_neg h1, if_neg h2]
      rw [i_lt] at *
      exact i_ext (by omega)
theorem sHd_eq (V : tV) (j : Nat) (m : Int32) : sHd V j m = imax (sHt V j) (m * V j 0) := by
  unfold sHd imax
  by_cases h1 : sHt V j < m * V j 0
  · rw [if_pos h1, if_pos (by rw [i_lt] at h1; rw [i_le]; omega)]
  · rw [if_neg h1]
    split
    · rename_i h2
      rw [i_lt] at h1
      rw [i_le] at h2
      exact i_ext (by omega)
    · rfl
theorem sUn_eq (V P : tV) (p a c : Nat) : sUn V P p a c = nUn V P p a c := by
  unfold sUn nUn
  rw [sHd_eq, sHd_eq]
theorem i_ring1 (b m a w : Int32) : (b - m) * a + w = b * a + w - m * a := by
  rw [Int32.sub_mul, Int32.sub_eq_add_neg, Int32.sub_eq_add_neg, Int32.add_assoc, Int32.add_comm (-(m * a)) w, ← Int32.add_assoc]
theorem sWa_eq (V : tV) (j : Nat) (m : Int32) : sWa V j m = imax 0 (sHt V j - m * V j 0) := by
  unfold sWa imax sHt
  rw [i_ring1]
  by_cases h : V j 1 * V j 0 + V j 3 - m * V j 0 ≤ 0
  · rw [if_pos h, if_neg (by rw [i_le] at h; rw [i_lt]; simp at *; omega)]
  · rw [if_neg h, if_pos (by rw [i_le] at h; rw [i_lt]; simp at *; omega)]
theorem imax_0 (x : Int32) : 0 ≤ (imax 0 x).toInt := by
  unfold imax
  split
  · rename_i h
    rw [i_lt] at h
    simp at h
    omega
  · decide
theorem i_div_nn {u a : Int32} (hu : 0 ≤ u.toInt) (ha : 0 < a.toInt) : 0 ≤ (u / a).toInt := by
  rw [Int32.toInt_div]
  have h1 : 0 ≤ u.toInt.tdiv a.toInt := Int.tdiv_nonneg hu (by omega)
  have h2 : u.toInt.tdiv a.toInt ≤ u.toInt := Int.tdiv_le_self a.toInt hu
  have h3 := Int32.toInt_lt u
  rw [Int.bmod_eq_of_le] <;> omega
theorem imin_le0 {a b : Int32} (hb : 0 ≤ b.toInt) (ha : a = 0) : imin a b = 0 := by
  subst ha
  unfold imin
  rw [if_neg (by rw [i_lt]; simp; omega)]
theorem imin_nn {a b : Int32} (ha : 0 ≤ a.toInt) (hb : 0 ≤ b.toInt) : 0 ≤ (imin a b).toInt := by
  unfold imin
  split <;> assumption
theorem iz_div (a : Int32) (ha : 0 < a.toInt) : (0 : Int32) / a = 0 := by
  apply i_ext
  rw [Int32.toInt_div]
  simp
theorem sSi_0 {P : tV} {p : Nat} (h : sSi P p = 0) : P p 5 ≠ 1 ∧ P p 5 ≠ 3 := by
  unfold sSi at h
  refine ⟨fun e => ?_, fun e => ?_⟩
  · rw [if_pos e] at h; exact absurd h (by decide)
  · rw [e, if_neg (by decide), if_pos rfl] at h; exact absurd h (by decide)
theorem i_1le {a : Int32} (h : 0 < a.toInt) : 1 ≤ a := i_le.mpr h
theorem one0 : ¬ (1 : Int32) = 0 := by decide
theorem sWi_eq (V P : tV) (p a : Nat) (st : Int32) (h : sSi P p = 0 ∨ P p 7 = 1) : sWi P p st = nRa st V P p a := by
  unfold sWi nRa
  rcases h with h | h
  · obtain ⟨h1, h3⟩ := sSi_0 h
    rw [if_neg h1, if_neg h3, if_neg h3]
  · have e : ¬ nRn V P p a = 0 := by unfold nRn; rw [if_pos h]; exact one0
    rw [if_neg e, if_neg e]
    by_cases h1 : P p 5 = 1
    · rw [if_pos h1, h1, if_neg (by decide), if_neg (by decide), if_neg (by decide)]
    · rw [if_neg h1]
theorem i_neg_le {u : Int32} (h1 : u ≤ 0) (h2 : 0 ≤ u) : u = 0 := by
  rw [i_le] at h1 h2
  simp at h1 h2
  exact i_ext (by simp; omega)
theorem sFl_eq (V P : tV) (p a c : Nat) (st : Int32) (hA : 0 < (V a 0 + V c 0).toInt) (hr : 0 ≤ (P p 4).toInt) (h : sSi P p = 0 ∨ P p 7 = 1) : sFl V P p a c st = nAm st V P p a c := by
  unfold sFl nAm
  have hA1 : 1 ≤ V a 0 + V c 0 := i_1le hA
  rw [if_pos hA1, sUn_eq, sWa_eq, sWa_eq]
  by_cases hu : nUn V P p a c ≤ 0
  · rw [if_pos hu, if_pos hu]
    by_cases h0 : 0 ≤ nUn V P p a c
    · rw [if_pos h0, i_neg_le hu h0]
      by_cases hk : P p 5 = 0
      · have e : (-(0 : Int32)) / (V a 0 + V c 0) = 0 := iz_div _ hA
        rw [if_pos hk, e, imin_c (imax _ _), imin_le0 (imax_0 _) rfl, imin_c, imin_le0 hr rfl]
        rfl
      · rw [if_neg hk]
    · rw [if_neg h0]
      by_cases hk : P p 5 = 0
      · have e : nRa st V P p a = P p 4 := by
          unfold nRa
          rw [hk, if_neg (by decide), if_neg (by decide), if_neg (by decide), if_neg (by decide)]
        rw [if_pos hk, if_pos hk, nGo, e, iabs, if_neg h0, imin_c (imax _ _)]
      · rw [if_neg hk, if_neg hk]
  · have h0 : 0 ≤ nUn V P p a c := by rw [i_le] at *; simp at *; omega
    rw [if_neg hu, if_neg hu, nGo, iabs, if_pos h0, imin_c (imax _ _), sWi_eq V P p a st h]
theorem sTw_eq1 (V P : tV) (p a c : Nat) (st : Int32) (hA : 0 < (V a 0 + V c 0).toInt) (hr : 0 ≤ (P p 4).toInt) (h : P p 7 = 1) : sTw st V P p a c = nTw 1 st V P p a c := by
  unfold sTw nTw
  simp only [sFl_eq V P p a c st hA hr (Or.inr h), sWa_eq, i10, if_false]
theorem uV_same {V : tV} {j f : Nat} {x : Int32} (h : V j f = x) : uV V j f x = V := by
  funext j' f'
  unfold uV
  split
  · rename_i q
    rw [q.1, q.2, h]
  · rfl
theorem sTw_eq0 (V P : tV) (p a c : Nat) (st : Int32) (hA : 0 < (V a 0 + V c 0).toInt) (hr : 0 ≤ (P p 4).toInt) (h : sSi P p = 0) (h7 : P p 7 = 0) : sTw st V P p a c = nTw 0 st V P p a c := by
  unfold sTw nTw
  simp only [sFl_eq V P p a c st hA hr (Or.inl h), uV_same h7, if_true, ite_self]
theorem nSi_eq (P : tV) (p : Nat) : nSi P p = sSi P p := rfl
theorem sSi_1 {P : tV} {p : Nat} (h : ¬ sSi P p = 0) : sSi P p = 1 ∧ (P p 5 = 1 ∨ P p 5 = 3) := by
  unfold sSi at *
  by_cases h1 : P p 5 = 1
  · rw [if_pos h1]; exact ⟨rfl, Or.inl h1⟩
  · rw [if_neg h1] at *
    by_cases h3 : P p 5 = 3
    · rw [if_pos h3]; exact ⟨rfl, Or.inr h3⟩
    · rw [if_neg h3] at h; exact absurd rfl h
theorem sAt_eq (V P : tV) (p a : Nat) (hs : ¬ sSi P p = 0) (h7 : P p 7 = 0) : sAt V P p a = nRn V P p a := by
  unfold sAt nRn sCr nCr
  rw [h7, if_neg (show ¬ (0 : Int32) = 1 by decide)]
  rcases (sSi_1 hs).2 with h | h
  · rw [h, if_neg (show ¬ (1 : Int32) = 3 by decide), if_pos rfl]
  · rw [h, if_pos rfl, if_neg (show ¬ (3 : Int32) = 1 by decide)]
    unfold imax
    have e : (if V a 1 + V a 2 - P p 6 ≤ P p 2 then P p 2 else V a 1 + V a 2 - P p 6) = (if P p 2 < V a 1 + V a 2 - P p 6 then V a 1 + V a 2 - P p 6 else P p 2) := by
      by_cases q : V a 1 + V a 2 - P p 6 ≤ P p 2
      · rw [if_pos q, if_neg (by rw [i_le] at q; rw [i_lt]; omega)]
      · rw [if_neg q, if_pos (by rw [i_le] at q; rw [i_lt]; omega)]
    rw [e]
theorem uV_no (V : tV) (j f : Nat) (x : Int32) (h : x = V j f) : uV V j f x = V := uV_same h.symm
theorem sTn_eq (V P : tV) (p a c : Nat) (st : Int32) (hA : 0 < (V a 0 + V c 0).toInt) (hr : 0 ≤ (P p 4).toInt) (h7 : P p 7 = 0 ∨ (P p 7 = 1 ∧ ¬ sSi P p = 0)) : sTn st V P p a c = nTn st V P p a c := by
  unfold sTn nTn
  rw [nSi_eq]
  by_cases hs : sSi P p = 0
  · have h0 : P p 7 = 0 := h7.resolve_right fun q => q.2 hs
    rw [if_pos hs, if_pos hs, hs, sTw_eq0 V P p a c st hA hr hs h0]
  · rw [if_neg hs, if_neg hs, (sSi_1 hs).1]
    rcases h7 with h0 | ⟨h1, -⟩
    · rw [if_pos h0, sAt_eq V P p a hs h0]
      by_cases hn : nRn V P p a = 0
      · rw [if_pos hn, if_pos hn]
        have am : nAm st V P p a c = 0 := by
          unfold nAm
          split
          · split
            · rfl
            · rw [if_neg]
              rcases (sSi_1 hs).2 with e | e <;> rw [e] <;> decide
          · have e : nRa st V P p a = 0 := by
              unfold nRa
              rcases (sSi_1 hs).2 with e | e
              · rw [if_pos e, if_pos hn]
              · rw [e, if_neg (by decide), if_pos rfl, if_pos hn]
            rw [nGo, e, imin_le0 _ rfl]
            refine imin_nn (i_div_nn ?_ hA) (imax_0 _)
            rename_i q
            unfold iabs
            rw [if_pos (by rw [i_le] at *; simp at *; omega)]
            rw [i_le] at q
            simp at q
            omega
        have e1 : uV V a 3 (V a 3 - 0) = V := uV_no V a 3 _ (by simp)
        have e2 : uV V c 3 (V c 3 + 0) = V := uV_no V c 3 _ (by simp)
        simp only [nTw, am, e1, e2, if_true, i10, if_false]
      · rw [if_neg hn, if_neg hn]
        refine sTw_eq1 V (uV P p 7 1) p a c st hA ?_ uV_s
        rw [uV_f (by decide)]
        exact hr
    · have hn : ¬ nRn V P p a = 0 := by unfold nRn; rw [if_pos h1]; decide
      rw [if_neg (by rw [h1]; decide), if_neg hn, uV_same h1]
      exact sTw_eq1 V P p a c st hA hr h1
/-- the runs stand -/
def hRn (P : tV) (n : Nat) : Prop := ∀ p, p < n → P p 7 = 0 ∨ (P p 7 = 1 ∧ ¬ sSi P p = 0)
theorem sSi_c {P Q : tV} {p : Nat} (h : Q p 5 = P p 5) : sSi Q p = sSi P p := by unfold sSi; rw [h]
theorem hRn_0 {P : tV} {n p : Nat} (h : hRn P n) : hRn (uV P p 7 0) n := by
  intro q hq
  rw [sSi_c (P := P) (uV_f (by decide))]
  by_cases e : q = p
  · subst e; exact Or.inl uV_s
  · rw [uV_j e]; exact h q hq
theorem hRn_1 {P : tV} {n p : Nat} (h : hRn P n) (hs : ¬ sSi P p = 0) : hRn (uV P p 7 1) n := by
  intro q hq
  rw [sSi_c (P := P) (uV_f (by decide))]
  by_cases e : q = p
  · subst e; exact Or.inr ⟨uV_s, hs⟩
  · rw [uV_j e]; exact h q hq
theorem sTw_r {P : tV} {n p a c : Nat} {st : Int32} {V : tV} (h : hRn P n) : hRn (sTw st V P p a c).2 n := by
  simp only [sTw]
  split
  · exact hRn_0 h
  · split
    · exact hRn_0 h
    · exact h
theorem sTn_r {P : tV} {n p a c : Nat} {st : Int32} {V : tV} (h : hRn P n) : hRn (sTn st V P p a c).2 n := by
  simp only [sTn]
  split
  · exact sTw_r h
  · rename_i hs
    split
    · split
      · exact hRn_0 h
      · exact sTw_r (hRn_1 h hs)
    · exact sTw_r h
theorem sPs_r {P : tV} {n : Nat} {o st : Int32} {V : tV} (h : hRn P n) (m : Nat) : hRn (sPs o st V P m).2 n := by
  induction m with
  | zero => exact h
  | succ m ih =>
    unfold sPs
    split
    · exact sTn_r ih
    · exact ih
/-- a bench whose numbers stand: its areas and rates -/
def sNum (V P : tV) (nv np : Nat) : Prop := (∀ j, j < nv → 0 < (V j 0).toInt ∧ (V j 0).toInt ≤ 9) ∧ (∀ p, p < np → 0 ≤ (P p 4).toInt)
theorem i_add_small {a b : Int32} {l h : Int} (h1 : l ≤ a.toInt + b.toInt) (h2 : a.toInt + b.toInt ≤ h) (hl : -2147483648 ≤ l) (hh : h < 2147483648) : (a + b).toInt = a.toInt + b.toInt := by
  rw [Int32.toInt_add, Int.bmod_eq_of_le] <;> omega
theorem sPs_eq (o st : Int32) (S : Nat → Int32) (V P : tV) (nv np : Nat) (hE : sEnd S V P nv np) (hN : sNum V P nv np) (hR : hRn P np) : ∀ m, m ≤ np → sPs o st V P m = nPs o st V P m := by
  intro m
  induction m with
  | zero => intro _; rfl
  | succ m ih =>
    intro hm
    have ih' := ih (by omega)
    unfold sPs nPs
    rw [← ih']
    by_cases q : o >>> (nI m &&& 31) &&& 1 = 0
    · rw [if_pos q, if_pos q]
      obtain ⟨a, c, h1, h2, h3, h4, -⟩ := hE.2.2.2.2 m (by omega)
      have hk := sPs_k o st V P m
      have h5 := hE.2.2.1
      rw [h1, h2, nI_clamp (by omega), nI_clamp (by omega)]
      refine sTn_eq _ _ m a c st ?_ ?_ (sPs_r hR m m (by omega))
      · rw [hk.1 a 0 (by decide), hk.1 c 0 (by decide)]
        have q1 := hN.1 a h3
        have q2 := hN.1 c h4
        rw [i_add_small (l := 0) (h := 18) (by omega) (by omega) (by omega) (by omega)]
        omega
      · rw [hk.2 m 4 (by decide)]
        exact hN.2 m (by omega)
    · rw [if_neg q, if_neg q]
