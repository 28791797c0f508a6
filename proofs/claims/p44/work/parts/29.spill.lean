/-! OVER THE RIMS -/
theorem i_or_ne {x y : Int32} (h : y ≠ 0) : x ||| y ≠ 0 := fun e => h (Int32.or_eq_zero_iff.mp e).2
theorem i_bit_ne {j : Nat} (h : j < 5) : (1 : Int32) <<< (nI j &&& 31) ≠ 0 := by
  rcases (show j = 0 ∨ j = 1 ∨ j = 2 ∨ j = 3 ∨ j = 4 by omega) with rfl | rfl | rfl | rfl | rfl <;> decide
theorem i_K : ∃ K : Int32, (2000000000 : Int32) = K ∧ K.toInt = 2000000000 := ⟨_, rfl, by decide⟩
def vS (S0 : Nat → Int32) (W : tV) (nv i : Nat) (S : Nat → Int32) (V : tV) : Prop :=
  (∀ j f, f ≠ 3 → V j f = W j f) ∧ (∀ j, j < nv → wat V j = if j < i then min (wat W j) (brim W j) else wat W j) ∧ 0 ≤ (S 7).toInt ∧ tot V nv + (S 7).toInt = tot W nv ∧ (S 4).toInt = min 2000000000 ((S0 4).toInt + (S 7).toInt) ∧ (S 8 = 0 ↔ S 7 = 0)
theorem sSs_v {S : Nat → Int32} {W : tV} {nv : Nat} {T : Int} (h5 : nv ≤ 5) (hV : ∀ j, j < nv → vV W j) (hT : T ≤ 1395) (hw : vT W nv T) (h7 : S 7 = 0) (h8 : S 8 = 0) (h40 : 0 ≤ (S 4).toInt) (h42 : (S 4).toInt ≤ 2000000000) : ∀ i, i ≤ nv → vS S W nv i (sSs S W i).1 (sSs S W i).2 := by
  intro i
  induction i with
  | zero =>
    intro _
    refine ⟨fun _ _ _ => rfl, fun j _ => by rw [if_neg (by omega)]; rfl, ?_, ?_, ?_, ?_⟩
    · show 0 ≤ (S 7).toInt
      rw [h7]; decide
    · show tot W nv + (S 7).toInt = tot W nv
      rw [h7]; simp
    · show (S 4).toInt = min 2000000000 ((S 4).toInt + (S 7).toInt)
      rw [h7]; simp; omega
    · show S 8 = 0 ↔ S 7 = 0
      rw [h7, h8]
  | succ i ih =>
    intro hi
    have ih' := ih (by omega)
    generalize hS : (sSs S W i).1 = S1 at ih'
    generalize hW : (sSs S W i).2 = V1 at ih'
    obtain ⟨k, w, l0, lt, s4, b⟩ := ih'
    have vi : vV V1 i := vV_c (k i) (hV i (by omega))
    have q := brim_v vi
    have eb := sBr_v vi
    have ebW : brim V1 i = brim W i := by unfold brim; rw [k i 0 (by decide), k i 2 (by decide)]
    have wi := w i (by omega)
    rw [if_neg (by omega)] at wi
    have w0 := hw.1 i (by omega)
    have wl := tot_le hw.1 i (by omega)
    rw [hw.2] at wl
    have ea : (sAb V1 i).toInt = wat V1 i - brim V1 i := by
      unfold sAb
      rw [i_sub_s (by rw [eb]; unfold wat at *; omega) (by rw [eb]; unfold wat at *; omega), eb]
      rfl
    have t0 : 0 ≤ tot V1 nv := tot_nn fun j hj => by
      rw [w j hj]
      have q1 := brim_v (hV j hj)
      have q2 := hw.1 j hj
      split <;> omega
    have c : (nI i).toNatClampNeg = i := nI_clamp (by omega)
    obtain ⟨K, hK, e2⟩ := i_K
    unfold sSs
    rw [hS, hW]
    show vS S W nv (i + 1) (spS S1 V1 (nI i)) (spV V1 i)
    unfold spS spV
    rw [c, hK]
    by_cases h : 0 < sAb V1 i
    · rw [if_pos h, if_pos h]
      have h' := i_lt.mp h
      rw [ea, show (0 : Int32).toInt = 0 from rfl] at h'
      have ev : (V1 i 3 - sAb V1 i).toInt = brim V1 i := by
        rw [i_sub_s (by rw [ea]; unfold wat at *; omega) (by rw [ea]; unfold wat at *; omega), ea]
        unfold wat; omega
      have e7 : (S1 7 + sAb V1 i).toInt = (S1 7).toInt + (wat V1 i - brim V1 i) := by
        rw [i_add_s (by omega) (by have := hw.2; omega), ea]
      have f7 : uS (uS (uS S1 7 (S1 7 + sAb V1 i)) 8 (S1 8 ||| 1 <<< (nI i &&& 31))) 4 (imin (K - sAb V1 i) (S1 4) + sAb V1 i) 7 = S1 7 + sAb V1 i := rfl
      have f8 : uS (uS (uS S1 7 (S1 7 + sAb V1 i)) 8 (S1 8 ||| 1 <<< (nI i &&& 31))) 4 (imin (K - sAb V1 i) (S1 4) + sAb V1 i) 8 = S1 8 ||| 1 <<< (nI i &&& 31) := rfl
      have f4 : uS (uS (uS S1 7 (S1 7 + sAb V1 i)) 8 (S1 8 ||| 1 <<< (nI i &&& 31))) 4 (imin (K - sAb V1 i) (S1 4) + sAb V1 i) 4 = imin (K - sAb V1 i) (S1 4) + sAb V1 i := rfl
      have es : (K - sAb V1 i).toInt = 2000000000 - (wat V1 i - brim V1 i) := by
        rw [i_sub_s (by omega) (by omega), ea, e2]
      have e4 : (imin (K - sAb V1 i) (S1 4) + sAb V1 i).toInt = min (2000000000 - (wat V1 i - brim V1 i)) (S1 4).toInt + (wat V1 i - brim V1 i) := by
        have em := i_imin (K - sAb V1 i) (S1 4)
        rw [es] at em
        rw [i_add_s (by omega) (by omega), em, ea]
      refine ⟨fun j f hf => (uV_f hf).trans (k j f hf), fun j hj => ?_, ?_, ?_, ?_, ?_⟩
      · rw [wat_u]
        by_cases e : j = i
        · subst e
          rw [if_pos rfl, if_pos (by omega), ev, ← ebW]
          omega
        · rw [if_neg e, w j hj]
          by_cases e1 : j < i
          · rw [if_pos e1, if_pos (by omega)]
          · rw [if_neg e1, if_neg (by omega)]
      · rw [f7, e7]; omega
      · rw [f7, e7, tot_u (by omega), ev]; omega
      · rw [f7, f4, e7, e4, s4]; omega
      · rw [f7, f8]
        refine ⟨fun e => absurd e (i_or_ne (i_bit_ne (by omega))), fun e => ?_⟩
        rw [e] at e7
        rw [show (0 : Int32).toInt = 0 from rfl] at e7
        omega
    · rw [if_neg h, if_neg h]
      have h' : (sAb V1 i).toInt ≤ 0 := by rw [i_lt, show (0 : Int32).toInt = 0 from rfl] at h; omega
      rw [ea] at h'
      refine ⟨k, fun j hj => ?_, l0, lt, s4, b⟩
      rw [w j hj]
      by_cases e : j = i
      · subst e
        rw [if_neg (by omega), if_pos (by omega)]
        omega
      · by_cases e1 : j < i
        · rw [if_pos e1, if_pos (by omega)]
        · rw [if_neg e1, if_neg (by omega)]
theorem uS_same {S : Nat → Int32} {f : Nat} {x : Int32} (h : S f = x) : uS S f x = S := by
  funext g
  unfold uS
  split
  · rename_i e; rw [e, h]
  · rfl
/-- the model's way over the rims -/
theorem nSs_eq {S S' : Nat → Int32} {W : tV} {nv : Nat} {T : Int} (h5 : nv ≤ 5) (hV : ∀ j, j < nv → vV W j) (hT : T ≤ 1395) (hw : vT W nv T) (h7 : S 7 = 0) (h8 : S 8 = 0) (h40 : 0 ≤ (S 4).toInt) (h42 : (S 4).toInt ≤ 2000000000) (h4 : S' 4 = S 4) : ∀ i, i ≤ nv → (nSs S' W 0 i).1 4 = (sSs S W i).1 4 ∧ (nSs S' W 0 i).2.1 = (sSs S W i).2 ∧ (nSs S' W 0 i).2.2 = (sSs S W i).1 8 := by
  intro i
  induction i with
  | zero => intro _; exact ⟨h4, rfl, h8.symm⟩
  | succ i ih =>
    intro hi
    obtain ⟨i4, iV, i8⟩ := ih (by omega)
    have inv := sSs_v h5 hV hT hw h7 h8 h40 h42 i (by omega)
    unfold nSs sSs
    dsimp only
    rw [iV, i4, i8]
    generalize (sSs S W i).1 = S1 at *
    generalize (sSs S W i).2 = V1 at *
    obtain ⟨k, w, l0, lt, s4, b⟩ := inv
    have vi : vV V1 i := vV_c (k i) (hV i (by omega))
    have q := brim_v vi
    have eb := sBr_v vi
    have wi := w i (by omega)
    rw [if_neg (by omega)] at wi
    have w0 := hw.1 i (by omega)
    have wl := tot_le hw.1 i (by omega)
    rw [hw.2] at wl
    have ea : (sAb V1 i).toInt = wat V1 i - brim V1 i := by
      unfold sAb
      rw [i_sub_s (by rw [eb]; unfold wat at *; omega) (by rw [eb]; unfold wat at *; omega), eb]
      rfl
    have c : (nI i).toNatClampNeg = i := nI_clamp (by omega)
    obtain ⟨K, hK, e2⟩ := i_K
    have emo : nMo V1 i = imax 0 (sAb V1 i) := rfl
    have t0 : 0 ≤ tot V1 nv := tot_nn fun j hj => by
      rw [w j hj]
      have q1 := brim_v (hV j hj)
      have q2 := hw.1 j hj
      split <;> omega
    have t2 := hw.2
    unfold spS spV
    rw [c, emo, hK]
    by_cases h : 0 < sAb V1 i
    · have h' := i_lt.mp h
      rw [ea, show (0 : Int32).toInt = 0 from rfl] at h'
      have em : imax 0 (sAb V1 i) = sAb V1 i := if_pos h
      have en : ¬ sAb V1 i ≤ 0 := by rw [i_le]; rw [i_lt] at h; omega
      have es : (K - sAb V1 i).toInt = 2000000000 - (wat V1 i - brim V1 i) := by
        rw [i_sub_s (by omega) (by omega), ea, e2]
      rw [if_pos h, if_pos h, em, if_neg en]
      refine ⟨?_, rfl, rfl⟩
      rw [uS_s, uS_s]
      by_cases q1 : S1 4 ≤ K - sAb V1 i
      · rw [if_pos q1]
        have : imin (K - sAb V1 i) (S1 4) = S1 4 := by
          apply i_ext
          rw [i_imin]
          rw [i_le] at q1
          omega
        rw [this]
      · rw [if_neg q1]
        apply i_ext
        have ei := i_imin (K - sAb V1 i) (S1 4)
        rw [i_le] at q1
        rw [es] at q1 ei
        rw [i_add_s (by omega) (by omega), ei, ea, e2]
        omega
    · have em : imax 0 (sAb V1 i) = 0 := if_neg h
      have h9 : S1 4 ≤ K - 0 := by
        rw [i_le, Int32.sub_zero, e2]
        omega
      rw [if_neg h, if_neg h, em, if_pos h9, if_pos (show (0 : Int32) ≤ 0 by decide)]
      refine ⟨?_, uV_no _ _ _ _ (by simp), ?_⟩
      · rw [uS_s]; simp
      · simp
/-! THE STEP: that it is the model's, and keeps what stands -/
theorem sStp_n {S : Nat → Int32} {V P : tV} {nv np : Nat} (h : vB S V P nv np) : ∃ T, T ≤ 1395 ∧ vT (sPs (S 6) (S 5) (tpV V nv) P np).1 nv T ∧ vC S (sPs (S 6) (S 5) (tpV V nv) P np).1 (sPs (S 6) (S 5) (tpV V nv) P np).2 nv np ∧ hRn (sPs (S 6) (S 5) (tpV V nv) P np).2 np := by
  obtain ⟨hc, hw, hr, s1, s2, s3, s4⟩ := h
  obtain ⟨T, T1, T0, hT⟩ := tpV_t hc.2.2.1 hc.2.2.2.2.1 hw
  have ct : vC S (tpV V nv) P nv np := vC_c rfl rfl (fun j f hf => if_neg fun e => hf e.1) (fun _ _ _ => rfl) hc
  have hk := sPs_k (S 6) (S 5) (tpV V nv) P np
  exact ⟨T, T1, sPs_t ct T1 hT np (Nat.le_refl _), vC_c rfl rfl hk.1 hk.2 ct, sPs_r hr np⟩
theorem sStp_v {S : Nat → Int32} {V P : tV} {nv np : Nat} (h : vB S V P nv np) : vB (sStp S V P nv np).1 (sStp S V P nv np).2.1 (sStp S V P nv np).2.2 nv np ∧ 0 ≤ ((sStp S V P nv np).1 7).toInt ∧ ((sStp S V P nv np).1 7).toInt ≤ 1395 ∧ ((sStp S V P nv np).1 4).toInt = min 2000000000 ((S 4).toInt + ((sStp S V P nv np).1 7).toInt) ∧ ((sStp S V P nv np).1 8 = 0 ↔ (sStp S V P nv np).1 7 = 0) := by
  obtain ⟨T, T1, hT, hc, hr⟩ := sStp_n h
  obtain ⟨-, -, -, s1, s2, s3, s4⟩ := h
  have z := sSs_v (S := uS (uS S 7 0) 8 0) hc.2.2.1 hc.2.2.2.2.1 T1 hT rfl rfl s1 s2 nv (Nat.le_refl _)
  have k5 := sSs_k (uS (uS S 7 0) 8 0) (sPs (S 6) (S 5) (tpV V nv) P np).1 nv
  unfold sStp
  dsimp only
  generalize (sSs (uS (uS S 7 0) 8 0) (sPs (S 6) (S 5) (tpV V nv) P np).1 nv).1 = S1 at *
  generalize (sSs (uS (uS S 7 0) 8 0) (sPs (S 6) (S 5) (tpV V nv) P np).1 nv).2 = V1 at *
  generalize (sPs (S 6) (S 5) (tpV V nv) P np).1 = W at *
  generalize (sPs (S 6) (S 5) (tpV V nv) P np).2 = Q at *
  obtain ⟨k, w, l0, lt, z4, b⟩ := z
  have e4 : (uS (uS S 7 0) 8 0 4).toInt = (S 4).toInt := rfl
  have e5 : S1 5 = S 5 := k5 5 (by decide) (by decide) (by decide)
  have e2 : S1 2 = S 2 := k5 2 (by decide) (by decide) (by decide)
  have e3 : S1 3 = S 3 := k5 3 (by decide) (by decide) (by decide)
  rw [e4] at z4
  have t0 : 0 ≤ tot V1 nv := tot_nn fun j hj => by
    rw [w j hj]
    have q1 := brim_v (hc.2.2.2.2.1 j hj)
    have q2 := hT.1 j hj
    split <;> omega
  have tT := hT.2
  have hw : ∀ j, j < nv → 0 ≤ wat V1 j ∧ wat V1 j ≤ brim V1 j := fun j hj => by
    have eb : brim V1 j = brim W j := by unfold brim; rw [k j 0 (by decide), k j 2 (by decide)]
    have q1 := brim_v (hc.2.2.2.2.1 j hj)
    have q2 := hT.1 j hj
    rw [w j hj, if_pos hj, eb]
    omega
  have f (q : Nat) (hq : q ≠ 5) : (if 9999 ≤ S1 5 then S1 else uS S1 5 (S1 5 + 1)) q = S1 q := by
    split
    · rfl
    · exact uS_n hq
  have f5 : 0 ≤ ((if 9999 ≤ S1 5 then S1 else uS S1 5 (S1 5 + 1)) 5).toInt ∧ ((if 9999 ≤ S1 5 then S1 else uS S1 5 (S1 5 + 1)) 5).toInt ≤ 9999 := by
    split
    · rw [e5]; exact ⟨s3, s4⟩
    · rename_i q
      rw [uS_s, i_add_s (by rw [e5, show (1 : Int32).toInt = 1 from rfl]; omega) (by rw [e5, show (1 : Int32).toInt = 1 from rfl]; omega), e5, show (1 : Int32).toInt = 1 from rfl]
      rw [i_le, e5, show (9999 : Int32).toInt = 9999 from rfl] at q
      omega
  rw [f 7 (by decide), f 8 (by decide), f 4 (by decide)]
  refine ⟨⟨vC_c ((f 2 (by decide)).trans e2) ((f 3 (by decide)).trans e3) k (fun _ _ _ => rfl) hc, hw, hr, ?_, ?_, f5⟩, l0, by omega, z4, b⟩
  · rw [f 4 (by decide), z4]; omega
  · rw [f 4 (by decide), z4]; omega
theorem nStp_eq {S S' : Nat → Int32} {V P : tV} {o : Int32} {nv np : Nat} (h : vB S V P nv np) (ho : o = S 6) (h2 : ∀ f, f = 2 ∨ f = 3 ∨ f = 4 ∨ f = 5 → S' f = S f) : (∀ f, f = 2 ∨ f = 3 ∨ f = 4 ∨ f = 5 → (nStp S' V P o nv np).1 f = (sStp S V P nv np).1 f) ∧ (nStp S' V P o nv np).2.1 = (sStp S V P nv np).2.1 ∧ (nStp S' V P o nv np).2.2.1 = (sStp S V P nv np).2.2 ∧ (nStp S' V P o nv np).2.2.2 = (sStp S V P nv np).1 8 := by
  obtain ⟨T, T1, hT, hc, hr⟩ := sStp_n h
  obtain ⟨h0, hw, hr0, s1, s2, s3, s4⟩ := h
  have ct : vC S (tpV V nv) P nv np := vC_c rfl rfl (fun j f hf => if_neg fun e => hf e.1) (fun _ _ _ => rfl) h0
  have e := sPs_eq (S 6) (S 5) S (tpV V nv) P nv np (vC_end ct) (vC_num ct) hr0 np (Nat.le_refl _)
  have z := nSs_eq (S := uS (uS S 7 0) 8 0) (S' := S') hc.2.2.1 hc.2.2.2.2.1 T1 hT rfl rfl s1 s2 (h2 4 (by decide)) nv (Nat.le_refl _)
  have k5 := sSs_k (uS (uS S 7 0) 8 0) (sPs (S 6) (S 5) (tpV V nv) P np).1 nv
  have n5 := nSs_k S' (sPs (S 6) (S 5) (tpV V nv) P np).1 0 nv
  unfold nStp sStp
  dsimp only
  rw [ho, h2 5 (by decide), ← e]
  generalize sSs (uS (uS S 7 0) 8 0) (sPs (S 6) (S 5) (tpV V nv) P np).1 nv = Z at *
  generalize nSs S' (sPs (S 6) (S 5) (tpV V nv) P np).1 0 nv = N at *
  obtain ⟨z1, z2, z3⟩ := z
  have e5 : Z.1 5 = S 5 := k5 5 (by decide) (by decide) (by decide)
  have g5 : N.1 5 = S 5 := (n5 5 (by decide)).trans (h2 5 (by decide))
  have f (q : Nat) (hq : q ≠ 5) : (if 9999 ≤ Z.1 5 then Z.1 else uS Z.1 5 (Z.1 5 + 1)) q = Z.1 q := by
    split
    · rfl
    · exact uS_n hq
  refine ⟨fun q hq => ?_, z2, rfl, ?_⟩
  · rcases hq with rfl | rfl | rfl | rfl
    · rw [f 2 (by decide), uS_n (by decide), n5 2 (by decide), k5 2 (by decide) (by decide) (by decide)]
      exact h2 2 (by decide)
    · rw [f 3 (by decide), uS_n (by decide), n5 3 (by decide), k5 3 (by decide) (by decide) (by decide)]
      exact h2 3 (by decide)
    · rw [f 4 (by decide), uS_n (by decide), z1]
    · rw [uS_s, e5, g5]
      apply i_ext
      have e1 : (S 5 + 1).toInt = (S 5).toInt + 1 := i_add_s (by rw [show (1 : Int32).toInt = 1 from rfl]; omega) (by rw [show (1 : Int32).toInt = 1 from rfl]; omega)
      rw [i_imin, e1, show (9999 : Int32).toInt = 9999 from rfl]
      split
      · rename_i q
        rw [i_le, show (9999 : Int32).toInt = 9999 from rfl] at q
        rw [e5]
        omega
      · rename_i q
        rw [i_le, show (9999 : Int32).toInt = 9999 from rfl] at q
        rw [uS_s, e1]
        omega
  · rw [f 8 (by decide)]
    exact z3
