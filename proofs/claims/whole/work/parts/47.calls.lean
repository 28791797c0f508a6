/-! the calls that change the bench; image, on; letter; count -/
theorem K2 (X : Nat × (Nat → Int32) × Value) (t : Nat) (M : zM) (G : zG) (x y z : Int32) (i : Inv t M) : okI X 75 167 [vI x, vI y, vI z] (t + 1) M G := by
  refine K_mu X t M G 75 167 4 160 [vI x, vI y, vI z] [vI x, vI y, vI z] [vI x, vI y, vI z] i (fun nv np s => mu_vessel X 0 x y z (s.2.2.2.2.2.2.1) (s.2.2.2.2.2.2.2.1) (s.2.2.2.2.2.2.2.2.2.1)) (fun M M' G r h2 e1 e2 => ?_) (fun M M' G r h2 e1 e2 => ?_)
  · simp only [E75, e75_0, e75_1, e75_2, e75_5, e75_6, e75_7, e75_8, e75_11, e75_14, zt0, zt1, zn3, not_false_eq_true, toListS, toListN, zk_some, zpi, if_true, if_false, i10, e1, e2]
  · simp only [E167, e167_0, e167_1, e167_2, e167_3, e167_4, e167_5, e167_8, e167_11, zt0, zt1, zn3, not_false_eq_true, toListS, toListN, zk_some, zpi, if_true, if_false, i10, e1, e2]
theorem K3 (X : Nat × (Nat → Int32) × Value) (t : Nat) (M : zM) (G : zG) (x y m n r : Int32) (i : Inv t M) : okI X 76 168 [vI x, vI y, vI m, vI n, vI r] (t + 1) M G := by
  refine K_mu X t M G 76 168 5 162 [vI x, vI y, vI m, vI n, vI r] [vI x, vI y, vI m, vI n, vI r] [vI x, vI y, vI m, vI n, vI r] i (fun nv np s => mu_pipe X 0 x y m n r (s.2.2.2.2.2.2.1) (s.2.2.2.2.2.2.2.1) (s.2.2.2.2.2.2.2.2.2.1)) (fun M M' G r h2 e1 e2 => ?_) (fun M M' G r h2 e1 e2 => ?_)
  · simp only [E76, e76_0, e76_1, e76_2, e76_5, e76_6, e76_7, e76_8, e76_10, e76_12, e76_15, e76_18, zt0, zt1, zn3, not_false_eq_true, toListS, toListN, zk_some, zpi, if_true, if_false, i10, e1, e2]
  · simp only [E168, e168_0, e168_1, e168_2, e168_3, e168_4, e168_5, e168_7, e168_9, e168_12, e168_15, zt0, zt1, zn3, not_false_eq_true, toListS, toListN, zk_some, zpi, if_true, if_false, i10, e1, e2]
theorem K4 (X : Nat × (Nat → Int32) × Value) (t : Nat) (M : zM) (G : zG) (x k f : Int32) (i : Inv t M) : okI X 77 169 [vI x, vI k, vI f] (t + 1) M G := by
  refine K_mu X t M G 77 169 7 163 [vI x, vI k, vI f] [vI x, vI k, vI f] [vI x, vI k, vI f] i (fun nv np s => mu_kind X 0 x k f (s.2.2.2.2.2.2.1) (s.2.2.2.2.2.2.2.1) (s.2.2.2.2.2.2.2.2.2.1)) (fun M M' G r h2 e1 e2 => ?_) (fun M M' G r h2 e1 e2 => ?_)
  · simp only [E77, e77_0, e77_1, e77_2, e77_5, e77_6, e77_7, e77_8, e77_11, e77_14, zt0, zt1, zn3, not_false_eq_true, toListS, toListN, zk_some, zpi, if_true, if_false, i10, e1, e2]
  · simp only [E169, e169_0, e169_1, e169_2, e169_3, e169_4, e169_5, e169_8, e169_11, zt0, zt1, zn3, not_false_eq_true, toListS, toListN, zk_some, zpi, if_true, if_false, i10, e1, e2]
theorem K6 (X : Nat × (Nat → Int32) × Value) (t : Nat) (M : zM) (G : zG) (x n : Int32) (i : Inv t M) : okI X 79 171 [vI x, vI n] (t + 1) M G := by
  refine K_mu X t M G 79 171 8 164 [vI x, vI n] [vI x, vI n] [vI x, vI 3, vI n] i (fun nv np s => mu_water X 0 x n (s.2.2.2.2.2.2.1) (s.2.2.2.2.2.2.2.1) (s.2.2.2.2.2.2.2.2.2.1)) (fun M M' G r h2 e1 e2 => ?_) (fun M M' G r h2 e1 e2 => ?_)
  · simp only [E79, e79_0, e79_1, e79_2, e79_5, e79_6, e79_7, e79_10, e79_13, zt0, zt1, zn3, not_false_eq_true, toListS, toListN, zk_some, zpi, if_true, if_false, i10, e1, e2]
  · simp only [E171, e171_0, e171_1, e171_2, e171_3, e171_4, e171_5, e171_8, e171_11, zt0, zt1, zn3, not_false_eq_true, toListS, toListN, zk_some, zpi, if_true, if_false, i10, e1, e2]
theorem K7 (X : Nat × (Nat → Int32) × Value) (t : Nat) (M : zM) (G : zG) (x n : Int32) (i : Inv t M) : okI X 80 172 [vI x, vI n] (t + 1) M G := by
  refine K_mu X t M G 80 172 9 164 [vI x, vI n] [vI x, vI n] [vI x, vI 4, vI n] i (fun nv np s => mu_tap X 0 x n (s.2.2.2.2.2.2.1) (s.2.2.2.2.2.2.2.1) (s.2.2.2.2.2.2.2.2.2.1)) (fun M M' G r h2 e1 e2 => ?_) (fun M M' G r h2 e1 e2 => ?_)
  · simp only [E80, e80_0, e80_1, e80_2, e80_5, e80_6, e80_7, e80_10, e80_13, zt0, zt1, zn3, not_false_eq_true, toListS, toListN, zk_some, zpi, if_true, if_false, i10, e1, e2]
  · simp only [E172, e172_0, e172_1, e172_2, e172_3, e172_4, e172_5, e172_8, e172_11, zt0, zt1, zn3, not_false_eq_true, toListS, toListN, zk_some, zpi, if_true, if_false, i10, e1, e2]
theorem K8 (X : Nat × (Nat → Int32) × Value) (t : Nat) (M : zM) (G : zG) (x : Int32) (i : Inv t M) : okI X 81 173 [vI x] (t + 1) M G := by
  refine K_mu X t M G 81 173 10 165 [vI x] [vI x] [vI x] i (fun nv np s => mu_pass X 0 x (s.2.2.2.2.2.2.1) (s.2.2.2.2.2.2.2.1) (s.2.2.2.2.2.2.2.2.2.1) s.2.2.2.2.2.2.2.2.2.2.2.2) (fun M M' G r h2 e1 e2 => ?_) (fun M M' G r h2 e1 e2 => ?_)
  · simp only [E81, e81_0, e81_1, e81_2, e81_5, e81_6, e81_9, e81_12, zt0, zt1, zn3, not_false_eq_true, toListS, toListN, zk_some, zpi, if_true, if_false, i10, e1, e2]
  · simp only [E173, e173_0, e173_1, e173_2, e173_3, e173_6, e173_9, zt0, zt1, zn3, not_false_eq_true, toListS, toListN, zk_some, zpi, if_true, if_false, i10, e1, e2]
theorem K5 (X : Nat × (Nat → Int32) × Value) (t : Nat) (M : zM) (G : zG) (x n : Int32) (i : Inv t M) : okI X 78 170 [vI x, vI n] t M G := by
  obtain ⟨nv, np, s⟩ := ST_of i
  have s' := s
  obtain ⟨n5, n8, e2, e3, m0, m1, v, o6, f5, a, vc, ac, vm⟩ := s'
  rcases isx_c (n := np) x (by omega) with ⟨h, -⟩ | ⟨p, hp, rfl, h⟩
  · refine ⟨-1, rfs M 1, G, rfm (rfs M 1) 1, G, ?_, ?_, Inv_rf i⟩
    · simp only [E78, e78_0, e78_1, e78_4, e78_5, e78_8, e78_11, e78_12, e78_13, e78_16, e78_17, e78_18, e78_19, e78_21, e78_24, e78_25, e78_26, e78_29, e78_30, e78_31, e78_34, e78_35, e78_36, e78_39, e78_42, e78_43, e78_44, e78_47, e78_49, e78_50, e78_53, e78_56, e78_57, e78_58, e78_59, e78_62, e78_64, zt0, zt1, zn3, not_false_eq_true, toListS, toListN, zk_some, zpi, if_true, if_false, i10, C3x X _ M G np e3 n8, h, C114_1, q_lt_m1_0, q_le_m1_0, q_eq_m1_0]
    · simp only [E170, e170_0, e170_1, e170_2, e170_5, e170_8, e170_9, e170_10, e170_12, e170_15, e170_18, e170_19, e170_20, e170_21, e170_24, e170_25, e170_26, e170_29, e170_30, e170_31, e170_34, e170_35, e170_38, e170_40, e170_41, e170_42, e170_44, e170_45, e170_48, e170_49, e170_52, e170_54, e170_55, e170_56, e170_57, e170_59, zt0, zt1, zn3, not_false_eq_true, toListS, toListN, zk_some, zpi, if_true, if_false, i10, C133 X _ _ G _ np (show rfs M 1 (20, 0, 0) 1 = nI np from m1) (by omega), h, C129_1, q_lt_m1_0, q_le_m1_0, q_eq_m1_0]
  · have hp8 : p < 8 := by omega
    rcases wrg_c n 1 9 (by decide) with ⟨q, -⟩ | ⟨q, -⟩ | ⟨q, -, k, hk1, hk, rfl⟩
    · have q : wrg n 1 9 = -4 := q
      refine ⟨-4, rfs M 4, G, rfm (rfs M 4) 4, G, ?_, ?_, Inv_rf i⟩
      · simp only [E78, e78_0, e78_1, e78_4, e78_5, e78_8, e78_11, e78_12, e78_13, e78_16, e78_17, e78_18, e78_19, e78_21, e78_24, e78_25, e78_26, e78_29, e78_30, e78_31, e78_34, e78_35, e78_36, e78_39, e78_42, e78_43, e78_44, e78_47, e78_49, e78_50, e78_53, e78_56, e78_57, e78_58, e78_59, e78_62, e78_64, zt0, zt1, zn3, not_false_eq_true, toListS, toListN, zk_some, zpi, if_true, if_false, i10, C3x X _ M G np e3 n8, h, C118, q, j_1, k_1, j_9, k_9, C114_4, q_lt_m4_0, q_le_m4_0, q_eq_m4_0]
      · simp only [E170, e170_0, e170_1, e170_2, e170_5, e170_8, e170_9, e170_10, e170_12, e170_15, e170_18, e170_19, e170_20, e170_21, e170_24, e170_25, e170_26, e170_29, e170_30, e170_31, e170_34, e170_35, e170_38, e170_40, e170_41, e170_42, e170_44, e170_45, e170_48, e170_49, e170_52, e170_54, e170_55, e170_56, e170_57, e170_59, zt0, zt1, zn3, not_false_eq_true, toListS, toListN, zk_some, zpi, if_true, if_false, i10, C133 X _ _ G _ np (show rfs M 4 (20, 0, 0) 1 = nI np from m1) (by omega), h, C136, q, j_1, k_1, j_9, k_9, C129_4, q_lt_m4_0, q_le_m4_0, q_eq_m4_0]
    · have q : wrg n 1 9 = -6 := q
      refine ⟨-6, rfs M 6, G, rfm (rfs M 6) 6, G, ?_, ?_, Inv_rf i⟩
      · simp only [E78, e78_0, e78_1, e78_4, e78_5, e78_8, e78_11, e78_12, e78_13, e78_16, e78_17, e78_18, e78_19, e78_21, e78_24, e78_25, e78_26, e78_29, e78_30, e78_31, e78_34, e78_35, e78_36, e78_39, e78_42, e78_43, e78_44, e78_47, e78_49, e78_50, e78_53, e78_56, e78_57, e78_58, e78_59, e78_62, e78_64, zt0, zt1, zn3, not_false_eq_true, toListS, toListN, zk_some, zpi, if_true, if_false, i10, C3x X _ M G np e3 n8, h, C118, q, j_1, k_1, j_9, k_9, C114_6, q_lt_m6_0, q_le_m6_0, q_eq_m6_0]
      · simp only [E170, e170_0, e170_1, e170_2, e170_5, e170_8, e170_9, e170_10, e170_12, e170_15, e170_18, e170_19, e170_20, e170_21, e170_24, e170_25, e170_26, e170_29, e170_30, e170_31, e170_34, e170_35, e170_38, e170_40, e170_41, e170_42, e170_44, e170_45, e170_48, e170_49, e170_52, e170_54, e170_55, e170_56, e170_57, e170_59, zt0, zt1, zn3, not_false_eq_true, toListS, toListN, zk_some, zpi, if_true, if_false, i10, C133 X _ _ G _ np (show rfs M 6 (20, 0, 0) 1 = nI np from m1) (by omega), h, C136, q, j_1, k_1, j_9, k_9, C129_6, q_lt_m6_0, q_le_m6_0, q_eq_m6_0]
    · have q : wrg (nI k) 1 9 = 0 := q
      have c1 : u2 M (3, 0, p) 4 (nI k) = cb M 0 (M (0, 0, 0), vw M 0, uV (pw M 0) p 4 (nI k)) := by
        have := cm_uP (M := M) (b := 0) (S := M (0, 0, 0)) (V := vw M 0) (P := pw M 0) (j := p) (f := 4) (x := nI k)
        rw [show cm M 0 (M (0, 0, 0)) (vw M 0) (pw M 0) = M from cm_self] at this
        exact this
      have m1' : u2 (u2 M (3, 0, p) 4 (nI k)) (20, 0, 0) (29 + 8 * p + 6) (nI k) = mb (u2 M (3, 0, p) 4 (nI k)) ((bm M).1, (bm M).2.1, uV (bm M).2.2 p 4 (nI k)) (M (7, 0, 0)) := by
        have := mm_uP (M := u2 M (3, 0, p) 4 (nI k)) (S := (bm M).1) (V := (bm M).2.1) (P := (bm M).2.2) (R := M (7, 0, 0)) (p := p) (g := 6) (x := nI k) hp8 (by decide)
        rw [show mm (u2 M (3, 0, p) 4 (nI k)) (bm M).1 (bm M).2.1 (bm M).2.2 (M (7, 0, 0)) = u2 M (3, 0, p) 4 (nI k) from mbs (u2 M (3, 0, p) 4 (nI k))] at this
        exact this
      have r4 : M (20, 0, 0) (29 + 8 * p + 6) = M (3, 0, p) 4 := rP s hp (g := 6) (by decide)
      have r4' : u2 M (3, 0, p) 4 (nI k) (20, 0, 0) (29 + 8 * p + 6) = M (3, 0, p) 4 := r4
      have m1x : u2 M (3, 0, p) 4 (nI k) (20, 0, 0) 1 = nI np := m1
      refine ⟨M (3, 0, p) 4, u2 M (3, 0, p) 4 (nI k), G, u2 (u2 M (3, 0, p) 4 (nI k)) (20, 0, 0) (29 + 8 * p + 6) (nI k), G, ?_, ?_, ?_⟩
      · simp only [E78, e78_0, e78_1, e78_4, e78_5, e78_8, e78_11, e78_12, e78_13, e78_16, e78_17, e78_18, e78_19, e78_21, e78_24, e78_25, e78_26, e78_29, e78_30, e78_31, e78_34, e78_35, e78_36, e78_39, e78_42, e78_43, e78_44, e78_47, e78_49, e78_50, e78_53, e78_56, e78_57, e78_58, e78_59, e78_62, e78_64, zt0, zt1, zn3, not_false_eq_true, toListS, toListN, zk_some, zpi, if_true, if_false, i10, C3x X _ M G np e3 n8, h, C118, q, j_1, k_1, j_9, k_9, z8 hp8, cl8 hp8]
      · simp only [E170, e170_0, e170_1, e170_2, e170_5, e170_8, e170_9, e170_10, e170_12, e170_15, e170_18, e170_19, e170_20, e170_21, e170_24, e170_25, e170_26, e170_29, e170_30, e170_31, e170_34, e170_35, e170_38, e170_40, e170_41, e170_42, e170_44, e170_45, e170_48, e170_49, e170_52, e170_54, e170_55, e170_56, e170_57, e170_59, zt0, zt1, zn3, not_false_eq_true, toListS, toListN, zk_some, zpi, if_true, if_false, i10, C133 X _ _ G _ np m1x (by omega), h, C136, q, j_1, k_1, j_9, k_9, C135, niP, ni6, wP hp8 (show 6 < 8 by decide), cP hp8 (show 6 < 8 by decide), r4']
      · obtain ⟨-, -, n', -, -, -, -, en, q2⟩ := i.1
        rw [m1', c1]
        refine Inv_mut i (nv' := nv) (np' := np) ?_ o6 ?_ rfl f5 rfl t (Nat.le_refl _) n' en q2
        · obtain ⟨⟨v1, v2, v3, v4, v5, v6⟩, v7, v8, v9⟩ := v
          refine ⟨⟨v1, v2, v3, v4, v5, fun r hr => ?_⟩, v7, fun r hr => ?_, v9⟩
          · show vP (vw M 0) (uV (pw M 0) p 4 (nI k)) nv r
            have w0 : vP (vw M 0) (pw M 0) nv r := v6 r hr
            obtain ⟨a1, c1, s1, s2, s3, s4, s5, s6, s7, s8, s9, s10, s11, s12, s13⟩ := w0
            refine ⟨a1, c1, (uV_f (by decide)).trans s1, (uV_f (by decide)).trans s2, s3, s4, s5, ?_, ?_, ?_, ?_, ?_, ?_, ?_, ?_⟩
            · rw [uV_f (by decide)]; exact s6
            · rw [uV_f (by decide)]; exact s7
            · by_cases e : r = p
              · subst e; rw [uV_s, nI_int (by omega)]; omega
              · rw [uV_j e]; exact s8
            · by_cases e : r = p
              · subst e; rw [uV_s, nI_int (by omega)]; omega
              · rw [uV_j e]; exact s9
            · rw [uV_f (by decide)]; exact s10
            · rw [uV_f (by decide)]; exact s11
            · rw [uV_f (by decide)]; exact s12
            · rw [uV_f (by decide)]; exact s13
          · show uV (pw M 0) p 4 (nI k) r 7 = 0 ∨ (uV (pw M 0) p 4 (nI k) r 7 = 1 ∧ ¬ sSi (uV (pw M 0) p 4 (nI k)) r = 0)
            rw [uV_f (by decide), sSi_c (P := pw M 0) (uV_f (by decide))]
            exact v8 r hr
        · exact ⟨a.1, a.2.1, agP_u a.2.2 rfl⟩
