/-! reading, as the model does -/
/-- the model's reader: where, whether it failed, how many, the list -/
def mp (M : zM) (i e c : Int32) (P : Nat → Int32) : zM := fun k => if k = (7, 0, 0) then uS (uS (uS (M k) 9 i) 10 e) 13 c else if k = (26, 0, 0) then P else M k
theorem mp_9 {M : zM} {i e c : Int32} {P : Nat → Int32} : mp M i e c P (7, 0, 0) 9 = i := by
  unfold mp
  rw [if_pos rfl, uS_n (by decide), uS_n (by decide), uS_s]
theorem mp_10 {M : zM} {i e c : Int32} {P : Nat → Int32} : mp M i e c P (7, 0, 0) 10 = e := by
  unfold mp
  rw [if_pos rfl, uS_n (by decide), uS_s]
theorem mp_13 {M : zM} {i e c : Int32} {P : Nat → Int32} : mp M i e c P (7, 0, 0) 13 = c := by
  unfold mp
  rw [if_pos rfl, uS_s]
theorem mp_7 {M : zM} {i e c : Int32} {P : Nat → Int32} {f : Nat} (h : f ≠ 9 ∧ f ≠ 10 ∧ f ≠ 13) : mp M i e c P (7, 0, 0) f = M (7, 0, 0) f := by
  unfold mp
  rw [if_pos rfl, uS_n h.2.2, uS_n h.2.1, uS_n h.1]
theorem mp_26 {M : zM} {i e c : Int32} {P : Nat → Int32} : mp M i e c P (26, 0, 0) = P := by
  unfold mp
  rw [if_neg (by decide), if_pos rfl]
theorem mp_k {M : zM} {i e c : Int32} {P : Nat → Int32} {k : zK} (h1 : k ≠ (7, 0, 0)) (h2 : k ≠ (26, 0, 0)) : mp M i e c P k = M k := by
  unfold mp
  rw [if_neg h1, if_neg h2]
theorem mp_u9 {M : zM} {i e c : Int32} {P : Nat → Int32} {x : Int32} : u2 (mp M i e c P) (7, 0, 0) 9 x = mp M x e c P := by
  funext k f
  unfold u2 mp uS
  by_cases a : k = (7, 0, 0)
  · subst a
    by_cases b : f = 9
    · subst b; simp
    · simp [b]
  · simp [a]
theorem mp_u10 {M : zM} {i e c : Int32} {P : Nat → Int32} {x : Int32} : u2 (mp M i e c P) (7, 0, 0) 10 x = mp M i x c P := by
  funext k f
  unfold u2 mp uS
  by_cases a : k = (7, 0, 0)
  · subst a
    by_cases b : f = 10
    · subst b; simp
    · simp [b]
  · simp [a]
theorem mp_u13 {M : zM} {i e c : Int32} {P : Nat → Int32} {x : Int32} : u2 (mp M i e c P) (7, 0, 0) 13 x = mp M i e x P := by
  funext k f
  unfold u2 mp uS
  by_cases a : k = (7, 0, 0)
  · subst a
    by_cases b : f = 13
    · subst b; simp
    · simp [b]
  · simp [a]
theorem mp_uP {M : zM} {i e c : Int32} {P : Nat → Int32} {x : Int32} {m : Nat} : u2 (mp M i e c P) (26, 0, 0) m x = mp M i e c (uS P m x) := by
  funext k f
  unfold u2 mp uS
  by_cases a : k = (26, 0, 0)
  · subst a
    by_cases b : f = m
    · subst b; simp
    · simp [b]
  · by_cases c : k = (7, 0, 0)
    · subst c; simp
    · simp [a, c]
theorem mp_self {M : zM} : mp M (M (7, 0, 0) 9) (M (7, 0, 0) 10) (M (7, 0, 0) 13) (M (26, 0, 0)) = M := by
  funext k f
  unfold mp uS
  by_cases a : k = (7, 0, 0)
  · subst a
    by_cases b : f = 9
    · subst b; simp
    · by_cases c : f = 10
      · subst c; simp
      · by_cases d : f = 13
        · subst d; simp
        · simp [b, c, d]
  · by_cases c : k = (26, 0, 0)
    · subst c; simp
    · simp [a, c]
theorem C153 (X : Nat × (Nat → Int32) × Value) (d : Nat) (M : zM) (G : zG) (n i : Nat) (h8 : M (7, 0, 0) 8 = nI n) (hn : n ≤ 120) (hi : i ≤ n) (e c : Int32) (P : Nat → Int32) : zd X d 153 [vR (7, 0, 0)] (hh (mp M (nI i) e c P) G) = some (some (vI (lt (M (24, 0, 0)) n i)), hh (mp M (nI i) e c P) G) := by
  have m8 : mp M (nI i) e c P (7, 0, 0) 8 = nI n := (mp_7 (by decide)).trans h8
  have m24 : mp M (nI i) e c P (24, 0, 0) = M (24, 0, 0) := mp_k (by decide) (by decide)
  simp only [e153_0, e153_1, e153_4, e153_5, e153_8, E153, zt0, zt1, zn3, not_false_eq_true, toListS, toListN, zk_some, zpi, if_true, if_false, i10, mp_9, m8, nle (show n < 2 ^ 31 by omega) (show i < 2 ^ 31 by omega)]
  unfold lt
  by_cases q : i < n
  · refine Eq.trans (if_neg (by omega)) ?_
    rw [if_pos q]
    simp only [e153_11, e153_12, e153_15, e153_16, e153_19, e153_20, e153_23, e153_24, zt0, zt1, zn3, not_false_eq_true, toListS, toListN, zk_some, zpi, if_true, if_false, i10, mp_9, m24, zin_nI (show i < 120 by omega) (show 120 < 2 ^ 31 by decide), nI_clamp (show i < 2 ^ 31 by omega)]
  · refine Eq.trans (if_pos (by omega)) ?_
    rw [if_neg q]
    simp only [e153_23, e153_24, zt0, zt1, zn3, not_false_eq_true, toListS, toListN, zk_some, zpi, if_true, if_false, i10]
theorem C154 (X : Nat × (Nat → Int32) × Value) (d : Nat) (M : zM) (G : zG) (n i : Nat) (h8 : M (7, 0, 0) 8 = nI n) (hn : n ≤ 120) (hi : i ≤ n) (s c : Int32) (P : Nat → Int32) : zd X (d + 1) 154 [vR (7, 0, 0), vI s] (hh (mp M (nI i) 0 c P) G) = some (none, hh (if lt (M (24, 0, 0)) n i = s then mp M (nI (i + 1)) 0 c P else mp M (nI i) 1 c P) G) := by
  simp only [e154_0, e154_1, e154_2, e154_5, e154_8, e154_9, e154_12, e154_13, E154, zt0, zt1, zn3, not_false_eq_true, toListS, toListN, zk_some, zpi, if_true, if_false, i10, mp_10, C153 X d M G n i h8 hn hi]
  by_cases q : lt (M (24, 0, 0)) n i = s
  · rw [if_pos q, if_pos q]
    simp only [e154_20, e154_21, e154_24, e154_25, e154_26, e154_29, e154_30, e154_33, e154_36, e154_37, e154_40, e154_41, e154_42, e154_45, zt0, zt1, zn3, not_false_eq_true, toListS, toListN, zk_some, zpi, if_true, if_false, i10, mp_9, mp_10, mp_u10, mp_u9, nI_1, true_or]
  · rw [if_neg q, if_neg q]
    simp only [e154_16, e154_17, e154_20, e154_21, e154_24, e154_25, e154_26, e154_29, e154_30, e154_33, e154_36, e154_37, e154_40, e154_41, e154_42, e154_45, zt0, zt1, zn3, not_false_eq_true, toListS, toListN, zk_some, zpi, if_true, if_false, i10, mp_9, mp_10, mp_u10, mp_u9, nI_1, or_true, Int32.add_zero]
theorem C154e (X : Nat × (Nat → Int32) × Value) (d : Nat) (M : zM) (G : zG) (i s c : Int32) (P : Nat → Int32) : zd X (d + 1) 154 [vR (7, 0, 0), vI s] (hh (mp M i 1 c P) G) = some (none, hh (mp M i 1 c P) G) := by
  simp only [E154, e154_0, e154_1, e154_2, e154_5, e154_8, e154_9, e154_12, e154_13, e154_16, e154_17, e154_20, e154_21, e154_24, e154_25, e154_26, e154_29, e154_30, e154_33, e154_36, e154_37, e154_40, e154_41, e154_42, e154_45, zt0, zt1, zn3, not_false_eq_true, toListS, toListN, zk_some, zpi, if_true, if_false, i10, mp_9, mp_10, mp_u10, mp_u9, nI_1, or_true, Int32.add_zero]
theorem dg_inz (c : Int32) : inz c 48 57 = if dg c < 0 then 0 else 1 := by
  by_cases q : dg c < 0
  · rw [if_pos q]
    refine inz_n ?_
    rcases dg_n q with h | h
    · rw [i_lt, show (48 : Int32).toInt = 48 from rfl] at h; omega
    · rw [i_lt, show (57 : Int32).toInt = 57 from rfl] at h; omega
  · rw [if_neg q]
    obtain ⟨h1, h2, -⟩ := dg_d q
    rw [i_lt, show (48 : Int32).toInt = 48 from rfl] at h1
    rw [i_lt, show (57 : Int32).toInt = 57 from rfl] at h2
    exact inz_y (by omega)
theorem C155e (X : Nat × (Nat → Int32) × Value) (d : Nat) (M : zM) (G : zG) (i c : Int32) (P : Nat → Int32) : zd X (d + 2) 155 [vR (7, 0, 0)] (hh (mp M i 1 c P) G) = some (some (vI 0), hh (mp M i 1 c P) G) := by
  simp only [E155, e155_0, e155_1, e155_2, e155_5, e155_8, e155_9, e155_12, e155_13, e155_16, e155_19, e155_22, e155_25, e155_26, e155_29, e155_30, e155_33, e155_34, e155_35, e155_36, e155_37, e155_38, e155_39, e155_42, e155_43, e155_46, e155_49, e155_50, e155_53, e155_54, e155_57, e155_60, e155_63, e155_66, e155_68, e155_69, e155_70, e155_71, e155_74, e155_75, e155_77, e155_78, e155_79, e155_80, e155_81, e155_84, e155_85, e155_86, e155_89, e155_92, e155_95, e155_96, zt0, zt1, zn3, not_false_eq_true, toListS, toListN, zk_some, zpi, if_true, if_false, i10, mp_9, mp_10, mp_u10, or_true, show ¬ (2 : Int32) ≤ 0 by decide]
theorem C155 (X : Nat × (Nat → Int32) × Value) (d : Nat) (M : zM) (G : zG) (n i : Nat) (h8 : M (7, 0, 0) 8 = nI n) (hn : n ≤ 120) (hi : i ≤ n) (c : Int32) (P : Nat → Int32) : zd X (d + 2) 155 [vR (7, 0, 0)] (hh (mp M (nI i) 0 c P) G) = match num (lt (M (24, 0, 0)) n) i with
    | none => some (some (vI 0), hh (mp M (nI i) 1 c P) G)
    | some (v, j) => some (some (vI v), hh (mp M (nI j) 0 c P) G) := by
  have L48 : (48 : Int64).toInt = 48 := rfl
  have L57 : (57 : Int64).toInt = 57 := rfl
  unfold num
  simp only [e155_0, e155_1, e155_2, e155_5, e155_8, e155_9, e155_12, e155_13, e155_16, e155_19, e155_22, E155, zt0, zt1, zn3, not_false_eq_true, toListS, toListN, zk_some, zpi, if_true, if_false, i10, mp_10, C153 X _ M G n i h8 hn hi, C128, L48, L57, dg_inz]
  by_cases a : dg (lt (M (24, 0, 0)) n i) < 0
  · simp only [if_pos a]
    simp only [e155_25, e155_26, e155_29, e155_30, e155_33, e155_34, e155_35, e155_36, e155_37, e155_38, e155_39, e155_42, e155_43, e155_46, e155_49, e155_50, e155_53, e155_54, e155_57, e155_60, e155_63, e155_66, e155_68, e155_69, e155_70, e155_71, e155_74, e155_75, e155_77, e155_78, e155_79, e155_80, e155_81, e155_84, e155_85, e155_86, e155_89, e155_92, e155_95, e155_96, zt0, zt1, zn3, not_false_eq_true, toListS, toListN, zk_some, zpi, if_true, if_false, i10, mp_9, mp_10, mp_u10, or_true, show ¬ (2 : Int32) ≤ 0 by decide]
  · have il := dg_lt a
    obtain ⟨-, -, d1⟩ := dg_d a
    simp only [if_neg a, i10, if_false]
    simp only [e155_29, e155_30, e155_33, e155_34, e155_35, e155_36, e155_37, e155_38, e155_39, e155_42, e155_43, e155_46, e155_49, e155_50, e155_53, e155_54, e155_57, e155_60, e155_63, zt0, zt1, zn3, not_false_eq_true, toListS, toListN, zk_some, zpi, if_true, if_false, i10, mp_9, mp_10, mp_u10, true_or, show ¬ (2 : Int32) ≤ 0 by decide, C153 X _ M G n i h8 hn hi, C128, L48, L57, dg_inz, if_neg a]
    have e1 : 10 * (0 : Int32) + lt (M (24, 0, 0)) n i - 48 = dg (lt (M (24, 0, 0)) n i) := by
      rw [d1, show (10 : Int32) * 0 = 0 by decide, Int32.zero_add]
    simp only [e155_66, e155_68, e155_69, e155_70, e155_71, e155_74, e155_75, e155_77, e155_78, e155_79, e155_80, e155_81, e155_84, e155_85, e155_86, e155_89, e155_92, zt0, zt1, zn3, not_false_eq_true, toListS, toListN, zk_some, zpi, if_true, if_false, i10, mp_9, mp_10, mp_u9, C153 X _ M G n i h8 hn hi, nI_1, e1, show (0 : Int32) + 1 = 1 by decide]
    simp only [e155_37, e155_38, e155_39, e155_42, e155_43, e155_46, e155_49, e155_50, e155_53, e155_54, e155_57, e155_60, e155_63, zt0, zt1, zn3, not_false_eq_true, toListS, toListN, zk_some, zpi, if_true, if_false, i10, mp_9, mp_10, mp_u10, show ¬ (2 : Int32) ≤ 1 by decide, C153 X _ M G n (i + 1) h8 hn (by omega), C128, L48, L57, dg_inz]
    by_cases b : dg (lt (M (24, 0, 0)) n (i + 1)) < 0
    · simp only [if_pos b]
      simp only [e155_95, e155_96, zt0, zt1, zn3, not_false_eq_true, toListS, toListN, zk_some, zpi, if_true, if_false, i10]
    · have il2 := dg_lt b
      obtain ⟨-, -, d2⟩ := dg_d b
      have e2 : 10 * dg (lt (M (24, 0, 0)) n i) + lt (M (24, 0, 0)) n (i + 1) - 48 = 10 * dg (lt (M (24, 0, 0)) n i) + dg (lt (M (24, 0, 0)) n (i + 1)) := by
        rw [d2, Int32.sub_eq_add_neg, Int32.sub_eq_add_neg, Int32.add_assoc]
      simp only [if_neg b, i10, if_false]
      simp only [e155_66, e155_68, e155_69, e155_70, e155_71, e155_74, e155_75, e155_77, e155_78, e155_79, e155_80, e155_81, e155_84, e155_85, e155_86, e155_89, e155_92, zt0, zt1, zn3, not_false_eq_true, toListS, toListN, zk_some, zpi, if_true, if_false, i10, mp_9, mp_10, mp_u9, C153 X _ M G n (i + 1) h8 hn (by omega), nI_1, e2, show (1 : Int32) + 1 = 2 by decide]
      simp only [e155_37, e155_38, e155_39, zt0, zt1, zn3, not_false_eq_true, toListS, toListN, zk_some, zpi, if_true, if_false, i10, show (2 : Int32) ≤ 2 by decide]
      simp only [e155_95, e155_96, zt0, zt1, zn3, not_false_eq_true, toListS, toListN, zk_some, zpi, if_true, if_false, i10]
def fm (c : Int32) : Nat := if c = 107 then 8 else if c = 112 then 7 else if c = 116 then 9 else if c = 118 then 6 else if c = 119 then 9 else if c = 115 then 5 else 10
theorem C156 (X : Nat × (Nat → Int32) × Value) (d : Nat) (c : Int32) (h : zH) : zd X d 156 [vI c] h = some (some (vR (52, fm c, 0)), h) := by
  simp only [E156, e156_0, e156_1, e156_68, e156_70, e156_71, e156_73, e156_74, e156_76, e156_77, e156_79, e156_80, e156_81, e156_83, e156_86, e156_88, e156_91, e156_93, zt0, zt1, zn3, not_false_eq_true, toListS, toListN, zk_some, zpi]
  unfold fm
  repeat' split
  all_goals first | rfl | omega
