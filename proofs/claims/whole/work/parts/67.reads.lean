/-! reading, as the class does -/
def lt (T : Nat → Int32) (n i : Nat) : Int32 := if i < n then T i else -1
def dg (c : Int32) : Int32 := if c < 48 then -1 else if 57 < c then -1 else c - 48
def num (L : Nat → Int32) (i : Nat) : Option (Int32 × Nat) := if dg (L i) < 0 then none else if dg (L (i + 1)) < 0 then some (dg (L i), i + 1) else some (10 * dg (L i) + dg (L (i + 1)), i + 2)
def fo (c : Int32) : Nat := if c = 107 then 2 else if c = 112 then 1 else if c = 115 then 4 else if c = 116 then 3 else if c = 118 then 0 else if c = 119 then 3 else 5
def spl : Nat → List Int32
  | 0 => [44, 44, 59]
  | 1 => [62, 44, 44, 44, 59]
  | 2 => [61, 44, 59]
  | 3 => [61, 59]
  | 4 => [59]
  | _ => []
/-- how far it goes, and whether to the end -/
def gk (L : Nat → Int32) : List Int32 → Nat → Bool × Nat
  | [], i => (true, i)
  | s :: r, i => match num L i with
    | none => (false, i)
    | some (_, j) => if L j = s then gk L r (j + 1) else (false, j)
/-- the numbers that it leaves -/
def gN (L : Nat → Int32) : List Int32 → Nat → Nat → (Nat → Int32) → Nat → Int32
  | [], _, _, N => N
  | s :: r, i, m, N => match num L i with
    | none => N
    | some (v, j) => if L j = s then gN L r (j + 1) (m + 1) (uS N m v) else uS N m v
def stk (L : Nat → Int32) (i : Nat) : Bool × Nat := if fo (L i) = 5 then (false, i) else gk L (spl (fo (L i))) (i + 1)
def stN (L : Nat → Int32) (i : Nat) (N : Nat → Int32) : Nat → Int32 := if fo (L i) = 5 then N else gN L (spl (fo (L i))) (i + 1) 0 N
theorem dg_d {c : Int32} (h : ¬ dg c < 0) : ¬ c < 48 ∧ ¬ 57 < c ∧ dg c = c - 48 := by
  unfold dg at *
  by_cases a : c < 48
  · rw [if_pos a] at h; exact absurd (by decide) h
  · by_cases b : 57 < c
    · rw [if_neg a, if_pos b] at h; exact absurd (by decide) h
    · rw [if_neg a, if_neg b] at h ⊢
      exact ⟨a, b, rfl⟩
theorem dg_n {c : Int32} (h : dg c < 0) : c < 48 ∨ 57 < c := by
  by_cases a : c < 48
  · exact .inl a
  · by_cases b : 57 < c
    · exact .inr b
    · unfold dg at h
      rw [if_neg a, if_neg b, i_lt] at h
      rw [i_lt, show (48 : Int32).toInt = 48 from rfl] at a
      rw [i_lt, show (57 : Int32).toInt = 57 from rfl] at b
      rw [i_sub_s (a := c) (b := 48) (by rw [show (48 : Int32).toInt = 48 from rfl]; omega) (by rw [show (48 : Int32).toInt = 48 from rfl]; omega), show (48 : Int32).toInt = 48 from rfl, show (0 : Int32).toInt = 0 from rfl] at h
      omega
theorem lt_lt {T : Nat → Int32} {n i : Nat} (h : lt T n i ≠ -1) : i < n := by
  unfold lt at h
  by_cases q : i < n
  · exact q
  · rw [if_neg q] at h; exact absurd rfl h
theorem dg_lt {T : Nat → Int32} {n i : Nat} (h : ¬ dg (lt T n i) < 0) : i < n := lt_lt fun e => by
  rw [e] at h
  exact h (by decide)
theorem num_le {T : Nat → Int32} {n i : Nat} {v : Int32} {j : Nat} (h : num (lt T n) i = some (v, j)) : i < j ∧ j ≤ n ∧ j ≤ i + 2 := by
  unfold num at h
  by_cases a : dg (lt T n i) < 0
  · rw [if_pos a] at h; cases h
  · rw [if_neg a] at h
    have := dg_lt a
    by_cases b : dg (lt T n (i + 1)) < 0
    · rw [if_pos b] at h; cases h; omega
    · rw [if_neg b] at h
      have := dg_lt b
      cases h; omega
theorem gk_le {T : Nat → Int32} {n : Nat} : ∀ (r : List Int32) (i : Nat), (∀ s ∈ r, s ≠ -1) → i ≤ n → i ≤ (gk (lt T n) r i).2 ∧ (gk (lt T n) r i).2 ≤ n := by
  intro r
  induction r with
  | nil => intro i _ hi; exact ⟨Nat.le_refl _, hi⟩
  | cons s r ih =>
    intro i hs hi
    unfold gk
    rcases hn : num (lt T n) i with _ | ⟨v, j⟩
    · exact ⟨Nat.le_refl _, hi⟩
    · obtain ⟨k1, k2, -⟩ := num_le hn
      dsimp only
      by_cases q : lt T n j = s
      · rw [if_pos q]
        have jn : j < n := lt_lt fun e => hs s (List.mem_cons_self ..) (q.symm.trans e)
        have := ih (j + 1) (fun t ht => hs t (List.mem_cons_of_mem _ ht)) (by omega)
        omega
      · rw [if_neg q]
        exact ⟨by dsimp only; omega, k2⟩
theorem spl_n : ∀ a, ∀ s ∈ spl a, s ≠ -1 := by
  intro a
  rcases (show a = 0 ∨ a = 1 ∨ a = 2 ∨ a = 3 ∨ a = 4 ∨ 5 ≤ a by omega) with rfl | rfl | rfl | rfl | rfl | h
  · decide
  · decide
  · decide
  · decide
  · decide
  · obtain ⟨b, rfl⟩ : ∃ b, a = b + 5 := ⟨a - 5, by omega⟩
    intro s hs
    cases hs
theorem fo_5 (c : Int32) : fo c ≤ 5 := by
  unfold fo
  repeat' split
  all_goals omega
theorem fo_m {T : Nat → Int32} {n i : Nat} (h : ¬ fo (lt T n i) = 5) : i < n := lt_lt fun e => h (by rw [e]; rfl)
theorem stk_le {T : Nat → Int32} {n i : Nat} (hi : i ≤ n) : i ≤ (stk (lt T n) i).2 ∧ (stk (lt T n) i).2 ≤ n ∧ ((stk (lt T n) i).1 = true → i < (stk (lt T n) i).2) := by
  unfold stk
  by_cases q : fo (lt T n i) = 5
  · rw [if_pos q]
    exact ⟨Nat.le_refl _, hi, fun h => absurd h Bool.false_ne_true⟩
  · rw [if_neg q]
    have := fo_m q
    have g := gk_le (T := T) (n := n) (spl (fo (lt T n i))) (i + 1) (spl_n _) (by omega)
    exact ⟨by omega, g.2, fun _ => by omega⟩
/-- the reader: where it stands, what it has read -/
def rd (M : zM) (p : Int32) (N : Nat → Int32) : zM := fun k => if k = (1, 0, 0) then uS (M k) 2 p else if k = (14, 0, 0) then N else M k
theorem rd_p {M : zM} {p : Int32} {N : Nat → Int32} : rd M p N (1, 0, 0) 2 = p := by
  unfold rd
  rw [if_pos rfl, uS_s]
theorem rd_1 {M : zM} {p : Int32} {N : Nat → Int32} : rd M p N (1, 0, 0) 1 = M (1, 0, 0) 1 := by
  unfold rd
  rw [if_pos rfl, uS_n (by decide)]
theorem rd_N {M : zM} {p : Int32} {N : Nat → Int32} : rd M p N (14, 0, 0) = N := by
  unfold rd
  rw [if_neg (by decide), if_pos rfl]
theorem rd_k {M : zM} {p : Int32} {N : Nat → Int32} {k : zK} (h1 : k ≠ (1, 0, 0)) (h2 : k ≠ (14, 0, 0)) : rd M p N k = M k := by
  unfold rd
  rw [if_neg h1, if_neg h2]
theorem rd_up {M : zM} {p q : Int32} {N : Nat → Int32} : u2 (rd M p N) (1, 0, 0) 2 q = rd M q N := by
  funext k f
  unfold u2 rd uS
  by_cases a : k = (1, 0, 0)
  · subst a
    by_cases b : f = 2
    · subst b; simp
    · simp [b]
  · simp [a]
theorem rd_uN {M : zM} {p v : Int32} {N : Nat → Int32} {m : Nat} : u2 (rd M p N) (14, 0, 0) m v = rd M p (uS N m v) := by
  funext k f
  unfold u2 rd uS
  by_cases a : k = (14, 0, 0)
  · subst a
    by_cases b : f = m
    · subst b; simp
    · simp [b]
  · by_cases c : k = (1, 0, 0)
    · subst c; simp
    · simp [a, c]
theorem rd_self {M : zM} : rd M (M (1, 0, 0) 2) (M (14, 0, 0)) = M := by
  funext k f
  unfold rd uS
  by_cases a : k = (1, 0, 0)
  · subst a
    by_cases b : f = 2
    · subst b; simp
    · simp [b]
  · by_cases c : k = (14, 0, 0)
    · subst c; simp
    · simp [a, c]
theorem C23 (X : Nat × (Nat → Int32) × Value) (d : Nat) (M : zM) (G : zG) (n i : Nat) (e : M (1, 0, 0) 1 = nI n) (hn : n ≤ 120) (hi : i ≤ 121) : zd X d 23 [vR (1, 0, 0), vI (nI i)] (hh M G) = some (some (vI (lt (M (13, 0, 0)) n i)), hh M G) := by
  have g : ¬ nI i < 0 := by rw [i_lt, nI_int (by omega), show (0 : Int32).toInt = 0 from rfl]; omega
  simp only [E23, e23_0, e23_1, e23_4, e23_5, e23_6, e23_9, e23_12, e23_13, e23_14, e23_17, e23_18, e23_21, e23_22, e23_25, e23_26, e23_27, e23_30, e23_31, zt0, zt1, zn3, not_false_eq_true, toListS, toListN, zk_some, zpi, g, if_false, e, nle (show n < 2 ^ 31 by omega) (show i < 2 ^ 31 by omega)]
  unfold lt
  by_cases q : i < n
  · rw [if_neg (by omega), if_pos q]
    have g2 : ¬ (120 : Int32) ≤ nI i := by rw [i_le, nI_int (by omega), show (120 : Int32).toInt = 120 from rfl]; omega
    simp only [E23, e23_0, e23_1, e23_4, e23_5, e23_6, e23_9, e23_12, e23_13, e23_14, e23_17, e23_18, e23_21, e23_22, e23_25, e23_26, e23_27, e23_30, e23_31, zt0, zt1, zn3, not_false_eq_true, toListS, toListN, zk_some, zpi, g2, if_false, zin_nI (show i < 120 by omega) (show 120 < 2 ^ 31 by decide), nI_clamp (show i < 2 ^ 31 by omega)]
  · rw [if_pos (by omega), if_neg q]
theorem C28 (X : Nat × (Nat → Int32) × Value) (d : Nat) (c : Int32) (h : zH) : zd X d 28 [vI c] h = some (some (vI (dg c)), h) := by
  simp only [E28, e28_0, e28_1, e28_3, e28_6, e28_7, e28_9, e28_12, e28_13, e28_15, e28_16, e28_19, e28_20, zt0, zt1, zn3, not_false_eq_true, toListS, toListN, zk_some, zpi]
  unfold dg
  by_cases a : c < 48
  · rw [if_pos a]
  · rw [if_neg a]
theorem C26 (X : Nat × (Nat → Int32) × Value) (d : Nat) (c : Int32) (h : zH) : zd X d 26 [vI c] h = some (some (vR (52, fo c, 0)), h) := by
  simp only [E26, e26_0, e26_1, e26_68, e26_70, e26_71, e26_73, e26_74, e26_76, e26_77, e26_79, e26_80, e26_82, e26_83, e26_85, zt0, zt1, zn3, not_false_eq_true, toListS, toListN, zk_some, zpi]
  unfold fo
  repeat' split
  all_goals rfl
theorem C27 (X : Nat × (Nat → Int32) × Value) (d : Nat) (M : zM) (G : zG) (n i m : Nat) (N : Nat → Int32) (e : M (1, 0, 0) 1 = nI n) (hn : n ≤ 120) (hi : i ≤ n) (hm : m < 5) : zd X (d + 1) 27 [vR (1, 0, 0), vI (nI m)] (hh (rd M (nI i) N) G) = match num (lt (M (13, 0, 0)) n) i with
    | none => some (some (vI 0), hh (rd M (nI i) N) G)
    | some (v, j) => some (some (vI 1), hh (rd M (nI j) (uS N m v)) G) := by
  have r1 : ∀ p N, rd M p N (1, 0, 0) 1 = nI n := fun p N => rd_1.trans e
  have c23 := fun (p : Int32) (N : Nat → Int32) (i : Nat) (hi : i ≤ 121) => C23 X d (rd M p N) G n i (r1 p N) hn hi
  have r13 : ∀ p N, rd M p N (13, 0, 0) = M (13, 0, 0) := fun p N => rd_k (by decide) (by decide)
  simp only [r13] at c23
  have gm : ¬ nI m < 0 := by rw [i_lt, nI_int (by omega), show (0 : Int32).toInt = 0 from rfl]; omega
  have gm5 : ¬ 5 ≤ nI m := by rw [i_le, nI_int (by omega), show (5 : Int32).toInt = 5 from rfl]; omega
  simp only [E27, e27_0, e27_1, e27_2, e27_5, e27_8, e27_11, e27_12, e27_13, zt0, zt1, zn3, not_false_eq_true, toListS, toListN, zk_some, zpi, rd_p, c23 _ _ i (by omega), C28]
  unfold num
  by_cases a : dg (lt (M (13, 0, 0)) n i) < 0
  · have a' : ¬ 0 ≤ dg (lt (M (13, 0, 0)) n i) := by rw [i_le]; rw [i_lt] at a; omega
    rw [if_pos a, if_neg a']
    simp only [e27_16, e27_17, zt0, zt1, zn3, not_false_eq_true, toListS, toListN, zk_some, zpi, if_true, if_false, i10]
  · have a' : 0 ≤ dg (lt (M (13, 0, 0)) n i) := by rw [i_le]; rw [i_lt] at a; omega
    have il := dg_lt a
    rw [if_neg a, if_pos a']
    simp only [e27_18, e27_19, e27_20, e27_23, e27_24, e27_25, e27_28, e27_29, e27_30, e27_33, e27_36, e27_39, e27_40, e27_41, zt0, zt1, zn3, not_false_eq_true, toListS, toListN, zk_some, zpi, if_true, if_false, i10, rd_p, nI_1, rd_up, c23 _ _ (i + 1) (by omega), C28]
    by_cases b : dg (lt (M (13, 0, 0)) n (i + 1)) < 0
    · have b' : ¬ 0 ≤ dg (lt (M (13, 0, 0)) n (i + 1)) := by rw [i_le]; rw [i_lt] at b; omega
      rw [if_pos b, if_pos b]
      simp only [e27_54, e27_55, e27_58, e27_59, e27_60, e27_63, e27_64, e27_67, e27_68, e27_71, e27_72, e27_73, e27_76, e27_77, e27_80, e27_82, e27_83, e27_84, e27_85, e27_86, e27_87, e27_88, zt0, zt1, zn3, not_false_eq_true, toListS, toListN, zk_some, zpi, if_true, if_false, i10, gm, gm5, b', z5 hm, cl5 hm, rd_uN]
    · have b' : 0 ≤ dg (lt (M (13, 0, 0)) n (i + 1)) := by rw [i_le]; rw [i_lt] at b; omega
      rw [if_neg b, if_neg b]
      simp only [e27_44, e27_45, e27_46, e27_49, e27_50, e27_51, e27_54, e27_55, e27_58, e27_59, e27_60, e27_63, e27_64, e27_67, e27_68, e27_71, e27_72, e27_73, e27_76, e27_77, e27_80, e27_82, e27_83, e27_84, e27_85, e27_86, e27_87, e27_88, zt0, zt1, zn3, not_false_eq_true, toListS, toListN, zk_some, zpi, if_true, if_false, i10, gm, gm5, b', z5 hm, cl5 hm, rd_uN, rd_p, rd_up, nI_1]
theorem spl_t : ∀ al, al < 5 → zsl.getD al 0 = 2 * (spl al).length ∧ (spl al).length ≤ 5 ∧ ∀ m, m < (spl al).length → (zsb.getD al []).getD (2 * m) 0 = 110 ∧ (zsb.getD al []).getD (2 * m + 1) 0 = (spl al).getD m 0 ∧ ¬ (spl al).getD m 0 = 110 ∧ (spl al).drop m = (spl al).getD m 0 :: (spl al).drop (m + 1) ∧ ¬ (spl al).getD m 0 = -1 := by decide +kernel
theorem R25 (X : Nat × (Nat → Int32) × Value) (hc : X.2.2.category = 1) (d : Nat) (M : zM) (G : zG) (n : Nat) (e : M (1, 0, 0) 1 = nI n) (hn : n ≤ 120) (al : Nat) (ha : al < 5) : ∀ (k m i : Nat) (N : Nat → Int32), m + k = (spl al).length → i ≤ n → zx X (d + 5) 25 35 [vR (1, 0, 0), vR (52, al, 0), vI (nI m), vI (nI (2 * m))] [] (hh (rd M (nI i) N) G) = some (some (vI (if (gk (lt (M (13, 0, 0)) n) ((spl al).drop m) i).1 then 1 else 0)), hh (rd M (nI (gk (lt (M (13, 0, 0)) n) ((spl al).drop m) i).2) (gN (lt (M (13, 0, 0)) n) ((spl al).drop m) i m N)) G) := by
  obtain ⟨t1, t2, t3⟩ := spl_t al ha
  have h11 : al < 11 := by omega
  have r1 : ∀ p N, rd M p N (1, 0, 0) 1 = nI n := fun p N => rd_1.trans e
  have r13 : ∀ p N, rd M p N (13, 0, 0) = M (13, 0, 0) := fun p N => rd_k (by decide) (by decide)
  have c23 := fun (p : Int32) (N : Nat → Int32) (i : Nat) (hi : i ≤ 121) => C23 X (d + 4) (rd M p N) G n i (r1 p N) hn hi
  simp only [r13] at c23
  have lnI : Int32.ofNat (zsl.getD al 0) = nI (2 * (spl al).length) := by rw [t1]; rfl
  intro k
  induction k with
  | zero =>
    intro m i N hm hi
    rw [show (spl al).drop m = [] from List.drop_eq_nil_of_le (by omega)]
    simp only [e25_35, e25_36, e25_37, e25_40, zt0, zt1, zn3, not_false_eq_true, toListS, toListN, zk_some, zpi, h11, C225 X _ al h11, lnI, nle (show 2 * (spl al).length < 2 ^ 31 by omega) (show 2 * m < 2 ^ 31 by omega)]
    refine Eq.trans (if_pos (by omega)) ?_
    simp only [e25_103, e25_104, zt0, zt1, zn3, not_false_eq_true, toListS, toListN, zk_some, zpi, if_true, if_false, i10]
    rfl
  | succ k ih =>
    intro m i N hm hi
    obtain ⟨u1, u2', u3, u4, u5⟩ := t3 m (by omega)
    have z0 : 2 * m < zsl.getD al 0 := by omega
    have z1 : 2 * m + 1 < zsl.getD al 0 := by omega
    have c27 := C27 X (d + 3) M G n i m N e hn hi (by omega)
    rw [u4]
    simp only [e25_35, e25_36, e25_37, e25_40, zt0, zt1, zn3, not_false_eq_true, toListS, toListN, zk_some, zpi, h11, C225 X _ al h11, lnI, nle (show 2 * (spl al).length < 2 ^ 31 by omega) (show 2 * m < 2 ^ 31 by omega)]
    refine Eq.trans (if_neg (by omega)) ?_
    simp only [e25_43, e25_44, e25_45, e25_48, e25_50, e25_53, e25_54, e25_55, zt0, zt1, zn3, not_false_eq_true, toListS, toListN, zk_some, zpi, if_true, if_false, i10, h11, C227 X hc _ al (2 * m) h11 z0, u1, c27]
    unfold gk gN
    rcases hnum : num (lt (M (13, 0, 0)) n) i with _ | ⟨v, j⟩
    · simp only [e25_58, e25_61, e25_62, zt0, zt1, zn3, not_false_eq_true, toListS, toListN, zk_some, zpi, if_true, if_false, i10]
      rfl
    · obtain ⟨j1, j2, -⟩ := num_le hnum
      have c23j := c23 (nI j) (uS N m v) j (by omega)
      simp only [e25_58, e25_61, e25_62, e25_63, e25_66, zt0, zt1, zn3, not_false_eq_true, toListS, toListN, zk_some, zpi, if_true, if_false, i10, nI_1]
      simp only [e25_97, e25_100, zt0, zt1, zn3, not_false_eq_true, toListS, toListN, zk_some, zpi, if_true, if_false, i10, nI_1]
      simp only [e25_35, e25_36, e25_37, e25_40, zt0, zt1, zn3, not_false_eq_true, toListS, toListN, zk_some, zpi, h11, C225 X _ al h11, lnI, nle (show 2 * (spl al).length < 2 ^ 31 by omega) (show 2 * m + 1 < 2 ^ 31 by omega)]
      refine Eq.trans (if_neg (by omega)) ?_
      simp only [e25_43, e25_44, e25_45, e25_48, e25_50, zt0, zt1, zn3, not_false_eq_true, toListS, toListN, zk_some, zpi, if_true, if_false, i10, h11, C227 X hc _ al (2 * m + 1) h11 z1, u2', u3]
      simp only [e25_69, e25_70, e25_71, e25_74, e25_77, e25_78, e25_79, e25_82, zt0, zt1, zn3, not_false_eq_true, toListS, toListN, zk_some, zpi, if_true, if_false, i10, h11, C227 X hc _ al (2 * m + 1) h11 z1, u2', rd_p, c23j]
      by_cases q : lt (M (13, 0, 0)) n j = (spl al).getD m 0
      · have jn : j < n := lt_lt fun e => u5 (q.symm.trans e)
        simp only [if_pos q]
        simp only [e25_87, e25_88, e25_89, e25_92, e25_93, e25_94, e25_97, e25_100, zt0, zt1, zn3, not_false_eq_true, toListS, toListN, zk_some, zpi, if_true, if_false, i10, rd_p, rd_up, nI_1]
        exact ih (m + 1) (j + 1) (uS N m v) (by omega) (by omega)
      · simp only [if_neg q]
        simp only [e25_85, e25_86, zt0, zt1, zn3, not_false_eq_true, toListS, toListN, zk_some, zpi, if_true, if_false, i10]
        rfl
theorem C25 (X : Nat × (Nat → Int32) × Value) (hc : X.2.2.category = 1) (d : Nat) (M : zM) (G : zG) (n : Nat) (e : M (1, 0, 0) 1 = nI n) (hn : n ≤ 120) (i : Nat) (N : Nat → Int32) (hi : i ≤ n) : zd X (d + 5) 25 [vR (1, 0, 0)] (hh (rd M (nI i) N) G) = some (some (vI (if (stk (lt (M (13, 0, 0)) n) i).1 then 1 else 0)), hh (rd M (nI (stk (lt (M (13, 0, 0)) n) i).2) (stN (lt (M (13, 0, 0)) n) i N)) G) := by
  have r1 : ∀ p N, rd M p N (1, 0, 0) 1 = nI n := fun p N => rd_1.trans e
  have r13 : ∀ p N, rd M p N (13, 0, 0) = M (13, 0, 0) := fun p N => rd_k (by decide) (by decide)
  have c23 := fun (p : Int32) (N : Nat → Int32) (i : Nat) (hi : i ≤ 121) => C23 X (d + 4) (rd M p N) G n i (r1 p N) hn hi
  simp only [r13] at c23
  have h5 := fo_5 (lt (M (13, 0, 0)) n i)
  simp only [e25_0, e25_1, e25_2, e25_5, e25_8, e25_11, e25_12, e25_13, E25, zt0, zt1, zn3, not_false_eq_true, toListS, toListN, zk_some, zpi, if_true, if_false, i10, rd_p, c23 _ _ i (by omega), C26, C226 X _ _ (show fo (lt (M (13, 0, 0)) n i) < 11 by omega), show fo (lt (M (13, 0, 0)) n i) < 11 by omega]
  unfold stk stN
  by_cases q : fo (lt (M (13, 0, 0)) n i) = 5
  · simp only [if_pos q]
    simp only [e25_16, e25_19, e25_20, zt0, zt1, zn3, not_false_eq_true, toListS, toListN, zk_some, zpi, if_true, if_false, i10]
    rfl
  · have il := fo_m q
    have r := R25 X hc d M G n e hn (fo (lt (M (13, 0, 0)) n i)) (by omega) (spl (fo (lt (M (13, 0, 0)) n i))).length 0 (i + 1) N (Nat.zero_add _) (by omega)
    rw [Nat.mul_zero, nI_0, List.drop_zero] at r
    simp only [if_neg q]
    simp only [e25_16, e25_19, e25_20, e25_21, e25_22, e25_23, e25_26, e25_27, e25_28, e25_31, e25_32, e25_33, e25_34, zt0, zt1, zn3, not_false_eq_true, toListS, toListN, zk_some, zpi, if_true, if_false, i10, rd_p, rd_up, nI_1]
    exact r
