/-! tells, whole -/
def zr0 (M : zM) : zM := u2 (u2 M (1, 0, 0) 1 0) (7, 0, 0) 8 0
theorem Inv_z {t : Nat} {M : zM} (i : Inv t M) : Inv t (zr0 M) := by
  obtain ⟨⟨nv, np, n, a, b, c, d, e, f⟩, k, l, r, i1, j⟩ := i
  have b0 : gb (zr0 M) 0 = gb M 0 := by
    unfold zr0
    rw [gb_u2 (by decide), gb_u2 (by decide)]
  have b1 : gb (zr0 M) 1 = gb M 1 := by
    unfold zr0
    rw [gb_u2 (by decide), gb_u2 (by decide)]
  refine ⟨⟨nv, np, 0, by rw [b0]; exact a, b, by rw [b0]; exact c, d, rfl, show (M (0, 0, 0) 4).toInt + 138105 * ((0 : Nat) : Int) ≤ 138105 * t by omega⟩, ?_, ⟨0, by omega, rfl, rfl, fun i hi => absurd hi (Nat.not_lt_zero i)⟩, r, i1, j⟩
  rcases k with ⟨k1, k2⟩ | ⟨k1, k2, nv', np', n', q1, q2, q3, q4, q5⟩
  · exact .inl ⟨k1, k2⟩
  · exact .inr ⟨k1, k2, nv', np', 0, by rw [b1]; exact q1, q2, by rw [b1]; exact q3, rfl, show (M (0, 1, 0) 4).toInt + 138105 * ((0 : Nat) : Int) ≤ 138105 * t by omega⟩
theorem sm_rd {M : zM} {p : Int32} {N : Nat → Int32} : sm M (rd M p N) := by
  intro k f hk
  unfold rd uS
  by_cases h1 : k = (1, 0, 0)
  · subst h1
    have : f = 1 := by simpa [per] using hk
    subst this
    simp
  · by_cases h2 : k = (14, 0, 0)
    · subst h2
      simp [per] at hk
    · rw [if_neg h1, if_neg h2]
theorem gb_rd {M : zM} {p : Int32} {N : Nat → Int32} {b : Nat} : gb (rd M p N) b = gb M b := by
  have e1 : rd M p N (0, b, 0) = M (0, b, 0) := rd_k (by simp) (by simp)
  have e2 : ∀ j, rd M p N (5, b, j) = M (5, b, j) := fun j => rd_k (by simp) (by simp)
  have e3 : ∀ j, rd M p N (3, b, j) = M (3, b, j) := fun j => rd_k (by simp) (by simp)
  unfold gb vw pw
  simp only [e1, e2, e3]
theorem per7 {f : Nat} (h : per (7, 0, 0) f = true) : f = 3 ∨ f = 5 ∨ f = 8 := by
  simp [per] at h
  omega
theorem per1 {f : Nat} (h : per (1, 0, 0) f = true) : f = 1 := by simpa [per] using h
/-- read and cleared: nothing else -/
theorem sm_end {M W : zM} (h : sm M W) (i e c : Int32) (P : Nat → Int32) : sm (zr0 M) (u2 (mp (u2 W (1, 0, 0) 1 0) i e c P) (7, 0, 0) 8 0) := by
  intro k f hk
  by_cases h7 : k = (7, 0, 0)
  · subst h7
    rcases per7 hk with rfl | rfl | rfl
    · exact h (7, 0, 0) 3 rfl
    · exact h (7, 0, 0) 5 rfl
    · rfl
  · by_cases h26 : k = (26, 0, 0)
    · subst h26
      simp [per] at hk
    · by_cases h1 : k = (1, 0, 0)
      · subst h1
        rw [per1 hk]
        rfl
      · have := h k f hk
        simp only [zr0, u2, mp, h7, h26, h1, false_and, if_false]
        exact this
theorem sm_fin {M W : zM} {B C : zB} {R : Nat → Int32} (h : sm M W) (i e c : Int32) (P : Nat → Int32) : sm (mb (cb (zr0 M) 0 B) C R) (mb (cpK (u2 (mp (u2 (cb W 0 B) (1, 0, 0) 1 0) i e c P) (7, 0, 0) 8 0) (20, 0, 0) (21, 0, 0) 93) C R) := by
  intro k f hk
  by_cases h7 : k = (7, 0, 0)
  · subst h7
    rfl
  · by_cases h26 : k = (26, 0, 0)
    · subst h26
      simp [per] at hk
    · by_cases h21 : k = (21, 0, 0)
      · subst h21
        simp [per] at hk
      · by_cases h1 : k = (1, 0, 0)
        · subst h1
          rw [per1 hk]
          rfl
        · have := h k f hk
          simp only [mb, mm, cpK, zr0, u2, mp, cb, cm, h7, h26, h1, h21, false_and, if_false, this]
theorem C21 (X : Nat × (Nat → Int32) × Value) (d : Nat) (M : zM) (G : zG) : zd X d 21 [vR (1, 0, 0)] (hh M G) = some (none, hh (u2 M (1, 0, 0) 1 0) G) := by
  simp only [E21, e21_0, e21_1, e21_2, e21_5, zt0, zt1, zn3, not_false_eq_true, toListS, toListN, zk_some, zpi, if_true, if_false, i10]
theorem K1 (X : Nat × (Nat → Int32) × Value) (hc : X.2.2.category = 1) (t : Nat) (M : zM) (G : zG) (i : Inv t M) : okI X 74 159 [] (t + 1) M G := by
  obtain ⟨nv, np, s⟩ := ST_of i
  have s' := s
  obtain ⟨n5, n8, e2, e3, m0, m1, v, o6, f5, a, vc, ac, vm⟩ := s'
  obtain ⟨n, n120, l1, l2, l3⟩ := i.2.2.1
  have i0 := i.1
  have Lm : lt (M (24, 0, 0)) n = (lt (M (13, 0, 0)) n) := by
    funext q
    unfold lt
    by_cases h : q < n
    · rw [if_pos h, if_pos h, l3 q h]
    · rw [if_neg h, if_neg h]
  obtain ⟨N1, c24⟩ := C24 X hc 5 M G n l1 n120
  have g0 : gb (rd M 0 N1) 0 = gb M 0 := gb_c (by decide) sm_rd
  have tr : zd X 11 1 [vR (0, 2, 0), vR (0, 0, 0)] (hh (rd M 0 N1) G) = some (none, hh (rd (cb M 2 (cpB nv np (gb (rd M 0 N1) 2) (gb M 0))) 0 N1) G) := by
    have q := B1 X 10 (rd M 0 N1) G 2 0 (gb (rd M 0 N1) 2) (by decide) nv np e2 e3 n5 n8 (fun p hp => (v.2.2.1 p hp).imp id And.left)
    rw [cb_self, g0, cb_rd] at q
    exact q
  have B0a : ag nv np (gb M 0) (cpB nv np (gb (rd M 0 N1) 2) (gb M 0)) := cpB_ag o6
  have B0v := ag_v o6 B0a v
  have B0m : ag nv np (cpB nv np (gb (rd M 0 N1) 2) (gb M 0)) (bm M) := ag_t (ag_s o6 B0a) a
  have p120 : ∀ k, pos (lt (M (13, 0, 0)) n) k ≤ 120 := fun k => Nat.le_trans (pos_le k) n120
  obtain ⟨k1, k2, k3, k4, k5⟩ := kk_p (T := M (13, 0, 0)) n120
  -- the model, from any memory that the class leaves
  have fin : ∀ W : zM, W (7, 0, 0) 8 = nI n → W (24, 0, 0) = M (24, 0, 0) → ∃ P c', zd X 12 159 [vR (7, 0, 0)] (hh (u2 W (1, 0, 0) 1 0) G) = zx X 12 159 37 [vR (7, 0, 0), vN] [] (hh (mp (u2 W (1, 0, 0) 1 0) (nI (pos (lt (M (13, 0, 0)) n) (kk (lt (M (13, 0, 0)) n) n + 1))) (if (stk (lt (M (13, 0, 0)) n) (pos (lt (M (13, 0, 0)) n) (kk (lt (M (13, 0, 0)) n) n))).1 = true then 0 else 1) c' P) G) ∧ ((stk (lt (M (13, 0, 0)) n) (pos (lt (M (13, 0, 0)) n) (kk (lt (M (13, 0, 0)) n) n))).1 = true → c' = nI (kk (lt (M (13, 0, 0)) n) n + 1) ∧ kp (lt (M (13, 0, 0)) n) (kk (lt (M (13, 0, 0)) n) n + 1) P) := fun W hW8 hW24 => by
    have h8 : u2 W (1, 0, 0) 1 0 (7, 0, 0) 8 = nI n := hW8
    have q := T159 X hc 6 (u2 W (1, 0, 0) 1 0) G n h8 n120
    have eT : u2 W (1, 0, 0) 1 0 (24, 0, 0) = M (24, 0, 0) := hW24
    rw [eT, Lm] at q
    exact q
  by_cases okn : (stk (lt (M (13, 0, 0)) n) (pos (lt (M (13, 0, 0)) n) (kk (lt (M (13, 0, 0)) n) n))).1 = true
  · -- it can be read
    rw [if_pos okn] at c24
    have hok : ∀ k, k < kk (lt (M (13, 0, 0)) n) n + 1 → (stk (lt (M (13, 0, 0)) n) (pos (lt (M (13, 0, 0)) n) k)).1 = true := fun k hk => by
      rcases Nat.lt_or_eq_of_le (Nat.le_of_lt_succ hk) with h | rfl
      · exact (Qk_f (k3 k h)).1
      · exact okn
    have ex := EX X hc M G n (kk (lt (M (13, 0, 0)) n) n + 1) l1 n120 N1 (by omega) hok (k5 okn) (M (0, 0, 0) 4).toInt (kk (lt (M (13, 0, 0)) n) n + 1) 0 vN (cpB nv np (gb (rd M 0 N1) 2) (gb M 0)) (bm M) nv np (Nat.zero_add _) B0v rfl B0m (show (M (0, 0, 0) 4).toInt ≤ (M (0, 0, 0) 4).toInt + 138105 * ((0 : Nat) : Int) by omega)
    rw [nI_0, show pos (lt (M (13, 0, 0)) n) 0 = 0 from rfl, nI_0, show Ns (lt (M (13, 0, 0)) n) N1 0 = N1 from rfl] at ex
    have start : ∀ Y, zx X 12 74 21 [vR (6, 0, 0), vI 0, vI 0, vN] [] (hh (rd (cb M 2 (cpB nv np (gb (rd M 0 N1) 2) (gb M 0))) 0 N1) G) = Y → zd X 12 74 [vR (6, 0, 0)] (hh M G) = Y := fun Y hY => by
      simp only [e74_0, e74_1, e74_4, e74_7, e74_8, e74_9, e74_12, e74_13, e74_16, e74_19, e74_20, E74, zt0, zt1, zn3, not_false_eq_true, toListS, toListN, zk_some, zpi, if_true, if_false, i10, c24, tr, show ∀ l : List zV, (none : Option zV).toList ++ l = l from fun _ => rfl]
      exact hY
    have goes : ∀ (M1 : zM) (P : Nat → Int32) (Y : Option zR), bm M1 = bm M → zx X 12 159 64 [vR (7, 0, 0), vI 0] [] (hh (mb (cpK (u2 (mp (u2 M1 (1, 0, 0) 1 0) (nI (pos (lt (M (13, 0, 0)) n) (kk (lt (M (13, 0, 0)) n) n + 1))) 0 (nI (kk (lt (M (13, 0, 0)) n) n + 1)) P) (7, 0, 0) 8 0) (20, 0, 0) (21, 0, 0) 93) (bm M) (u2 (mp (u2 M1 (1, 0, 0) 1 0) (nI (pos (lt (M (13, 0, 0)) n) (kk (lt (M (13, 0, 0)) n) n + 1))) 0 (nI (kk (lt (M (13, 0, 0)) n) n + 1)) P) (7, 0, 0) 8 0 (7, 0, 0))) G) = Y → zx X 12 159 37 [vR (7, 0, 0), vN] [] (hh (mp (u2 M1 (1, 0, 0) 1 0) (nI (pos (lt (M (13, 0, 0)) n) (kk (lt (M (13, 0, 0)) n) n + 1))) 0 (nI (kk (lt (M (13, 0, 0)) n) n + 1)) P) G) = Y := fun M1 P Y hM hY => by
      have t150 := T150 X 10 (M := u2 (mp (u2 M1 (1, 0, 0) 1 0) (nI (pos (lt (M (13, 0, 0)) n) (kk (lt (M (13, 0, 0)) n) n + 1))) 0 (nI (kk (lt (M (13, 0, 0)) n) n + 1)) P) (7, 0, 0) 8 0) G
      have eb : bm (u2 (mp (u2 M1 (1, 0, 0) 1 0) (nI (pos (lt (M (13, 0, 0)) n) (kk (lt (M (13, 0, 0)) n) n + 1))) 0 (nI (kk (lt (M (13, 0, 0)) n) n + 1)) P) (7, 0, 0) 8 0) = bm M := (show _ = bm M1 from rfl).trans hM
      rw [eb] at t150
      have e10 : u2 (mp (u2 M1 (1, 0, 0) 1 0) (nI (pos (lt (M (13, 0, 0)) n) (kk (lt (M (13, 0, 0)) n) n + 1))) 0 (nI (kk (lt (M (13, 0, 0)) n) n + 1)) P) (7, 0, 0) 8 0 (7, 0, 0) 10 = 0 := rfl
      simp only [e159_37, e159_38, e159_39, e159_42, e159_43, e159_46, e159_49, e159_52, e159_53, e159_56, e159_57, e159_58, e159_59, e159_62, e159_63, zt0, zt1, zn3, not_false_eq_true, toListS, toListN, zk_some, zpi, if_true, if_false, i10, e10, t150, show ∀ l : List zV, (none : Option zV).toList ++ l = l from fun _ => rfl]
      exact hY
    have kn : kk (lt (M (13, 0, 0)) n) n + 1 ≤ n := by
      have q : kk (lt (M (13, 0, 0)) n) n ≤ pos (lt (M (13, 0, 0)) n) (kk (lt (M (13, 0, 0)) n) n) := pos_ge _ k3
      have : ¬ fo ((lt (M (13, 0, 0)) n) (pos (lt (M (13, 0, 0)) n) (kk (lt (M (13, 0, 0)) n) n))) = 5 := fun h => by
        unfold stk at okn
        rw [if_pos h] at okn
        exact Bool.false_ne_true okn
      have := fo_m this
      omega
    have old : (M (0, 0, 0) 4).toInt + 138105 * n ≤ 138105 * t := by
      obtain ⟨_, _, n', _, _, _, _, en, q⟩ := i0
      rw [l1] at en
      have e32 : n % 2 ^ 32 = n' % 2 ^ 32 := congrArg (fun x : Int32 => x.toBitVec.toNat) en
      omega
    rcases ex with ⟨l3', N', B', C', nv', np', cls, mdl, vB', h6', ag', hs⟩ | ⟨p, l2', l3', p', N', B', C', hp, cls, mdl⟩
    · have hW : sm M (rd (cb M 2 B') (nI (pos (lt (M (13, 0, 0)) n) (kk (lt (M (13, 0, 0)) n) n + 1))) N') := sm_t (sm_cb (Nat.le_refl 2)) sm_rd
      have gw : gb (rd (cb M 2 B') (nI (pos (lt (M (13, 0, 0)) n) (kk (lt (M (13, 0, 0)) n) n + 1))) N') 2 = B' := gb_rd.trans gb_cb
      have g24 : rd (cb M 2 B') (nI (pos (lt (M (13, 0, 0)) n) (kk (lt (M (13, 0, 0)) n) n + 1))) N' (24, 0, 0) = M (24, 0, 0) := funext fun f => hW (24, 0, 0) f rfl
      have gbm : bm (rd (cb M 2 B') (nI (pos (lt (M (13, 0, 0)) n) (kk (lt (M (13, 0, 0)) n) n + 1))) N') = bm M := gr_c (Or.inl rfl) hW
      have g7 : ∀ f, rd (cb M 2 B') (nI (pos (lt (M (13, 0, 0)) n) (kk (lt (M (13, 0, 0)) n) n + 1))) N' (7, 0, 0) f = M (7, 0, 0) f := fun f => rfl
      generalize rd (cb M 2 B') (nI (pos (lt (M (13, 0, 0)) n) (kk (lt (M (13, 0, 0)) n) n + 1))) N' = W at *
      have tr2 : zd X 11 1 [vR (0, 0, 0), vR (0, 2, 0)] (hh W G) = some (none, hh (cb W 0 (cpB nv' np' (gb W 0) B')) G) := by
        have v2 := vB'
        rw [← gw] at v2
        have q := B1 X 10 W G 0 2 (gb W 0) (by decide) nv' np' v2.1.1 v2.1.2.1 vB'.1.2.2.1 vB'.1.2.2.2.1 (fun p hp => (v2.2.2.1 p hp).imp id And.left)
        rw [cb_self, gw] at q
        exact q
      have gk0 : ¬ nI (kk (lt (M (13, 0, 0)) n) n + 1) < 0 := by rw [i_lt, nI_int (by omega), show (0 : Int32).toInt = 0 from rfl]; omega
      obtain ⟨P, c', fi1, fi2⟩ := fin (cb W 0 (cpB nv' np' (gb W 0) B')) ((g7 8).trans l2) g24
      obtain ⟨ce, kp1⟩ := fi2 okn
      rw [if_pos okn, ce] at fi1
      have r5 : (u2 (mp (u2 (cb W 0 (cpB nv' np' (gb W 0) B')) (1, 0, 0) 1 0) (nI (pos (lt (M (13, 0, 0)) n) (kk (lt (M (13, 0, 0)) n) n + 1))) 0 (nI (kk (lt (M (13, 0, 0)) n) n + 1)) P) (7, 0, 0) 8 0) (7, 0, 0) 5 = 0 := (g7 5).trans f5
      obtain ⟨R', md, hR'⟩ := mdl (u2 (mp (u2 (cb W 0 (cpB nv' np' (gb W 0) B')) (1, 0, 0) 1 0) (nI (pos (lt (M (13, 0, 0)) n) (kk (lt (M (13, 0, 0)) n) n + 1))) 0 (nI (kk (lt (M (13, 0, 0)) n) n + 1)) P) (7, 0, 0) 8 0) ((u2 (mp (u2 (cb W 0 (cpB nv' np' (gb W 0) B')) (1, 0, 0) 1 0) (nI (pos (lt (M (13, 0, 0)) n) (kk (lt (M (13, 0, 0)) n) n + 1))) 0 (nI (kk (lt (M (13, 0, 0)) n) n + 1)) P) (7, 0, 0) 8 0) (7, 0, 0)) kp1 r5 rfl
      have vn := ag_v h6' (cpB_ag (B := gb W 0) h6') vB'
      have im := Inv_mut (M := zr0 M) (R := R') (C := C') (Inv_z i) vn rfl (ag_t (ag_s h6' (cpB_ag (B := gb W 0) h6')) ag') ((hR' 3 (by decide)).trans (g7 3)) ((hR' 5 (by decide)).trans r5) (hR' 8 (by decide)) (t + 1) (by omega) 0 rfl (show (B'.1 4).toInt + 138105 * ((0 : Nat) : Int) ≤ 138105 * ((t + 1 : Nat) : Int) by omega)
      refine ⟨nI (kk (lt (M (13, 0, 0)) n) n + 1), u2 (cb W 0 (cpB nv' np' (gb W 0) B')) (1, 0, 0) 1 0, G, mb (cpK (u2 (mp (u2 (cb W 0 (cpB nv' np' (gb W 0) B')) (1, 0, 0) 1 0) (nI (pos (lt (M (13, 0, 0)) n) (kk (lt (M (13, 0, 0)) n) n + 1))) 0 (nI (kk (lt (M (13, 0, 0)) n) n + 1)) P) (7, 0, 0) 8 0) (20, 0, 0) (21, 0, 0) 93) C' R', G, start _ (cls.trans ?_), fi1.trans (goes _ P _ gbm md), Inv_c (sm_fin hW _ _ _ P) (Nat.le_refl _) im⟩
      simp only [e74_90, e74_91, e74_94, e74_95, e74_98, e74_99, e74_102, e74_105, e74_106, e74_109, e74_112, e74_113, zt0, zt1, zn3, not_false_eq_true, toListS, toListN, zk_some, zpi, if_true, if_false, i10, gk0, tr2, C21 X, show ∀ l : List zV, (none : Option zV).toList ++ l = l from fun _ => rfl]
    · have hW : sm M (rd (cb M 2 B') p' N') := sm_t (sm_cb (Nat.le_refl 2)) sm_rd
      generalize rd (cb M 2 B') p' N' = W at *
      have g24 : W (24, 0, 0) = M (24, 0, 0) := funext fun f => hW (24, 0, 0) f rfl
      have gbm : bm W = bm M := gr_c (Or.inl rfl) hW
      obtain ⟨P, c', fi1, fi2⟩ := fin W ((hW (7, 0, 0) 8 rfl).trans l2) g24
      obtain ⟨ce, kp1⟩ := fi2 okn
      rw [if_pos okn, ce] at fi1
      have r5 : (u2 (mp (u2 W (1, 0, 0) 1 0) (nI (pos (lt (M (13, 0, 0)) n) (kk (lt (M (13, 0, 0)) n) n + 1))) 0 (nI (kk (lt (M (13, 0, 0)) n) n + 1)) P) (7, 0, 0) 8 0) (7, 0, 0) 5 = 0 := (hW (7, 0, 0) 5 rfl).trans f5
      obtain ⟨R', md, hR'⟩ := mdl (u2 (mp (u2 W (1, 0, 0) 1 0) (nI (pos (lt (M (13, 0, 0)) n) (kk (lt (M (13, 0, 0)) n) n + 1))) 0 (nI (kk (lt (M (13, 0, 0)) n) n + 1)) P) (7, 0, 0) 8 0) ((u2 (mp (u2 W (1, 0, 0) 1 0) (nI (pos (lt (M (13, 0, 0)) n) (kk (lt (M (13, 0, 0)) n) n + 1))) 0 (nI (kk (lt (M (13, 0, 0)) n) n + 1)) P) (7, 0, 0) 8 0) (7, 0, 0)) kp1 r5 rfl
      refine ⟨-2000 - nI p, u2 W (1, 0, 0) 1 0, G, bk (u2 (mp (u2 W (1, 0, 0) 1 0) (nI (pos (lt (M (13, 0, 0)) n) (kk (lt (M (13, 0, 0)) n) n + 1))) 0 (nI (kk (lt (M (13, 0, 0)) n) n + 1)) P) (7, 0, 0) 8 0) C' R', G, start _ (cls.trans ?_), fi1.trans (goes _ P _ gbm md), Inv_c (sm_t (sm_end hW _ _ _ P) (sm_bk (hR' 3 (by decide)) r5 (hR' 8 (by decide)))) (by omega) (Inv_z i)⟩
      simp only [e74_90, e74_91, e74_94, e74_95, e74_98, e74_99, e74_102, e74_105, e74_106, e74_109, e74_112, e74_113, zt0, zt1, zn3, not_false_eq_true, toListS, toListN, zk_some, zpi, if_true, if_false, i10, (neg2 hp).1, C21 X, show ∀ l : List zV, (none : Option zV).toList ++ l = l from fun _ => rfl]
  · rw [if_neg okn] at c24
    have hW : sm M (rd (cb M 2 (cpB nv np (gb (rd M 0 N1) 2) (gb M 0))) 0 N1) := sm_t (sm_cb (Nat.le_refl 2)) sm_rd
    generalize rd (cb M 2 (cpB nv np (gb (rd M 0 N1) 2) (gb M 0))) 0 N1 = W at *
    have g24 : W (24, 0, 0) = M (24, 0, 0) := funext fun f => hW (24, 0, 0) f rfl
    obtain ⟨P, c', fi1, -⟩ := fin W ((hW (7, 0, 0) 8 rfl).trans l2) g24
    rw [if_neg okn] at fi1
    have e10 : u2 (mp (u2 W (1, 0, 0) 1 0) (nI (pos (lt (M (13, 0, 0)) n) (kk (lt (M (13, 0, 0)) n) n + 1))) 1 c' P) (7, 0, 0) 8 0 (7, 0, 0) 10 = 1 := rfl
    have e9 : u2 (mp (u2 W (1, 0, 0) 1 0) (nI (pos (lt (M (13, 0, 0)) n) (kk (lt (M (13, 0, 0)) n) n + 1))) 1 c' P) (7, 0, 0) 8 0 (7, 0, 0) 9 = nI (pos (lt (M (13, 0, 0)) n) (kk (lt (M (13, 0, 0)) n) n + 1)) := rfl
    have ng := (neg1 (p120 (kk (lt (M (13, 0, 0)) n) n + 1))).2
    refine ⟨-1000 - nI (pos (lt (M (13, 0, 0)) n) (kk (lt (M (13, 0, 0)) n) n + 1)), u2 W (1, 0, 0) 1 0, G, u2 (mp (u2 W (1, 0, 0) 1 0) (nI (pos (lt (M (13, 0, 0)) n) (kk (lt (M (13, 0, 0)) n) n + 1))) 1 c' P) (7, 0, 0) 8 0, G, ?_, fi1.trans ?_, Inv_c (sm_end hW _ _ _ P) (by omega) (Inv_z i)⟩
    · simp only [E74, e74_0, e74_1, e74_4, e74_7, e74_8, e74_9, e74_12, e74_13, e74_16, e74_19, e74_20, e74_21, e74_22, e74_24, e74_27, e74_28, e74_31, e74_32, e74_35, e74_38, e74_41, e74_42, e74_45, e74_48, e74_49, e74_50, e74_53, e74_56, e74_57, e74_58, e74_59, e74_62, e74_63, e74_66, e74_69, e74_72, e74_75, e74_76, e74_77, e74_80, e74_81, e74_82, e74_83, e74_84, e74_87, e74_90, e74_91, e74_94, e74_95, e74_98, e74_99, e74_102, e74_105, e74_106, e74_109, e74_112, e74_113, zt0, zt1, zn3, not_false_eq_true, toListS, toListN, zk_some, zpi, if_true, if_false, i10, c24, tr, show ¬ (120 : Int32) ≤ 0 by decide, ng, C21 X, show ∀ l : List zV, (none : Option zV).toList ++ l = l from fun _ => rfl]
    · simp only [e159_37, e159_38, e159_39, e159_42, e159_43, e159_46, e159_49, e159_52, e159_53, e159_56, e159_57, zt0, zt1, zn3, not_false_eq_true, toListS, toListN, zk_some, zpi, if_true, if_false, i10, e10, e9, show ¬ (1 : Int32) = 0 by decide, show ∀ l : List zV, (none : Option zV).toList ++ l = l from fun _ => rfl]
