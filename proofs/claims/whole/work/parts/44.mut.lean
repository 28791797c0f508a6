/-! WHAT CHANGES A BENCH: on the class side and in the row of the model -/
def mu (X : Nat × (Nat → Int32) × Value) (b kc km : Nat) (ac am : List zV) (B C : zB) : Prop := ∃ (r : Int32) (nv' np' : Nat) (B' C' : zB), (∀ (d : Nat) (M : zM) (G : zG), zd X (d + 4) kc (vR (0, b, 0) :: ac) (hh (cb M b B) G) = some (some (vI r), hh (cb M b B') G)) ∧ (∀ (d : Nat) (M : zM) (G : zG) (R : Nat → Int32), R 5 = 0 → ∃ R', (∀ f, f ≠ 6 → R' f = R f) ∧ zd X (d + 9) km (vR (7, 0, 0) :: am) (hh (mb M C R) G) = some (some (vI r), hh (mb M C' R') G)) ∧ (((r = -1 ∨ r = -2 ∨ r = -3 ∨ r = -4 ∨ r = -6) ∧ B' = B ∧ C' = C) ∨ (0 ≤ r.toInt ∧ vb B' nv' np' ∧ B'.1 6 = 0 ∧ ag nv' np' B' C' ∧ (B'.1 4).toInt ≤ (B.1 4).toInt + 138105))
theorem C121 (X : Nat × (Nat → Int32) × Value) (d : Nat) (M : zM) (G : zG) (x : Int32) : zd X d 121 [vI x] (hh M G) = some (some (vI (inz x 0 5)), hh M G) := by
  rw [D121]
  have e : (if x < 0 then (0 : Int32) else if 5 < x then 0 else 1) = inz x 0 5 := by
    unfold inz
    by_cases h1 : x < 0
    · rw [if_pos h1, if_pos (show x.toInt < 0 from i_lt.mp h1)]
    · rw [if_neg h1, if_neg (show ¬ x.toInt < 0 from fun q => h1 (i_lt.mpr q))]
      by_cases h2 : 5 < x
      · rw [if_pos h2, if_pos (show 5 < x.toInt from i_lt.mp h2)]
      · rw [if_neg h2, if_neg (show ¬ 5 < x.toInt from fun q => h2 (i_lt.mpr q))]
  rw [e]
theorem mm_uV0 {M : zM} {S : Nat → Int32} {V P : tV} {R : Nat → Int32} {j : Nat} {x : Int32} (hj : j < 5) : u2 (mm M S V P R) (20, 0, 0) (4 + 5 * j) x = mm M S (uV V j 0 x) P R := mm_uV (f := 0) hj (by decide)
theorem mm_uP0 {M : zM} {S : Nat → Int32} {V P : tV} {R : Nat → Int32} {p : Nat} {x : Int32} (hp : p < 8) : u2 (mm M S V P R) (20, 0, 0) (29 + 8 * p) x = mm M S V (uV P p 5 x) R := mm_uP (g := 0) hp (by decide)
theorem Inv_mut {t : Nat} {M : zM} {nv' np' : Nat} {B C : zB} {R : Nat → Int32} (i : Inv t M) (hb : vb B nv' np') (h6 : B.1 6 = 0) (a : ag nv' np' B C) (r3 : R 3 = M (7, 0, 0) 3) (r5 : R 5 = 0) (r8 : R 8 = M (7, 0, 0) 8) (t' : Nat) (ht : t ≤ t') (n : Nat) (en : M (1, 0, 0) 1 = nI n) (hs : (B.1 4).toInt + 138105 * n ≤ 138105 * t') : Inv t' (mb (cb M 0 B) C R) := by
  have i' := Inv_c (sm_r M) ht i
  obtain ⟨iB, k, l, r, i1, j⟩ := i'
  have n5 : nv' ≤ 5 := hb.1.2.2.1
  have n8 : np' ≤ 8 := hb.1.2.2.2.1
  have eb : gb (mb (cb M 0 B) C R) 0 = B := gb_cb (M := M) (b := 0) (B := B)
  refine ⟨⟨nv', np', n, ?_, ?_, ?_, ?_, en, ?_⟩, ?_, ?_, r, i1, j⟩
  · rw [eb]; exact hb
  · exact h6
  · rw [eb]
    obtain ⟨aS, aV, aP⟩ := a
    refine ⟨fun f hf => ?_, fun j f hj hf => ?_, fun p g hp hg hn => ?_⟩
    · rcases hf with rfl | rfl | rfl | rfl | rfl
      · exact aS 2 (by decide)
      · exact aS 3 (by decide)
      · exact aS 4 (by decide)
      · exact aS 5 (by decide)
      · exact h6
    · exact (aV j f hj hf).trans (mb_V (M := cb M 0 B) (B := C) (R := R) (show j < 5 by omega) hf).symm
    · refine (aP p g hp hg hn).trans ?_
      have key : ∃ q, q < 8 ∧ mi q = g ∧ (if g = 5 then 0 else if g = 6 then 1 else if g = 0 then 2 else if g = 1 then 3 else if g = 2 then 4 else if g = 3 then 5 else if g = 4 then 6 else 7) = q := by
        rcases (show g = 0 ∨ g = 1 ∨ g = 2 ∨ g = 3 ∨ g = 4 ∨ g = 5 ∨ g = 6 ∨ g = 7 by omega) with rfl | rfl | rfl | rfl | rfl | rfl | rfl | rfl
        · exact ⟨2, by decide, rfl, rfl⟩
        · exact ⟨3, by decide, rfl, rfl⟩
        · exact ⟨4, by decide, rfl, rfl⟩
        · exact ⟨5, by decide, rfl, rfl⟩
        · exact ⟨6, by decide, rfl, rfl⟩
        · exact ⟨0, by decide, rfl, rfl⟩
        · exact ⟨1, by decide, rfl, rfl⟩
        · exact ⟨7, by decide, rfl, rfl⟩
      obtain ⟨q, hq, e1, e2⟩ := key
      have e := mb_P (M := cb M 0 B) (B := C) (R := R) (show p < 8 by omega) hq
      rw [e1] at e
      show C.2.2 p g = mb (cb M 0 B) C R (20, 0, 0) (29 + 8 * p + (if g = 5 then 0 else if g = 6 then 1 else if g = 0 then 2 else if g = 1 then 3 else if g = 2 then 4 else if g = 3 then 5 else if g = 4 then 6 else 7))
      rw [e2, e]
  · exact mb_R.trans r5
  · exact hs
  · show iK t' (mb (cb M 0 B) C R)
    have e7 : mb (cb M 0 B) C R (7, 0, 0) 3 = M (7, 0, 0) 3 := mb_R.trans r3
    unfold iK
    rw [e7]
    exact k
  · obtain ⟨m, h1, h2, h3, h4⟩ := l
    exact ⟨m, h1, h2, (mb_R.trans r8).trans h3, h4⟩
theorem K_mu (X : Nat × (Nat → Int32) × Value) (t : Nat) (M : zM) (G : zG) (kc km kc' km' : Nat) (ac ac' am' : List zV) (i : Inv t M) (h : ∀ nv np, ST M nv np → mu X 0 kc' km' ac' am' (gb M 0) (bm M))
    (hc : ∀ (M M' : zM) (G : zG) (r : Int32) (h2 : zH), zd X 11 kc' (vR (0, 0, 0) :: ac') (hh M G) = some (some (vI r), hh M' G) → zd X 11 116 [vR (6, 0, 0), vI r] (hh M' G) = some (some (vI r), h2) → zd X 12 kc (vR (6, 0, 0) :: ac) (hh M G) = some (some (vI r), h2))
    (hm : ∀ (M M' : zM) (G : zG) (r : Int32) (h2 : zH), zd X 11 km' (vR (7, 0, 0) :: am') (hh M G) = some (some (vI r), hh M' G) → zd X 11 166 [vR (7, 0, 0), vI r] (hh M' G) = some (some (vI r), h2) → zd X 12 km (vR (7, 0, 0) :: ac) (hh M G) = some (some (vI r), h2)) : okI X kc km ac (t + 1) M G := by
  obtain ⟨nv, np, s⟩ := ST_of i
  obtain ⟨r, nv', np', B', C', c, m, q⟩ := h nv np s
  obtain ⟨n5, n8, e2, e3, m0, m1, v, o6, f5, a, vc, ac2, vm⟩ := s
  have c1 := fun h2 => hc M (cb M 0 B') G r h2 (by have := c 7 M G; rw [cb_self] at this; exact this)
  rcases q with ⟨hr, rfl, rfl⟩ | ⟨hr, vb', h6, ag', hs⟩
  · have em : mb M (bm M) (M (7, 0, 0)) = M := mbs M
    simp only [cb_self] at c1
    have g (cn : Nat) (R : zM) (hcn : (cn = 1 ∧ r = -1) ∨ (cn = 2 ∧ r = -2) ∨ (cn = 3 ∧ r = -3) ∨ (cn = 4 ∧ r = -4) ∨ (cn = 6 ∧ r = -6)) : zd X 11 116 [vR (6, 0, 0), vI r] (hh M G) = some (some (vI r), hh (rfs M cn) G) ∧ zd X 11 166 [vR (7, 0, 0), vI r] (hh R G) = some (some (vI r), hh (rfm R cn) G) := by
      rcases hcn with ⟨rfl, rfl⟩ | ⟨rfl, rfl⟩ | ⟨rfl, rfl⟩ | ⟨rfl, rfl⟩ | ⟨rfl, rfl⟩
      · refine ⟨?_, ?_⟩
        · simp only [E116, e116_0, e116_1, e116_4, e116_5, e116_6, e116_9, e116_12, e116_13, zt0, zt1, zn3, not_false_eq_true, toListS, toListN, zk_some, zpi, if_true, if_false, i10, C114_1, show ((0 : Int32) ≤ -1) = False by decide]
        · simp only [E166, e166_0, e166_1, e166_4, e166_5, e166_6, e166_9, e166_12, e166_13, zt0, zt1, zn3, not_false_eq_true, toListS, toListN, zk_some, zpi, if_true, if_false, i10, C129_1, show ((0 : Int32) ≤ -1) = False by decide]
      · refine ⟨?_, ?_⟩
        · simp only [E116, e116_0, e116_1, e116_4, e116_5, e116_6, e116_9, e116_12, e116_13, zt0, zt1, zn3, not_false_eq_true, toListS, toListN, zk_some, zpi, if_true, if_false, i10, C114_2, show ((0 : Int32) ≤ -2) = False by decide]
        · simp only [E166, e166_0, e166_1, e166_4, e166_5, e166_6, e166_9, e166_12, e166_13, zt0, zt1, zn3, not_false_eq_true, toListS, toListN, zk_some, zpi, if_true, if_false, i10, C129_2, show ((0 : Int32) ≤ -2) = False by decide]
      · refine ⟨?_, ?_⟩
        · simp only [E116, e116_0, e116_1, e116_4, e116_5, e116_6, e116_9, e116_12, e116_13, zt0, zt1, zn3, not_false_eq_true, toListS, toListN, zk_some, zpi, if_true, if_false, i10, C114_3, show ((0 : Int32) ≤ -3) = False by decide]
        · simp only [E166, e166_0, e166_1, e166_4, e166_5, e166_6, e166_9, e166_12, e166_13, zt0, zt1, zn3, not_false_eq_true, toListS, toListN, zk_some, zpi, if_true, if_false, i10, C129_3, show ((0 : Int32) ≤ -3) = False by decide]
      · refine ⟨?_, ?_⟩
        · simp only [E116, e116_0, e116_1, e116_4, e116_5, e116_6, e116_9, e116_12, e116_13, zt0, zt1, zn3, not_false_eq_true, toListS, toListN, zk_some, zpi, if_true, if_false, i10, C114_4, show ((0 : Int32) ≤ -4) = False by decide]
        · simp only [E166, e166_0, e166_1, e166_4, e166_5, e166_6, e166_9, e166_12, e166_13, zt0, zt1, zn3, not_false_eq_true, toListS, toListN, zk_some, zpi, if_true, if_false, i10, C129_4, show ((0 : Int32) ≤ -4) = False by decide]
      · refine ⟨?_, ?_⟩
        · simp only [E116, e116_0, e116_1, e116_4, e116_5, e116_6, e116_9, e116_12, e116_13, zt0, zt1, zn3, not_false_eq_true, toListS, toListN, zk_some, zpi, if_true, if_false, i10, C114_6, show ((0 : Int32) ≤ -6) = False by decide]
        · simp only [E166, e166_0, e166_1, e166_4, e166_5, e166_6, e166_9, e166_12, e166_13, zt0, zt1, zn3, not_false_eq_true, toListS, toListN, zk_some, zpi, if_true, if_false, i10, C129_6, show ((0 : Int32) ≤ -6) = False by decide]
    have key : ∃ cn, (cn = 1 ∧ r = -1) ∨ (cn = 2 ∧ r = -2) ∨ (cn = 3 ∧ r = -3) ∨ (cn = 4 ∧ r = -4) ∨ (cn = 6 ∧ r = -6) := by
      rcases hr with e | e | e | e | e
      · exact ⟨1, Or.inl ⟨rfl, e⟩⟩
      · exact ⟨2, Or.inr (Or.inl ⟨rfl, e⟩)⟩
      · exact ⟨3, Or.inr (Or.inr (Or.inl ⟨rfl, e⟩))⟩
      · exact ⟨4, Or.inr (Or.inr (Or.inr (Or.inl ⟨rfl, e⟩)))⟩
      · exact ⟨6, Or.inr (Or.inr (Or.inr (Or.inr ⟨rfl, e⟩)))⟩
    obtain ⟨cn, hcn⟩ := key
    have e23 : rfs M cn (7, 0, 0) = M (7, 0, 0) := rfl
    have eb : bm (rfs M cn) = bm M := rfl
    obtain ⟨R', hR, m1'⟩ := m 2 (rfs M cn) G (M (7, 0, 0)) f5
    have es : mb (rfs M cn) (bm M) (M (7, 0, 0)) = rfs M cn := mbs (rfs M cn)
    rw [es] at m1'
    have m2 := fun h2 => hm (rfs M cn) (mb (rfs M cn) (bm M) R') G r h2 m1'
    refine ⟨r, rfs M cn, G, rfm (mb (rfs M cn) (bm M) R') cn, G, ?_, ?_, ?_⟩
    · exact c1 _ (g cn M hcn).1
    · exact m2 _ (g cn _ hcn).2
    · have sm1 : sm M (mb M (bm M) R') := by
        intro k f hk
        by_cases e7 : k = (7, 0, 0)
        · subst e7
          refine mb_R.trans (hR f ?_)
          intro e6
          subst e6
          exact absurd hk (by decide)
        · by_cases e20 : k = (20, 0, 0)
          · subst e20
            unfold mb mm
            rw [if_pos rfl]
            split
            · rename_i h3
              exact gr_wo M _ 0 h3
            · rfl
          · exact mm_o e20 e7
      have ex : rfm (mb (rfs M cn) (bm M) R') cn = rfm (rfs (mb M (bm M) R') cn) cn := by
        have e0 : mb (rfs M cn) (bm M) R' = rfs (mb M (bm M) R') cn := by
          funext k f
          unfold mb mm rfs u2
          by_cases e7 : k = (7, 0, 0)
          · subst e7; rfl
          · by_cases e20 : k = (20, 0, 0)
            · subst e20; rfl
            · simp [e7, e20]
        rw [e0]
      rw [ex]
      exact Inv_rf (Inv_c sm1 (by omega) i)
  · have f1 : ¬ r < 0 := by rw [i_lt, show (0 : Int32).toInt = 0 from rfl]; omega
    have f2 : 0 ≤ r := i_le.mpr hr
    obtain ⟨R', hR, m1'⟩ := m 2 (cb M 0 B') G (M (7, 0, 0)) f5
    have es : mb (cb M 0 B') (bm M) (M (7, 0, 0)) = cb M 0 B' := mbs (cb M 0 B')
    rw [es] at m1'
    have m2 := fun h2 => hm (cb M 0 B') (mb (cb M 0 B') C' R') G r h2 m1'
    refine ⟨r, cb M 0 B', G, mb (cb M 0 B') C' R', G, ?_, ?_, ?_⟩
    · refine c1 _ ?_
      simp only [E116, e116_0, e116_1, e116_4, e116_5, e116_6, e116_9, e116_12, e116_13, zt0, zt1, zn3, not_false_eq_true, toListS, toListN, zk_some, zpi, if_true, if_false, i10, f2]
    · refine m2 _ ?_
      simp only [E166, e166_0, e166_1, e166_4, e166_5, e166_6, e166_9, e166_12, e166_13, zt0, zt1, zn3, not_false_eq_true, toListS, toListN, zk_some, zpi, if_true, if_false, i10, f2]
    · obtain ⟨-, -, n', -, -, -, -, en, q2⟩ := i.1
      have hs' : (B'.1 4).toInt ≤ (M (0, 0, 0) 4).toInt + 138105 := hs
      exact Inv_mut i vb' h6 ag' (hR 3 (by decide)) ((hR 5 (by decide)).trans f5) (hR 8 (by decide)) (t + 1) (by omega) n' en (by omega)
