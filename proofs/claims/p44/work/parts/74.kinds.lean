/-! THE LAW, third: kinds that go as told are just those *whatIs* tells -/
theorem pk_5 {P : tV} {p kd : Nat} {x y : Int32} (ek : P p 5 = nI kd) : pk P p 6 x y p 5 = nI kd := (pk_o (by decide) (by decide)).trans ek
theorem kd3_pk {P : tV} {p kd : Nat} {x y f : Int32} (ek : P p 5 = nI kd) (e7 : P p 7 = 0) : kd3 (pk P p 6 x y) p (nI kd) f = pk P p 6 f y := by
  unfold kd3
  rw [uV_same (pk_5 ek), pk_k (by decide), uV_same ((pk_o (by decide) (by decide)).trans e7)]
theorem vb_pk {S : Nat → Int32} {V P : tV} {n m p kd x y : Nat} (v : vb (S, V, P) n m) (ek : P p 5 = nI kd) (k5 : kd ≤ 5) (e7 : P p 7 = 0) (x9 : x ≤ 9) (y1 : 1 ≤ y) (y9 : y ≤ 9) : vb (S, V, pk P p 6 (nI x) (nI y)) n m := by
  have q := vb_kind (p := p) (l := kd) (m := x) v k5 x9
  have e : kd3 P p (nI kd) (nI x) = uV P p 6 (nI x) := by
    unfold kd3
    rw [uV_same ek, uV_same ((uV_f (by decide)).trans e7)]
  rw [e] at q
  exact vb_rate q y1 y9
theorem i_eq64 {x y : Int32} : (lg_cmp x.toInt64 y.toInt64 = 0) = (x = y) := by
  rw [lg_z, Int32.toInt_toInt64, Int32.toInt_toInt64]
  exact propext ⟨fun e => i_ext e, fun e => by rw [e]⟩
theorem isA_s {Q : Nat → Bool} {k : Nat} (q : Q k = false) : isA Q (k + 1) = isA Q k &&& 1 := by
  show (if Q k = true then 0 else isA Q k) = _
  rw [q]
  rcases isA_01 Q k with e | e <;> rw [e] <;> rfl
theorem isA_n {Q : Nat → Bool} {k : Nat} (q : Q k = true) : isA Q (k + 1) = isA Q k &&& 0 := by
  show (if Q k = true then 0 else isA Q k) = _
  rw [if_pos q, Int32.and_zero]
theorem n10le {k : Nat} (hk : k < 2 ^ 31) : ((10 : Int32) ≤ nI k) = (10 ≤ k) := nle (a := 10) (by decide) hk
theorem n3le' {k : Nat} (hk : k < 2 ^ 31) : ((3 : Int32) ≤ nI k) = (3 ≤ k) := nle (a := 3) (by decide) hk
theorem n4le {k : Nat} (hk : k < 2 ^ 31) : ((4 : Int32) ≤ nI k) = (4 ≤ k) := nle (a := 4) (by decide) hk
theorem inn_1 {X : Nat × (Nat → Int32) × Value} (c1 c2 : Nat) (h1 : c1 ≤ 600000) (h2 : c2 ≤ 7302250) {l2 l3 l4 l5 l6 l7 l8 l15 x21 : Int32} {l9 l11 l13 : Int64} {rr fg : Nat} (G : zG) {S : Nat → Int32} {V P : tV} {K : zB} {n m p ea ec kd : Nat} (v : vb (S, V, P) n m) (o : S 6 = 0) (hp : p < m) (pa : P p 0 = nI ea) (pc : P p 1 = nI ec) (ha : ea < n) (hc : ec < n) (A2 : ¬ V ea 0 + V ec 0 = 0) (ek : P p 5 = nI kd) (k5 : kd ≤ 5) (e7 : P p 7 = 0) (g : ∀ j, j < 3 → G.2 (12, 1, 0) j = ((tl V P p ea ec (S 5)) j).toInt64) {f k y : Nat} (f9 : f ≤ 9) (y1 : 1 ≤ y) (y9 : y ≤ 9) (hk : k < 3) {M : zM} (R : RH M (S, V, pk P p 6 (nI f) (nI y)) K (tl V P p ea ec (S 5)) 3) : ∃ M', RH M' (S, V, pk P p 6 (nI f) (nI (k + 1))) K (tl V P p ea ec (S 5)) 3 ∧ ∀ w, zw X c1 c2 9 243 460 [vR (50, 0, 0), vR (6, 0, 0), vI l2, vI l3, vI l4, vI l5, vI l6, vI l7, vI l8, vL l9, vN, vL l11, vN, vL l13, vN, vI l15, vI (nI p), vR (12, 1, 0), vI (nI rr), vI (nI kd), vI (nI fg), vI x21, vI (bits (fun f => isA (Qg V P p ea ec 6 (S 5) (nI f) (tl V P p ea ec (S 5))) 3) 10), vI (nI f), vI (isA (Qg V P p ea ec 6 (S 5) (nI f) (tl V P p ea ec (S 5))) (k + 1)), vI (nI (k + 1))] [] (hh M' G) = w → zw X c1 c2 9 243 460 [vR (50, 0, 0), vR (6, 0, 0), vI l2, vI l3, vI l4, vI l5, vI l6, vI l7, vI l8, vL l9, vN, vL l11, vN, vL l13, vN, vI l15, vI (nI p), vR (12, 1, 0), vI (nI rr), vI (nI kd), vI (nI fg), vI x21, vI (bits (fun f => isA (Qg V P p ea ec 6 (S 5) (nI f) (tl V P p ea ec (S 5))) 3) 10), vI (nI f), vI (isA (Qg V P p ea ec 6 (S 5) (nI f) (tl V P p ea ec (S 5))) k), vI (nI k)] [] (hh M G) = w := by
  have s := ST_3 R.1 (vb_pk v ek k5 e7 f9 y1 y9) o
  have y78 := Y78 X M G s p (k + 1) hp (by omega) (by omega)
  have R1 := RH_u (p := p) (x := nI (k + 1)) R
  rw [pk_r] at R1
  generalize u2 M (3, 0, p) 4 (nI (k + 1)) = M1 at y78 R1
  have s1 := ST_3 R1.1 (vb_pk v ek k5 e7 f9 (show 1 ≤ k + 1 by omega) (by omega)) o
  obtain ⟨q1, q2, q3⟩ := gb_3 R1.1
  have y85 := Y85 X M1 G s1 p ea ec hp (by show pw M1 0 p 0 = _; rw [q3, pk_o (by decide) (by decide)]; exact pa) (by show pw M1 0 p 1 = _; rw [q3, pk_o (by decide) (by decide)]; exact pc) ha hc (by rw [q2]; exact A2)
  rw [q1, q2, q3] at y85
  have hz : zin (nI k) 3 = true := zin_nI hk (by decide)
  have hc' : (nI k).toNatClampNeg = k := nI_clamp (by omega)
  refine ⟨M1, R1, fun w ew => ?_⟩
  simp only [e243_460, e243_462, e243_463, n3le' (show k < 2 ^ 31 by omega)]
  rw [if_neg (by omega)]
  simp only [e243_466, e243_467, e243_469, e243_471, e243_472, e243_473, e243_476, h1, h2, toListS, toListN, zk_some, nI_1, y78]
  simp only [e243_477, e243_479, e243_480, e243_482, e243_485, e243_487, e243_489, e243_490, e243_491, h1, h2, toListS, toListN, zk_some, y85, hz, hc', g k hk, i_eq64]
  by_cases c : wG V (pk P p 6 (nI f) (nI (k + 1))) p ea ec (S 5) = (tl V P p ea ec (S 5)) k
  · rw [if_pos c]
    have q : (Qg V P p ea ec 6 (S 5) (nI f) (tl V P p ea ec (S 5))) k = false := by unfold Qg; rw [c]; simp
    rw [isA_s q] at ew
    simp only [e243_494, e243_495, e243_499, e243_500, e243_502, e243_505, nI_1]
    exact ew
  · rw [if_neg c]
    have q : (Qg V P p ea ec 6 (S 5) (nI f) (tl V P p ea ec (S 5))) k = true := decide_eq_true c
    rw [isA_n q] at ew
    simp only [e243_498, e243_499, e243_500, e243_502, e243_505, nI_1]
    exact ew
theorem fig_1 {X : Nat × (Nat → Int32) × Value} (c1 c2 : Nat) (h1 : c1 ≤ 600000) (h2 : c2 ≤ 7302250) {l2 l3 l4 l5 l6 l7 l8 l15 x21 : Int32} {l9 l11 l13 : Int64} {rr fg : Nat} (G : zG) {S : Nat → Int32} {V P : tV} {K : zB} {n m p ea ec kd : Nat} (v : vb (S, V, P) n m) (o : S 6 = 0) (hp : p < m) (pa : P p 0 = nI ea) (pc : P p 1 = nI ec) (ha : ea < n) (hc : ec < n) (A2 : ¬ V ea 0 + V ec 0 = 0) (ek : P p 5 = nI kd) (k5 : kd ≤ 5) (e7 : P p 7 = 0) (g : ∀ j, j < 3 → G.2 (12, 1, 0) j = ((tl V P p ea ec (S 5)) j).toInt64) {f x y : Nat} (f9 : f < 10) (x9 : x ≤ 9) (y1 : 1 ≤ y) (y9 : y ≤ 9) {M : zM} {a24 a25 : zV} (R : RH M (S, V, pk P p 6 (nI x) (nI y)) K (tl V P p ea ec (S 5)) 3) : ∃ M' y' b24 b25, 1 ≤ y' ∧ y' ≤ 9 ∧ RH M' (S, V, pk P p 6 (nI f) (nI y')) K (tl V P p ea ec (S 5)) 3 ∧ ∀ w, zw X c1 c2 9 243 436 [vR (50, 0, 0), vR (6, 0, 0), vI l2, vI l3, vI l4, vI l5, vI l6, vI l7, vI l8, vL l9, vN, vL l11, vN, vL l13, vN, vI l15, vI (nI p), vR (12, 1, 0), vI (nI rr), vI (nI kd), vI (nI fg), vI x21, vI (bits (fun f => isA (Qg V P p ea ec 6 (S 5) (nI f) (tl V P p ea ec (S 5))) 3) 10), vI (nI (f + 1)), b24, b25] [] (hh M' G) = w → zw X c1 c2 9 243 436 [vR (50, 0, 0), vR (6, 0, 0), vI l2, vI l3, vI l4, vI l5, vI l6, vI l7, vI l8, vL l9, vN, vL l11, vN, vL l13, vN, vI l15, vI (nI p), vR (12, 1, 0), vI (nI rr), vI (nI kd), vI (nI fg), vI x21, vI (bits (fun f => isA (Qg V P p ea ec 6 (S 5) (nI f) (tl V P p ea ec (S 5))) 3) 10), vI (nI f), a24, a25] [] (hh M G) = w := by
  have vk := vb_pk v ek k5 e7 x9 y1 y9
  have s := ST_3 R.1 vk o
  obtain ⟨q1, q2, q3⟩ := gb_3 R.1
  have t7 : 0 ≤ (10 * M (3, 0, p) 5 + M (3, 0, p) 6).toInt := by
    show 0 ≤ (10 * pw M 0 p 5 + pw M 0 p 6).toInt
    rw [q3]
    obtain ⟨-, -, -, -, -, -, -, -, -, -, -, x1, x2, x3, x4⟩ := vk.1.2.2.2.2.2 p hp
    exact i_tri x1 x2 x3 x4
  have y77 := Y77_8 X M G s.2.1 s.2.2.2.1 p kd f hp k5 (by omega) t7
  have R1 := RH_k (Q := pk P p 6 (nI f) (nI y)) R
  rw [q1, q2, q3, kd3_pk ek e7] at y77
  generalize cb M 0 (S, V, pk P p 6 (nI f) (nI y)) = M1 at y77 R1
  obtain ⟨M2, ⟨y', w1, w9, R2⟩, L⟩ := zlr (σ := zM) (n := 3) (f := fun k z => zw X c1 c2 9 243 460 [vR (50, 0, 0), vR (6, 0, 0), vI l2, vI l3, vI l4, vI l5, vI l6, vI l7, vI l8, vL l9, vN, vL l11, vN, vL l13, vN, vI l15, vI (nI p), vR (12, 1, 0), vI (nI rr), vI (nI kd), vI (nI fg), vI x21, vI (bits (fun f => isA (Qg V P p ea ec 6 (S 5) (nI f) (tl V P p ea ec (S 5))) 3) 10), vI (nI f), vI (isA (Qg V P p ea ec 6 (S 5) (nI f) (tl V P p ea ec (S 5))) k), vI (nI k)] [] (hh z G)) (P := fun _ z => ∃ y, 1 ≤ y ∧ y ≤ 9 ∧ RH z (S, V, pk P p 6 (nI f) (nI y)) K (tl V P p ea ec (S 5)) 3) (fun k z hk hz => by
    obtain ⟨y, w1, w9, R⟩ := hz
    obtain ⟨M', R', hw⟩ := inn_1 (X := X) c1 c2 h1 h2 G v o hp pa pc ha hc A2 ek k5 e7 g (show f ≤ 9 by omega) w1 w9 hk R
    exact ⟨M', ⟨k + 1, by omega, by omega, R'⟩, hw⟩) 3 0 M1 (by omega) ⟨y, y1, y9, R1⟩
  rw [nI_0, show isA (Qg V P p ea ec 6 (S 5) (nI f) (tl V P p ea ec (S 5))) 0 = 1 from rfl] at L
  have bt := bits_t (fun f => isA (Qg V P p ea ec 6 (S 5) (nI f) (tl V P p ea ec (S 5))) 3) (n := 10) (by decide) f9
  refine ⟨M2, y', vI (isA (Qg V P p ea ec 6 (S 5) (nI f) (tl V P p ea ec (S 5))) 3), vI (nI 3), w1, w9, R2, fun w ew => ?_⟩
  simp only [e243_436, e243_438, e243_440, n10le (show f < 2 ^ 31 by omega)]
  rw [if_neg (by omega)]
  simp only [e243_443, e243_444, e243_446, e243_448, e243_450, e243_453, e243_454, e243_455, e243_457, e243_458, h1, h2, toListS, toListN, zk_some, y77]
  refine Eq.trans L ?_
  simp only [e243_460, e243_462, e243_463, n3le' (show 3 < 2 ^ 31 by decide)]
  rw [if_pos (Nat.le_refl 3)]
  simp only [e243_508, e243_510, e243_512, e243_514, e243_515, e243_516, e243_517, e243_518, bt]
  rcases isA_01 (Qg V P p ea ec 6 (S 5) (nI f) (tl V P p ea ec (S 5))) 3 with e | e
  · rw [e] at ew ⊢
    simp only [if_true, show ((0 : Int32) = 1) = False by decide, if_false, e243_525, e243_526]
    simp only [e243_531, e243_534, nI_1]
    exact ew
  · rw [e] at ew ⊢
    simp only [i10, if_false, if_true, e243_521, e243_522, e243_526]
    simp only [e243_531, e243_534, nI_1]
    exact ew
theorem law_D {X : Nat × (Nat → Int32) × Value} (c1 c2 : Nat) (h1 : c1 ≤ 600000) (h2 : c2 ≤ 7302250) {l2 l3 l4 l5 l6 l7 l8 l15 x21 : Int32} {l9 l11 l13 : Int64} {rr fg : Nat} (G : zG) {S : Nat → Int32} {V P : tV} {K : zB} {n m p ea ec kd : Nat} (v : vb (S, V, P) n m) (o : S 6 = 0) (hp : p < m) (pa : P p 0 = nI ea) (pc : P p 1 = nI ec) (ha : ea < n) (hc : ec < n) (A2 : ¬ V ea 0 + V ec 0 = 0) (ek : P p 5 = nI kd) (k5 : kd ≤ 5) (er : P p 4 = nI rr) (rr1 : 1 ≤ rr) (rr9 : rr ≤ 9) (ef : P p 6 = nI fg) (fg9 : fg ≤ 9) (g : ∀ j, j < 3 → G.2 (12, 1, 0) j = ((tl V P p ea ec (S 5)) j).toInt64) {M : zM} (R : RH M (S, V, P) K (tl V P p ea ec (S 5)) 3) : ∃ M' b23 b24 b25, RH M' (S, V, P) K (tl V P p ea ec (S 5)) 3 ∧ zw X c1 c2 9 243 421 [vR (50, 0, 0), vR (6, 0, 0), vI l2, vI l3, vI l4, vI l5, vI l6, vI l7, vI l8, vL l9, vN, vL l11, vN, vL l13, vN, vI l15, vI (nI p), vR (12, 1, 0), vI (nI rr), vI (nI kd), vI (nI fg), vI x21, vI (bits (fun f => isA (Qg V P p ea ec 6 (S 5) (nI f) (tl V P p ea ec (S 5))) 3) 10), vN, vN, vN] [] (hh M G) = zw X c1 c2 9 243 557 [vR (50, 0, 0), vR (6, 0, 0), vI l2, vI l3, vI l4, vI l5, vI l6, vI l7, vI l8, vL l9, vN, vL l11, vN, vL l13, vN, vI l15, vI (nI p), vR (12, 1, 0), vI (nI rr), vI (nI kd), vI (nI fg), vI x21, vI (bits (fun f => isA (Qg V P p ea ec 6 (S 5) (nI f) (tl V P p ea ec (S 5))) 3) 10), b23, b24, b25] [] (hh M' G) := by
  have nn : ∀ a : Nat, a < 2 ^ 31 → ((nI kd = nI a) = (kd = a)) := fun a h => neq (by omega) h
  by_cases c1' : kd = 1
  · refine ⟨M, vN, vN, vN, R, ?_⟩
    simp only [e243_421, e243_423, e243_424]
    rw [if_pos (show nI kd = 1 by rw [c1']; rfl)]
  by_cases c3' : kd = 3
  · refine ⟨M, vN, vN, vN, R, ?_⟩
    simp only [e243_421, e243_423, e243_424]
    rw [if_neg (show ¬ nI kd = 1 from fun e => c1' ((nn 1 (by decide)).mp e))]
    simp only [e243_427, e243_429, e243_430]
    rw [if_pos (show nI kd = 3 by rw [c3']; rfl)]
  have d1 : ¬ nI kd = 1 := fun e => c1' ((nn 1 (by decide)).mp e)
  have d3 : ¬ nI kd = 3 := fun e => c3' ((nn 3 (by decide)).mp e)
  have e7 : P p 7 = 0 := by
    rcases v.2.2.1 p hp with e | ⟨-, e⟩
    · exact e
    · refine absurd ?_ e
      have ek : (S, V, P).2.2 p 5 = nI kd := ek
      unfold sSi
      rw [ek, if_neg d1, if_neg d3]
  obtain ⟨⟨M1, b24, b25⟩, ⟨x, y, x9, y1, y9, R1⟩, L⟩ := zlr (σ := zM × zV × zV) (n := 10) (f := fun f z => zw X c1 c2 9 243 436 [vR (50, 0, 0), vR (6, 0, 0), vI l2, vI l3, vI l4, vI l5, vI l6, vI l7, vI l8, vL l9, vN, vL l11, vN, vL l13, vN, vI l15, vI (nI p), vR (12, 1, 0), vI (nI rr), vI (nI kd), vI (nI fg), vI x21, vI (bits (fun f => isA (Qg V P p ea ec 6 (S 5) (nI f) (tl V P p ea ec (S 5))) 3) 10), vI (nI f), z.2.1, z.2.2] [] (hh z.1 G)) (P := fun _ z => ∃ x y, x ≤ 9 ∧ 1 ≤ y ∧ y ≤ 9 ∧ RH z.1 (S, V, pk P p 6 (nI x) (nI y)) K (tl V P p ea ec (S 5)) 3) (fun f z hf hz => by
    obtain ⟨x, y, x9, y1, y9, R⟩ := hz
    obtain ⟨M', y', b24, b25, w1, w9, R', hw⟩ := fig_1 (X := X) c1 c2 h1 h2 G v o hp pa pc ha hc A2 ek k5 e7 g hf x9 y1 y9 (a24 := z.2.1) (a25 := z.2.2) R
    exact ⟨(M', b24, b25), ⟨f, y', by omega, w1, w9, R'⟩, hw⟩) 10 0 (M, vN, vN) (by omega) ⟨fg, rr, fg9, rr1, rr9, by rw [← ef, ← er, pk_s]; exact R⟩
  have R1 : RH M1 (S, V, pk P p 6 (nI x) (nI y)) K (tl V P p ea ec (S 5)) 3 := R1
  rw [nI_0] at L
  have s1 := ST_3 R1.1 (vb_pk v ek k5 e7 x9 y1 y9) o
  have y78 := Y78 X M1 G s1 p rr hp rr1 rr9
  have R2 := RH_u (p := p) (x := nI rr) R1
  rw [pk_r] at R2
  generalize u2 M1 (3, 0, p) 4 (nI rr) = M2 at y78 R2
  have v2 := vb_pk v ek k5 e7 x9 rr1 rr9
  have s2 := ST_3 R2.1 v2 o
  obtain ⟨q1, q2, q3⟩ := gb_3 R2.1
  have t7 : 0 ≤ (10 * M2 (3, 0, p) 5 + M2 (3, 0, p) 6).toInt := by
    show 0 ≤ (10 * pw M2 0 p 5 + pw M2 0 p 6).toInt
    rw [q3]
    obtain ⟨-, -, -, -, -, -, -, -, -, -, -, x1, x2, x3, x4⟩ := v2.1.2.2.2.2.2 p hp
    exact i_tri x1 x2 x3 x4
  have y77 := Y77_8 X M2 G s2.2.1 s2.2.2.2.1 p kd fg hp k5 fg9 t7
  rw [q1, q2, q3, kd3_pk ek e7, ← ef, ← er, pk_s] at y77
  have R3 := RH_k (Q := P) R2
  generalize cb M2 0 (S, V, P) = M3 at y77 R3
  rw [ef] at y77
  refine ⟨M3, vI (nI 10), b24, b25, R3, ?_⟩
  simp only [e243_421, e243_423, e243_424]
  rw [if_neg d1]
  simp only [e243_427, e243_429, e243_430]
  rw [if_neg d3]
  simp only [e243_433, e243_434]
  refine Eq.trans L ?_
  simp only [e243_436, e243_438, e243_440, n10le (show 10 < 2 ^ 31 by decide)]
  rw [if_pos (Nat.le_refl 10)]
  simp only [e243_537, e243_538, e243_540, e243_542, e243_545, e243_546, e243_547, e243_549, e243_551, e243_553, e243_556, h1, h2, toListS, toListN, zk_some, y78, y77]
