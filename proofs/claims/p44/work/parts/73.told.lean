/-! THE LAW, second: what a pipe would go at three rates, of which kind it is, of which figure -/
def tl (V P : tV) (p a c : Nat) (st : Int32) (j : Nat) : Int32 := wG V (uV P p 4 (nI (j + 1))) p a c st
def RH (M : zM) (B K : zB) (T : Nat → Int32) (k : Nat) : Prop := gb M 0 = B ∧ gb M 1 = K ∧ M (6, 0, 0) 2 = 1 ∧ M (4, 0, 0) 1 = nI 3 ∧ M (4, 2, 0) 1 = -1 ∧ ∀ j, j < k → M (15, 0, 0) j = T j
theorem RH_sm {M M' : zM} {B K : zB} {T : Nat → Int32} {k : Nat} (h : sm M M') (r : RH M B K T k) : RH M' B K T k := by
  obtain ⟨r1, r2, r3, r4, r5, r6⟩ := r
  exact ⟨(gb_c (by decide) h).trans r1, (gb_c (by decide) h).trans r2, (h _ _ rfl).trans r3, (h _ _ rfl).trans r4, (h _ _ rfl).trans r5, fun j hj => (h (15, 0, 0) j rfl).trans (r6 j hj)⟩
theorem gb_3 {M : zM} {S : Nat → Int32} {V P : tV} (h : gb M 0 = (S, V, P)) : M (0, 0, 0) = S ∧ vw M 0 = V ∧ pw M 0 = P := ⟨congrArg (fun B : zB => B.1) h, congrArg (fun B : zB => B.2.1) h, congrArg (fun B : zB => B.2.2) h⟩
theorem ST_3 {M : zM} {S : Nat → Int32} {V P : tV} {n m : Nat} (h : gb M 0 = (S, V, P)) (v : vb (S, V, P) n m) (o : S 6 = 0) : ST M n m := ST_h (by rw [h]; exact v) (by rw [(gb_3 h).1]; exact o)
/-- a pipe's rate becomes another -/
theorem RH_u {M : zM} {S : Nat → Int32} {V P : tV} {K : zB} {T : Nat → Int32} {k p : Nat} {x : Int32} (r : RH M (S, V, P) K T k) : RH (u2 M (3, 0, p) 4 x) (S, V, uV P p 4 x) K T k := by
  obtain ⟨r1, r2, r3, r4, r5, r6⟩ := r
  obtain ⟨e1, e2, e3⟩ := gb_3 r1
  refine ⟨?_, ?_, (u2_n (show (6 : Nat) ≠ 3 by decide)).trans r3, (u2_n (show (4 : Nat) ≠ 3 by decide)).trans r4, (u2_n (show (4 : Nat) ≠ 3 by decide)).trans r5, fun j hj => (u2_n (show (15 : Nat) ≠ 3 by decide)).trans (r6 j hj)⟩
  · rw [cb_uP, gb_cb, e1, e2, e3]
  · rw [cb_uP, cb_o (by decide)]; exact r2
theorem RH_k {M : zM} {S : Nat → Int32} {V P Q : tV} {K : zB} {T : Nat → Int32} {k : Nat} (r : RH M (S, V, P) K T k) : RH (cb M 0 (S, V, Q)) (S, V, Q) K T k := by
  obtain ⟨r1, r2, r3, r4, r5, r6⟩ := r
  exact ⟨gb_cb, (cb_o (by decide)).trans r2, r3, r4, r5, r6⟩
/-- an amount is put into the list -/
theorem RH_p {M : zM} {B K : zB} {T : Nat → Int32} {k : Nat} (r : RH M B K T k) : RH (u2 M (15, 0, 0) k (T k)) B K T (k + 1) := by
  obtain ⟨r1, r2, r3, r4, r5, r6⟩ := r
  refine ⟨(gb_u2 (by decide)).trans r1, (gb_u2 (by decide)).trans r2, (u2_n (by decide)).trans r3, (u2_n (by decide)).trans r4, (u2_n (by decide)).trans r5, fun j hj => ?_⟩
  by_cases c : j = k
  · rw [c, u2_same]
  · rw [u2_f c]; exact r6 j (by omega)
def okG (G : zG) : Prop := (G.1.filter (fun k => k.1 == 12)).length = 1 ∧ ¬ (12, 1, 0) ∈ G.1
def M12 (M : zM) : zM := fun k j => if k = (12, 1, 0) then 0 else M k j
def G12 (G : zG) : zG := (G.1 ++ [(12, 1, 0)], fun k j => if k = (12, 1, 0) then 0 else G.2 k j)
theorem M12_n {M : zM} {k : zK} {j : Nat} (h : k.1 ≠ 12) : M12 M k j = M k j := if_neg fun e => h (by rw [e])
theorem zadd_hh (M : zM) (G : zG) : zadd (hh M G) (12, 1, 0) 3 = hh (M12 M) (G12 G) := by
  refine Prod.ext rfl (Prod.ext (funext fun k => ?_) (Prod.ext (funext fun k => funext fun j => ?_) rfl))
  · show (if k = (12, 1, 0) then 3 else hln k) = hln k
    split
    · rename_i e; rw [e]; rfl
    · rfl
  · show (if k = (12, 1, 0) then none else hrf k j) = hrf k j
    split
    · rename_i e; rw [e]; first | rfl | (cases j <;> rfl)
    · rfl
theorem e243_285 (X : Nat × (Nat → Int32) × Value) (c1 c2 d : Nat) (ls st : List zV) (M : zM) (G : zG) (g : okG G) (h1 : c1 + 1 ≤ 600000) (h2 : c2 + 3 ≤ 7302250) : zw X c1 c2 d 243 285 ls (vI 3 :: st) (hh M G) = zw X (c1 + 1) (c2 + 3) d 243 287 ls (vR (12, 1, 0) :: st) (hh (M12 M) (G12 G)) := by
  refine zex_inl (a := a_newa 12 2 600000 7302250) rfl ?_
  have hc : zcnt (hh M G) 12 = 1 := g.1
  have h3 : (3 : Int32).toNatClampNeg = 3 := by decide
  have hn : ¬ (12, 1, 0) ∈ (hh M G).1 := g.2
  simp only [a_newa, hc, h3]
  rw [if_pos ⟨hn, by decide, by decide, h1, h2⟩, zadd_hh]
theorem RH_12 {M : zM} {B K : zB} {T : Nat → Int32} {k : Nat} (r : RH M B K T k) : RH (M12 M) B K T k := by
  obtain ⟨r1, r2, r3, r4, r5, r6⟩ := r
  have e : ∀ b, gb (M12 M) b = gb M b := fun b => Prod.ext (funext fun f => M12_n (k := (0, b, 0)) (show (0 : Nat) ≠ 12 by decide)) (Prod.ext (funext fun j => funext fun f => M12_n (k := (5, b, j)) (show (5 : Nat) ≠ 12 by decide)) (funext fun j => funext fun f => M12_n (k := (3, b, j)) (show (3 : Nat) ≠ 12 by decide)))
  exact ⟨(e 0).trans r1, (e 1).trans r2, (M12_n (by decide)).trans r3, (M12_n (by decide)).trans r4, (M12_n (by decide)).trans r5, fun j hj => (M12_n (k := (15, 0, 0)) (show (15 : Nat) ≠ 12 by decide)).trans (r6 j hj)⟩
theorem gb_fl {M : zM} {k : zK} {o n b : Nat} {x : Int32} (h : k.1 ≠ 0 ∧ k.1 ≠ 3 ∧ k.1 ≠ 5) : gb (flR M k o n x) b = gb M b :=
  Prod.ext (funext fun f => flR_n (k' := (0, b, 0)) (fun e => h.1 e.symm)) (Prod.ext (funext fun j => funext fun f => flR_n (k' := (5, b, j)) (fun e => h.2.2 e.symm)) (funext fun j => funext fun f => flR_n (k' := (3, b, j)) (fun e => h.2.1 e.symm)))
theorem gb_la {N M : zM} {k : zK} {o w b : Nat} (h : k.1 ≠ 0 ∧ k.1 ≠ 3 ∧ k.1 ≠ 5) : gb (lay N M k o w) b = gb M b :=
  Prod.ext (funext fun f => lay_n (k' := (0, b, 0)) (fun e => h.1 e.symm)) (Prod.ext (funext fun j => funext fun f => lay_n (k' := (5, b, j)) (fun e => h.2.2 e.symm)) (funext fun j => funext fun f => lay_n (k' := (3, b, j)) (fun e => h.2.1 e.symm)))
theorem u2l_r {G : zG} {k : zK} {f : Nat} {x : Int64} : (u2l G k f x).2 k f = x := if_pos ⟨rfl, rfl⟩
theorem u2l_o {G : zG} {k : zK} {f j : Nat} {x : Int64} (h : j ≠ f) : (u2l G k f x).2 k j = G.2 k j := if_neg fun e => h e.2
theorem n3le {k : Nat} (hk : k < 2 ^ 31) : ((3 : Int32) ≤ nI k) = (3 ≤ k) := nle (a := 3) (by decide) hk
theorem told_1 {X : Nat × (Nat → Int32) × Value} (c1 c2 : Nat) (h1 : c1 ≤ 600000) (h2 : c2 ≤ 7302250) {l2 l3 l4 l5 l6 l7 l8 l15 l18 : Int32} {l9 l11 l13 : Int64} (G : zG) {S : Nat → Int32} {V P : tV} {K : zB} {n m p ea ec : Nat} (v : vb (S, V, P) n m) (o : S 6 = 0) (hp : p < m) (pa : P p 0 = nI ea) (pc : P p 1 = nI ec) (ha : ea < n) (hc : ec < n) (A2 : ¬ V ea 0 + V ec 0 = 0) {k r : Nat} (hr1 : 1 ≤ r) (hr9 : r ≤ 9) (hk : k < 3) {M : zM} (R : RH M (S, V, uV P p 4 (nI r)) K (tl V P p ea ec (S 5)) k) (g : ∀ j, j < k → G.2 (12, 1, 0) j = ((tl V P p ea ec (S 5)) j).toInt64) : ∃ M' G', RH M' (S, V, uV P p 4 (nI (k + 1))) K (tl V P p ea ec (S 5)) (k + 1) ∧ (∀ j, j < k + 1 → G'.2 (12, 1, 0) j = ((tl V P p ea ec (S 5)) j).toInt64) ∧ ∀ w, zw X c1 c2 9 243 302 [vR (50, 0, 0), vR (6, 0, 0), vI l2, vI l3, vI l4, vI l5, vI l6, vI l7, vI l8, vL l9, vN, vL l11, vN, vL l13, vN, vI l15, vI (nI p), vR (12, 1, 0), vI l18, vI (nI (k + 1)), vN, vN, vN, vN, vN, vN] [] (hh M' G') = w → zw X c1 c2 9 243 302 [vR (50, 0, 0), vR (6, 0, 0), vI l2, vI l3, vI l4, vI l5, vI l6, vI l7, vI l8, vL l9, vN, vL l11, vN, vL l13, vN, vI l15, vI (nI p), vR (12, 1, 0), vI l18, vI (nI k), vN, vN, vN, vN, vN, vN] [] (hh M G) = w := by
  have vr := vb_rate (p := p) v hr1 hr9
  have s := ST_3 R.1 vr o
  have y78 := Y78 X M G s p (k + 1) hp (by omega) (by omega)
  have R1 := RH_u (p := p) (x := nI (k + 1)) R
  rw [uV_uV] at R1
  generalize u2 M (3, 0, p) 4 (nI (k + 1)) = M1 at y78 R1
  have v1 := vb_rate (p := p) v (show 1 ≤ k + 1 by omega) (by omega)
  have s1 := ST_3 R1.1 v1 o
  obtain ⟨q1, q2, q3⟩ := gb_3 R1.1
  have y85 := Y85 X M1 G s1 p ea ec hp (by show pw M1 0 p 0 = _; rw [q3, uV_f (by decide)]; exact pa) (by show pw M1 0 p 1 = _; rw [q3, uV_f (by decide)]; exact pc) ha hc (by rw [q2]; exact A2)
  have ew : wG (vw M1 0) (pw M1 0) p ea ec (M1 (0, 0, 0) 5) = (tl V P p ea ec (S 5)) k := by rw [q1, q2, q3]; rfl
  rw [ew] at y85
  have hz : zin (nI k) 3 = true := zin_nI hk (by decide)
  have hc' : (nI k).toNatClampNeg = k := nI_clamp (by omega)
  have y105 : zd X 8 105 [vR (6, 0, 0), vI 0, vI (nI k), vI ((tl V P p ea ec (S 5)) k)] (hh M1 (u2l G (12, 1, 0) k ((tl V P p ea ec (S 5)) k).toInt64)) = some (some (vI 1), hh (u2 M1 (15, 0, 0) k ((tl V P p ea ec (S 5)) k)) (u2l G (12, 1, 0) k ((tl V P p ea ec (S 5)) k).toInt64)) := Y105 X M1 _ 0 3 k _ (by decide) (by decide) hk R1.2.2.2.1
  refine ⟨u2 M1 (15, 0, 0) k ((tl V P p ea ec (S 5)) k), u2l G (12, 1, 0) k ((tl V P p ea ec (S 5)) k).toInt64, RH_p R1, fun j hj => ?_, fun w ew' => ?_⟩
  · by_cases c : j = k
    · rw [c, u2l_r]
    · rw [u2l_o c]; exact g j (by omega)
  simp only [e243_302, e243_304, e243_305, n3le (show k < 2 ^ 31 by omega)]
  rw [if_neg (by omega)]
  simp only [e243_308, e243_309, e243_311, e243_313, e243_314, e243_315, e243_318, h1, h2, toListS, toListN, zk_some, nI_1, y78]
  simp only [e243_319, e243_321, e243_323, e243_324, e243_326, e243_329, h1, h2, toListS, toListN, zk_some, y85, hz, hc']
  simp only [e243_330, e243_331, e243_332, e243_334, e243_336, e243_338, e243_339, e243_340, e243_343, e243_344, e243_347, h1, h2, toListS, toListN, zk_some, hz, hc', u2l_r, lg_l2i_i2l, y105, nI_1]
  exact ew'
theorem Qg_f {V P : tV} {p a c fld : Nat} {st k : Int32} {T : Nat → Int32} {r : Nat} (h : P p fld = k) (e : wG V (uV P p 4 (nI (r + 1))) p a c st = T r) : Qg V P p a c fld st k T r = false := by
  unfold Qg pk
  rw [uV_same h, e]
  simp
theorem law_C {X : Nat × (Nat → Int32) × Value} (hx : X.1 ≤ 260) (c1 c2 : Nat) (h1 : c1 + 1 ≤ 600000) (h2 : c2 + 3 ≤ 7302250) (G : zG) (g : okG G) {l2 l3 l4 l5 l6 l7 l8 l15 l16 : Int32} {l9 l11 l13 : Int64} {M : zM} {n m : Nat} (m1 : 1 ≤ m) (m3 : m ≤ 3) {S : Nat → Int32} {V P : tV} {K : zB} (v : vb (S, V, P) n m) (o : S 6 = 0) (b0 : gb M 0 = (S, V, P)) (b1 : gb M 1 = K) (b2 : M (6, 0, 0) 2 = 1) (b3 : M (4, 2, 0) 1 = -1) : ∃ M' G' p ea ec rr kd fg x21, p < m ∧ P p 0 = nI ea ∧ P p 1 = nI ec ∧ ea < n ∧ ec < n ∧ ¬ V ea 0 + V ec 0 = 0 ∧ P p 4 = nI rr ∧ 1 ≤ rr ∧ rr ≤ 9 ∧ P p 5 = nI kd ∧ kd ≤ 5 ∧ P p 6 = nI fg ∧ fg ≤ 9 ∧ RH M' (S, V, P) K (tl V P p ea ec (S 5)) 3 ∧ (∀ j, j < 3 → G'.2 (12, 1, 0) j = ((tl V P p ea ec (S 5)) j).toInt64) ∧ zw X c1 c2 9 243 262 [vR (50, 0, 0), vR (6, 0, 0), vI l2, vI (nI m), vI l4, vI l5, vI l6, vI l7, vI l8, vL l9, vN, vL l11, vN, vL l13, vN, vI l15, vI l16, vN, vN, vN, vN, vN, vN, vN, vN, vN] [] (hh M G) = zw X (c1 + 1) (c2 + 3) 9 243 421 [vR (50, 0, 0), vR (6, 0, 0), vI l2, vI (nI m), vI l4, vI l5, vI l6, vI l7, vI l8, vL l9, vN, vL l11, vN, vL l13, vN, vI l15, vI (nI p), vR (12, 1, 0), vI (nI rr), vI (nI kd), vI (nI fg), vI x21, vI (bits (fun f => isA (Qg V P p ea ec 6 (S 5) (nI f) (tl V P p ea ec (S 5))) 3) 10), vN, vN, vN] [] (hh M' G') := by
  obtain ⟨k, q, e⟩ := and_n (atv X 7 >>> (6 &&& 31)) 3 (by decide)
  have e : atv X 7 >>> (6 &&& 31) &&& 3 = nI k := e
  have a7 : ∀ h, zd X 8 240 [vR (50, 0, 0), vI 7] h = some (some (vI (atv X 7)), h) := fun h => C240 X hx 8 h 7 (by decide)
  have hz : ¬ nI m = 0 := nz m (by omega) (by omega)
  have rm : nI k - nI k / nI m * nI m = nI (k % m) := i_rem (by omega) (by omega)
  have hp := Nat.mod_lt k (show 0 < m by omega)
  generalize k % m = p at rm hp
  obtain ⟨ea, ec, pa, pc, ha, hc, -, -, A2, r1, r9⟩ := pip v hp
  have pa : P p 0 = nI ea := pa
  have pc : P p 1 = nI ec := pc
  have A2 : ¬ V ea 0 + V ec 0 = 0 := A2
  have r1 : 1 ≤ (P p 4).toInt := r1
  have r9 : (P p 4).toInt ≤ 9 := r9
  obtain ⟨-, -, -, -, -, -, -, -, -, -, -, x1, x2, x3, x4⟩ := v.1.2.2.2.2.2 p hp
  have x1 : 0 ≤ (P p 5).toInt := x1
  have x2 : (P p 5).toInt ≤ 5 := x2
  have x3 : 0 ≤ (P p 6).toInt := x3
  have x4 : (P p 6).toInt ≤ 9 := x4
  obtain ⟨rr, er, rr1, rr9⟩ : ∃ rr, P p 4 = nI rr ∧ 1 ≤ rr ∧ rr ≤ 9 := ⟨_, nI_up (by omega), by omega, by omega⟩
  obtain ⟨kd, ek, kd5⟩ : ∃ kd, P p 5 = nI kd ∧ kd ≤ 5 := ⟨_, nI_up (by omega), by omega⟩
  obtain ⟨fg, ef, fg9⟩ : ∃ fg, P p 6 = nI fg ∧ fg ≤ 9 := ⟨_, nI_up (by omega), by omega⟩
  -- the list is made
  have y104 : zd X 8 104 [vR (6, 0, 0), vI 0, vI 3] (hh M G) = some (some (vI 1), hh (flR (u2 M (4, 0, 0) 1 (nI 3)) (15, 0, 0) 0 3 0) G) := Y104 X M G 0 3 (by decide) (by decide)
  have R0 : RH (flR (u2 M (4, 0, 0) 1 (nI 3)) (15, 0, 0) 0 3 0) (S, V, P) K (tl V P p ea ec (S 5)) 0 := by
    refine ⟨?_, ?_, ?_, ?_, ?_, fun j hj => absurd hj (Nat.not_lt_zero j)⟩
    · rw [gb_fl (by decide), gb_u2 (by decide)]; exact b0
    · rw [gb_fl (by decide), gb_u2 (by decide)]; exact b1
    · rw [flR_n (by decide), u2_n (by decide)]; exact b2
    · rw [flR_n (by decide), u2_same]
    · rw [flR_n (by decide), u2_k (by decide)]; exact b3
  generalize flR (u2 M (4, 0, 0) 1 (nI 3)) (15, 0, 0) 0 3 0 = M1 at y104 R0
  have R2 := RH_12 R0
  generalize hM2 : M12 M1 = M2 at R2
  have s2 := ST_3 R2.1 v o
  have y83 := Y83_6 X M2 (G12 G) s2 p hp
  rw [show M2 (3, 0, p) 4 = pw M2 0 p 4 from rfl, (gb_3 R2.1).2.2, er] at y83
  obtain ⟨⟨M3, G3⟩, ⟨r, w1, w9, R3, g3⟩, L⟩ := zlr (σ := zM × zG) (n := 3) (f := fun k z => zw X (c1 + 1) (c2 + 3) 9 243 302 [vR (50, 0, 0), vR (6, 0, 0), vI l2, vI (nI m), vI l4, vI l5, vI l6, vI l7, vI l8, vL l9, vN, vL l11, vN, vL l13, vN, vI l15, vI (nI p), vR (12, 1, 0), vI (nI rr), vI (nI k), vN, vN, vN, vN, vN, vN] [] (hh z.1 z.2)) (P := fun k z => ∃ r, 1 ≤ r ∧ r ≤ 9 ∧ RH z.1 (S, V, uV P p 4 (nI r)) K (tl V P p ea ec (S 5)) k ∧ ∀ j, j < k → z.2.2 (12, 1, 0) j = ((tl V P p ea ec (S 5)) j).toInt64) (fun k z hk hz => by
    obtain ⟨r, w1, w9, R, g⟩ := hz
    obtain ⟨M', G', R', g', hw⟩ := told_1 (X := X) (c1 + 1) (c2 + 3) h1 h2 z.2 v o hp pa pc ha hc A2 w1 w9 hk R g
    exact ⟨(M', G'), ⟨k + 1, by omega, by omega, R', g'⟩, hw⟩) 3 0 (M2, G12 G) (by omega) ⟨rr, rr1, rr9, by rw [uV_same er]; exact R2, fun j hj => absurd hj (Nat.not_lt_zero j)⟩
  have R3 : RH M3 (S, V, uV P p 4 (nI r)) K (tl V P p ea ec (S 5)) 3 := R3
  have g3 : ∀ j, j < 3 → G3.2 (12, 1, 0) j = ((tl V P p ea ec (S 5)) j).toInt64 := g3
  rw [nI_0] at L
  -- the rate is as it was
  have s3 := ST_3 R3.1 (vb_rate (p := p) v w1 w9) o
  have y78 := Y78 X M3 G3 s3 p rr hp rr1 rr9
  have R4 := RH_u (p := p) (x := nI rr) R3
  rw [uV_uV, uV_same er] at R4
  generalize u2 M3 (3, 0, p) 4 (nI rr) = M4 at y78 R4
  have s4 := ST_3 R4.1 v o
  obtain ⟨q1, q2, q3⟩ := gb_3 R4.1
  have y0 := Y83_0 X M4 G3 s4 p hp
  have y1 := Y83_1 X M4 G3 s4 p hp
  rw [show M4 (3, 0, p) 5 = pw M4 0 p 5 from rfl, q3, ek] at y0
  rw [show M4 (3, 0, p) 6 = pw M4 0 p 6 from rfl, q3, ef] at y1
  have pa4 : ∀ {M' : zM}, RH M' (S, V, P) K (tl V P p ea ec (S 5)) 3 → M' (3, 0, p) 0 = nI ea ∧ M' (3, 0, p) 1 = nI ec ∧ ¬ vw M' 0 ea 0 + vw M' 0 ec 0 = 0 := fun {M'} R' => by
    obtain ⟨-, u2, u3⟩ := gb_3 R'.1
    refine ⟨?_, ?_, by rw [u2]; exact A2⟩
    · show pw M' 0 p 0 = _
      rw [u3]; exact pa
    · show pw M' 0 p 1 = _
      rw [u3]; exact pc
  have bt : ∀ {M' : zM} (fld N : Nat), RH M' (S, V, P) K (tl V P p ea ec (S 5)) 3 → bits (fun k => isA (Qg (vw M' 0) (pw M' 0) p ea ec fld (M' (0, 0, 0) 5) (nI k) (M' (15, 0, 0))) 3) N = bits (fun k => isA (Qg V P p ea ec fld (S 5) (nI k) (tl V P p ea ec (S 5))) 3) N := fun {M'} fld N R' => by
    obtain ⟨u1, u2, u3⟩ := gb_3 R'.1
    rw [u1, u2, u3]
    refine bits_c _ fun k _ => isA_c _ fun j hj => ?_
    unfold Qg
    rw [R'.2.2.2.2.2 j hj]
  obtain ⟨z1, z2, z3⟩ := pa4 R4
  obtain ⟨M5, f5, y10⟩ := Y102_0 X M4 G3 s4 p ea ec 0 3 hp z1 z2 ha hc z3 (by decide) (by decide) R4.2.2.2.1
  rw [bt 5 6 R4, nI_0] at y10
  have R5 := RH_sm f5 R4
  have s5 := ST_3 R5.1 v o
  obtain ⟨z1, z2, z3⟩ := pa4 R5
  obtain ⟨M6, f6, y11⟩ := Y102_1 X M5 G3 s5 p ea ec 0 3 hp z1 z2 ha hc z3 (by decide) (by decide) R5.2.2.2.1
  rw [bt 6 10 R5, nI_0] at y11
  have R6 := RH_sm f6 R5
  have own : ∀ fld k, P p fld = nI k → isA (Qg V P p ea ec fld (S 5) (nI k) (tl V P p ea ec (S 5))) 3 = 1 := fun fld k h => isA_1 3 fun j _ => Qg_f h rfl
  have t1 : bits (fun k => isA (Qg V P p ea ec 5 (S 5) (nI k) (tl V P p ea ec (S 5))) 3) 6 >>> (nI kd &&& 31) &&& 1 = 1 := by
    rw [bits_t _ (by decide) (show kd < 6 by omega), own 5 kd ek]
    rfl
  have t2 : (bits (fun f => isA (Qg V P p ea ec 6 (S 5) (nI f) (tl V P p ea ec (S 5))) 3) 10) >>> (nI fg &&& 31) &&& 1 = 1 := by
    rw [bits_t _ (by decide) (show fg < 10 by omega), own 6 fg ef]
    rfl
  refine ⟨M6, G3, p, ea, ec, rr, kd, fg, bits (fun k => isA (Qg V P p ea ec 5 (S 5) (nI k) (tl V P p ea ec (S 5))) 3) 6, hp, pa, pc, ha, hc, A2, er, rr1, rr9, ek, kd5, ef, fg9, R6, g3, ?_⟩
  have k1 : c1 ≤ 600000 := by omega
  have k2 : c2 ≤ 7302250 := by omega
  simp only [e243_262, e243_263, e243_265, e243_268, e243_270, e243_271, e243_272, e243_273, e243_274, e243_275, e243_277, e243_278, e243_279, e243_280, e243_283, e243_284, k1, k2, toListS, toListN, zk_some, a7, e, hz, not_false_eq_true, rm, y104]
  rw [e243_285 X c1 c2 9 _ _ M1 G g h1 h2, hM2]
  simp only [e243_287, e243_289, e243_290, e243_292, e243_294, e243_297, e243_299, e243_300, h1, h2, toListS, toListN, zk_some, y83]
  refine Eq.trans L ?_
  simp only [e243_302, e243_304, e243_305, n3le (show 3 < 2 ^ 31 by decide)]
  rw [if_pos (Nat.le_refl 3)]
  simp only [e243_350, e243_351, e243_353, e243_355, e243_358, e243_359, e243_360, e243_362, e243_363, e243_366, e243_368, e243_369, e243_371, e243_372, e243_375, e243_377, e243_378, e243_379, e243_381, e243_382, e243_385, e243_387, e243_388, e243_389, e243_391, e243_392, e243_395, e243_397, e243_399, e243_401, e243_402, e243_403, e243_404, e243_405, h1, h2, toListS, toListN, zk_some, y78, y0, y1, y10, y11, t1, if_true]
  simp only [e243_408, e243_410, e243_412, e243_413, e243_414, e243_415, e243_416, t2, if_true]
