/-! THE LAW, whole: what the constructor makes (run out by the kernel), build, and the phases one behind another -/
def hN : zH := ([], fun _ => 0, fun _ _ => none, fun _ _ => 0, fun _ _ => 0)
def X00 : Nat × (Nat → Int32) × Value := (0, fun _ => 0, .null)
def h6 : zH := zadd hN (6, 0, 0) 0
def st00 : zS := (0, [vR (50, 0, 0), vN, vN, vN, vN, vN, vN, vN, vN, vN, vN, vN, vN, vN, vN, vN, vN, vN, vN, vN, vN, vN, vN, vN, vN, vN], [], hN, 0, 0)
def chkI (h : zH) : Bool := chkN h && (h.1.filter (fun k => k.1 == 12)).length == 1 && !(h.1.contains (12, 1, 0)) && [2, 3, 4, 5, 6].all (fun f => h.2.2.2.1 (0, 0, 0) f == 0) && h.2.2.2.1 (4, 2, 0) 1 == -1
/-- the table of what runs then -/
def Tp : zTab := (fun M pc => if 240 ≤ M then none else zcd X00 M pc, znL, zmc, zms)
theorem tst : (match zexec Tp 20000 7 72 (zent (znL 72) [vR (6, 0, 0)] h6) with
  | some (none, h) => chkI h
  | _ => false) = true := by decide +kernel
theorem mk_run : ∃ h, zexec Tp 20000 7 72 (zent (znL 72) [vR (6, 0, 0)] h6) = some (none, h) ∧ chkI h = true := by
  have t := tst
  cases h : zexec Tp 20000 7 72 (zent (znL 72) [vR (6, 0, 0)] h6) with
  | none => rw [h] at t; exact absurd t Bool.false_ne_true
  | some r =>
    obtain ⟨v, h1⟩ := r
    cases v with
    | none => rw [h] at t; exact ⟨h1, rfl, t⟩
    | some v => rw [h] at t; exact absurd t Bool.false_ne_true
theorem zstep_tab {T T' : zTab} (h1 : ∀ M pc i, T'.1 M pc = some i → T.1 M pc = some i) (h2 : T'.2 = T.2) {e1 e2 : Nat → Nat → zS → Option zR} (h : ∀ d M st r, e1 d M st = some r → e2 d M st = some r) {d M : Nat} {st : zS} {y : zS ⊕ zR} (hs : zstep T' e1 d M st = some y) : zstep T e2 d M st = some y := by
  have hs := zstep_mono h hs
  unfold zstep at hs ⊢
  cases hi : T'.1 M st.1 with
  | none => rw [hi] at hs; cases hs
  | some i =>
    rw [hi] at hs
    rw [h1 _ _ _ hi, ← h2]
    exact hs
theorem zrun_tab {T T' : zTab} (h1 : ∀ M pc i, T'.1 M pc = some i → T.1 M pc = some i) (h2 : T'.2 = T.2) : ∀ (n d M : Nat) (st : zS) (r : zR), zexec T' n d M st = some r → zexec T n d M st = some r := by
  intro n
  induction n with
  | zero => intro d M st r h; cases h
  | succ n ih =>
    intro d M st r h
    unfold zexec at h ⊢
    cases hs : zstep T' (zexec T' n) d M st with
    | none => rw [hs] at h; cases h
    | some y =>
      have e := zstep_tab h1 h2 ih hs
      rw [hs] at h
      rw [e]
      cases y with
      | inl st' => exact ih d M st' r h
      | inr r2 => exact h
theorem zcd_X (X : Nat × (Nat → Int32) × Value) (k : Nat) (h2 : k < 240) : zcd X00 k = zcd X k := by
  unfold zcd
  repeat' refine ite_c (fun _ => ?_) (fun _ => ?_)
  all_goals first | rfl | omega
theorem Tp_ok (X : Nat × (Nat → Int32) × Value) : ∀ M pc i, Tp.1 M pc = some i → (zTX X).1 M pc = some i := by
  intro M pc i h
  have h' : (if 240 ≤ M then none else zcd X00 M pc) = some i := h
  show zcd X M pc = some i
  by_cases h1 : 240 ≤ M
  · rw [if_pos h1] at h'
    cases h'
  · rw [if_neg h1, zcd_X X M (by omega)] at h'
    exact h'
theorem init_1 (X : Nat × (Nat → Int32) × Value) : ∃ h, zd X 7 72 [vR (6, 0, 0)] h6 = some (none, h) ∧ chkI h = true := by
  obtain ⟨h, e, c⟩ := mk_run
  exact ⟨h, zex_iff.mpr ⟨20000, zrun_tab (Tp_ok X) rfl 20000 7 72 _ _ e⟩, c⟩
theorem BI_0 {h : zH} (c : chkI h = true) : chkN h = true ∧ okG (h.1, h.2.2.2.2) ∧ BI h.2.2.2.1 0 0 := by
  unfold chkI at c
  simp only [Bool.and_eq_true] at c
  obtain ⟨⟨⟨⟨c1, c2⟩, c3⟩, c4⟩, c5⟩ := c
  have s : ∀ f, f ∈ [2, 3, 4, 5, 6] → h.2.2.2.1 (0, 0, 0) f = 0 := fun f hf => eq_of_beq (chk_all c4 hf)
  have z4 : (h.2.2.2.1 (0, 0, 0) 4).toInt = 0 := by rw [s 4 (by decide)]; rfl
  have z5 : (h.2.2.2.1 (0, 0, 0) 5).toInt = 0 := by rw [s 5 (by decide)]; rfl
  refine ⟨c1, ⟨eq_of_beq c2, fun q => ?_⟩, ?_, s 6 (by decide), s 4 (by decide), s 5 (by decide), eq_of_beq c5⟩
  · have := List.contains_iff_mem.mpr q
    have this : h.1.contains (12, 1, 0) = true := this
    rw [this] at c3
    cases c3
  · refine ⟨⟨s 2 (by decide), s 3 (by decide), by omega, by omega, fun j hj => absurd hj (Nat.not_lt_zero j), fun j hj => absurd hj (Nat.not_lt_zero j)⟩, fun j hj => absurd hj (Nat.not_lt_zero j), fun p hp => absurd hp (Nat.not_lt_zero p), ?_, ?_, ?_, ?_⟩
    · show 0 ≤ (h.2.2.2.1 (0, 0, 0) 4).toInt
      omega
    · show (h.2.2.2.1 (0, 0, 0) 4).toInt ≤ 2000000000
      omega
    · show 0 ≤ (h.2.2.2.1 (0, 0, 0) 5).toInt
      omega
    · show (h.2.2.2.1 (0, 0, 0) 5).toInt ≤ 9999
      omega
theorem build_0 (X : Nat × (Nat → Int32) × Value) (hx : X.1 ≤ 260) : ∃ M G n m, BI M n m ∧ okG G ∧ 2 ≤ n ∧ n ≤ 3 ∧ 1 ≤ m ∧ m ≤ 3 ∧ zd X 8 241 [vR (50, 0, 0)] hN = some (some (vR (6, 0, 0)), hh M G) := by
  obtain ⟨h, e, c⟩ := init_1 X
  obtain ⟨cN, cG, cB⟩ := BI_0 c
  obtain ⟨M', n, m, b, n2, n3, m1, m3, ez⟩ := build_1 X hx (h.1, h.2.2.2.2) h.2.2.2.1 cB
  refine ⟨M', (h.1, h.2.2.2.2), n, m, b, cG, n2, n3, m1, m3, ?_⟩
  have s0 : zex (zTX X) 8 241 (0, [vR (50, 0, 0), vN, vN, vN, vN, vN, vN, vN], [], hN, 0, 0) = zex (zTX X) 8 241 (3, [vR (50, 0, 0), vN, vN, vN, vN, vN, vN, vN], [vR (6, 0, 0)], h6, 1, 10) := by
    refine zex_inl (a := a_new 6 88 961) rfl ?_
    simp only [a_new]
    rw [if_pos ⟨by decide, by decide, by decide⟩]
    rfl
  have s3 : zex (zTX X) 8 241 (3, [vR (50, 0, 0), vN, vN, vN, vN, vN, vN, vN], [vR (6, 0, 0)], h6, 1, 10) = zex (zTX X) 8 241 (4, [vR (50, 0, 0), vN, vN, vN, vN, vN, vN, vN], [vR (6, 0, 0), vR (6, 0, 0)], h6, 1, 10) := zex_inl (a := a_dup) rfl rfl
  have s4 := zex_call (T := zTX X) (M := 241) (d := 7) (pc := 4) (ls := [vR (50, 0, 0), vN, vN, vN, vN, vN, vN, vN]) (stk := [vR (6, 0, 0), vR (6, 0, 0)]) (h := h6) (nc := 1) (ns := 10) (q := (100, 72, 1)) rfl ⟨⟨by decide, by decide, rfl⟩, Nat.le_of_ble_eq_true rfl, Nat.le_of_ble_eq_true rfl, Nat.le_of_ble_eq_true rfl⟩ e
  have s7 : zex (zTX X) 8 241 (7, [vR (50, 0, 0), vN, vN, vN, vN, vN, vN, vN], [vR (6, 0, 0)], h, 88, 961) = zex (zTX X) 8 241 (8, [vR (50, 0, 0), vR (6, 0, 0), vN, vN, vN, vN, vN, vN], [], hh h.2.2.2.1 (h.1, h.2.2.2.2), 88, 961) := by
    refine zex_inl (a := a_nrm (a_st1 ztr 1 1)) rfl ?_
    have q : a_st1 ztr 1 1 8 (7, [vR (50, 0, 0), vN, vN, vN, vN, vN, vN, vN], [vR (6, 0, 0)], h, 88, 961) = some (.inl (8, [vR (50, 0, 0), vR (6, 0, 0), vN, vN, vN, vN, vN, vN], [], h, 88, 961)) := rfl
    unfold a_nrm
    rw [q]
    dsimp only
    rw [if_pos cN]
    rfl
  exact s0.trans (s3.trans (s4.trans (s7.trans ez)))
/-- from where build has answered on -/
theorem law_5 (X : Nat × (Nat → Int32) × Value) (hx : X.1 ≤ 260) (G : zG) (g : okG G) {M : zM} {n m : Nat} (n2 : 2 ≤ n) (n3 : n ≤ 3) (m1 : 1 ≤ m) (m3 : m ≤ 3) (b : BI M n m) : ∃ h', zw X 88 961 9 243 5 [vR (50, 0, 0), vR (6, 0, 0), vN, vN, vN, vN, vN, vN, vN, vN, vN, vN, vN, vN, vN, vN, vN, vN, vN, vN, vN, vN, vN, vN, vN, vN] [] (hh M G) = some (some (vI 1), h') := by
  have k1 : (88 : Nat) ≤ 600000 := Nat.le_of_ble_eq_true rfl
  have k2 : (961 : Nat) ≤ 7302250 := Nat.le_of_ble_eq_true rfl
  have k3 : 88 + 1 ≤ 600000 := Nat.le_of_ble_eq_true rfl
  have k4 : 961 + 3 ≤ 7302250 := Nat.le_of_ble_eq_true rfl
  obtain ⟨M1, N, a5, a6, p, N1, N2, eA⟩ := law_A hx 88 961 k1 k2 G n2 n3 m1 m3 b
  obtain ⟨M2, t, a, b', x15, f2, eB⟩ := law_B hx 88 961 k1 k2 G (a5 := a5) (a6 := a6) (a7 := nI n) n2 n3 m1 m3 N2 p
  have p2 := PH_sm f2 p
  obtain ⟨S, V, P, hB⟩ : ∃ S V P, gb M2 0 = (S, V, P) := ⟨_, _, _, rfl⟩
  have e1 : gb M1 0 = (S, V, P) := (gb_c (by decide) f2).symm.trans hB
  rw [e1] at eB
  have v : vb (S, V, P) n m := by rw [← hB]; exact p2.1
  have o : S 6 = 0 := (congrFun (gb_3 hB).1 6).symm.trans p2.2.1
  obtain ⟨M3, G3, pp, ea, ec, rr, kd, fg, x21, hp, pa, pc, ha, hc, A2, er, rr1, rr9, ek, k5, ef, fg9, R3, g3, eC⟩ := law_C hx 88 961 k3 k4 G g (l2 := nI n) (l3 := 0) (l4 := nI N) (l5 := a5) (l6 := a6) (l7 := (bst n m (S, V, P) N).1 4) (l8 := nI t) (l15 := x15) (l16 := nI n) (l9 := lI a) (l11 := lI b') (l13 := lI (t ^ m)) m1 m3 v o hB rfl p2.2.2.1 p2.2.2.2.2.2
  obtain ⟨M4, b23, b24, b25, R4, eD⟩ := law_D (88 + 1) (961 + 3) k3 k4 G3 (l2 := nI n) (l3 := nI m) (l4 := nI N) (l5 := a5) (l6 := a6) (l7 := (bst n m (S, V, P) N).1 4) (l8 := nI t) (l15 := x15) (x21 := x21) (l9 := lI a) (l11 := lI b') (l13 := lI (t ^ m)) v o hp pa pc ha hc A2 ek k5 er rr1 rr9 ef fg9 g3 R3
  obtain ⟨M5, c23, R5, eE⟩ := law_E (88 + 1) (961 + 3) k3 k4 (X := X) (l5 := a5) (l6 := a6) (l7 := (bst n m (S, V, P) N).1 4) (l8 := nI t) (l15 := x15) (l16 := nI pp) (l18 := nI rr) (l19 := nI kd) (l20 := nI fg) (l21 := x21) (l22 := bits (fun f => isA (Qg V P pp ea ec 6 (S 5) (nI f) (tl V P pp ea ec (S 5))) 3) 10) (l9 := lI a) (l11 := lI b') (l13 := lI (t ^ m)) (a24 := b24) (a25 := b25) (N := N) (a23 := b23) G3 v o n2 n3 R4.1 R4.2.1 R4.2.2.1 R4.2.2.2.2.1
  obtain ⟨M6, eF⟩ := law_F (88 + 1) (961 + 3) k3 k4 (X := X) (l5 := a5) (l6 := a6) (l8 := nI t) (l15 := x15) (l16 := nI pp) (l18 := nI rr) (l19 := nI kd) (l20 := nI fg) (l21 := x21) (l22 := bits (fun f => isA (Qg V P pp ea ec 6 (S 5) (nI f) (tl V P pp ea ec (S 5))) 3) 10) (l9 := lI a) (l11 := lI b') (l13 := lI (t ^ m)) (a24 := b24) (a25 := b25) (N := N) (x23 := c23) G3 v o n2 n3 m1 m3 N2 p2.2.2.2.1 p2.2.2.2.2.1 R5
  exact ⟨_, eA.trans (eB.trans (eC.trans (eD.trans (eE.trans eF))))⟩
theorem law_ends (X : Nat × (Nat → Int32) × Value) (hx : X.1 ≤ 260) : ∃ n h', zexec (zTX X) n 9 243 st00 = some (some (vI 1), h') := by
  obtain ⟨M, G, n, m, b, g, n2, n3, m1, m3, e⟩ := build_0 X hx
  obtain ⟨h', e5⟩ := law_5 X hx G g n2 n3 m1 m3 b
  have s0 : zex (zTX X) 9 243 st00 = zex (zTX X) 9 243 (1, [vR (50, 0, 0), vN, vN, vN, vN, vN, vN, vN, vN, vN, vN, vN, vN, vN, vN, vN, vN, vN, vN, vN, vN, vN, vN, vN, vN, vN], [vR (50, 0, 0)], hN, 0, 0) := zex_inl (a := a_load ztr 0 1) rfl rfl
  have s1 := zex_call (T := zTX X) (M := 243) (d := 8) (pc := 1) (ls := [vR (50, 0, 0), vN, vN, vN, vN, vN, vN, vN, vN, vN, vN, vN, vN, vN, vN, vN, vN, vN, vN, vN, vN, vN, vN, vN, vN, vN]) (stk := [vR (50, 0, 0)]) (h := hN) (nc := 0) (ns := 0) (q := (0, 241, 1)) rfl ⟨⟨by decide, by decide, rfl⟩, Nat.le_of_ble_eq_true rfl, Nat.le_of_ble_eq_true rfl, Nat.le_of_ble_eq_true rfl⟩ e
  have s4 : zex (zTX X) 9 243 (4, [vR (50, 0, 0), vN, vN, vN, vN, vN, vN, vN, vN, vN, vN, vN, vN, vN, vN, vN, vN, vN, vN, vN, vN, vN, vN, vN, vN, vN], [vR (6, 0, 0)], hh M G, 88, 961) = zex (zTX X) 9 243 (5, [vR (50, 0, 0), vR (6, 0, 0), vN, vN, vN, vN, vN, vN, vN, vN, vN, vN, vN, vN, vN, vN, vN, vN, vN, vN, vN, vN, vN, vN, vN, vN], [], hh M G, 88, 961) := zex_inl (a := a_st1 ztr 1 1) rfl rfl
  obtain ⟨n', hn⟩ := zex_iff.mp (s0.trans (s1.trans (s4.trans e5)))
  exact ⟨n', h', hn⟩
theorem z_law {zcc : Nat → ByteArray} {zown : Nat → String} {zy : Nat → MethodName} {zret : Nat → Option FieldType} {zini : Nat → Bool} (X : Nat × (Nat → Int32) × Value) (hx : X.1 ≤ 260) (hT : ∀ M pc i, (zTX X).1 M pc = some i → zOkI X (zTX X) zcc zown zy zret zini M pc i)
    (p : Program) (l : Launch) (e : Env) (R : Room) (s : State) (m : MethodId) (args : Array Value) (below : List Frame) (meth : Method) (c : Code) (cA : Nat → ClassId) (D : va_G) (A : Nat → Prop) (ad0 : zK → Nat) (Q : State → Prop)
    (hC : zCtx p e R s m args meth c (zcc 243) (zown 243) ((zTX X).2.1 243) ((zTX X).2.2.1 243) ((zTX X).2.2.2 243) 9 (zini 243) cA D A X ad0 hN)
    (hQ : ∀ h' pc a st2, (zTX X).1 243 pc = some (.inr (.inl a)) → st2.1 = pc → a 9 st2 = some (.inr (.inl (some (vI 1), h'))) → zWs p l e R s m args below meth c ((zTX X).2.1 243) cA D A ad0 hN Q st2) :
    zWs p l e R s m args below meth c ((zTX X).2.1 243) cA D A ad0 hN Q st00 := by
  obtain ⟨n, h', hn⟩ := law_ends X hx
  exact z_sound hT n 9 243 _ _ h' hn p l e R s m args below meth c cA D A ad0 hN Q hC (hQ h')
