/-! round -/
def Qe (nv np : Nat) (B : zB) (s e : Nat) : Bool := decide (trn (bst nv np B e) np nv = trn (bst nv np B s) np nv)
def er (nv np : Nat) (B : zB) (s : Nat) : Nat := fi (Qe nv np B s) 0 s
def Qr (nv np : Nat) (B : zB) (s : Nat) : Bool := decide (er nv np B s < s)
def rnd (nv np : Nat) (B : zB) : Nat := fi (Qr nv np B) 0 201
theorem Qe_c {nv np : Nat} {B C : zB} (h : vb B nv np) (h6 : B.1 6 = 0) (a : ag nv np B C) (vc : vb C nv np) (s e : Nat) : Qe nv np B s e = Qe nv np C s e := by
  have n5 := h.1.2.2.1
  have n8 := h.1.2.2.2.1
  have key : ∀ n, trn (bst nv np B n) np nv = trn (bst nv np C n) np nv := fun n => by
    have an := bst_c h a n
    refine (trn_i n8 (vb_wok (bst_v h n)) (vb_wok (bst_v vc n)) nv (Nat.le_refl _)).mpr ⟨fun j hj => an.2.1 j 3 hj (by decide), by rw [an.1 5 (by decide)], rb_c np fun p hp => an.2.2 p 7 hp (by decide) (fun _ => by rw [bst_6, h6]; exact out_0 p)⟩
  unfold Qe
  rw [key, key]
theorem rnd_c {nv np : Nat} {B C : zB} (h : vb B nv np) (h6 : B.1 6 = 0) (a : ag nv np B C) (vc : vb C nv np) : rnd nv np B = rnd nv np C ∧ ∀ s, er nv np B s = er nv np C s := by
  have q : ∀ s, er nv np B s = er nv np C s := fun s => fi_c _ _ fun k _ _ => Qe_c h h6 a vc s k
  exact ⟨fi_c _ _ fun k _ _ => by unfold Qr; rw [q k], q⟩
theorem u2l_s {G : zG} {k : zK} {f : Nat} {x : Int64} : u2l G k f x k f = x := if_pos ⟨rfl, rfl⟩
theorem u2l_f {G : zG} {k k' : zK} {f f' : Nat} {x : Int64} (h : f' ≠ f) : u2l G k f x k' f' = G k' f' := if_neg fun q => h q.2
theorem lI_i {a b : Nat} (ha : a < 2 ^ 63) (hb : b < 2 ^ 63) : ((lI a).toInt = (lI b).toInt) = (a = b) := by rw [lI_int ha, lI_int hb]; exact propext (by omega)
theorem C37 (X : Nat × (Nat → Int32) × Value) (d : Nat) {M : zM} (G : zG) {nv np : Nat} (s : ST M nv np) : ∃ (B' : zB) (G' : zG), zd X (d + 4) 37 [vR (2, 0, 0), vR (0, 0, 0)] (hh M G) = (if rnd nv np (bc M nv np) = 201 then some (some (vI (-9)), hh (cb M 3 B') G') else some (some (vI (nI (rnd nv np (bc M nv np)))), hh (u2 (cb M 3 B') (2, 0, 0) 2 (nI (er nv np (bc M nv np) (rnd nv np (bc M nv np))))) G')) := by
  have vc := s.2.2.2.2.2.2.2.2.2.2.1
  have n5 := s.1
  have n8 := s.2.1
  have tl : ∀ k, trn (bst nv np (bc M nv np) k) np nv < 2 ^ 63 := fun k => Nat.lt_of_lt_of_le (trn_lt n8 (vb_wok (bst_v vc k)) n5 nv (Nat.le_refl _)) (Nat.pow_le_pow_right (by decide) (by omega))
  have c18 : ∀ k G, zd X (d + 3) 18 [vR (0, 3, 0)] (hh (cb M 3 (bst nv np (bc M nv np) k)) G) = some (some (vL (lI (trn (bst nv np (bc M nv np) k) np nv))), hh (cb M 3 (bst nv np (bc M nv np) k)) G) := fun k G => by
    have q := C18 X (d + 2) (cb M 3 (bst nv np (bc M nv np) k)) G 3 nv np (by rw [gb_cb]; exact bst_v vc k)
    rw [gb_cb] at q
    exact q
  have inner : ∀ k, k < 201 → ∀ (G : zG), (∀ e, e < k → G (12, 0, 0) e = lI (trn (bst nv np (bc M nv np) e) np nv)) → zx X (d + 4) 37 37 [vR (2, 0, 0), vR (0, 0, 0), vI (nI k), vL (lI (trn (bst nv np (bc M nv np) k) np nv)), vN, vI 0] [] (hh (cb M 3 (bst nv np (bc M nv np) k)) G) = zx X (d + 4) 37 37 [vR (2, 0, 0), vR (0, 0, 0), vI (nI k), vL (lI (trn (bst nv np (bc M nv np) k) np nv)), vN, vI (nI (er nv np (bc M nv np) k))] [] (hh (cb M 3 (bst nv np (bc M nv np) k)) G) := by
    intro k hk G hG
    have lq := zsf (n := k) (f := fun e => zx X (d + 4) 37 37 [vR (2, 0, 0), vR (0, 0, 0), vI (nI k), vL (lI (trn (bst nv np (bc M nv np) k) np nv)), vN, vI (nI e)] [] (hh (cb M 3 (bst nv np (bc M nv np) k)) G)) (Q := Qe nv np (bc M nv np) k) (fun e he hQ w ew => by
      have hQ' := of_decide_eq_false hQ
      have hz : zin (nI e) 201 = true := zin_nI (by omega) (by decide)
      have hc : (nI e).toNatClampNeg = e := nI_clamp (by omega)
      simp only [e37_37, e37_39, e37_40, nle (show k < 2 ^ 31 by omega) (show e < 2 ^ 31 by omega)]
      rw [if_neg (by omega)]
      simp only [e37_43, e37_44, e37_47, e37_49, e37_50, e37_51, e37_52, hz, hc, hG e he, lg_z, lI_i (tl e) (tl k)]
      rw [if_neg hQ']
      simp only [e37_63, e37_66, nI_1]
      exact ew) k 0 (by omega)
    rw [nI_0] at lq
    exact lq
  obtain ⟨⟨G1, l3, l5⟩, hP, lp⟩ := zsr (σ := zG × zV × zV) (n := 201) (f := fun k z => zx X (d + 4) 37 10 [vR (2, 0, 0), vR (0, 0, 0), vI (nI k), z.2.1, vN, z.2.2] [] (hh (cb M 3 (bst nv np (bc M nv np) k)) z.1)) (P := fun k z => ∀ e, e < k → z.1 (12, 0, 0) e = lI (trn (bst nv np (bc M nv np) e) np nv)) (Q := Qr nv np (bc M nv np)) (fun k z hk hP hQ => by
    have hQ' := of_decide_eq_false hQ
    have eb := (fi_b (Q := Qe nv np (bc M nv np) k) k 0).2
    have ee : er nv np (bc M nv np) k = k := by
      have : er nv np (bc M nv np) k ≤ 0 + k := eb
      omega
    have hz : zin (nI k) 201 = true := zin_nI hk (by decide)
    have hc : (nI k).toNatClampNeg = k := nI_clamp (by omega)
    have st := W11 X d M (u2l z.1 (12, 0, 0) k (lI (trn (bst nv np (bc M nv np) k) np nv))) vc k
    have i1 := inner k hk z.1 hP
    rw [ee] at i1
    refine ⟨(u2l z.1 (12, 0, 0) k (lI (trn (bst nv np (bc M nv np) k) np nv)), vL (lI (trn (bst nv np (bc M nv np) k) np nv)), vI (nI k)), fun e he => ?_, fun w ew => ?_⟩
    · by_cases q : e = k
      · subst q; exact u2l_s
      · exact (u2l_f q).trans (hP e (by omega))
    · simp only [e37_10, e37_11, e37_14]
      rw [if_neg (by rw [show (200 : Int32) = nI 200 from rfl, nlt (by decide) (by omega)]; omega)]
      simp only [e37_17, e37_18, e37_19, e37_22, e37_23]
      rw [if_neg (by rw [show (201 : Int32) = nI 201 from rfl, nle (by decide) (by omega)]; omega)]
      simp only [e37_26, e37_27, e37_30, e37_33, e37_34, e37_35, zt0, zt1, zn3, not_false_eq_true, toListS, toListN, zk_some, zpi, c18]
      refine Eq.trans i1 ?_
      simp only [e37_37, e37_39, e37_40, nle (show k < 2 ^ 31 by omega) (show k < 2 ^ 31 by omega)]
      rw [if_pos (Nat.le_refl _)]
      simp only [e37_69, e37_70, e37_73, e37_74, e37_75, e37_76, e37_77, e37_80, e37_83, e37_86, zt0, zt1, zn3, not_false_eq_true, toListS, toListN, zk_some, zpi, hz, hc, st, nI_1]
      exact ew) 201 0 (G, vN, vN) (by omega) (fun e he => by omega)
  have hm : fi (Qr nv np (bc M nv np)) 0 201 = rnd nv np (bc M nv np) := rfl
  have mb_ := (fi_b (Q := Qr nv np (bc M nv np)) 201 0).2
  have mt := fi_t (Q := Qr nv np (bc M nv np)) 201 0
  rw [hm] at lp hP mb_ mt
  rw [nI_0] at lp
  generalize rnd nv np (bc M nv np) = m at lp hP mb_ mt ⊢
  have E0 : zd X (d + 4) 37 [vR (2, 0, 0), vR (0, 0, 0)] (hh M G) = zx X (d + 4) 37 10 [vR (2, 0, 0), vR (0, 0, 0), vI 0, vN, vN, vN] [] (hh (cb M 3 (bc M nv np)) G) := by
    simp only [E37, e37_0, e37_1, e37_4, e37_5, e37_8, e37_9, zt0, zt1, zn3, not_false_eq_true, toListS, toListN, zk_some, zpi, T1 X _ G s]
  refine ⟨bst nv np (bc M nv np) m, G1, E0.trans (lp.trans ?_)⟩
  by_cases e : m = 201
  · rw [if_pos e, e]
    simp only [e37_10, e37_11, e37_14]
    rw [if_pos (by decide)]
    simp only [e37_89, e37_91]
  · rw [if_neg e]
    have hk : m < 201 := by omega
    have hQ' := of_decide_eq_true (mt (by omega))
    have i1 := inner m hk G1 hP
    have et := of_decide_eq_true (fi_t (Q := Qe nv np (bc M nv np) m) m 0 (by show er nv np (bc M nv np) m < 0 + m; omega))
    have et' : trn (bst nv np (bc M nv np) (er nv np (bc M nv np) m)) np nv = trn (bst nv np (bc M nv np) m) np nv := et
    have hz : zin (nI (er nv np (bc M nv np) m)) 201 = true := zin_nI (by omega) (by decide)
    have hc : (nI (er nv np (bc M nv np) m)).toNatClampNeg = er nv np (bc M nv np) m := nI_clamp (by omega)
    have hg := hP _ hQ'
    dsimp only at hg
    simp only [e37_10, e37_11, e37_14]
    rw [if_neg (by rw [show (200 : Int32) = nI 200 from rfl, nlt (by decide) (by omega)]; omega)]
    simp only [e37_17, e37_18, e37_19, e37_22, e37_23]
    rw [if_neg (by rw [show (201 : Int32) = nI 201 from rfl, nle (by decide) (by omega)]; omega)]
    simp only [e37_26, e37_27, e37_30, e37_33, e37_34, e37_35, zt0, zt1, zn3, not_false_eq_true, toListS, toListN, zk_some, zpi, c18]
    refine Eq.trans i1 ?_
    simp only [e37_37, e37_39, e37_40, nle (show m < 2 ^ 31 by omega) (show er nv np (bc M nv np) m < 2 ^ 31 by omega)]
    rw [if_neg (by omega)]
    simp only [e37_43, e37_44, e37_47, e37_49, e37_50, e37_51, e37_52, hz, hc, hg, lg_z, lI_i (tl _) (tl m)]
    rw [if_pos et']
    simp only [e37_55, e37_56, e37_58, e37_61, e37_62]
/-! the model's states -/
def stv (nv np : Nat) (B : zB) (k : Nat) : Int32 := if k < 5 then (if k < nv then B.2.1 k 3 else 0) else if k = 5 then rb B.2.2 np else B.1 5 - B.1 5 / 3 * 3
def stR (N : zM) (o w : Nat) (f : Nat → Int32) : zM := fun k' g => if k' = (27, 0, 0) ∧ o ≤ g ∧ g < o + w then f (g - o) else N k' g
theorem stR_0 {N : zM} {o : Nat} {f : Nat → Int32} : stR N o 0 f = N := by
  funext k' g
  unfold stR
  rw [if_neg (by omega)]
theorem stR_s {N : zM} {o w : Nat} {f : Nat → Int32} : u2 (stR N o w f) (27, 0, 0) (o + w) (f w) = stR N o (w + 1) f := by
  funext k' g
  unfold u2 stR
  by_cases h1 : k' = (27, 0, 0)
  · by_cases h2 : g = o + w
    · rw [if_pos ⟨h1, h2⟩, if_pos ⟨h1, by omega⟩, show g - o = w by omega]
    · rw [if_neg (fun e => h2 e.2)]
      by_cases h3 : o ≤ g ∧ g < o + w
      · rw [if_pos ⟨h1, h3⟩, if_pos ⟨h1, by omega⟩]
      · rw [if_neg (fun e => h3 e.2), if_neg (fun e => h3 (by omega))]
  · rw [if_neg (fun e => h1 e.1), if_neg (fun e => h1 e.1), if_neg (fun e => h1 e.1)]
theorem mb_27 {N : zM} {B : zB} {R : Nat → Int32} {g : Nat} {x : Int32} : u2 (mb N B R) (27, 0, 0) g x = mb (u2 N (27, 0, 0) g x) B R := by
  funext k' f
  unfold u2 mb mm
  by_cases h1 : k' = (27, 0, 0)
  · subst h1
    by_cases h2 : f = g
    · simp [h2]
    · simp [h2]
  · by_cases h2 : k' = (20, 0, 0)
    · subst h2; simp
    · simp [h1, h2]
theorem n7 (n k : Nat) : 7 * nI n + nI k = nI (7 * n + k) := by rw [show (7 : Int32) = nI 7 from rfl, pk_mul, nI_add]
theorem n75 (n : Nat) : 7 * nI n + 5 = nI (7 * n + 5) := n7 n 5
theorem n76 (n : Nat) : 7 * nI n + 6 = nI (7 * n + 6) := n7 n 6
theorem C188 (X : Nat × (Nat → Int32) × Value) (d : Nat) (N : zM) (G : zG) {nv np : Nat} {B : zB} (R : Nat → Int32) (h : vb B nv np) (n : Nat) (hn : n ≤ 200) : zd X (d + 3) 188 [vR (7, 0, 0), vI (nI n)] (hh (mb N B R) G) = some (none, hh (mb (stR N (7 * n) 7 (stv nv np B)) B R) G) := by
  have n5 := h.1.2.2.1
  have n8 := h.1.2.2.2.1
  have lp := zlf (n := 5) (f := fun v => zx X (d + 3) 188 2 [vR (7, 0, 0), vI (nI n), vI (nI v)] [] (hh (mb (stR N (7 * n) v (stv nv np B)) B R) G)) (fun v hv w ew => by
    have hz : zin (nI (7 * n + v)) 1407 = true := zin_nI (by omega) (by decide)
    have hc : (nI (7 * n + v)).toNatClampNeg = 7 * n + v := nI_clamp (by omega)
    have c132 := C132 X (d + 1) (mb (stR N (7 * n) v (stv nv np B)) B R) G (nI v) nv (mb_0.trans h.1.1) (by omega)
    simp only [e188_2, e188_3, e188_4]
    rw [if_neg (by rw [show (5 : Int32) = nI 5 from rfl, nle (by decide) (by omega)]; omega)]
    simp only [e188_7, e188_8, e188_11, e188_13, e188_14, e188_15, e188_16, e188_17, e188_18, e188_19, e188_22, zt0, zt1, zn3, not_false_eq_true, toListS, toListN, zk_some, zpi, n7, c132]
    by_cases q : v < nv
    · have e : stv nv np B v = B.2.1 v 3 := by unfold stv; rw [if_pos hv, if_pos q]
      rw [isx_y q (by omega), if_neg (by decide)]
      simp only [e188_25, e188_26, e188_29, e188_30, e188_33, e188_34, e188_35, e188_36, e188_40, e188_41, e188_44, zt0, zt1, zn3, not_false_eq_true, toListS, toListN, zk_some, zpi, C134, niV, ni3, wV hv (show 3 < 5 by decide), cV hv (show 3 < 5 by decide), mb_V hv (show 3 < 5 by decide), hz, hc, mb_27, ← e, stR_s, nI_1]
      exact ew
    · have e : stv nv np B v = 0 := by unfold stv; rw [if_pos hv, if_neg q]
      rw [show isx nv (nI v) = 0 from inz_n (by rw [nI_int (by omega)]; omega), if_pos rfl]
      have es := stR_s (N := N) (o := 7 * n) (w := v) (f := stv nv np B)
      rw [e] at es
      simp only [e188_39, e188_40, e188_41, e188_44, zt0, zt1, zn3, not_false_eq_true, toListS, toListN, zk_some, zpi, hz, hc, mb_27, es, nI_1]
      exact ew) 5 0 (by omega)
  rw [nI_0, stR_0] at lp
  have z5' : zin (nI (7 * n + 5)) 1407 = true := zin_nI (by omega) (by decide)
  have c5' : (nI (7 * n + 5)).toNatClampNeg = 7 * n + 5 := nI_clamp (by omega)
  have z6' : zin (nI (7 * n + 6)) 1407 = true := zin_nI (by omega) (by decide)
  have c6' : (nI (7 * n + 6)).toNatClampNeg = 7 * n + 6 := nI_clamp (by omega)
  have c189 := fun N => C189 X d N G B R np h.1.2.1 n8 (fun p hp => (h.2.2.1 p hp).imp id And.left)
  have s5 := stR_s (N := N) (o := 7 * n) (w := 5) (f := stv nv np B)
  have s6 := stR_s (N := N) (o := 7 * n) (w := 6) (f := stv nv np B)
  rw [show stv nv np B 5 = rb B.2.2 np from rfl] at s5
  rw [show stv nv np B 6 = B.1 5 - B.1 5 / 3 * 3 from rfl] at s6
  simp only [E188, e188_0, e188_1]
  refine Eq.trans lp ?_
  simp only [e188_2, e188_3, e188_4]
  rw [if_pos (by decide)]
  simp only [e188_47, e188_48, e188_51, e188_53, e188_54, e188_55, e188_56, e188_57, e188_58, e188_61, e188_62, e188_63, e188_66, e188_68, e188_69, e188_70, e188_72, e188_73, e188_74, e188_77, e188_78, e188_79, e188_80, e188_81, e188_82, zt0, zt1, zn3, not_false_eq_true, toListS, toListN, zk_some, zpi, n75, n76, c189, z5', c5', z6', c6', mb_27, s5, s6, mb_2, w2, t2, zn3, not_false_eq_true]
def st7 (N : zM) (a b : Nat) : Bool := (List.range 7).all fun k => decide (N (27, 0, 0) (7 * a + k) = N (27, 0, 0) (7 * b + k))
theorem st7_i {N : zM} {a b : Nat} : st7 N a b = true ↔ ∀ k, k < 7 → N (27, 0, 0) (7 * a + k) = N (27, 0, 0) (7 * b + k) := by
  unfold st7
  rw [List.all_eq_true]
  constructor
  · intro h k hk
    exact of_decide_eq_true (h k (List.mem_range.mpr hk))
  · intro h k hk
    exact decide_eq_true (h k (List.mem_range.mp hk))
theorem C190 (X : Nat × (Nat → Int32) × Value) (d : Nat) (N : zM) (G : zG) (a b : Nat) (ha : a ≤ 200) (hb : b ≤ 200) : zd X d 190 [vR (7, 0, 0), vI (nI a), vI (nI b)] (hh N G) = some (some (vI (if st7 N a b = true then 1 else 0)), hh N G) := by
  have lp := zsf (n := 7) (f := fun k => zx X d 190 2 [vR (7, 0, 0), vI (nI a), vI (nI b), vI (nI k)] [] (hh N G)) (Q := fun k => decide (¬ N (27, 0, 0) (7 * a + k) = N (27, 0, 0) (7 * b + k))) (fun k hk hQ w ew => by
    have hQ' := Classical.not_not.mp (of_decide_eq_false hQ)
    have za : zin (nI (7 * a + k)) 1407 = true := zin_nI (by omega) (by decide)
    have ca : (nI (7 * a + k)).toNatClampNeg = 7 * a + k := nI_clamp (by omega)
    have zb : zin (nI (7 * b + k)) 1407 = true := zin_nI (by omega) (by decide)
    have cb_ : (nI (7 * b + k)).toNatClampNeg = 7 * b + k := nI_clamp (by omega)
    simp only [e190_2, e190_3, e190_5]
    rw [if_neg (by rw [show (7 : Int32) = nI 7 from rfl, nle (by decide) (by omega)]; omega)]
    simp only [e190_8, e190_9, e190_12, e190_14, e190_15, e190_16, e190_17, e190_18, e190_19, e190_20, e190_23, e190_25, e190_26, e190_27, e190_28, e190_29, e190_30, n7, za, ca, zb, cb_]
    rw [if_pos hQ']
    simp only [e190_35, e190_38, nI_1]
    exact ew) 7 0 (by omega)
  have hb' := (fi_b (Q := fun k => decide (¬ N (27, 0, 0) (7 * a + k) = N (27, 0, 0) (7 * b + k))) 7 0).2
  have hn := fi_n (Q := fun k => decide (¬ N (27, 0, 0) (7 * a + k) = N (27, 0, 0) (7 * b + k))) 7 0
  have ht := fi_t (Q := fun k => decide (¬ N (27, 0, 0) (7 * a + k) = N (27, 0, 0) (7 * b + k))) 7 0
  rw [nI_0] at lp
  generalize fi (fun k => decide (¬ N (27, 0, 0) (7 * a + k) = N (27, 0, 0) (7 * b + k))) 0 7 = m at lp hb' hn ht
  simp only [E190, e190_0, e190_1]
  refine Eq.trans lp ?_
  by_cases e : m = 7
  · subst e
    rw [if_pos (show st7 N a b = true from st7_i.mpr fun k hk => Classical.not_not.mp (of_decide_eq_false (hn k (by omega) hk)))]
    simp only [e190_2, e190_3, e190_5]
    rw [if_pos (by decide)]
    simp only [e190_41, e190_42, zt1]
  · have hm : m < 7 := by omega
    have hQ' := of_decide_eq_true (ht (by omega))
    have za : zin (nI (7 * a + m)) 1407 = true := zin_nI (by omega) (by decide)
    have ca : (nI (7 * a + m)).toNatClampNeg = 7 * a + m := nI_clamp (by omega)
    have zb : zin (nI (7 * b + m)) 1407 = true := zin_nI (by omega) (by decide)
    have cb_ : (nI (7 * b + m)).toNatClampNeg = 7 * b + m := nI_clamp (by omega)
    rw [if_neg (show ¬ st7 N a b = true from fun q => hQ' (st7_i.mp q m hm))]
    simp only [e190_2, e190_3, e190_5]
    rw [if_neg (by rw [show (7 : Int32) = nI 7 from rfl, nle (by decide) (by omega)]; omega)]
    simp only [e190_8, e190_9, e190_12, e190_14, e190_15, e190_16, e190_17, e190_18, e190_19, e190_20, e190_23, e190_25, e190_26, e190_27, e190_28, e190_29, e190_30, n7, za, ca, zb, cb_]
    rw [if_neg hQ']
    simp only [e190_33, e190_34, zt0]
theorem C191 (X : Nat × (Nat → Int32) × Value) (d : Nat) (N : zM) (G : zG) (n : Nat) (hn : n ≤ 200) : zd X (d + 1) 191 [vR (7, 0, 0), vI (nI n)] (hh N G) = some (some (vI (if fi (fun k => st7 N k n) 0 n < n then nI (fi (fun k => st7 N k n) 0 n) else -9)), hh N G) := by
  have lp := zsf (n := n) (f := fun k => zx X (d + 1) 191 2 [vR (7, 0, 0), vI (nI n), vI (nI k)] [] (hh N G)) (Q := fun k => st7 N k n) (fun k hk hQ w ew => by
    have c190 := C190 X d N G k n (by omega) hn
    rw [hQ] at c190
    simp only [e191_2, e191_3, e191_4, nle (show n < 2 ^ 31 by omega) (show k < 2 ^ 31 by omega)]
    rw [if_neg (by omega)]
    simp only [e191_7, e191_8, e191_9, e191_10, e191_13, zt0, zt1, zn3, not_false_eq_true, toListS, toListN, zk_some, zpi, if_true, if_false, i10, c190, Bool.false_eq_true, e191_18, e191_21, nI_1]
    exact ew) n 0 (by omega)
  have hb := (fi_b (Q := fun k => st7 N k n) n 0).2
  have ht := fi_t (Q := fun k => st7 N k n) n 0
  rw [nI_0] at lp
  generalize fi (fun k => st7 N k n) 0 n = m at lp hb ht ⊢
  simp only [E191, e191_0, e191_1]
  refine Eq.trans lp ?_
  simp only [e191_2, e191_3, e191_4, nle (show n < 2 ^ 31 by omega) (show m < 2 ^ 31 by omega)]
  by_cases e : m < n
  · have c190 := C190 X d N G m n (by omega) hn
    rw [ht (by omega)] at c190
    rw [if_neg (by omega), if_pos e]
    simp only [e191_7, e191_8, e191_9, e191_10, e191_13, e191_16, e191_17, zt0, zt1, zn3, not_false_eq_true, toListS, toListN, zk_some, zpi, if_true, if_false, i10, c190]
  · rw [if_pos (by omega), if_neg e]
    simp only [e191_24, e191_26]
theorem stv_e {nv np : Nat} {B C : zB} (h : vb B nv np) (vc : vb C nv np) : (∀ k, k < 7 → stv nv np B k = stv nv np C k) ↔ trn B np nv = trn C np nv := by
  have n5 := h.1.2.2.1
  have n8 := h.1.2.2.2.1
  have s3 : ∀ B : zB, vb B nv np → B.1 5 - B.1 5 / 3 * 3 = nI ((B.1 5).toInt.toNat % 3) := fun B h => by
    have s1 : 0 ≤ (B.1 5).toInt := h.2.2.2.2.2.1
    have s2 : (B.1 5).toInt ≤ 9999 := h.2.2.2.2.2.2
    have es : B.1 5 = nI (B.1 5).toInt.toNat := nI_up s1
    have k : (B.1 5).toInt.toNat < 2 ^ 31 := by omega
    have q := n_m3 k
    rw [← es] at q
    exact q
  rw [trn_i n8 (vb_wok h) (vb_wok vc) nv (Nat.le_refl _)]
  constructor
  · intro q
    refine ⟨fun j hj => ?_, ?_, q 5 (by decide)⟩
    · have := q j (by omega)
      unfold stv at this
      rw [if_pos (by omega), if_pos hj, if_pos (by omega), if_pos hj] at this
      exact this
    · have q6 : B.1 5 - B.1 5 / 3 * 3 = C.1 5 - C.1 5 / 3 * 3 := q 6 (by decide)
      rw [s3 B h, s3 C vc, neq (by omega) (by omega)] at q6
      exact q6
  · rintro ⟨q1, q2, q3⟩ k hk
    unfold stv
    by_cases c : k < 5
    · rw [if_pos c, if_pos c]
      by_cases c2 : k < nv
      · rw [if_pos c2, if_pos c2]; exact q1 k c2
      · rw [if_neg c2, if_neg c2]
    · rw [if_neg c, if_neg c]
      by_cases c2 : k = 5
      · rw [if_pos c2, if_pos c2]; exact q3
      · rw [if_neg c2, if_neg c2, s3 B h, s3 C vc, q2]
theorem C192 (X : Nat × (Nat → Int32) × Value) (d : Nat) (N0 : zM) (G : zG) {nv np : Nat} {B : zB} {R : Nat → Int32} (h : vb B nv np) (hR : R 5 = B.1 6) (w : Int32) : ∃ (N' : zM) (k : Nat) (l3 l4 : Int32), (∀ k' f, k' ≠ (27, 0, 0) → N' k' f = N0 k' f) ∧ (rnd nv np B ≠ 201 → l3 = nI (rnd nv np B)) ∧ zx X (d + 8) 192 32 [vR (7, 0, 0), vI w, vI (-9), vI (-9), vI 0] [] (hh (mb N0 B R) G) = zx X (d + 8) 192 70 [vR (7, 0, 0), vI w, vI (if rnd nv np B = 201 then -9 else nI (er nv np B (rnd nv np B))), vI l3, vI l4] [] (hh (mb N' (bst nv np B k) (rS nv np B R k)) G) := by
  have key : ∀ (k : Nat) (N : zM), k ≤ 200 → (∀ e, e < k → ∀ q, q < 7 → N (27, 0, 0) (7 * e + q) = stv nv np (bst nv np B e) q) → fi (fun e => st7 (mb (stR N (7 * k) 7 (stv nv np (bst nv np B k))) (bst nv np B k) (rS nv np B R k)) e k) 0 k = er nv np B k := by
    intro k N hk hN
    refine fi_c _ _ fun e _ he => ?_
    have he' : e < k := by omega
    unfold Qe
    refine Bool.eq_iff_iff.mpr ?_
    rw [st7_i, decide_eq_true_iff, ← stv_e (bst_v h e) (bst_v h k)]
    have e1 : ∀ q, q < 7 → mb (stR N (7 * k) 7 (stv nv np (bst nv np B k))) (bst nv np B k) (rS nv np B R k) (27, 0, 0) (7 * e + q) = stv nv np (bst nv np B e) q := fun q hq => by
      show stR N (7 * k) 7 (stv nv np (bst nv np B k)) (27, 0, 0) (7 * e + q) = _
      unfold stR
      rw [if_neg (by omega)]
      exact hN e he' q hq
    have e2 : ∀ q, q < 7 → mb (stR N (7 * k) 7 (stv nv np (bst nv np B k))) (bst nv np B k) (rS nv np B R k) (27, 0, 0) (7 * k + q) = stv nv np (bst nv np B k) q := fun q hq => by
      show stR N (7 * k) 7 (stv nv np (bst nv np B k)) (27, 0, 0) (7 * k + q) = _
      unfold stR
      rw [if_pos ⟨rfl, by omega⟩, show 7 * k + q - 7 * k = q by omega]
    constructor
    · intro q z hz
      have := q z hz
      rw [e1 z hz, e2 z hz] at this
      exact this
    · intro q z hz
      rw [e1 z hz, e2 z hz]
      exact q z hz
  obtain ⟨⟨N1, l3⟩, ⟨hP1, hP2⟩, lp⟩ := zsr (σ := zM × Int32) (n := 201) (f := fun k z => zx X (d + 8) 192 32 [vR (7, 0, 0), vI w, vI (-9), vI z.2, vI (nI k)] [] (hh (mb z.1 (bst nv np B k) (rS nv np B R k)) G)) (P := fun k z => (∀ e, e < k → ∀ q, q < 7 → z.1 (27, 0, 0) (7 * e + q) = stv nv np (bst nv np B e) q) ∧ ∀ k' f, k' ≠ (27, 0, 0) → z.1 k' f = N0 k' f) (Q := Qr nv np B) (fun k z hk hP hQ => by
    obtain ⟨hP1, hP2⟩ := hP
    have hQ' := of_decide_eq_false hQ
    have c188 := C188 X (d + 4) z.1 G (rS nv np B R k) (bst_v h k) k (by omega)
    have c191 := C191 X (d + 6) (mb (stR z.1 (7 * k) 7 (stv nv np (bst nv np B k))) (bst nv np B k) (rS nv np B R k)) G k (by omega)
    rw [key k z.1 (by omega) hP1, if_neg hQ'] at c191
    have st := W148 X d (stR z.1 (7 * k) 7 (stv nv np (bst nv np B k))) G h hR k
    refine ⟨(stR z.1 (7 * k) 7 (stv nv np (bst nv np B k)), nI k), ⟨fun e he q hq => ?_, fun k' f hk' => ?_⟩, fun w' ew => ?_⟩
    · show stR z.1 (7 * k) 7 (stv nv np (bst nv np B k)) (27, 0, 0) (7 * e + q) = _
      unfold stR
      by_cases c : e = k
      · subst c
        rw [if_pos ⟨rfl, by omega⟩, show 7 * e + q - 7 * e = q by omega]
      · rw [if_neg (by omega)]
        exact hP1 e (by omega) q hq
    · show stR z.1 (7 * k) 7 (stv nv np (bst nv np B k)) k' f = _
      unfold stR
      rw [if_neg (fun e => hk' e.1)]
      exact hP2 k' f hk'
    · simp only [e192_32, e192_34, e192_37]
      rw [if_neg (by rw [show (200 : Int32) = nI 200 from rfl, nlt (by decide) (by omega)]; omega)]
      simp only [e192_40, e192_41]
      rw [if_neg (by decide)]
      simp only [e192_44, e192_45, e192_47, e192_50, e192_51, e192_53, e192_56, e192_57, e192_59, e192_60, e192_61, e192_64, e192_67, zt0, zt1, zn3, not_false_eq_true, toListS, toListN, zk_some, zpi, c188, c191, st, nI_1]
      exact ew) 201 0 (N0, -9) (by omega) ⟨fun e he => by omega, fun _ _ _ => rfl⟩
  have hm : fi (Qr nv np B) 0 201 = rnd nv np B := rfl
  have mb_ := (fi_b (Q := Qr nv np B) 201 0).2
  have mt := fi_t (Q := Qr nv np B) 201 0
  rw [hm] at lp hP1 mb_ mt
  rw [nI_0] at lp
  generalize rnd nv np B = m at lp hP1 mb_ mt ⊢
  by_cases e : m = 201
  · subst e
    refine ⟨N1, 201, l3, nI 201, hP2, fun q => absurd rfl q, lp.trans ?_⟩
    rw [if_pos rfl]
    simp only [e192_32, e192_34, e192_37]
    rw [if_pos (by decide)]
  · have hk : m < 201 := by omega
    have hQ' := of_decide_eq_true (mt (by omega))
    have c188 := C188 X (d + 4) N1 G (rS nv np B R m) (bst_v h m) m (by omega)
    have c191 := C191 X (d + 6) (mb (stR N1 (7 * m) 7 (stv nv np (bst nv np B m))) (bst nv np B m) (rS nv np B R m)) G m (by omega)
    rw [key m N1 (by omega) hP1, if_pos hQ'] at c191
    have st := W148 X d (stR N1 (7 * m) 7 (stv nv np (bst nv np B m))) G h hR m
    have p0 : 0 ≤ nI (er nv np B m) := by rw [i_le, nI_int (by omega)]; show (0 : Int) ≤ er nv np B m; omega
    refine ⟨stR N1 (7 * m) 7 (stv nv np (bst nv np B m)), m + 1, nI m, nI (m + 1), fun k' f hk' => ?_, fun _ => rfl, lp.trans ?_⟩
    · unfold stR
      rw [if_neg (fun e => hk' e.1)]
      exact hP2 k' f hk'
    · rw [if_neg e]
      simp only [e192_32, e192_34, e192_37]
      rw [if_neg (by rw [show (200 : Int32) = nI 200 from rfl, nlt (by decide) (by omega)]; omega)]
      simp only [e192_40, e192_41]
      rw [if_neg (by decide)]
      simp only [e192_44, e192_45, e192_47, e192_50, e192_51, e192_53, e192_56, e192_57, e192_59, e192_60, e192_61, e192_64, e192_67, zt0, zt1, zn3, not_false_eq_true, toListS, toListN, zk_some, zpi, c188, c191, st, nI_1]
      simp only [e192_32, e192_34, e192_37]
      by_cases q : (200 : Int32) < nI (m + 1)
      · rw [if_pos q]
      · rw [if_neg q]
        simp only [e192_40, e192_41]
        rw [if_pos p0]
theorem bk_o {M N' : zM} {B : zB} {R : Nat → Int32} (h : ∀ k f, k ≠ (27, 0, 0) → N' k f = cpK M (20, 0, 0) (21, 0, 0) 93 k f) : sm (bk M B R) (u2 (cpK (mb N' B R) (21, 0, 0) (20, 0, 0) 93) (7, 0, 0) 5 0) := by
  intro k f hk
  have hk' : k ≠ (27, 0, 0) := by rintro rfl; exact Bool.false_ne_true hk
  have e1 : ∀ q g, q ≠ (27, 0, 0) → mb N' B R q g = mb (cpK M (20, 0, 0) (21, 0, 0) 93) B R q g := fun q g hq => by
    unfold mb mm
    rw [h q g hq]
  unfold bk u2 cpK
  rw [e1 (21, 0, 0) f (by decide), e1 k f hk']
  rfl
theorem K18 (X : Nat × (Nat → Int32) × Value) (t : Nat) (M : zM) (G : zG) (x : Int32) (i : Inv t M) : okI X 91 192 [vI x] t M G := by
  obtain ⟨nv, np, s⟩ := ST_of i
  have s' := s
  obtain ⟨n5, n8, e2, e3, m0, m1, v, o6, f5, a, vc, ac, vm⟩ := s'
  rcases inz_c x 2 (by decide) with ⟨g, gn⟩ | ⟨g, w, hw, rfl⟩
  · have g' : inz x 0 2 = 0 := g
    rcases rng_n (lit := 2) rfl gn with c1 | ⟨c1, c2⟩
    · refine ⟨-2, rfs M 2, G, rfm (rfs M 2) 2, G, ?_, ?_, Inv_rf i⟩
      · simp only [E91, e91_0, e91_1, e91_4, e91_5, e91_6, e91_9, e91_10, e91_12, e91_15, e91_16, e91_17, e91_20, e91_21, e91_24, e91_27, e91_28, e91_29, e91_32, e91_33, e91_36, e91_37, e91_38, e91_39, e91_40, e91_43, e91_44, e91_47, e91_50, e91_53, e91_54, e91_55, e91_58, e91_61, e91_62, zt0, zt1, zn3, not_false_eq_true, toListS, toListN, zk_some, zpi, if_true, if_false, i10, c1, C114_2, q_lt_m2_0, q_le_m2_0, q_eq_m2_0]
      · simp only [E192, e192_0, e192_1, e192_2, e192_3, e192_6, e192_9, e192_12, e192_13, e192_15, e192_18, e192_19, e192_21, e192_22, e192_24, e192_25, e192_26, e192_29, e192_30, e192_32, e192_34, e192_37, e192_40, e192_41, e192_44, e192_45, e192_47, e192_50, e192_51, e192_53, e192_56, e192_57, e192_59, e192_60, e192_61, e192_64, e192_67, e192_70, e192_71, e192_74, e192_75, e192_78, e192_80, e192_83, e192_84, e192_87, e192_88, e192_91, e192_92, e192_93, e192_96, e192_97, e192_100, e192_101, e192_102, e192_103, zt0, zt1, zn3, not_false_eq_true, toListS, toListN, zk_some, zpi, if_true, if_false, i10, C128, j_0, j_2, g', C129_2, q_lt_m2_0, q_le_m2_0, q_eq_m2_0]
    · refine ⟨-2, rfs M 2, G, rfm (rfs M 2) 2, G, ?_, ?_, Inv_rf i⟩
      · simp only [E91, e91_0, e91_1, e91_4, e91_5, e91_6, e91_9, e91_10, e91_12, e91_15, e91_16, e91_17, e91_20, e91_21, e91_24, e91_27, e91_28, e91_29, e91_32, e91_33, e91_36, e91_37, e91_38, e91_39, e91_40, e91_43, e91_44, e91_47, e91_50, e91_53, e91_54, e91_55, e91_58, e91_61, e91_62, zt0, zt1, zn3, not_false_eq_true, toListS, toListN, zk_some, zpi, if_true, if_false, i10, c1, c2, C114_2, q_lt_m2_0, q_le_m2_0, q_eq_m2_0]
      · simp only [E192, e192_0, e192_1, e192_2, e192_3, e192_6, e192_9, e192_12, e192_13, e192_15, e192_18, e192_19, e192_21, e192_22, e192_24, e192_25, e192_26, e192_29, e192_30, e192_32, e192_34, e192_37, e192_40, e192_41, e192_44, e192_45, e192_47, e192_50, e192_51, e192_53, e192_56, e192_57, e192_59, e192_60, e192_61, e192_64, e192_67, e192_70, e192_71, e192_74, e192_75, e192_78, e192_80, e192_83, e192_84, e192_87, e192_88, e192_91, e192_92, e192_93, e192_96, e192_97, e192_100, e192_101, e192_102, e192_103, zt0, zt1, zn3, not_false_eq_true, toListS, toListN, zk_some, zpi, if_true, if_false, i10, C128, j_0, j_2, g', C129_2, q_lt_m2_0, q_le_m2_0, q_eq_m2_0]
  obtain ⟨B', G', cc⟩ := C37 X 7 G s
  obtain ⟨rc, ec⟩ := rnd_c vc rfl ac vm
  have hb := (fi_b (Q := Qr nv np (bc M nv np)) 201 0).2
  have hb' : rnd nv np (bc M nv np) ≤ 201 := by have : rnd nv np (bc M nv np) ≤ 0 + 201 := hb; omega
  have eb := (fi_b (Q := Qe nv np (bc M nv np) (rnd nv np (bc M nv np))) (rnd nv np (bc M nv np)) 0).2
  have eb' : er nv np (bc M nv np) (rnd nv np (bc M nv np)) ≤ 201 := by have : er nv np (bc M nv np) (rnd nv np (bc M nv np)) ≤ 0 + rnd nv np (bc M nv np) := eb; omega
  rw [ec, rc] at eb'
  rw [rc] at hb' cc
  rw [ec] at cc
  generalize hr : rnd nv np (bm M) = r at hb' cc eb'
  generalize he : er nv np (bm M) r = e at cc eb'
  by_cases q : r = 201
  · rw [if_pos q] at cc
    have s2 : sm M (cb M 3 B') := sm_cb (by decide)
    have t5 := T150 X 10 G' (M := cb M 3 B')
    rw [show bm (cb M 3 B') = bm M from rfl] at t5
    obtain ⟨N', k, l3, l4, hN, -, mc⟩ := C192 X 4 (cpK (cb M 3 B') (20, 0, 0) (21, 0, 0) 93) G' (R := cb M 3 B' (7, 0, 0)) vm f5 (nI w)
    rw [hr, if_pos q] at mc
    have g2 : inz (nI w) 0 2 = 1 := g
    refine ⟨-9, cb M 3 B', G', u2 (cpK (mb N' (bst nv np (bm M) k) (rS nv np (bm M) (cb M 3 B' (7, 0, 0)) k)) (21, 0, 0) (20, 0, 0) 93) (7, 0, 0) 5 0, G', ?_, ?_, Inv_c (sm_t s2 (sm_t (sm_bk (rS_o (by decide)) f5 (rS_o (by decide))) (bk_o hN))) (Nat.le_refl _) i⟩
    · have c1 : ¬ nI w < 0 := nI_pos (by omega)
      have c2 : nI w ≤ 2 := by rw [show (2 : Int32) = nI 2 from rfl, nle (by omega) (by decide)]; exact hw
      simp only [E91, e91_0, e91_1, e91_4, e91_5, e91_6, e91_9, e91_10, e91_12, e91_15, e91_16, e91_17, e91_20, e91_21, e91_24, e91_27, e91_28, e91_29, e91_32, e91_33, e91_36, e91_37, e91_38, e91_39, e91_40, e91_43, e91_44, e91_47, e91_50, e91_53, e91_54, e91_55, e91_58, e91_61, e91_62, zt0, zt1, zn3, not_false_eq_true, toListS, toListN, zk_some, zpi, if_true, if_false, i10, c1, c2, cc, q_lt_m9_0, q_le_m9_0, q_eq_m9_0]
    · simp only [e192_0, e192_1, e192_2, e192_3, e192_6, e192_9, e192_12, e192_13, e192_15, e192_18, e192_19, e192_21, e192_22, e192_24, e192_25, e192_26, e192_29, e192_30, E192, zt0, zt1, zn3, not_false_eq_true, toListS, toListN, zk_some, zpi, if_true, if_false, i10, C128, j_0, j_2, g2, t5]
      refine Eq.trans mc ?_
      simp only [e192_70, e192_71, e192_74, e192_75, e192_78, e192_80, e192_83, e192_84, e192_87, e192_88, e192_91, e192_92, e192_93, e192_96, e192_97, e192_100, e192_101, e192_102, e192_103, zt0, zt1, zn3, not_false_eq_true, toListS, toListN, zk_some, zpi, if_true, if_false, i10, C151, show ((0 : Int32) ≤ -9) = False by decide]
  · rw [if_neg q] at cc
    have s2 : sm M (u2 (cb M 3 B') (2, 0, 0) 2 (nI e)) := by
      refine sm_t (sm_cb (B := B') (b := 3) (by decide)) ?_
      intro k f hk
      exact u2_k (by rintro rfl; exact Bool.false_ne_true hk)
    have t5 := T150 X 10 G' (M := u2 (cb M 3 B') (2, 0, 0) 2 (nI e))
    rw [show bm (u2 (cb M 3 B') (2, 0, 0) 2 (nI e)) = bm M from rfl] at t5
    have f5' : u2 (cb M 3 B') (2, 0, 0) 2 (nI e) (7, 0, 0) 5 = 0 := f5
    obtain ⟨N', k, l3, l4, hN, hl, mc⟩ := C192 X 4 (cpK (u2 (cb M 3 B') (2, 0, 0) 2 (nI e)) (20, 0, 0) (21, 0, 0) 93) G' (R := u2 (cb M 3 B') (2, 0, 0) 2 (nI e) (7, 0, 0)) vm f5' (nI w)
    rw [hr] at mc hl
    rw [if_neg q, he] at mc
    have hl' := hl q
    subst hl'
    have g2 : inz (nI w) 0 2 = 1 := g
    have p0 : ¬ nI r < 0 := nI_pos (by omega)
    have p1 : 0 ≤ nI e := by rw [i_le, nI_int (by omega)]; show (0 : Int) ≤ e; omega
    have inv : Inv t (u2 (cpK (mb N' (bst nv np (bm M) k) (rS nv np (bm M) (u2 (cb M 3 B') (2, 0, 0) 2 (nI e) (7, 0, 0)) k)) (21, 0, 0) (20, 0, 0) 93) (7, 0, 0) 5 0) := Inv_c (sm_t s2 (sm_t (sm_bk (rS_o (by decide)) f5' (rS_o (by decide))) (bk_o hN))) (Nat.le_refl _) i
    rcases (show w = 0 ∨ w = 1 ∨ w = 2 by omega) with rfl | rfl | rfl
    · have t5w := t5
      have mcw : zx X (4 + 8) 192 32 [vR (7, 0, 0), vI 0, vI (-9), vI (-9), vI 0] [] (hh (mb (cpK (u2 (cb M 3 B') (2, 0, 0) 2 (nI e)) (20, 0, 0) (21, 0, 0) 93) (bm M) (u2 (cb M 3 B') (2, 0, 0) 2 (nI e) (7, 0, 0))) G') = zx X (4 + 8) 192 70 [vR (7, 0, 0), vI 0, vI (nI e), vI (nI r), vI l4] [] (hh (mb N' (bst nv np (bm M) k) (rS nv np (bm M) (u2 (cb M 3 B') (2, 0, 0) 2 (nI e) (7, 0, 0)) k)) G') := mc
      have g3 : inz 0 0 2 = 1 := rfl
      show okI X 91 192 [vI 0] t M G
      refine ⟨nI r, u2 (cb M 3 B') (2, 0, 0) 2 (nI e), G', u2 (cpK (mb N' (bst nv np (bm M) k) (rS nv np (bm M) (u2 (cb M 3 B') (2, 0, 0) 2 (nI e) (7, 0, 0)) k)) (21, 0, 0) (20, 0, 0) 93) (7, 0, 0) 5 0, G', ?_, ?_, inv⟩
      · simp only [E91, e91_0, e91_1, e91_4, e91_5, e91_6, e91_9, e91_10, e91_12, e91_15, e91_16, e91_17, e91_20, e91_21, e91_24, e91_27, e91_28, e91_29, e91_32, e91_33, e91_36, e91_37, e91_38, e91_39, e91_40, e91_43, e91_44, e91_47, e91_50, e91_53, e91_54, e91_55, e91_58, e91_61, e91_62, zt0, zt1, zn3, not_false_eq_true, toListS, toListN, zk_some, zpi, if_true, if_false, i10, cc, p0, q_lt_0_0, q_le_0_0, q_lt_0_1, q_le_0_1, q_eq_0_1, q_lt_0_2, q_le_0_2, q_eq_0_2, u2_same]
      · simp only [e192_0, e192_1, e192_2, e192_3, e192_6, e192_9, e192_12, e192_13, e192_15, e192_18, e192_19, e192_21, e192_22, e192_24, e192_25, e192_26, e192_29, e192_30, E192, zt0, zt1, zn3, not_false_eq_true, toListS, toListN, zk_some, zpi, if_true, if_false, i10, C128, j_0, j_2, g3, t5]
        refine Eq.trans mcw ?_
        simp only [e192_70, e192_71, e192_74, e192_75, e192_78, e192_80, e192_83, e192_84, e192_87, e192_88, e192_91, e192_92, e192_93, e192_96, e192_97, e192_100, e192_101, e192_102, e192_103, zt0, zt1, zn3, not_false_eq_true, toListS, toListN, zk_some, zpi, if_true, if_false, i10, C151, p1, q_lt_0_0, q_le_0_0, q_lt_0_1, q_le_0_1, q_eq_0_1]
    · have t5w := t5
      have mcw : zx X (4 + 8) 192 32 [vR (7, 0, 0), vI 1, vI (-9), vI (-9), vI 0] [] (hh (mb (cpK (u2 (cb M 3 B') (2, 0, 0) 2 (nI e)) (20, 0, 0) (21, 0, 0) 93) (bm M) (u2 (cb M 3 B') (2, 0, 0) 2 (nI e) (7, 0, 0))) G') = zx X (4 + 8) 192 70 [vR (7, 0, 0), vI 1, vI (nI e), vI (nI r), vI l4] [] (hh (mb N' (bst nv np (bm M) k) (rS nv np (bm M) (u2 (cb M 3 B') (2, 0, 0) 2 (nI e) (7, 0, 0)) k)) G') := mc
      have g3 : inz 1 0 2 = 1 := rfl
      show okI X 91 192 [vI 1] t M G
      refine ⟨nI e, u2 (cb M 3 B') (2, 0, 0) 2 (nI e), G', u2 (cpK (mb N' (bst nv np (bm M) k) (rS nv np (bm M) (u2 (cb M 3 B') (2, 0, 0) 2 (nI e) (7, 0, 0)) k)) (21, 0, 0) (20, 0, 0) 93) (7, 0, 0) 5 0, G', ?_, ?_, inv⟩
      · simp only [E91, e91_0, e91_1, e91_4, e91_5, e91_6, e91_9, e91_10, e91_12, e91_15, e91_16, e91_17, e91_20, e91_21, e91_24, e91_27, e91_28, e91_29, e91_32, e91_33, e91_36, e91_37, e91_38, e91_39, e91_40, e91_43, e91_44, e91_47, e91_50, e91_53, e91_54, e91_55, e91_58, e91_61, e91_62, zt0, zt1, zn3, not_false_eq_true, toListS, toListN, zk_some, zpi, if_true, if_false, i10, cc, p0, q_lt_1_0, q_le_1_0, q_eq_1_0, q_lt_1_1, q_le_1_1, q_lt_1_2, q_le_1_2, q_eq_1_2, u2_same]
      · simp only [e192_0, e192_1, e192_2, e192_3, e192_6, e192_9, e192_12, e192_13, e192_15, e192_18, e192_19, e192_21, e192_22, e192_24, e192_25, e192_26, e192_29, e192_30, E192, zt0, zt1, zn3, not_false_eq_true, toListS, toListN, zk_some, zpi, if_true, if_false, i10, C128, j_0, j_2, g3, t5]
        refine Eq.trans mcw ?_
        simp only [e192_70, e192_71, e192_74, e192_75, e192_78, e192_80, e192_83, e192_84, e192_87, e192_88, e192_91, e192_92, e192_93, e192_96, e192_97, e192_100, e192_101, e192_102, e192_103, zt0, zt1, zn3, not_false_eq_true, toListS, toListN, zk_some, zpi, if_true, if_false, i10, C151, p1, q_lt_1_0, q_le_1_0, q_eq_1_0, q_lt_1_1, q_le_1_1]
    · have t5w := t5
      have mcw : zx X (4 + 8) 192 32 [vR (7, 0, 0), vI 2, vI (-9), vI (-9), vI 0] [] (hh (mb (cpK (u2 (cb M 3 B') (2, 0, 0) 2 (nI e)) (20, 0, 0) (21, 0, 0) 93) (bm M) (u2 (cb M 3 B') (2, 0, 0) 2 (nI e) (7, 0, 0))) G') = zx X (4 + 8) 192 70 [vR (7, 0, 0), vI 2, vI (nI e), vI (nI r), vI l4] [] (hh (mb N' (bst nv np (bm M) k) (rS nv np (bm M) (u2 (cb M 3 B') (2, 0, 0) 2 (nI e) (7, 0, 0)) k)) G') := mc
      have g3 : inz 2 0 2 = 1 := rfl
      show okI X 91 192 [vI 2] t M G
      refine ⟨nI r - nI e, u2 (cb M 3 B') (2, 0, 0) 2 (nI e), G', u2 (cpK (mb N' (bst nv np (bm M) k) (rS nv np (bm M) (u2 (cb M 3 B') (2, 0, 0) 2 (nI e) (7, 0, 0)) k)) (21, 0, 0) (20, 0, 0) 93) (7, 0, 0) 5 0, G', ?_, ?_, inv⟩
      · simp only [E91, e91_0, e91_1, e91_4, e91_5, e91_6, e91_9, e91_10, e91_12, e91_15, e91_16, e91_17, e91_20, e91_21, e91_24, e91_27, e91_28, e91_29, e91_32, e91_33, e91_36, e91_37, e91_38, e91_39, e91_40, e91_43, e91_44, e91_47, e91_50, e91_53, e91_54, e91_55, e91_58, e91_61, e91_62, zt0, zt1, zn3, not_false_eq_true, toListS, toListN, zk_some, zpi, if_true, if_false, i10, cc, p0, q_lt_2_0, q_le_2_0, q_eq_2_0, q_lt_2_1, q_le_2_1, q_eq_2_1, q_lt_2_2, q_le_2_2, u2_same]
      · simp only [e192_0, e192_1, e192_2, e192_3, e192_6, e192_9, e192_12, e192_13, e192_15, e192_18, e192_19, e192_21, e192_22, e192_24, e192_25, e192_26, e192_29, e192_30, E192, zt0, zt1, zn3, not_false_eq_true, toListS, toListN, zk_some, zpi, if_true, if_false, i10, C128, j_0, j_2, g3, t5]
        refine Eq.trans mcw ?_
        simp only [e192_70, e192_71, e192_74, e192_75, e192_78, e192_80, e192_83, e192_84, e192_87, e192_88, e192_91, e192_92, e192_93, e192_96, e192_97, e192_100, e192_101, e192_102, e192_103, zt0, zt1, zn3, not_false_eq_true, toListS, toListN, zk_some, zpi, if_true, if_false, i10, C151, p1, q_lt_2_0, q_le_2_0, q_eq_2_0, q_lt_2_1, q_le_2_1, q_eq_2_1]
