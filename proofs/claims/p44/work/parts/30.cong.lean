/-! WHAT A STEP DOES NOT LOOK AT: vessels and pipes that are not there, and whether a pipe that is out RUNS -/
def outs (o : Int32) (p : Nat) : Prop := ¬ o >>> (nI p &&& 31) &&& 1 = 0
def agV (nv : Nat) (V V' : tV) : Prop := ∀ j f, j < nv → f < 5 → V j f = V' j f
def agP (np : Nat) (o : Int32) (P P' : tV) : Prop := ∀ p g, p < np → g < 8 → (g = 7 → ¬ outs o p) → P p g = P' p g
def agS (S S' : Nat → Int32) : Prop := ∀ f, f = 2 ∨ f = 3 ∨ f = 4 ∨ f = 5 ∨ f = 6 → S f = S' f
section AG
variable {nv np : Nat} {o st : Int32} {S S' : Nat → Int32} {V V' P P' : tV}
theorem agV_u (h : agV nv V V') {j f : Nat} {x y : Int32} (e : x = y) : agV nv (uV V j f x) (uV V' j f y) := by
  intro k g hk hg
  unfold uV
  rw [e]
  split
  · rfl
  · exact h k g hk hg
theorem agP_u (h : agP np o P P') {j f : Nat} {x y : Int32} (e : x = y) : agP np o (uV P j f x) (uV P' j f y) := by
  intro k g hk hg q
  unfold uV
  rw [e]
  split
  · rfl
  · exact h k g hk hg q
theorem sHt_c {j : Nat} (hv : ∀ f, f < 5 → V j f = V' j f) : sHt V j = sHt V' j := by
  simp only [sHt, hv 0 (by decide), hv 1 (by decide), hv 3 (by decide)]
theorem sWa_c {j : Nat} {m m' : Int32} (hv : ∀ f, f < 5 → V j f = V' j f) (e : m = m') : sWa V j m = sWa V' j m' := by
  simp only [sWa, hv 0 (by decide), hv 1 (by decide), hv 3 (by decide), e]
theorem sFl_c {p a c : Nat} (ha : ∀ f, f < 5 → V a f = V' a f) (hc : ∀ f, f < 5 → V c f = V' c f) (hp : ∀ g, g < 7 → P p g = P' p g) : sFl V P p a c st = sFl V' P' p a c st := by
  unfold sFl sUn sHd sWi
  rw [sHt_c ha, sHt_c hc, sWa_c ha (hp 2 (by decide)), sWa_c hc (hp 3 (by decide)), ha 0 (by decide), hc 0 (by decide), hp 2 (by decide), hp 3 (by decide), hp 4 (by decide), hp 5 (by decide), hp 6 (by decide)]
theorem sAt_c {p a : Nat} (ha : ∀ f, f < 5 → V a f = V' a f) (hp : ∀ g, g < 7 → P p g = P' p g) : sAt V P p a = sAt V' P' p a := by
  unfold sAt sCr
  rw [sHt_c ha, ha 0 (by decide), ha 1 (by decide), ha 2 (by decide), hp 2 (by decide), hp 5 (by decide), hp 6 (by decide)]
theorem sTw_c {p a c : Nat} (hV : agV nv V V') (hP : agP np o P P') (hp : p < np) (ha : a < nv) (hc : c < nv) : agV nv (sTw st V P p a c).1 (sTw st V' P' p a c).1 ∧ agP np o (sTw st V P p a c).2 (sTw st V' P' p a c).2 := by
  have e := sFl_c (st := st) (fun f hf => hV a f ha hf) (fun f hf => hV c f hc hf) (fun g hg => hP p g hp (by omega) (fun q => by omega))
  have v1 : agV nv (uV V a 3 (V a 3 - sFl V P p a c st)) (uV V' a 3 (V' a 3 - sFl V' P' p a c st)) := agV_u hV (by rw [e, hV a 3 ha (by decide)])
  have v2 : agV nv (sTw st V P p a c).1 (sTw st V' P' p a c).1 := agV_u v1 (by rw [v1 c 3 hc (by decide), e])
  refine ⟨v2, ?_⟩
  have w := sWa_c (m := P p 2) (m' := P' p 2) (fun f hf => v2 a f ha hf) (hP p 2 hp (by decide) (fun q => by omega))
  show agP np o (if sFl V P p a c st = 0 then uV P p 7 0 else if sWa (sTw st V P p a c).1 a (P p 2) = 0 then uV P p 7 0 else P) (if sFl V' P' p a c st = 0 then uV P' p 7 0 else if sWa (sTw st V' P' p a c).1 a (P' p 2) = 0 then uV P' p 7 0 else P')
  rw [e, w]
  split
  · exact agP_u hP rfl
  · split
    · exact agP_u hP rfl
    · exact hP
theorem sTn_c {p a c : Nat} (hV : agV nv V V') (hP : agP np o P P') (hp : p < np) (ha : a < nv) (hc : c < nv) (ho : ¬ outs o p) : agV nv (sTn st V P p a c).1 (sTn st V' P' p a c).1 ∧ agP np o (sTn st V P p a c).2 (sTn st V' P' p a c).2 := by
  have e1 : sSi P p = sSi P' p := by unfold sSi; rw [hP p 5 hp (by decide) (fun q => by omega)]
  have e2 := sAt_c (p := p) (fun f hf => hV a f ha hf) (fun g hg => hP p g hp (by omega) (fun q => by omega))
  unfold sTn
  rw [e1, e2, hP p 7 hp (by decide) (fun _ => ho)]
  split
  · exact sTw_c hV hP hp ha hc
  · split
    · split
      · exact ⟨hV, agP_u hP rfl⟩
      · exact sTw_c hV (agP_u hP rfl) hp ha hc
    · exact sTw_c hV hP hp ha hc
theorem sPs_c (hE : sEnd S V P nv np) (h2 : agV nv V V') (h3 : agP np o P P') : ∀ m, m ≤ np → agV nv (sPs o st V P m).1 (sPs o st V' P' m).1 ∧ agP np o (sPs o st V P m).2 (sPs o st V' P' m).2 := by
  intro m
  induction m with
  | zero => intro _; exact ⟨h2, h3⟩
  | succ m ih =>
    intro hm
    have ih' := ih (by omega)
    unfold sPs
    by_cases q : o >>> (nI m &&& 31) &&& 1 = 0
    · rw [if_pos q, if_pos q]
      obtain ⟨a, c, h0, h1, ha, hc, -⟩ := hE.2.2.2.2 m (by omega)
      have h5 := hE.2.2.1
      rw [← h3 m 0 (by omega) (by decide) (fun q => by omega), ← h3 m 1 (by omega) (by decide) (fun q => by omega), h0, h1, nI_clamp (by omega), nI_clamp (by omega)]
      exact sTn_c ih'.1 ih'.2 (by omega) ha hc (fun e => e q)
    · rw [if_neg q, if_neg q]
      exact ih'
theorem tpV_c (h : agV nv V V') : agV nv (tpV V nv) (tpV V' nv) := by
  intro j f hj hf
  unfold tpV
  rw [h j 3 hj (by decide), h j 4 hj (by decide), h j f hj hf]
theorem sAb_c {j : Nat} (hj : j < nv) (h : agV nv V V') : sAb V j = sAb V' j := by
  simp only [sAb, sBr, h j 0 hj (by decide), h j 2 hj (by decide), h j 3 hj (by decide)]
theorem sSs_c (h5 : nv ≤ 5) (hS : ∀ f, f < 9 → (1 < f) → S f = S' f) (hV : agV nv V V') : ∀ i, i ≤ nv → (∀ f, f < 9 → 1 < f → (sSs S V i).1 f = (sSs S' V' i).1 f) ∧ agV nv (sSs S V i).2 (sSs S' V' i).2 := by
  intro i
  induction i with
  | zero => intro _; exact ⟨hS, hV⟩
  | succ i ih =>
    intro hi
    have ih' := ih (by omega)
    unfold sSs
    have e := sAb_c (j := i) (by omega) ih'.2
    have c : (nI i).toNatClampNeg = i := nI_clamp (by omega)
    dsimp only
    unfold spS spV
    rw [c, e]
    split
    · refine ⟨fun f hf h1 => ?_, agV_u ih'.2 (by rw [ih'.2 i 3 (by omega) (by decide)])⟩
      unfold uS
      rw [ih'.1 7 (by decide) (by decide), ih'.1 8 (by decide) (by decide), ih'.1 4 (by decide) (by decide), ih'.1 f hf h1]
    · exact ih'
theorem sStp_c (hE : sEnd S V P nv np) (hS : agS S S') (hV : agV nv V V') (hP : agP np (S 6) P P') : (∀ f, f < 9 → 1 < f → (sStp S V P nv np).1 f = (sStp S' V' P' nv np).1 f) ∧ agV nv (sStp S V P nv np).2.1 (sStp S' V' P' nv np).2.1 ∧ agP np (S 6) (sStp S V P nv np).2.2 (sStp S' V' P' nv np).2.2 := by
  have hE1 : sEnd S (tpV V nv) P nv np := by
    obtain ⟨h1, h2, h3, h4, h5⟩ := hE
    refine ⟨h1, h2, h3, h4, fun p hp => ?_⟩
    obtain ⟨a, c, q1, q2, q3, q4, q5⟩ := h5 p hp
    exact ⟨a, c, q1, q2, q3, q4, by simpa [tpV] using q5⟩
  have w := sPs_c (o := S 6) (st := S 5) hE1 (tpV_c hV) hP np (Nat.le_refl _)
  have z := sSs_c (S := uS (uS S 7 0) 8 0) (S' := uS (uS S' 7 0) 8 0) hE.2.2.1 (fun f hf h1 => by
    unfold uS
    by_cases e8 : f = 8
    · rw [if_pos e8, if_pos e8]
    · rw [if_neg e8, if_neg e8]
      by_cases e7 : f = 7
      · rw [if_pos e7, if_pos e7]
      · rw [if_neg e7, if_neg e7]
        exact hS f (by omega)) w.1 nv (Nat.le_refl _)
  have e6 := hS 6 (by decide)
  have e5 := hS 5 (by decide)
  unfold sStp
  dsimp only
  rw [e6] at w z ⊢
  rw [e5] at w z ⊢
  refine ⟨fun f hf h1 => ?_, z.2, w.2⟩
  have g5 := z.1 5 (by decide) (by decide)
  rw [g5]
  split
  · exact z.1 f hf h1
  · by_cases h : f = 5
    · subst h
      rw [uS_s, uS_s]
    · rw [uS_n h, uS_n h]
      exact z.1 f hf h1
end AG
