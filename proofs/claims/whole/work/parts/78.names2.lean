/-! the same heap under the names of the rows -/
theorem zcd_X (X : Nat × (Nat → Int32) × Value) (k : Nat) (h1 : k ≠ 231) (h2 : k < 243) : zcd X00 k = zcd X k := by
  unfold zcd
  repeat' refine ite_c (fun _ => ?_) (fun _ => ?_)
  all_goals first | rfl | omega
theorem zcd_law (X : Nat × (Nat → Int32) × Value) (pc : Nat) (h : pc < 16) : zcd X00 243 pc = zcd X 243 pc := by
  rcases (show pc = 0 ∨ pc = 1 ∨ pc = 2 ∨ pc = 3 ∨ pc = 4 ∨ pc = 5 ∨ pc = 6 ∨ pc = 7 ∨ pc = 8 ∨ pc = 9 ∨ pc = 10 ∨ pc = 11 ∨ pc = 12 ∨ pc = 13 ∨ pc = 14 ∨ pc = 15 by omega) with rfl | rfl | rfl | rfl | rfl | rfl | rfl | rfl | rfl | rfl | rfl | rfl | rfl | rfl | rfl | rfl
  · exact (show zcd X00 243 0 = some (.inl (a_new 6 600000 7302250)) from rfl).trans (show zcd X 243 0 = some (.inl (a_new 6 600000 7302250)) from rfl).symm
  · exact (show zcd X00 243 1 = none from rfl).trans (show zcd X 243 1 = none from rfl).symm
  · exact (show zcd X00 243 2 = none from rfl).trans (show zcd X 243 2 = none from rfl).symm
  · exact (show zcd X00 243 3 = some (.inl a_dup) from rfl).trans (show zcd X 243 3 = some (.inl a_dup) from rfl).symm
  · exact (show zcd X00 243 4 = some (.inr (.inr (100, 72, 1))) from rfl).trans (show zcd X 243 4 = some (.inr (.inr (100, 72, 1))) from rfl).symm
  · exact (show zcd X00 243 5 = none from rfl).trans (show zcd X 243 5 = none from rfl).symm
  · exact (show zcd X00 243 6 = none from rfl).trans (show zcd X 243 6 = none from rfl).symm
  · exact (show zcd X00 243 7 = some (.inl (a_st1 ztr 1 1)) from rfl).trans (show zcd X 243 7 = some (.inl (a_st1 ztr 1 1)) from rfl).symm
  · exact (show zcd X00 243 8 = some (.inl (a_new 7 600000 7302250)) from rfl).trans (show zcd X 243 8 = some (.inl (a_new 7 600000 7302250)) from rfl).symm
  · exact (show zcd X00 243 9 = none from rfl).trans (show zcd X 243 9 = none from rfl).symm
  · exact (show zcd X00 243 10 = none from rfl).trans (show zcd X 243 10 = none from rfl).symm
  · exact (show zcd X00 243 11 = some (.inl a_dup) from rfl).trans (show zcd X 243 11 = some (.inl a_dup) from rfl).symm
  · exact (show zcd X00 243 12 = some (.inr (.inr (100, 127, 1))) from rfl).trans (show zcd X 243 12 = some (.inr (.inr (100, 127, 1))) from rfl).symm
  · exact (show zcd X00 243 13 = none from rfl).trans (show zcd X 243 13 = none from rfl).symm
  · exact (show zcd X00 243 14 = none from rfl).trans (show zcd X 243 14 = none from rfl).symm
  · exact (show zcd X00 243 15 = some (.inl (a_st1 ztr 2 1)) from rfl).trans (show zcd X 243 15 = some (.inl (a_st1 ztr 2 1)) from rfl).symm
theorem Tp_ok (X : Nat × (Nat → Int32) × Value) : ∀ M pc i, Tp.1 M pc = some i → (zTX X).1 M pc = some i := by
  intro M pc i h
  have h' : (if M = 243 then (if pc < 16 then zcd X00 243 pc else none) else if M = 231 ∨ 243 < M then none else zcd X00 M pc) = some i := h
  show zcd X M pc = some i
  by_cases h1 : M = 243
  · rw [if_pos h1] at h'
    subst h1
    by_cases h2 : pc < 16
    · rw [if_pos h2] at h'
      rw [← zcd_law X pc h2]
      exact h'
    · rw [if_neg h2] at h'
      cases h'
  · rw [if_neg h1] at h'
    by_cases h3 : M = 231 ∨ 243 < M
    · rw [if_pos h3] at h'
      cases h'
    · rw [if_neg h3] at h'
      rw [← zcd_X X M (fun e => h3 (.inl e)) (by omega)]
      exact h'
theorem kσ_1 (k : zK) : (kσ k).1 = k.1 := by
  unfold kσ
  by_cases h : k.1 = 5
  · rw [if_pos h]; exact h.symm
  · rw [if_neg h]
    by_cases h2 : k.1 = 3
    · rw [if_pos h2]; exact h2.symm
    · rw [if_neg h2]
theorem kσ_o {k : zK} (h : k.1 ≠ 5) (h2 : k.1 ≠ 3) : kσ k = k := by
  unfold kσ
  rw [if_neg h, if_neg h2]
theorem hrf_12 {k k' : zK} {f : Nat} (h : hrf k f = some k') : f < 32 := by
  unfold hrf at h
  split at h
  all_goals first
    | omega
    | (split at h <;> first | omega | cases h)
    | cases h
theorem hK0_wf : ∀ k ∈ hK0, k.1 < 40 ∧ ∀ f, f < 32 → ∀ k', hrf k f = some k' → k' ∈ hK0 := by
  have c : (hK0.all fun k => decide (k.1 < 40) && (List.range 32).all fun f => match hrf k f with
    | some k' => hK0.contains k'
    | none => true) = true := by decide +kernel
  intro k hk
  have := chk_all c hk
  rw [Bool.and_eq_true] at this
  refine ⟨of_decide_eq_true this.1, fun f hf k' e => ?_⟩
  have q := chk_all this.2 (List.mem_range.mpr hf)
  rw [e] at q
  exact List.contains_iff_mem.mp q
theorem hK0_nd : hK0.Nodup := by decide +kernel
theorem hK0_inj : ∀ k ∈ hK0, ∀ k' ∈ hK0, kσ k = kσ k' → k = k' := by
  have c : (hK0.all fun k => hK0.all fun k' => !(kσ k == kσ k') || k == k') = true := by decide +kernel
  intro k hk k' hk' e
  have := chk_all (chk_all c hk) hk'
  rw [e, beq_self_eq_true, Bool.not_true, Bool.false_or] at this
  exact eq_of_beq this
def mg0 (h : zH) (k : zK) (f : Nat) : Int64 := h.2.2.2.2 (kσ k) f
theorem zE_ren {cA : Nat → ClassId} {ad : zK → Nat} {h : zH} (c3 : chk3 h = true) (c4 : chk4 h = true) {k : zK} (hk : k ∈ hK0) : zE cA (fun k => ad (kσ k)) (hh (mk0 h) (mg0 h)) k = zE cA ad h (kσ k) := by
  have a3 := chk_all c3 hk
  have a4 := chk_all c4 hk
  unfold zE
  rw [kσ_1]
  by_cases q1 : k.1 < 8
  · rw [if_pos q1, if_pos q1]
    refine congrArg (fun l => Sum.inr (k.1, l)) (List.map_congr_left fun f hf => ?_)
    have a5 : ((List.range (if k.1 < 8 then zN k.1 else hln k)).all fun f => h.2.2.1 (kσ k) f == (hrf k f).map kσ) = true := by
      rw [Bool.or_eq_true] at a4
      rcases a4 with a | a
      · have := of_decide_eq_true a; omega
      · exact a
    rw [if_pos q1] at a5
    have e : h.2.2.1 (kσ k) f = (hrf k f).map kσ := eq_of_beq (chk_all a5 hf)
    unfold zfv
    rw [kσ_1, e]
    refine ite_c (fun _ => ?_) (fun _ => rfl)
    show zrf (fun k => ad (kσ k)) (hrf k f) = _
    cases hrf k f <;> rfl
  · rw [if_neg q1, if_neg q1]
    have e3 : h.2.1 (kσ k) = hln k := by
      rw [Bool.or_eq_true] at a3
      rcases a3 with a | a
      · exact absurd (of_decide_eq_true a) q1
      · exact eq_of_beq a
    have e3' : (hh (mk0 h) (mg0 h)).2.1 k = hln k := rfl
    rw [e3, e3']
    refine ite_c (fun q2 => ?_) (fun _ => rfl)
    refine congrArg (fun g : Nat → Option Nat => (Sum.inl (cA (zc k.1), hln k, Sum.inr (Sum.inr (Sum.inr (Sum.inr g)))) : va_E)) (funext fun j => ?_)
    refine ite_c (fun hj => ?_) (fun _ => rfl)
    have a5 : ((List.range (if k.1 < 8 then zN k.1 else hln k)).all fun f => h.2.2.1 (kσ k) f == (hrf k f).map kσ) = true := by
      rw [Bool.or_eq_true] at a4
      rcases a4 with a | a
      · have := of_decide_eq_true a; omega
      · exact a
    rw [if_neg q1] at a5
    have e : h.2.2.1 (kσ k) j = (hrf k j).map kσ := eq_of_beq (chk_all a5 (List.mem_range.mpr hj))
    rw [e, Option.map_map]
    rfl
