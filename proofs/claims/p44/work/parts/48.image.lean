/-! image, on, letter, count -/
theorem gb_u2 {M : zM} {k : zK} {f b : Nat} {x : Int32} (h : k.1 ≠ 0 ∧ k.1 ≠ 3 ∧ k.1 ≠ 5) : gb (u2 M k f x) b = gb M b := by
  unfold gb vw pw
  refine Prod.ext (funext fun g => u2_k ?_) (Prod.ext (funext fun j => funext fun g => u2_k ?_) (funext fun j => funext fun g => u2_k ?_))
  · rintro rfl; exact h.1 rfl
  · rintro rfl; exact h.2.2 rfl
  · rintro rfl; exact h.2.1 rfl
theorem nI_le2 {a b : Nat} (h : nI a = nI b) (hb : b < 2 ^ 31) : b ≤ a := by
  by_cases ha : a < 2 ^ 31
  · rw [neq ha hb] at h
    omega
  · omega
theorem T10 (X : Nat × (Nat → Int32) × Value) (d : Nat) {M : zM} (G : zG) {nv np : Nat} (s : ST M nv np) : zd X (d + 1) 1 [vR (0, 1, 0), vR (0, 0, 0)] (hh M G) = some (none, hh (cb M 1 (cpB nv np (gb M 1) (gb M 0))) G) := by
  obtain ⟨n5, n8, e2, e3, -, -, v, -⟩ := s
  have q := B1 X d M G 1 0 (gb M 1) (by decide) nv np e2 e3 n5 n8 (fun p hp => (v.2.2.1 p hp).imp id And.left)
  rw [cb_self] at q
  exact q
