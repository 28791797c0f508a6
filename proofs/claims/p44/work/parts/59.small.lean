/-! what 60 and 61 stand on -/
theorem T1z (X : Nat × (Nat → Int32) × Value) (d : Nat) {M : zM} (G : zG) {nv np : Nat} (s : ST M nv np) (Z : zB) : zd X (d + 1) 1 [vR (0, 3, 0), vR (0, 0, 0)] (hh (cb M 3 Z) G) = some (none, hh (cb M 3 (cpB nv np Z (gb M 0))) G) := by
  obtain ⟨n5, n8, e2, e3, -, -, v, -⟩ := s
  exact B1 X d M G 3 0 Z (by decide) nv np e2 e3 n5 n8 (fun p hp => (v.2.2.1 p hp).imp id And.left)
theorem ST_z {M : zM} {nv np : Nat} (s : ST M nv np) (Z : zB) : vb (cpB nv np Z (gb M 0)) nv np ∧ ag nv np (cpB nv np Z (gb M 0)) (bm M) ∧ (cpB nv np Z (gb M 0)).1 6 = 0 := by
  obtain ⟨-, -, -, -, -, -, v, o6, -, a, -⟩ := s
  have g6 : (gb M 0).1 6 = 0 := o6
  have c1 : ag nv np (gb M 0) (cpB nv np Z (gb M 0)) := cpB_ag g6
  exact ⟨ag_v g6 c1 v, ag_t (ag_s g6 c1) a, rfl⟩
theorem nI_bv {a : Nat} (h : a < 2 ^ 31) : (nI a).toBitVec.toNat = a := by
  unfold nI
  rw [Int32.toBitVec_ofNat', BitVec.toNat_ofNat]
  exact Nat.mod_eq_of_lt (by omega)
theorem n_L {a : Nat} (h : a < 2 ^ 31) : (nI a).toInt64 = lI a := by
  rw [lI_up (by rw [nI_int h]; omega), nI_int h]
  rfl
