/-! CLOSURES: what was there at the start -/
section ZS5
variable {X : Nat × (Nat → Int32) × Value} {cc : ByteArray} {own : String} {nL mc ms d : Nat} {ini : Bool} {pc : Nat}
theorem s_slen (hd : decode cc pc = .ok (.arraylength, 1)) : zSnd X cc own nL mc ms d ini pc (a_slen X) := by
  intro p l e R s m args below meth c cA D A ad0 h0 Q st st' hC hpc ha hk ad H locs lsA hE h1 hR hS hO hL
  obtain ⟨pc', ls, stk, h, n⟩ := st
  subst hpc
  simp only [a_slen] at ha
  split at ha
  · rename_i heq
    simp only [Prod.mk.injEq] at heq
    obtain ⟨rfl, rfl, rfl, rfl, rfl⟩ := heq
    split at ha
    · rename_i k r hg
      cases ha
      subst hg
      have hZ := hC.2.2.2.2.2.1.2.1.2.2.2
      have e := hE (50, 0, 0) (Or.inr (by decide))
      rw [← e] at hZ
      exact va_slen hC.1 hC.2.1 hZ.1 hZ.2.1 hZ.2.2 hS hd (hk ad H locs lsA hE h1 hR hS ⟨hO.1, fun w hw => (List.mem_cons.mp hw).elim (fun e => by rw [e]; trivial) (fun q => hO.2 w (List.mem_cons_of_mem _ q))⟩ hL)
    · cases ha
  · cases ha
theorem s_sld (hd : decode cc pc = .ok (.iaload, 1)) : zSnd X cc own nL mc ms d ini pc (a_sld X) := by
  intro p l e R s m args below meth c cA D A ad0 h0 Q st st' hC hpc ha hk ad H locs lsA hE h1 hR hS hO hL
  obtain ⟨pc', ls, stk, h, n⟩ := st
  subst hpc
  simp only [a_sld] at ha
  split at ha
  · rename_i heq
    simp only [Prod.mk.injEq] at heq
    obtain ⟨rfl, rfl, rfl, rfl, rfl⟩ := heq
    split at ha
    · rename_i i k r hg
      cases ha
      obtain ⟨rfl, hg⟩ := hg
      have hZ := hC.2.2.2.2.2.1.2.1.2.2.2
      have e := hE (50, 0, 0) (Or.inr (by decide))
      rw [← e] at hZ
      exact va_sld hC.1 hC.2.1 hZ.1 hZ.2.1 hZ.2.2 hS (zin_vp hg) hd (hk ad H locs lsA hE h1 hR hS ⟨hO.1, fun w hw => (List.mem_cons.mp hw).elim (fun e => by rw [e]; trivial) (fun q => hO.2 w (List.mem_cons_of_mem _ (List.mem_cons_of_mem _ q)))⟩ hL)
    · cases ha
  · cases ha
end ZS5
