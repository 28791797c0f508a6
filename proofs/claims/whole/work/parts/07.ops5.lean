/-! CLOSURES: what was there at the start -/
section ZS5
variable {X : Nat × (Nat → Int32) × Value} {cc : ByteArray} {own : String} {nL mc ms d : Nat} {ini : Bool} {pc : Nat}
theorem s_slen (hd : decode cc pc = .ok (.arraylength, 1)) : zSnd X cc own nL mc ms d ini pc (a_slen X) := by
  intro p l e R s m args below meth c cA D A ad0 h0 Q st st' hC hpc ha hk ad H locs lsA hE h1 hR hS hO hL
  obtain ⟨pc', ls, stk, h, n⟩ := st
  subst hpc
  simp only [a_slen] at ha
  split at ha
  · rename_i heq
    simp only [Prod.mk.injEq] at heq
    obtain ⟨rfl, rfl, rfl, rfl, rfl⟩ := heq
    split at ha
    · rename_i k r hg
      cases ha
      subst hg
      have hZ := hC.2.2.2.2.2.1.2.1.2.2.2.1
      have e := hE (50, 0, 0) (Or.inr (by decide))
      rw [← e] at hZ
      exact va_slen hC.1 hC.2.1 hZ.1 hZ.2.1 hZ.2.2 hS hd (hk ad H locs lsA hE h1 hR hS ⟨hO.1, fun w hw => (List.mem_cons.mp hw).elim (fun e => by rw [e]; trivial) (fun q => hO.2 w (List.mem_cons_of_mem _ q))⟩ hL)
    · cases ha
  · cases ha
theorem s_sld (hd : decode cc pc = .ok (.iaload, 1)) : zSnd X cc own nL mc ms d ini pc (a_sld X) := by
  intro p l e R s m args below meth c cA D A ad0 h0 Q st st' hC hpc ha hk ad H locs lsA hE h1 hR hS hO hL
  obtain ⟨pc', ls, stk, h, n⟩ := st
  subst hpc
  simp only [a_sld] at ha
  split at ha
  · rename_i heq
    simp only [Prod.mk.injEq] at heq
    obtain ⟨rfl, rfl, rfl, rfl, rfl⟩ := heq
    split at ha
    · rename_i i k r hg
      cases ha
      obtain ⟨rfl, hg⟩ := hg
      have hZ := hC.2.2.2.2.2.1.2.1.2.2.2.1
      have e := hE (50, 0, 0) (Or.inr (by decide))
      rw [← e] at hZ
      exact va_sld hC.1 hC.2.1 hZ.1 hZ.2.1 hZ.2.2 hS (zin_vp hg) hd (hk ad H locs lsA hE h1 hR hS ⟨hO.1, fun w hw => (List.mem_cons.mp hw).elim (fun e => by rw [e]; trivial) (fun q => hO.2 w (List.mem_cons_of_mem _ (List.mem_cons_of_mem _ q)))⟩ hL)
    · cases ha
  · cases ha
theorem s_kld (hd : decode cc pc = .ok (.iaload, 1)) : zSnd X cc own nL mc ms d ini pc a_kld := by
  intro p l e R s m args below meth c cA D A ad0 h0 Q st st' hC hpc ha hk ad H locs lsA hE h1 hR hS hO hL
  obtain ⟨pc', ls, stk, h, n⟩ := st
  subst hpc
  simp only [a_kld] at ha
  split at ha
  · rename_i heq
    simp only [Prod.mk.injEq] at heq
    obtain ⟨rfl, rfl, rfl, rfl, rfl⟩ := heq
    split at ha
    · rename_i i k r hg
      cases ha
      obtain ⟨rfl, hg⟩ := hg
      have hZ := hC.2.2.2.2.2.1.2.1.2.2.2.2.1.2
      have e := hE (51, 0, 0) (Or.inr (by decide))
      rw [← e] at hZ
      exact va_ti hC.1 hC.2.1 hZ hS (zin_vp hg) rfl hd (hk ad H locs lsA hE h1 hR hS ⟨hO.1, fun w hw => (List.mem_cons.mp hw).elim (fun e => by rw [e]; trivial) (fun q => hO.2 w (List.mem_cons_of_mem _ (List.mem_cons_of_mem _ q)))⟩ hL)
    · cases ha
  · cases ha
theorem s_getKA {idx : Nat} (hd : decode cc pc = .ok (.getstatic idx, 3)) (hlk : Cond.fieldLink own idx RX6 "KIND_ABOVE" "[I" ∈ zTb) : zSnd X cc own nL mc ms d ini pc (a_con (51, 0, 0) 3) := by
  intro p l e R s m args below meth c cA D A ad0 h0 Q st st' hC hpc ha hk ad H locs lsA hE h1 hR hS hO hL
  obtain ⟨pc', ls, stk, h, n⟩ := st
  subst hpc
  cases ha
  have hZ := hC.2.2.2.2.2.1.2.1.2.2.2.2.1.1
  have e := hE (51, 0, 0) (Or.inr (by decide))
  rw [← e] at hZ
  exact va_gets hC.1 hC.2.1 hZ hS hC.2.2.2.1 (hC.2.2.2.2.1 _ hlk) (fun x hx => hx) hd (hk ad H locs lsA hE h1 hR hS ⟨hO.1, fun w hw => (List.mem_cons.mp hw).elim (fun e => by rw [e]; exact Or.inr (by decide)) (hO.2 w)⟩ hL)
theorem s_getCS {idx : Nat} (hd : decode cc pc = .ok (.getstatic idx, 3)) (hlk : Cond.fieldLink own idx "java/lang/String" "COMPACT_STRINGS" "Z" ∈ zTb) : zSnd X cc own nL mc ms d ini pc (a_push (.int 1) 3) := by
  intro p l e R s m args below meth c cA D A ad0 h0 Q st st' hC hpc ha hk ad H locs lsA hE h1 hR hS hO hL
  obtain ⟨pc', ls, stk, h, n⟩ := st
  subst hpc
  cases ha
  exact va_gets hC.1 hC.2.1 hC.2.2.2.2.2.1.2.1.2.2.2.2.2.2.1 hS hC.2.2.2.1 (hC.2.2.2.2.1 _ hlk) (fun x hx => hx) hd (hk ad H locs lsA hE h1 hR hS ⟨hO.1, fun w hw => (List.mem_cons.mp hw).elim (fun e => by rw [e]; trivial) (hO.2 w)⟩ hL)
theorem s_getFM {idx : Nat} (hd : decode cc pc = .ok (.getstatic idx, 3)) (hlk : Cond.fieldLink own idx "jdk/internal/util/Preconditions" "SIOOBE_FORMATTER" "Ljava/util/function/BiFunction;" ∈ zTb) : zSnd X cc own nL mc ms d ini pc (a_push X.2.2 3) := by
  intro p l e R s m args below meth c cA D A ad0 h0 Q st st' hC hpc ha hk ad H locs lsA hE h1 hR hS hO hL
  obtain ⟨pc', ls, stk, h, n⟩ := st
  subst hpc
  cases ha
  exact va_gets hC.1 hC.2.1 hC.2.2.2.2.2.1.2.1.2.2.2.2.2.2.2 hS hC.2.2.2.1 (hC.2.2.2.2.1 _ hlk) (fun x hx => hx) hd (hk ad H locs lsA hE h1 hR hS ⟨hO.1, fun w hw => (List.mem_cons.mp hw).elim (fun e => by rw [e]; trivial) (hO.2 w)⟩ hL)
theorem s_ldcS {idx i : Nat} {tx : String} (hd : decode cc pc = .ok (.ldc idx, 2)) (hm : (own, idx, tx, i) ∈ zsR) : zSnd X cc own nL mc ms d ini pc (a_con (52, i, 0) 2) := by
  intro p l e R s m args below meth c cA D A ad0 h0 Q st st' hC hpc ha hk ad H locs lsA hE h1 hR hS hO hL
  obtain ⟨pc', ls, stk, h, n⟩ := st
  subst hpc
  cases ha
  have hZ := hC.2.2.2.2.2.1.2.1.2.2.2.2.2.1.2 _ hm
  dsimp only at hZ
  have e := hE (52, i, 0) (Or.inr (show 50 ≤ 52 by decide))
  rw [← e] at hZ
  exact va_ldcS hC.1 hC.2.1 hC.2.2.2.1 hZ hd (hk ad H locs lsA hE h1 hR hS ⟨hO.1, fun w hw => (List.mem_cons.mp hw).elim (fun e => by rw [e]; exact Or.inr (show 50 ≤ 52 by decide)) (hO.2 w)⟩ hL)
theorem zstr {cA : Nat → ClassId} {D : va_G} {A : Nat → Prop} {ad0 ad : zK → Nat} {h0 : zH} {s : State} (hC : zSt cA D A X ad0 s s.heap) (hE : zExt h0 ad0 ad) : vk_S 11 zsl zsb (fun i => ad (52, i, 0)) (fun i => ad (53, i, 0)) A s s.heap := by
  have hZ := hC.2.2.2.2.2.1.1
  have e1 : (fun i => ad (52, i, 0)) = fun i => ad0 (52, i, 0) := funext fun i => hE _ (Or.inr (show 50 ≤ 52 by decide))
  have e2 : (fun i => ad (53, i, 0)) = fun i => ad0 (53, i, 0) := funext fun i => hE _ (Or.inr (show 50 ≤ 53 by decide))
  rw [e1, e2]
  exact hZ
theorem z3 {k : zK} {a n : Nat} (h : k.1 = a ∧ k.2.1 < n ∧ k.2.2 = 0) : k = (a, k.2.1, 0) := by
  obtain ⟨x, y, z⟩ := k
  obtain ⟨h1, -, h3⟩ := h
  dsimp only at h1 h3
  subst h1; subst h3
  rfl
theorem s_strv {idx : Nat} (hd : decode cc pc = .ok (.getfield idx, 3)) (hlk : Cond.fieldLink own idx "java/lang/String" "value" "[B" ∈ zTb) : zSnd X cc own nL mc ms d ini pc a_strv := by
  intro p l e R s m args below meth c cA D A ad0 h0 Q st st' hC hpc ha hk ad H locs lsA hE h1 hR hS hO hL
  obtain ⟨pc', ls, stk, h, n⟩ := st
  subst hpc
  simp only [a_strv] at ha
  split at ha
  · rename_i heq
    simp only [Prod.mk.injEq] at heq
    obtain ⟨rfl, rfl, rfl, rfl, rfl⟩ := heq
    split at ha
    · rename_i k r hg
      cases ha
      have hZ := ((zstr hC.2.2.2.2.2.1.2.1 hE).1 k.2.1 hg.2.1).2.2.1
      have hk2 := hk ad H locs lsA hE h1 hR hS ⟨hO.1, fun w hw => (List.mem_cons.mp hw).elim (fun e => by rw [e]; exact Or.inr (show 50 ≤ 53 by decide)) (fun q => hO.2 w (List.mem_cons_of_mem _ q))⟩ hL
      have ek := z3 hg
      show W p l e R s m args below meth c H locs n.1 n.2 Q (F0 m pc' lsA (.ref (ad k) :: r.map (zcv ad)))
      rw [ek]
      exact vk_getf hC.1 hC.2.1 hZ hS hC.2.2.2.1 (hC.2.2.2.2.1 _ hlk) (fun x hx => hx) hd hk2
    · cases ha
  · cases ha
theorem s_strc {idx : Nat} (hd : decode cc pc = .ok (.getfield idx, 3)) (hlk : Cond.fieldLink own idx "java/lang/String" "coder" "B" ∈ zTb) : zSnd X cc own nL mc ms d ini pc a_strc := by
  intro p l e R s m args below meth c cA D A ad0 h0 Q st st' hC hpc ha hk ad H locs lsA hE h1 hR hS hO hL
  obtain ⟨pc', ls, stk, h, n⟩ := st
  subst hpc
  simp only [a_strc] at ha
  split at ha
  · rename_i heq
    simp only [Prod.mk.injEq] at heq
    obtain ⟨rfl, rfl, rfl, rfl, rfl⟩ := heq
    split at ha
    · rename_i k r hg
      cases ha
      have hZ := ((zstr hC.2.2.2.2.2.1.2.1 hE).1 k.2.1 hg.2.1).2.1
      have hk2 := hk ad H locs lsA hE h1 hR hS ⟨hO.1, fun w hw => (List.mem_cons.mp hw).elim (fun e => by rw [e]; trivial) (fun q => hO.2 w (List.mem_cons_of_mem _ q))⟩ hL
      have ek := z3 hg
      show W p l e R s m args below meth c H locs n.1 n.2 Q (F0 m pc' lsA (.ref (ad k) :: r.map (zcv ad)))
      rw [ek]
      exact vk_getf hC.1 hC.2.1 hZ hS hC.2.2.2.1 (hC.2.2.2.2.1 _ hlk) (fun x hx => hx) hd hk2
    · cases ha
  · cases ha
theorem s_blen (hd : decode cc pc = .ok (.arraylength, 1)) : zSnd X cc own nL mc ms d ini pc a_blen := by
  intro p l e R s m args below meth c cA D A ad0 h0 Q st st' hC hpc ha hk ad H locs lsA hE h1 hR hS hO hL
  obtain ⟨pc', ls, stk, h, n⟩ := st
  subst hpc
  simp only [a_blen] at ha
  split at ha
  · rename_i heq
    simp only [Prod.mk.injEq] at heq
    obtain ⟨rfl, rfl, rfl, rfl, rfl⟩ := heq
    split at ha
    · rename_i k r hg
      cases ha
      have hZ := ((zstr hC.2.2.2.2.2.1.2.1 hE).1 k.2.1 hg.2.1).2.2.2
      have hk2 := hk ad H locs lsA hE h1 hR hS ⟨hO.1, fun w hw => (List.mem_cons.mp hw).elim (fun e => by rw [e]; trivial) (fun q => hO.2 w (List.mem_cons_of_mem _ q))⟩ hL
      have ek := z3 hg
      show W p l e R s m args below meth c H locs n.1 n.2 Q (F0 m pc' lsA (.ref (ad k) :: r.map (zcv ad)))
      rw [ek]
      exact va_tlen hC.1 hC.2.1 hZ hS rfl hd hk2
    · cases ha
  · cases ha
theorem s_bld (hd : decode cc pc = .ok (.baload, 1)) : zSnd X cc own nL mc ms d ini pc a_bld := by
  intro p l e R s m args below meth c cA D A ad0 h0 Q st st' hC hpc ha hk ad H locs lsA hE h1 hR hS hO hL
  obtain ⟨pc', ls, stk, h, n⟩ := st
  subst hpc
  simp only [a_bld] at ha
  split at ha
  · rename_i heq
    simp only [Prod.mk.injEq] at heq
    obtain ⟨rfl, rfl, rfl, rfl, rfl⟩ := heq
    split at ha
    · rename_i i k r hg
      cases ha
      have hZ := ((zstr hC.2.2.2.2.2.1.2.1 hE).1 k.2.1 hg.1.2.1).2.2.2
      have hk2 := hk ad H locs lsA hE h1 hR hS ⟨hO.1, fun w hw => (List.mem_cons.mp hw).elim (fun e => by rw [e]; trivial) (fun q => hO.2 w (List.mem_cons_of_mem _ (List.mem_cons_of_mem _ q)))⟩ hL
      have ek := z3 hg.1
      show W p l e R s m args below meth c H locs n.1 n.2 Q (F0 m pc' lsA (.int i :: .ref (ad k) :: r.map (zcv ad)))
      rw [ek]
      exact va_tb hC.1 hC.2.1 hZ hS (zin_vp hg.2) rfl hd hk2
    · cases ha
  · cases ha
theorem s_isS {idx : Nat} (hd : decode cc pc = .ok (.instanceof idx, 3)) (hlk : Cond.classLink own idx "java/lang/String" ∈ zTb) : zSnd X cc own nL mc ms d ini pc a_isS := by
  intro p l e R s m args below meth c cA D A ad0 h0 Q st st' hC hpc ha hk ad H locs lsA hE h1 hR hS hO hL
  obtain ⟨pc', ls, stk, h, n⟩ := st
  subst hpc
  simp only [a_isS] at ha
  split at ha
  · rename_i heq
    simp only [Prod.mk.injEq] at heq
    obtain ⟨rfl, rfl, rfl, rfl, rfl⟩ := heq
    split at ha
    · rename_i k r hg
      cases ha
      have hk2 := hk ad H locs lsA hE h1 hR hS ⟨hO.1, fun w hw => (List.mem_cons.mp hw).elim (fun e => by rw [e]; trivial) (fun q => hO.2 w (List.mem_cons_of_mem _ q))⟩ hL
      have ek := z3 hg
      show W p l e R s m args below meth c H locs n.1 n.2 Q (F0 m pc' lsA (.ref (ad k) :: r.map (zcv ad)))
      rw [ek]
      exact va_instE hC.1 hC.2.1 hC.2.2.2.1 (hC.2.2.2.2.1 _ hlk) (vk_recv (zstr hC.2.2.2.2.2.1.2.1 hE) hg.2.1 hS) hd hk2
    · cases ha
  · cases ha
theorem s_caS {idx : Nat} (hd : decode cc pc = .ok (.checkcast idx, 3)) (hlk : Cond.classLink own idx "java/lang/String" ∈ zTb) : zSnd X cc own nL mc ms d ini pc a_caS := by
  intro p l e R s m args below meth c cA D A ad0 h0 Q st st' hC hpc ha hk ad H locs lsA hE h1 hR hS hO hL
  obtain ⟨pc', ls, stk, h, n⟩ := st
  subst hpc
  simp only [a_caS] at ha
  split at ha
  · rename_i heq
    simp only [Prod.mk.injEq] at heq
    obtain ⟨rfl, rfl, rfl, rfl, rfl⟩ := heq
    split at ha
    · rename_i k r hg
      cases ha
      have hk2 := hk ad H locs lsA hE h1 hR hS ⟨hO.1, hO.2⟩ hL
      have ek := z3 hg
      have hk3 : W p l e R s m args below meth c H locs n.1 n.2 Q (F0 m (pc' + 3) lsA (.ref (ad k) :: r.map (zcv ad))) := hk2
      show W p l e R s m args below meth c H locs n.1 n.2 Q (F0 m pc' lsA (.ref (ad k) :: r.map (zcv ad)))
      rw [ek] at hk3 ⊢
      exact va_castE hC.1 hC.2.1 hC.2.2.2.1 (hC.2.2.2.2.1 _ hlk) (vk_recv (zstr hC.2.2.2.2.2.1.2.1 hE) hg.2.1 hS) hd hk3
    · cases ha
  · cases ha
theorem s_acne {off : Int} {tgt : Nat} (hd : decode cc pc = .ok (.if_acmp .ne off, 3)) (ht : (pc : Int) + off = (tgt : Int)) : zSnd X cc own nL mc ms d ini pc (a_acne tgt) := by
  intro p l e R s m args below meth c cA D A ad0 h0 Q st st' hC hpc ha hk ad H locs lsA hE h1 hR hS hO hL
  obtain ⟨pc', ls, stk, h, n⟩ := st
  subst hpc
  simp only [a_acne] at ha
  split at ha
  · rename_i heq
    simp only [Prod.mk.injEq] at heq
    obtain ⟨rfl, rfl, rfl, rfl, rfl⟩ := heq
    split at ha
    · rename_i k k' r hg
      have hinj := (zstr hC.2.2.2.2.2.1.2.1 hE).2 k'.2.1 k.2.1 hg.2.2.1 hg.1.2.1
      have e1 := z3 hg.1
      have e2 := z3 hg.2
      refine lv_acmp_ne (rx := some (ad k')) (ry := some (ad k)) hC.1 hC.2.1 hd ht (fun hne => ?_) (fun heq => ?_)
      · rw [if_neg (fun q => hne (by rw [q]))] at ha
        cases ha
        exact hk ad H locs lsA hE h1 hR hS ⟨hO.1, fun w hw => hO.2 w (List.mem_cons_of_mem _ (List.mem_cons_of_mem _ hw))⟩ hL
      · have e3 : k' = k := by
          have := Option.some.inj heq
          rw [e1, e2] at this
          rw [e1, e2, hinj this]
        rw [if_pos e3] at ha
        cases ha
        exact hk ad H locs lsA hE h1 hR hS ⟨hO.1, fun w hw => hO.2 w (List.mem_cons_of_mem _ (List.mem_cons_of_mem _ hw))⟩ hL
    · cases ha
  · cases ha
end ZS5
