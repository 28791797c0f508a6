/-! the law, from its start -/
theorem isL_e {ls : List zV} (h : isL ls = true) : ls = [vR (50, 0, 0), vR (6, 0, 0), vR (7, 0, 0), vN] := by
  unfold isL at h
  split at h
  · rw [Bool.and_eq_true, Bool.and_eq_true] at h
    rw [eq_of_beq h.1.1, eq_of_beq h.1.2, eq_of_beq h.2]
  · cases h
theorem zRep_ren {cA : Nat → ClassId} {D : va_G} {A : Nat → Prop} {ad : zK → Nat} {h : zH} {H : Heap} (c2 : chk2 h = true) (c3 : chk3 h = true) (c4 : chk4 h = true) (r : zRep cA D A ad h H) : zRep cA D A (fun k => ad (kσ k)) (hh (mk0 h) (mg0 h)) H := by
  obtain ⟨rP, rD, -⟩ := r
  unfold chk2 at c2
  rw [Bool.and_eq_true] at c2
  have mem : ∀ k ∈ hK0, ∃ i, h.1[i]? = some (kσ k) := fun k hk => List.getElem?_of_mem (List.contains_iff_mem.mp (chk_all c2.2 hk))
  have raw : ∀ i k, h.1[i]? = some k → (zL cA ad h)[i]? = some (ad k, zE cA ad h k) := fun i k e => by
    unfold zL
    rw [List.getElem?_map, e]
    rfl
  have new : ∀ i q, (zL cA (fun k => ad (kσ k)) (hh (mk0 h) (mg0 h)))[i]? = some q → ∃ k, hK0[i]? = some k ∧ k ∈ hK0 ∧ q = (ad (kσ k), zE cA ad h (kσ k)) := fun i q e => by
    unfold zL at e
    rw [List.getElem?_map] at e
    have e' : (hK0[i]?).map (fun k => ((fun k => ad (kσ k)) k, zE cA (fun k => ad (kσ k)) (hh (mk0 h) (mg0 h)) k)) = some q := e
    cases hi : hK0[i]? with
    | none => rw [hi] at e'; cases e'
    | some k =>
      rw [hi] at e'
      have hk : k ∈ hK0 := List.mem_of_getElem? hi
      refine ⟨k, hi, hk, ?_⟩
      have e2 : (ad (kσ k), zE cA (fun k => ad (kσ k)) (hh (mk0 h) (mg0 h)) k) = q := Option.some.inj e'
      rw [← e2, zE_ren c3 c4 hk]
  refine ⟨fun i q e => ?_, ⟨fun i j p q ei ej epq => ?_, fun i q e => ?_⟩, hK0_nd, fun k hk => ⟨(hK0_wf k hk).1, fun f k' e => (hK0_wf k hk).2 f (hrf_12 e) k' e⟩⟩
  · obtain ⟨k, -, hk, rfl⟩ := new i q e
    obtain ⟨i', hi'⟩ := mem k hk
    exact rP i' _ (raw i' _ hi')
  · obtain ⟨ki, hi, hki, rfl⟩ := new i p ei
    obtain ⟨kj, hj, hkj, rfl⟩ := new j q ej
    obtain ⟨i', hi'⟩ := mem ki hki
    obtain ⟨j', hj'⟩ := mem kj hkj
    have e := rD.1 i' j' _ _ (raw i' _ hi') (raw j' _ hj') epq
    subst e
    have e2 : kσ ki = kσ kj := Option.some.inj (hi'.symm.trans hj')
    have e3 := hK0_inj ki hki kj hkj e2
    subst e3
    exact (List.getElem?_inj (List.getElem?_eq_some_iff.mp hi).1 hK0_nd).mp (hi.trans hj.symm)
  · obtain ⟨k, -, hk, rfl⟩ := new i q e
    obtain ⟨i', hi'⟩ := mem k hk
    exact rD.2 i' _ (raw i' _ hi')
theorem z_ren {p : Program} {l : Launch} {e : Env} {R : Room} {s : State} {m : MethodId} {args : Array Value} {below : List Frame} {meth : Method} {c : Code} {nL : Nat} {cA : Nat → ClassId} {D : va_G} {A : Nat → Prop} {ad0 : zK → Nat} {Q : State → Prop} {st : zS} (k1 : chk1 st = true) (k2 : chk2 st.2.2.2.1 = true) (k3 : chk3 st.2.2.2.1 = true) (k4 : chk4 st.2.2.2.1 = true)
    (hW : zWs p l e R s m args below meth c nL cA D A ad0 hN Q (16, [vR (50, 0, 0), vR (6, 0, 0), vR (7, 0, 0), vN], [], hh (mk0 st.2.2.2.1) (mg0 st.2.2.2.1), st.2.2.2.2.1, st.2.2.2.2.2)) : zWs p l e R s m args below meth c nL cA D A ad0 hN Q st := by
  obtain ⟨pc, ls, stk, h, n1, n2⟩ := st
  unfold chk1 at k1
  simp only [Bool.and_eq_true] at k1
  obtain ⟨⟨⟨⟨k11, k12⟩, k13⟩, -⟩, -⟩ := k1
  have e1 : pc = 16 := eq_of_beq k11
  have e2 := isL_e k12
  have e3 : stk = [] := List.isEmpty_iff.mp k13
  subst e1 e2 e3
  intro ad H locs lsA hE hk hR hS hO hL
  have f : ∀ k : zK, k.1 = 6 ∨ k.1 = 7 ∨ 50 ≤ k.1 → kσ k = k := fun k hk => kσ_o (by omega) (by omega)
  refine hW (fun k => ad (kσ k)) H locs lsA ?_ (fun k hk' => absurd hk' List.not_mem_nil) (zRep_ren k2 k3 k4 hR) hS ?_ ?_
  · intro k hk'
    rcases hk' with hk' | hk'
    · exact absurd hk' List.not_mem_nil
    · show ad (kσ k) = ad0 k
      rw [f k (Or.inr (Or.inr hk'))]
      exact hE k (Or.inr hk')
  · refine ⟨fun v hv => ?_, fun v hv => absurd hv List.not_mem_nil⟩
    rcases List.mem_cons.mp hv with rfl | hv
    · exact Or.inr (Nat.le_refl _)
    rcases List.mem_cons.mp hv with rfl | hv
    · exact Or.inl (show (6, 0, 0) ∈ hK0 by decide)
    rcases List.mem_cons.mp hv with rfl | hv
    · exact Or.inl (show (7, 0, 0) ∈ hK0 by decide)
    rcases List.mem_cons.mp hv with rfl | hv
    · trivial
    · exact absurd hv List.not_mem_nil
  · refine ⟨hL.1, ?_⟩
    have e : zlv (fun k => ad (kσ k)) [vR (50, 0, 0), vR (6, 0, 0), vR (7, 0, 0), vN] 0 = zlv ad [vR (50, 0, 0), vR (6, 0, 0), vR (7, 0, 0), vN] 0 := by
      refine zlv_ext (h := ([(6, 0, 0), (7, 0, 0)], hN.2)) (fun k hk' => ?_) _ _ (fun v hv => ?_)
      · show ad (kσ k) = ad k
        rcases hk' with hk' | hk'
        · rcases List.mem_cons.mp hk' with rfl | hk'
          · rfl
          rcases List.mem_cons.mp hk' with rfl | hk'
          · rfl
          · exact absurd hk' List.not_mem_nil
        · rw [f k (Or.inr (Or.inr hk'))]
      · rcases List.mem_cons.mp hv with rfl | hv
        · exact Or.inr (Nat.le_refl _)
        rcases List.mem_cons.mp hv with rfl | hv
        · exact Or.inl (show (6, 0, 0) ∈ [((6, 0, 0) : zK), (7, 0, 0)] by decide)
        rcases List.mem_cons.mp hv with rfl | hv
        · exact Or.inl (show (7, 0, 0) ∈ [((6, 0, 0) : zK), (7, 0, 0)] by decide)
        rcases List.mem_cons.mp hv with rfl | hv
        · trivial
        · exact absurd hv List.not_mem_nil
    rw [e]
    exact hL.2
theorem law_ends (X : Nat × (Nat → Int32) × Value) (hx : X.1 ≤ 4200) (hc : X.2.2.category = 1) (c1 c2 : Nat) (h1 : c1 ≤ 600000) (h2 : c2 ≤ 7302250) (M : zM) (G : zG) (i : Inv 0 M) : ∃ n h', zexec (zTX X) n 13 243 (16, [vR (50, 0, 0), vR (6, 0, 0), vR (7, 0, 0), vN], [], hh M G, c1, c2) = some (some (vI 1), h') := by
  obtain ⟨M', G', e⟩ := LOOP X c1 c2 h1 h2 hx hc X.1 0 M G (by omega) (by omega) i
  rw [Nat.mul_zero, nI_0] at e
  have e' : zw X c1 c2 13 243 16 [vR (50, 0, 0), vR (6, 0, 0), vR (7, 0, 0), vN] [] (hh M G) = some (some (vI 1), hh M' G') := by
    simp only [e243_16, e243_17]
    exact e
  obtain ⟨n, hn⟩ := zex_iff.mp e'
  exact ⟨n, _, hn⟩
theorem z_law {zcc : Nat → ByteArray} {zown : Nat → String} {zy : Nat → MethodName} {zret : Nat → Option FieldType} {zini : Nat → Bool} (X : Nat × (Nat → Int32) × Value) (hx : X.1 ≤ 4200) (hc : X.2.2.category = 1) (hT : ∀ M pc i, (zTX X).1 M pc = some i → zOkI X (zTX X) zcc zown zy zret zini M pc i)
    (p : Program) (l : Launch) (e : Env) (R : Room) (s : State) (m : MethodId) (args : Array Value) (below : List Frame) (meth : Method) (c : Code) (cA : Nat → ClassId) (D : va_G) (A : Nat → Prop) (ad0 : zK → Nat) (Q : State → Prop)
    (hC : zCtx p e R s m args meth c (zcc 243) (zown 243) ((zTX X).2.1 243) ((zTX X).2.2.1 243) ((zTX X).2.2.2 243) 13 (zini 243) cA D A X ad0 hN)
    (hQ : ∀ h' pc a st2, (zTX X).1 243 pc = some (.inr (.inl a)) → st2.1 = pc → a 13 st2 = some (.inr (.inl (some (vI 1), h'))) → zWs p l e R s m args below meth c ((zTX X).2.1 243) cA D A ad0 hN Q st2) :
    zWs p l e R s m args below meth c ((zTX X).2.1 243) cA D A ad0 hN Q st00 := by
  obtain ⟨st, hr, k1, k2, k3, k4, k5⟩ := mk_run
  have hr' := zrun_s (T := zTX X) (T' := Tp) (Tp_ok X) rfl 20000 8 13 243 st00 st hr
  refine z_part hT 20000 8 13 243 st00 st hr' p l e R s m args below meth c cA D A ad0 hN Q hC ?_
  refine z_ren k1 k2 k3 k4 ?_
  have b := k1
  unfold chk1 at b
  simp only [Bool.and_eq_true] at b
  obtain ⟨⟨-, b1⟩, b2⟩ := b
  obtain ⟨n, h', hn⟩ := law_ends X hx hc st.2.2.2.2.1 st.2.2.2.2.2 (of_decide_eq_true b1) (of_decide_eq_true b2) (mk0 st.2.2.2.1) (mg0 st.2.2.2.1) (Inv_0 k5)
  exact z_sound hT n 13 243 _ _ h' hn p l e R s m args below meth c cA D A ad0 hN Q hC (hQ h')
