def R_law : String := "SiphonsBenchLaw"
def lw_P (b : Addr) (xs : List Int32) (args : Array Value) (s : State) : Prop := args = #[.ref b] ∧ s.IntsAt b xs ∧ xs.length ≤ 260 ∧ (Jvm.Cond.and given_1 narrow_1).before args s = true
def lw_Q (_ : Array Value) (s : State) (o : Outcome) (t : State) : Prop := o = .returned (some (.int 1)) ∧ Framed s o t [] 600000 7302250
def lw_Z (below : List Frame) (a : Array Value) (s : State) : State → Prop := fun t => ∃ o, t.status = .running ∧ Ended t below o ∧ lw_Q a s o t
/-- the law's own end, with 1 on the stack, nothing written that was there before, its room as the claim has it -/
theorem lw_ret {p : Program} {l : Launch} {e : Env} {s : State} {m : MethodId} {below : List Frame} {meth : Method} {c : Code} {b : Nat} (hx : p.tables.exec = Jvm.exec) (hb : c.code = code) (hr : meth.sig.returnType = ret) (hlocks : meth.locks = false) {pc : Nat} {H : Heap} {ls : Array Slot} (hdg : decode code pc = .ok (.ireturn, 1)) : W p l e room_1 s m #[Value.ref b] below meth c H [] 600000 7302250 (lw_Z below #[Value.ref b] s) (F0 m pc ls [.int 1]) := by
  intro T hT X
  obtain ⟨fs, hret, hrun, hended, hW, hframe⟩ := X.leave (v := some (.int 1)) (hlocks := hlocks) (fun h => by rw [hr] at h; cases h)
  have hmeth' : T.vm.method? m = some meth := X.method'
  refine ⟨T.setFrames fs, ?_, .returned (some (.int 1)), hrun, hended, rfl, ⟨_, rfl⟩, hW, hframe⟩
  jvm_step X.here [X.here.top, hx, hb, hdg, hmeth', hr, ret, narrow_b1]
  (try refine ⟨rfl, ?_⟩); (try refine ⟨rfl, ?_⟩)
  first | (intro acts; rw [hret _ acts rfl rfl rfl]) | rw [hret _ _ rfl rfl rfl]
  exact Steps.refl _
/-- what holds at the law's entry: the machine, the code, the tables' words (any of lw_tbl by 'hts w (by decide +kernel)'), the script of L ints xs at the cell b, what the Statement gives of the start (any of its parts by flat_of_before) -/
def lw_At (p : Program) (s : State) (m : MethodId) (meth : Method) (c : Code) (b L : Nat) (xs : Nat → Int32) : Prop :=
  p.tables.exec = Jvm.exec ∧ c.code = code ∧ meth.sig.returnType = ret ∧ c.maxLocals = 26 ∧ s.vm.findClass R_law = some m.cls ∧ (∀ w ∈ lw_tbl, w.before #[Value.ref b] s = true) ∧ va_X b L xs s s.heap ∧ b < s.heap.size ∧ meth.locks = false ∧ (Jvm.Cond.and given_1 narrow_1).before #[Value.ref b] s = true
theorem zcd_243 (X : Nat × (Nat → Int32) × Value) : zcd X 243 = cd_243 X := by
  unfold zcd
  rw [if_neg (show ¬ 243 < 71 by decide), if_neg (show ¬ 243 < 107 by decide), if_neg (show ¬ 243 < 123 by decide), if_neg (show ¬ 243 < 238 by decide), if_neg (show ¬ 243 < 241 by decide), if_neg (show ¬ 243 < 243 by decide), if_pos (show 243 < 244 by decide)]
theorem n243 : zcc 243 = code ∧ zown 243 = R_law ∧ zret 243 = some .boolean ∧ znL 243 = 26 ∧ zmc 243 = 600000 ∧ zms 243 = 7302250 ∧ zini 243 = false := by
  refine ⟨?_, ?_, ?_, ?_, ?_, ?_, ?_⟩
  · unfold zcc
    rw [if_neg (show ¬ 243 < 67 by decide), if_neg (show ¬ 243 < 102 by decide), if_neg (show ¬ 243 < 119 by decide), if_neg (show ¬ 243 < 235 by decide), if_neg (show ¬ 243 < 240 by decide), if_neg (show ¬ 243 < 241 by decide), if_neg (show ¬ 243 < 243 by decide)]
  · unfold zown
    rw [if_neg (show ¬ 243 < 65 by decide), if_neg (show ¬ 243 < 235 by decide), if_neg (show ¬ 243 < 236 by decide), if_neg (show ¬ 243 < 240 by decide)]
    rfl
  · unfold zret
    rw [if_neg (show ¬ 243 < 57 by decide), if_neg (show ¬ 243 < 86 by decide), if_neg (show ¬ 243 < 119 by decide), if_neg (show ¬ 243 < 235 by decide), if_neg (show ¬ 243 < 241 by decide), if_neg (show ¬ 243 < 243 by decide)]
  · unfold znL
    rw [if_neg (show ¬ 243 < 63 by decide), if_neg (show ¬ 243 < 94 by decide), if_neg (show ¬ 243 < 118 by decide), if_neg (show ¬ 243 < 125 by decide), if_neg (show ¬ 243 < 238 by decide), if_neg (show ¬ 243 < 241 by decide), if_neg (show ¬ 243 < 243 by decide)]
  · unfold zmc
    rw [if_neg (show ¬ 243 < 60 by decide), if_neg (show ¬ 243 < 75 by decide), if_neg (show ¬ 243 < 241 by decide), if_neg (show ¬ 243 < 243 by decide)]
  · unfold zms
    rw [if_neg (show ¬ 243 < 60 by decide), if_neg (show ¬ 243 < 75 by decide), if_neg (show ¬ 243 < 241 by decide), if_neg (show ¬ 243 < 243 by decide)]
  · unfold zini
    rw [if_neg (show ¬ 243 < 60 by decide), if_neg (show ¬ 243 < 66 by decide), if_neg (show ¬ 243 < 72 by decide), if_neg (show ¬ 243 < 75 by decide)]
theorem ctx_law {p : Program} {e : Env} {s : State} {m : MethodId} {meth : Method} {c : Code} {L : Nat} {xs : Nat → Int32} {v : Value} {cA : Nat → ClassId} {D : va_G} {ad : zK → Nat} (C0 : lw_At p s m meth c (ad (50, 0, 0)) L xs) (hU : zU cA D (fun q => s.heap.size ≤ q) (L, xs, v) ad hN s) :
    zCtx p e room_1 s m #[Value.ref (ad (50, 0, 0))] meth c (zcc 243) (zown 243) ((zTX (L, xs, v)).2.1 243) ((zTX (L, xs, v)).2.2.1 243) ((zTX (L, xs, v)).2.2.2 243) 9 (zini 243) cA D (fun q => s.heap.size ≤ q) (L, xs, v) ad hN := by
  obtain ⟨hx, hb, hr, hml, hown, hts, hX, hbl, hlocks, hgv⟩ := C0
  obtain ⟨n1, n2, n3, n4, n5, n6, n7⟩ := n243
  refine ⟨hx, hb.trans n1.symm, hml.trans n4.symm, ?_, fun w hw => hts w (List.mem_filter.mp hw).1, hU, ⟨Nat.le_of_ble_eq_true rfl, Nat.le_of_ble_eq_true rfl, ?_, ?_⟩, fun h => ?_⟩
  · rw [n2]; exact hown
  · show zmc 243 ≤ room_1.cells
    rw [n5]
    exact Nat.le_refl _
  · show zms 243 ≤ room_1.slots
    rw [n6]
    exact Nat.le_refl _
  · rw [n7] at h
    cases h
theorem ret_law {p : Program} {e : Env} {s : State} {m : MethodId} {below : List Frame} {meth : Method} {c : Code} (l : Launch) {b L : Nat} {xs : Nat → Int32} {v : Value} {nL : Nat} {cA : Nat → ClassId} {D : va_G} {ad : zK → Nat} (C0 : lw_At p s m meth c b L xs) (h' : zH) (pc : Nat) (a : zA) (st2 : zS) (hi : (zTX (L, xs, v)).1 243 pc = some (.inr (.inl a))) (hpc : st2.1 = pc) (ha : a 9 st2 = some (.inr (.inl (some (vI 1), h')))) :
    zWs p l e room_1 s m #[Value.ref b] below meth c nL cA D (fun q => s.heap.size ≤ q) ad hN (lw_Z below #[Value.ref b] s) st2 := by
  obtain ⟨hx, hb, hr, hml, hown, hts, hX, hbl, hlocks, hgv⟩ := C0
  have hi : zcd (L, xs, v) 243 pc = some (.inr (.inl a)) := hi
  rw [zcd_243] at hi
  obtain ⟨hdg, rfl⟩ := zR_law (L, xs, v) pc a hi
  obtain ⟨pc', ls, stk, h, nc, ns⟩ := st2
  have hpc : pc' = pc := hpc
  subst hpc
  intro ad1 H locs lsA hE h1 hR hS hO hLR
  have hs : stk = [vI 1] ∧ nc ≤ 600000 ∧ ns ≤ 7302250 := by
    unfold a_ret at ha
    split at ha
    · rename_i heq
      simp only [Prod.mk.injEq] at heq
      obtain ⟨-, -, rfl, rfl, rfl, rfl⟩ := heq
      split at ha
      · rename_i hg
        simp only [Option.some.injEq, Sum.inr.injEq, Sum.inl.injEq, Prod.mk.injEq] at ha
        exact ⟨by rw [ha.1], hg.2.1, hg.2.2⟩
      · cases ha
    · cases ha
  obtain ⟨rfl, h2, h3⟩ := hs
  show W p l e room_1 s m #[Value.ref b] below meth c H locs nc ns (lw_Z below #[Value.ref b] s) (F0 m pc' lsA [.int 1])
  refine va_forget (fun q hq => hS.2.2 q hq) (W.widen h2 h3 ?_)
  exact lw_ret hx hb hr hlocks hdg
theorem ent_law {ad : zK → Nat} {b : Nat} (hb : ad (50, 0, 0) = b) : zOk st00 ∧ zLR ad 26 st00.2.1 ((lg_sl [Value.ref b] ++ List.replicate (26 - (lg_sl [Value.ref b]).length) Slot.unset).toArray) := by
  subst hb
  refine ⟨⟨zflat_ok (h := hN) (args := [vR (50, 0, 0)]) (fun w hw => by rw [List.mem_singleton.mp hw]; exact Or.inr (Nat.le_refl 50)) 25, fun v hv => absurd hv List.not_mem_nil⟩, ?_⟩
  exact zent_LR (nl := 26) (args := [vR (50, 0, 0)]) (h := hN) (Nat.le_of_ble_eq_true rfl)
