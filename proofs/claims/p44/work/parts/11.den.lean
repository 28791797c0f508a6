/-! ANSWERS of instructions that return; runs to a place; what a run answers, fuel forgotten -/
def a_ret (t : zV → Bool) (mc ms : Nat) : zA := fun _ st => match st with
  | (_, _, [v], h, nc, ns) => if t v = true ∧ nc ≤ mc ∧ ns ≤ ms then some (.inr (.inl (some v, h))) else none
  | _ => none
def a_vret (mc ms : Nat) : zA := fun _ st => match st with
  | (_, _, [], h, nc, ns) => if nc ≤ mc ∧ ns ≤ ms then some (.inr (.inl (none, h))) else none
  | _ => none
def ztz (v : zV) : Bool := match v with
  | .inl (.int x) => x == 0 || x == 1
  | _ => false
def ztc (v : zV) : Bool := match v with
  | .inl (.int x) => x.toUInt32.toUInt16.toUInt32.toInt32 == x
  | _ => false
def zty8 (v : zV) : Bool := match v with
  | .inl (.int x) => x.toInt8.toInt32 == x
  | _ => false
section ZR
variable {X : Nat × (Nat → Int32) × Value} {cc : ByteArray} {own : String} {nL mc ms : Nat} {ini : Bool} {ret : Option FieldType} {pc : Nat}
theorem r_ret0 {t : zV → Bool} (row : ∀ {p : Program} {l : Launch} {e : Env} {R : Room} {s : State} {m : MethodId} {args : Array Value} {below : List Frame} {meth : Method} {c : Code} {H : Heap} {locs : List Loc} {cells slots : Nat} {ls : Array Slot} {Qc : Array Value → State → Outcome → State → Prop} {free : Addr → Prop} (v : zV) (ad : zK → Nat), t v = true → p.tables.exec = Jvm.exec → c.code = cc → meth.sig.returnType = ret → meth.locks = false →
    (∀ t : State, t.heap = H → s.WarmedH t.vm → Qc args s (.returned (some (zcv ad v))) t) → (∀ q ∈ locs, free q.base) → W p l e R s m args below meth c H locs cells slots (MQ below Qc args s cells slots free) (F0 m pc ls [zcv ad v])) : zRt X cc own nL mc ms ini ret pc (a_ret t mc ms) := by
  intro p l e R s m args below meth c cA D A ad0 h0 d st r h' hC hr hlk hpc ha ad H locs lsA hE h1 hR hS hO hL
  obtain ⟨pc', ls, stk, h, nc, ns⟩ := st
  subst hpc
  rcases stk with _ | ⟨v, _ | ⟨w, rr⟩⟩
  · exact nomatch (show (none : zO) = _ from ha)
  · simp only [a_ret] at ha
    split at ha
    · rename_i hg
      cases ha
      refine W.widen hg.2.1 hg.2.2 ?_
      refine row v ad hg.1 hC.1 hC.2.1 hr hlk (fun t ht hW => ?_) (fun q hq => hS.2.2 q hq)
      exact ⟨⟨ad, rfl, hE, h1, zU_here hC.2.2.2.2.2.1 hE hR hS ht hW, fun v' hv' => by cases hv'; exact hO.2 _ List.mem_cons_self⟩, hS.F ht⟩
    · cases ha
  · exact nomatch (show (none : zO) = _ from ha)
theorem r_iret (hd : decode cc pc = .ok (.ireturn, 1)) (hr : ret = some .int) : zRt X cc own nL mc ms ini ret pc (a_ret zti mc ms) :=
  r_ret0 fun v ad ht hx hb hrt hlk hq hf => by
    match v, ht with
    | .inl (.int x), _ => exact W.zret (ty := .int) hx hb (hrt.trans hr) rfl hq hf hd hlk
theorem r_zret (hd : decode cc pc = .ok (.ireturn, 1)) (hr : ret = some .boolean) : zRt X cc own nL mc ms ini ret pc (a_ret ztz mc ms) :=
  r_ret0 fun v ad ht hx hb hrt hlk hq hf => by
    match v, ht with
    | .inl (.int x), ht =>
      refine W.zret (ty := .boolean) hx hb (hrt.trans hr) ?_ hq hf hd hlk
      simp only [ztz, Bool.or_eq_true, beq_iff_eq] at ht
      rcases ht with rfl | rfl <;> rfl
theorem r_cret (hd : decode cc pc = .ok (.ireturn, 1)) (hr : ret = some .char) : zRt X cc own nL mc ms ini ret pc (a_ret ztc mc ms) :=
  r_ret0 fun v ad ht hx hb hrt hlk hq hf => by
    match v, ht with
    | .inl (.int x), ht =>
      refine W.zret (ty := .char) hx hb (hrt.trans hr) ?_ hq hf hd hlk
      simp only [ztc, beq_iff_eq] at ht
      show Value.int _ = _
      rw [ht]
theorem r_bret (hd : decode cc pc = .ok (.ireturn, 1)) (hr : ret = some .byte) : zRt X cc own nL mc ms ini ret pc (a_ret zty8 mc ms) :=
  r_ret0 fun v ad ht hx hb hrt hlk hq hf => by
    match v, ht with
    | .inl (.int x), ht =>
      refine W.zret (ty := .byte) hx hb (hrt.trans hr) ?_ hq hf hd hlk
      simp only [zty8, beq_iff_eq] at ht
      show Value.int _ = _
      rw [ht]
theorem r_lret (hd : decode cc pc = .ok (.lreturn, 1)) (hr : ret = some .long) : zRt X cc own nL mc ms ini ret pc (a_ret ztl mc ms) :=
  r_ret0 fun v ad ht hx hb hrt hlk hq hf => by
    match v, ht with
    | .inl (.long x), _ => exact W.lret hx hb (hrt.trans hr) hq hf hd hlk
theorem r_aret {rt : FieldType} (hd : decode cc pc = .ok (.areturn, 1)) (hr : ret = some rt) (hrt : (∃ n, rt = .object n) ∨ ∃ t, rt = .array t) : zRt X cc own nL mc ms ini ret pc (a_ret ztr mc ms) :=
  r_ret0 fun v ad ht hx hb hr2 hlk hq hf => by
    match v, ht with
    | .inr k, _ => exact W.aret (rt := rt) hx hb (hr2.trans hr) hrt (Or.inr ⟨_, rfl⟩) hq hf hd hlk
theorem r_vret (hd : decode cc pc = .ok (.return_, 1)) (hr : ret = none) : zRt X cc own nL mc ms ini ret pc (a_vret mc ms) := by
  intro p l e R s m args below meth c cA D A ad0 h0 d st r h' hC hrt hlk hpc ha ad H locs lsA hE h1 hR hS hO hL
  obtain ⟨pc', ls, stk, h, nc, ns⟩ := st
  subst hpc
  rcases stk with _ | ⟨v, rr⟩
  · simp only [a_vret] at ha
    split at ha
    · rename_i hg
      cases ha
      refine W.widen hg.1 hg.2 ?_
      refine W.vret hC.1 hC.2.1 (hrt.trans hr) (fun t ht hW => ?_) (fun q hq => hS.2.2 q hq) hd hlk
      exact ⟨⟨ad, rfl, hE, h1, zU_here hC.2.2.2.2.2.1 hE hR hS ht hW, fun v' hv' => by cases hv'⟩, hS.F ht⟩
    · cases ha
  · exact nomatch (show (none : zO) = _ from ha)
end ZR
/-! fuel -/
theorem zstep_mono {T : zTab} {e1 e2 : Nat → Nat → zS → Option zR} (h : ∀ d M st r, e1 d M st = some r → e2 d M st = some r) {d M : Nat} {st : zS} {y : zS ⊕ zR} (hs : zstep T e1 d M st = some y) : zstep T e2 d M st = some y := by
  unfold zstep at hs ⊢
  cases hi : T.1 M st.1 with
  | none => rw [hi] at hs; cases hs
  | some i =>
    rw [hi] at hs
    rcases i with a | a | q
    · exact hs
    · exact hs
    · dsimp only at hs ⊢
      cases d with
      | zero => cases hs
      | succ d' =>
        dsimp only at hs ⊢
        split at hs
        · rename_i hg
          rw [if_pos hg]
          split at hs
          · rename_i r hr
            rw [h _ _ _ _ hr]
            exact hs
          · cases hs
        · cases hs
theorem zexec_succ {T : zTab} : ∀ (n d M : Nat) (st : zS) (r : zR), zexec T n d M st = some r → zexec T (n + 1) d M st = some r := by
  intro n
  induction n with
  | zero => intro d M st r h; cases h
  | succ n ih =>
    intro d M st r h
    unfold zexec at h
    cases hs : zstep T (zexec T n) d M st with
    | none => rw [hs] at h; cases h
    | some y =>
      rw [hs] at h
      have hs2 := zstep_mono (fun d M st r hr => ih d M st r hr) hs
      unfold zexec
      rw [hs2]
      cases y with
      | inl st' => exact ih d M st' r h
      | inr r' => exact h
theorem zexec_le {T : zTab} {n m : Nat} (hnm : n ≤ m) {d M : Nat} {st : zS} {r : zR} (h : zexec T n d M st = some r) : zexec T m d M st = some r := by
  induction hnm with
  | refl => exact h
  | step _ ih => exact zexec_succ _ d M st r ih
theorem zexec_det {T : zTab} {n m d M : Nat} {st : zS} {r r' : zR} (h : zexec T n d M st = some r) (h' : zexec T m d M st = some r') : r = r' := by
  have h1 := zexec_le (Nat.le_max_left n m) h
  have h2 := zexec_le (Nat.le_max_right n m) h'
  exact Option.some.inj (h1.symm.trans h2)
noncomputable def zex (T : zTab) (d M : Nat) (st : zS) : Option zR := @dite (Option zR) (∃ n r, zexec T n d M st = some r) (Classical.propDecidable _) (fun h => some (Classical.choose (Classical.choose_spec h))) (fun _ => none)
theorem zex_iff {T : zTab} {d M : Nat} {st : zS} {r : zR} : zex T d M st = some r ↔ ∃ n, zexec T n d M st = some r := by
  unfold zex
  by_cases h : ∃ n r, zexec T n d M st = some r
  · rw [dif_pos h]
    have hs := Classical.choose_spec (Classical.choose_spec h)
    constructor
    · intro e
      exact ⟨_, by rw [← Option.some.inj e]; exact hs⟩
    · rintro ⟨n, hn⟩
      rw [zexec_det hn hs]
  · rw [dif_neg h]
    constructor
    · intro e; cases e
    · rintro ⟨n, hn⟩
      exact absurd ⟨n, r, hn⟩ h
theorem zex_of {T : zTab} {n d M : Nat} {st : zS} {r : zR} (h : zexec T n d M st = some r) : zex T d M st = some r := zex_iff.mpr ⟨n, h⟩
/-- a step that calls at most what is answered -/
theorem zstep_fuel {T : zTab} {d M : Nat} {st : zS} {y : zS ⊕ zR} (h : zstep T (zex T) d M st = some y) : ∃ n, zstep T (zexec T n) d M st = some y := by
  unfold zstep at h ⊢
  cases hi : T.1 M st.1 with
  | none => rw [hi] at h; cases h
  | some i =>
    rw [hi] at h
    rcases i with a | a | q
    · exact ⟨0, h⟩
    · exact ⟨0, h⟩
    · dsimp only at h ⊢
      cases d with
      | zero => cases h
      | succ d' =>
        dsimp only at h ⊢
        split at h
        · rename_i hg
          split at h
          · rename_i r hr
            obtain ⟨n, hn⟩ := zex_iff.mp hr
            refine ⟨n, ?_⟩
            rw [if_pos hg, hn]
            exact h
          · cases h
        · cases h
theorem zex_step {T : zTab} {d M : Nat} {st st' : zS} (h : zstep T (zex T) d M st = some (.inl st')) : zex T d M st = zex T d M st' := by
  obtain ⟨n, hn⟩ := zstep_fuel h
  have key : ∀ r, (∃ m, zexec T m d M st = some r) ↔ ∃ m, zexec T m d M st' = some r := by
    intro r
    constructor
    · rintro ⟨m, hm⟩
      cases m with
      | zero => cases hm
      | succ m =>
        unfold zexec at hm
        cases hs : zstep T (zexec T m) d M st with
        | none => rw [hs] at hm; cases hm
        | some y =>
          rw [hs] at hm
          have e1 := zstep_mono (e2 := zexec T (max n m)) (fun d M st r hr => zexec_le (Nat.le_max_left n m) hr) hn
          have e2 := zstep_mono (e2 := zexec T (max n m)) (fun d M st r hr => zexec_le (Nat.le_max_right n m) hr) hs
          have e3 := Option.some.inj (e1.symm.trans e2)
          subst e3
          exact ⟨m, hm⟩
    · rintro ⟨m, hm⟩
      refine ⟨max n m + 1, ?_⟩
      unfold zexec
      rw [zstep_mono (e2 := zexec T (max n m)) (fun d M st r hr => zexec_le (Nat.le_max_left n m) hr) hn]
      exact zexec_le (Nat.le_max_right n m) hm
  cases h1 : zex T d M st with
  | some r => exact (zex_iff.mpr ((key r).mp (zex_iff.mp h1))).symm
  | none =>
    cases h2 : zex T d M st' with
    | none => rfl
    | some r => rw [zex_iff.mpr ((key r).mpr (zex_iff.mp h2))] at h1; cases h1
theorem zex_inl {T : zTab} {d M : Nat} {st st' : zS} {a : zA} (hi : T.1 M st.1 = some (.inl a)) (ha : a d st = some (.inl st')) : zex T d M st = zex T d M st' := zex_step (by unfold zstep; rw [hi]; dsimp only; rw [ha])
theorem zex_ret {T : zTab} {d M : Nat} {st : zS} {a : zA} {r : zR} (hi : T.1 M st.1 = some (.inr (.inl a))) (ha : a d st = some (.inr (.inl r))) : zex T d M st = some r := zex_of (n := 1) (by unfold zexec zstep; rw [hi]; dsimp only; rw [ha])
noncomputable def zden (T : zTab) (d m : Nat) (args : List zV) (h : zH) : Option zR := zex T d m (zent (T.2.1 m) args h)
theorem zex_call {T : zTab} {d M pc : Nat} {ls stk : List zV} {h : zH} {nc ns : Nat} {q : Nat × Nat × Nat} (hi : T.1 M pc = some (.inr (.inr q))) (hg : (q.2.2 ≤ stk.length ∧ ((stk.drop q.2.2).map zcat).sum ≤ 8 ∧ zrcv q.1 (stk.take q.2.2).reverse = true) ∧ (zflat (stk.take q.2.2).reverse).length ≤ T.2.1 q.2.1 ∧ nc + T.2.2.1 q.2.1 ≤ T.2.2.1 M ∧ ns + T.2.2.2 q.2.1 ≤ T.2.2.2 M) {r : zR} (hr : zden T d q.2.1 (stk.take q.2.2).reverse h = some r) :
    zex T (d + 1) M (pc, ls, stk, h, nc, ns) = zex T (d + 1) M (pc + 3, ls, r.1.toList ++ stk.drop q.2.2, r.2, nc + T.2.2.1 q.2.1, ns + T.2.2.2 q.2.1) := zex_step (by
  unfold zstep
  rw [hi]
  dsimp only
  rw [if_pos hg]
  unfold zden at hr
  rw [hr])
