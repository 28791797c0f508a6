/-! CALLS -/
def zQ (cA : Nat → ClassId) (D : va_G) (A : Nat → Prop) (X : Nat × (Nat → Int32) × Value) (ad : zK → Nat) (h : zH) (r : Option zV) (h' : zH) : Array Value → State → Outcome → State → Prop := fun _ st o t =>
  (∃ ad' : zK → Nat, o = .returned (r.map (zcv ad')) ∧ zExt h ad ad' ∧ (∀ k ∈ h.1, k ∈ h'.1) ∧ zU cA D A X ad' h' t ∧ ∀ v, r = some v → zok h' v) ∧ va_F A st t
theorem zSt_vm {cA : Nat → ClassId} {D : va_G} {A : Nat → Prop} {X : Nat × (Nat → Int32) × Value} {ad : zK → Nat} {U U' : State} {H : Heap} (h : U'.vm = U.vm) (hZ : zSt cA D A X ad U H) : zSt cA D A X ad U' H := by
  have ha : U.vm.Alike U'.vm := by rw [h]; exact Vm.Alike.refl U.vm
  obtain ⟨h1, h2, h3, h4⟩ := hZ
  refine ⟨va_K.moved ha h1, fun w hw => ?_, ⟨va_AO.moved ha h3.1, va_AO.moved ha h3.2.1, va_AO.moved ha h3.2.2⟩, ⟨va_X.moved ha h4.1, h4.2⟩⟩
  have h9 := h2 w hw
  simp only [zNest, List.mem_cons, List.not_mem_nil, or_false] at hw
  rcases hw with rfl | rfl | rfl | rfl | rfl <;> exact va_Nw.same rfl h.symm h9
theorem zSt_warm {cA : Nat → ClassId} {D : va_G} {A : Nat → Prop} {X : Nat × (Nat → Int32) × Value} {ad : zK → Nat} {s U : State} {H : Heap} {locs : List Loc} (hW : s.WarmedH U.vm) (hS : va_S A s.heap H locs) (hZ : zSt cA D A X ad s s.heap) : zSt cA D A X ad U H := by
  have ha : s.vm.Alike U.vm := hW.alike
  have hq := hS.2.1
  obtain ⟨h1, h2, h3, h4⟩ := hZ
  refine ⟨va_K.moved ha h1, fun w hw => ?_, ⟨va_AO.moved ha h3.1, va_AO.moved ha h3.2.1, va_AO.moved ha h3.2.2⟩, ⟨va_X.moved ha (h4.1.kept (hq _ h4.2.1 h4.2.2)), Nat.lt_of_lt_of_le h4.2.1 hS.1, h4.2.2⟩⟩
  have h9 := h2 w hw
  simp only [zNest, List.mem_cons, List.not_mem_nil, or_false] at hw
  rcases hw with rfl | rfl | rfl | rfl | rfl <;> exact va_Nw.warmM hW h9
theorem zSt_ext {cA : Nat → ClassId} {D : va_G} {A : Nat → Prop} {X : Nat × (Nat → Int32) × Value} {h : zH} {ad ad' : zK → Nat} {U : State} {H : Heap} (hE : zExt h ad ad') (hZ : zSt cA D A X ad U H) : zSt cA D A X ad' U H := by
  have e0 : ad' (50, 0, 0) = ad (50, 0, 0) := hE _ (Or.inr (by decide))
  unfold zSt at hZ ⊢
  simp only [e0]
  exact hZ
theorem zU_calling {cA : Nat → ClassId} {D : va_G} {A : Nat → Prop} {X : Nat × (Nat → Int32) × Value} {ad : zK → Nat} {h : zH} {av : List Value} : FrameBlind (va_Pc av (zU cA D A X ad h)) := by
  intro a U g mk hq
  exact ⟨hq.1, hq.2.1, zSt_vm (U := U) rfl hq.2.2.1, hq.2.2.2⟩
theorem zU_here {cA : Nat → ClassId} {D : va_G} {A : Nat → Prop} {X : Nat × (Nat → Int32) × Value} {ad0 ad : zK → Nat} {h0 h : zH} {s U : State} {H : Heap} {locs : List Loc} (h1 : zU cA D A X ad0 h0 s) (hE : zExt h0 ad0 ad) (hR : zRep cA D A ad h H) (hS : va_S A s.heap H locs) (hU : U.heap = H) (hW : s.WarmedH U.vm) : zU cA D A X ad h U := by
  subst hU
  exact ⟨hR, zSt_warm hW hS (zSt_ext hE h1.2.1), fun q hq => h1.2.2 q (Nat.le_trans hS.1 hq)⟩
theorem zcv_ext {h : zH} {ad ad' : zK → Nat} (hE : zExt h ad ad') {v : zV} (hv : zok h v) : zcv ad' v = zcv ad v := by
  cases v with
  | inl x => rfl
  | inr r => exact congrArg Value.ref (hE r hv)
theorem zmap_ext {h : zH} {ad ad' : zK → Nat} (hE : zExt h ad ad') {st : List zV} (hv : ∀ v ∈ st, zok h v) : st.map (zcv ad') = st.map (zcv ad) := List.map_congr_left fun v hv' => zcv_ext hE (hv v hv')
theorem zlv_ext {h : zH} {ad ad' : zK → Nat} (hE : zExt h ad ad') : ∀ (ls : List zV) (b : Nat), (∀ v ∈ ls, zok h v) → zlv ad' ls b = zlv ad ls b
  | [], _, _ => rfl
  | v :: r, b, hv => by
    unfold zlv
    rw [zlv_ext hE r (b + 1) (fun w hw => hv w (List.mem_cons_of_mem _ hw)), zcv_ext hE (hv v List.mem_cons_self)]
theorem zExt_trans {h0 h : zH} {a0 a1 a2 : zK → Nat} (h1 : zExt h0 a0 a1) (hk : ∀ k ∈ h0.1, k ∈ h.1) (h2 : zExt h a1 a2) : zExt h0 a0 a2 := fun k hk' => (h2 k (hk'.imp (hk k) id)).trans (h1 k hk')
def zrcv (kind : Nat) (args : List zV) : Bool := if kind = 0 then true else match args with
  | .inr k :: _ => if kind = 100 then true else k.1 + 1 == kind && (decide (k.1 < 7) || (k.1 == 52 && decide (k.2.1 < 11) && k.2.2 == 0))
  | _ => false
def a_inv (kind m n : Nat) : zA := fun _ st => match st with
  | (pc, ls, st, h, nn) => if n ≤ st.length ∧ ((st.drop n).map zcat).sum ≤ 8 ∧ zrcv kind (st.take n).reverse = true then some (.inr (.inr (m, (st.take n).reverse, (pc + 3, ls, st.drop n, h, nn)))) else none
abbrev zrm (d mc ms : Nat) : Room := { frames := d, cells := mc, slots := ms, locals := 40 * d }
/-- what a call's row stands on -/
def zLk (own : String) (cc : ByteArray) (pc kind n : Nat) (y : MethodName) (bytes : ByteArray) (maxL : Nat) (ret : Option FieldType) : Prop :=
  Cond.code y bytes maxL ret ∈ zTb ∧ Cond.initialized y.cls ∈ zTb ∧ maxL ≤ 21 ∧ (y.cls ≠ "java/lang/invoke/MethodHandle" ∧ y.cls ≠ "java/lang/invoke/VarHandle") ∧
  ((kind = 0 ∧ (∃ idx, decode cc pc = .ok (.invokestatic idx, 3) ∧ (Cond.methodLink own idx y ∈ zTb ∨ Cond.methodLinkNest own idx y RX6 ∈ zNest)) ∧ Cond.static y ∈ zTb ∧ (parseMethodDescriptor y.desc).map (fun d => d.parameters.length) = some n) ∨
   (kind = 100 ∧ (∃ idx, decode cc pc = .ok (.invokespecial idx, 3) ∧ (Cond.methodLink own idx y ∈ zTb ∨ Cond.methodLinkNest own idx y RX6 ∈ zNest)) ∧ y.name = "<init>" ∧ ret = none ∧ Cond.instanceMethod y ∈ zTb ∧ ∃ n', n = n' + 1 ∧ (parseMethodDescriptor y.desc).map (fun d => d.parameters.length) = some n') ∨
   (∃ s, kind = s + 1 ∧ s ≠ 99 ∧ (∃ idx, decode cc pc = .ok (.invokevirtual idx, 3) ∧ (Cond.methodLink own idx y ∈ zTb ∨ Cond.methodLinkNest own idx y RX6 ∈ zNest)) ∧ Cond.instanceMethod y ∈ zTb ∧ ((s < 7 ∧ y.cls = zRR s) ∨ (s = 52 ∧ False)) ∧ Cond.selects y.cls y y ∈ zTb ∧ ∃ n', n = n' + 1 ∧ (parseMethodDescriptor y.desc).map (fun d => d.parameters.length) = some n'))
theorem zTb_good : ∀ w ∈ zTb, goodWord w = true := fun w hw => (List.mem_filter.mp hw).2
theorem z_good {y : MethodName} {bytes : ByteArray} {maxL : Nat} {ret : Option FieldType} (hc : Cond.code y bytes maxL ret ∈ zTb) : GoodIn zTb (Cond.code y bytes maxL ret :: zTb) := by
  intro w hw
  have hm : w ∈ zTb := (List.mem_cons.mp hw).elim (fun e => e ▸ hc) id
  exact ⟨hm, good_of_word (zTb_good w hm)⟩
section ZC
variable {X : Nat × (Nat → Int32) × Value} {cc : ByteArray} {own : String} {nL mc ms d : Nat} {ini : Bool} {pc : Nat}
theorem z_run {kind n : Nat} {y : MethodName} {bytes : ByteArray} {maxL mc' ms' : Nat} {ret : Option FieldType} (hk : zLk own cc pc kind n y bytes maxL ret)
    {p : Program} {l : Launch} {e : Env} {R : Room} {s : State} {m : MethodId} {args : Array Value} {below : List Frame} {meth : Method} {c : Code} {cA : Nat → ClassId} {D : va_G} {A : Nat → Prop} {ad0 ad : zK → Nat} {h0 h h' : zH} {r : Option zV} {H : Heap} {locs : List Loc} {lsA : Array Slot} {nc ns : Nat} {stk : List zV}
    (hC : zCtx p e R s m args meth c cc own nL mc ms (d + 1) ini cA D A X ad0 h0) (hE : zExt h0 ad0 ad) (hR : zRep cA D A ad h H) (hS : va_S A s.heap H locs) (hO : ∀ v ∈ stk, zok h v) (hsz : lsA.size = nL)
    (hn : n ≤ stk.length) (h8 : ((stk.drop n).map zcat).sum ≤ 8) (hrc : zrcv kind (stk.take n).reverse = true) (h1 : nc + mc' ≤ mc) (h2 : ns + ms' ≤ ms)
    (hM : Met l y (Cond.code y bytes maxL ret :: zTb) (zrm d mc' ms') (va_Pc ((stk.take n).reverse.map (zcv ad)) (zU cA D A X ad h)) (zQ cA D A X ad h r h') mc' ms' A) :
    va_Run p l e R s m args below meth c H locs nc ns mc' ms' (F0 m pc lsA (stk.map (zcv ad))) ((stk.drop n).map (zcv ad)) (zQ cA D A X ad h r h' ((stk.take n).reverse.map (zcv ad)).toArray) A := by
  obtain ⟨hcode, hini, hmax, hcls, hk⟩ := hk
  have hts := hC.2.2.2.2.1
  have hrm := hC.2.2.2.2.2.2.1
  have hfix : CallFix p m c cc nL s args zTb own := ⟨hC.1, hC.2.1, hC.2.2.1, hC.2.2.2.1, hts⟩
  have hroom : (zrm d mc' ms').frames + 1 ≤ R.frames ∧ 8 + (maxL + 11) + (zrm d mc' ms').locals ≤ R.locals := by
    refine ⟨hrm.1, ?_⟩
    show 8 + (maxL + 11) + 40 * d ≤ R.locals
    have := hrm.2.1
    omega
  have hcells : nc + mc' ≤ R.cells ∧ ns + ms' ≤ R.slots := ⟨Nat.le_trans h1 hrm.2.2.1, Nat.le_trans h2 hrm.2.2.2⟩
  have hrest : 2 * (F0 m pc lsA (stk.map (zcv ad))).monitorRoom + (((stk.drop n).map (zcv ad)).map fun v => v.category).sum ≤ 8 := lv_room (by rw [zsum_cv]; exact h8)
  have hUU : ∀ U : State, U.heap = H → s.WarmedH U.vm → zU cA D A X ad h U := fun U hU hW => zU_here hC.2.2.2.2.2.1 hE hR hS hU hW
  have hst : stk.map (zcv ad) = ((stk.take n).reverse.map (zcv ad)).reverse ++ (stk.drop n).map (zcv ad) := by
    rw [← List.map_reverse, List.reverse_reverse, ← List.map_append, List.take_append_drop]
  have hlen : ((stk.take n).reverse.map (zcv ad)).length = n := by
    rw [List.length_map, List.length_reverse, List.length_take]
    omega
  rcases hk with ⟨rfl, ⟨idx, hd, hlk⟩, hstat, hpar⟩ | ⟨rfl, ⟨idx, hd, hlk⟩, hname, rfl, hinst, n', rfl, hpar⟩ | ⟨sx, rfl, hsx, ⟨idx, hd, hlk⟩, hinst, hs, hsel, n', rfl, hpar⟩
  · have hp : PreS s H (va_Pc ((stk.take n).reverse.map (zcv ad)) (zU cA D A X ad h)) ((stk.take n).reverse.map (zcv ad)) := ⟨zU_calling, fun U hU hW => ⟨rfl, hUU U hU hW⟩⟩
    rcases hlk with hlk | hlk
    · exact va_runS hfix hM ⟨callB_of n hts (z_good hcode) rfl rfl rfl (hts _ hini) (hts _ hlk) ⟨hcls.1, hcls.2, hpar⟩ hroom, hts _ hstat⟩ hp rfl hlen hsz hst hrest hd hcells
    · exact va_runSN hfix hM ⟨va_cnB n hts (z_good hcode) rfl rfl rfl (hC.2.2.2.2.2.1.2.1.2.1 _ hlk) (hts _ hini) ⟨hcls.1, hcls.2, hpar⟩ hroom, hts _ hstat, trivial⟩ hp rfl hlen hsz hst hrest hd hcells
  · cases hargs : (stk.take (n' + 1)).reverse with
    | nil => rw [hargs] at hrc; exact nomatch hrc
    | cons v As =>
      rw [hargs] at hrc hst hlen hM
      cases v with
      | inl x => exact nomatch hrc
      | inr k =>
        have hst2 : stk.map (zcv ad) = (As.map (zcv ad)).reverse ++ .ref (ad k) :: (stk.drop (n' + 1)).map (zcv ad) := by
          rw [hst]
          simp [zcv]
        have hl2 : (As.map (zcv ad)).length = n' := by simpa using hlen
        have hp : PreS s H (va_Pc ((Sum.inr k :: As).map (zcv ad)) (zU cA D A X ad h)) (.ref (ad k) :: As.map (zcv ad)) := ⟨zU_calling, fun U hU hW => ⟨rfl, hUU U hU hW⟩⟩
        rcases hlk with hlk | hlk
        · exact va_runI hfix hM ⟨callB_of n' hts (z_good hcode) rfl rfl rfl (hts _ hini) (hts _ hlk) ⟨hcls.1, hcls.2, hpar⟩ hroom, hname, hts _ hinst⟩ hp rfl hl2 hsz hst2 hrest hd hcells
        · exact va_runIN hfix hM ⟨va_cnB n' hts (z_good hcode) rfl rfl rfl (hC.2.2.2.2.2.1.2.1.2.1 _ hlk) (hts _ hini) ⟨hcls.1, hcls.2, hpar⟩ hroom, hname, hts _ hinst⟩ hp rfl hl2 hsz hst2 hrest hd hcells
  · cases hargs : (stk.take (n' + 1)).reverse with
    | nil => rw [hargs] at hrc; unfold zrcv at hrc; rw [if_neg (by omega)] at hrc; exact nomatch hrc
    | cons v As =>
      rw [hargs] at hrc hst hlen hM
      cases v with
      | inl x => unfold zrcv at hrc; rw [if_neg (by omega)] at hrc; exact nomatch hrc
      | inr k =>
        have hst2 : stk.map (zcv ad) = (As.map (zcv ad)).reverse ++ .ref (ad k) :: (stk.drop (n' + 1)).map (zcv ad) := by
          rw [hst]
          simp [zcv]
        have hl2 : (As.map (zcv ad)).length = n' := by simpa using hlen
        have hrc2 : k.1 = sx ∧ (sx < 7 ∨ (sx = 52 ∧ k.2.1 < 11 ∧ k.2.2 = 0)) := by
          unfold zrcv at hrc
          rw [if_neg (by omega)] at hrc
          dsimp only at hrc
          rw [if_neg (by omega)] at hrc
          simp only [Bool.and_eq_true, beq_iff_eq, Bool.or_eq_true, decide_eq_true_eq] at hrc
          have : k.1 = sx := by omega
          rw [this] at hrc
          exact ⟨this, hrc.2.imp id (fun q => ⟨q.1.1, q.1.2, q.2⟩)⟩
        have hkst : (Sum.inr k : zV) ∈ stk := by
          have : (Sum.inr k : zV) ∈ (stk.take (n' + 1)).reverse := by rw [hargs]; exact List.mem_cons_self
          exact List.mem_of_mem_take (List.mem_reverse.mp this)
        have hcell : ∃ cellB : Cell, H[ad k]? = some cellB ∧ cellB.vm.isStatics = false ∧ s.vm.findClass y.cls = some cellB.cls := by
          rcases hs with ⟨h8', hy⟩ | ⟨h52, hy⟩
          · have hkin : k ∈ h.1 := (hO _ hkst).elim id (fun q => by omega)
            obtain ⟨q, -, hq⟩ := zL_get (cA := cA) (ad := ad) hkin
            rw [zE_obj (by omega)] at hq
            have := va_recv hC.2.2.2.2.2.1.2.1.1 hR.1 (zcl_at _ (show k.1 < 7 by omega)) hq
            rw [hy, ← hrc2.1]
            exact this
          · exact hy.elim
        have hp : PreV s H y.cls (ad k) (va_Pc ((Sum.inr k :: As).map (zcv ad)) (zU cA D A X ad h)) (As.map (zcv ad)) := ⟨zU_calling, hcell, fun U hU hW => ⟨rfl, hUU U hU hW⟩⟩
        rcases hlk with hlk | hlk
        · exact va_runV hfix hM ⟨callB_of n' hts (z_good hcode) rfl rfl rfl (hts _ hini) (hts _ hlk) ⟨hcls.1, hcls.2, hpar⟩ hroom, hts _ hinst, hts _ hsel⟩ hp rfl hl2 hsz hst2 hrest hd hcells
        · exact va_runVN hfix hM ⟨va_cnB n' hts (z_good hcode) rfl rfl rfl (hC.2.2.2.2.2.1.2.1.2.1 _ hlk) (hts _ hini) ⟨hcls.1, hcls.2, hpar⟩ hroom, hts _ hinst, hts _ hsel⟩ hp rfl hl2 hsz hst2 hrest hd hcells
/-- behind a call: the rest of the way from its answer on -/
theorem z_cont {p : Program} {l : Launch} {e : Env} {R : Room} {s : State} {m : MethodId} {args : Array Value} {below : List Frame} {meth : Method} {c : Code} {cA : Nat → ClassId} {D : va_G} {A : Nat → Prop} {ad0 ad : zK → Nat} {h0 h h' : zH} {r : Option zV} {Q : State → Prop} {H : Heap} {locs : List Loc} {lsA : Array Slot} {nc ns mc' ms' : Nat} {ls stk rest : List zV} {av : Array Value}
    (hr : va_Run p l e R s m args below meth c H locs nc ns mc' ms' (F0 m pc lsA (stk.map (zcv ad))) (rest.map (zcv ad)) (zQ cA D A X ad h r h' av) A)
    (hE : zExt h0 ad0 ad) (h1 : ∀ k ∈ h0.1, k ∈ h.1) (hS : va_S A s.heap H locs) (hO1 : ∀ v ∈ ls, zok h v) (hO2 : ∀ v ∈ rest, zok h v) (hL : zLR ad nL ls lsA)
    (hK : zWs p l e R s m args below meth c nL cA D A ad0 h0 Q (pc + 3, ls, r.toList ++ rest, h', nc + mc', ns + ms')) :
    W p l e R s m args below meth c H locs nc ns Q (F0 m pc lsA (stk.map (zcv ad))) := by
  intro T hT X1
  obtain ⟨v, st0, t, T', L, e0, X', hL', e1, e2, ⟨⟨ad', ho, hE', hk', hU, hrok⟩, hF⟩, go⟩ := hr T hT X1
  have hv : v = r.map (zcv ad') := Outcome.returned.inj ho
  subst hv
  have hS' : va_S A s.heap T'.heap (locs ++ L) := by
    refine ⟨Nat.le_trans hS.1 (by rw [e1, ← e0]; exact hF.1), fun q q1 q2 => ?_, fun x hx => ?_⟩
    · rw [e1, hF.2 q (by rw [e0]; exact Nat.lt_of_lt_of_le q1 hS.1) q2, e0]
      exact hS.2.1 q q1 q2
    · rcases List.mem_append.mp hx with hx | hx
      · exact hS.2.2 x hx
      · exact hL' x hx
  have hR' : zRep cA D A ad' h' T'.heap := by
    rw [e1]
    exact hU.1
  have hw := hK ad' T'.heap (locs ++ L) lsA (zExt_trans hE h1 hE') (fun k q => hk' k (h1 k q)) hR' hS' ⟨fun w hw => zok_mono hk' (hO1 w hw), fun w hw => ?_⟩ ⟨hL.1, by rw [zlv_ext hE' ls 0 hO1]; exact hL.2⟩
  · obtain ⟨t2, a1, b1⟩ := hw T' rfl X'
    refine ⟨t2, go t2 ?_, b1⟩
    have e4 : ((r.toList ++ rest : List zV).map (zcv ad')) = (r.map (zcv ad')).toList ++ rest.map (zcv ad) := by
      rw [List.map_append, zmap_ext hE' hO2]
      cases r <;> rfl
    have e5 : F0 m (pc + 3) lsA ((r.map (zcv ad')).toList ++ rest.map (zcv ad)) = { F0 m pc lsA (stk.map (zcv ad)) with pc := (F0 m pc lsA (stk.map (zcv ad))).pc + 3, stack := (r.map (zcv ad')).toList ++ rest.map (zcv ad) } := rfl
    rw [← e5, ← e4]
    exact a1
  · rcases List.mem_append.mp hw with h3 | h3
    · cases r with
      | none => exact absurd h3 List.not_mem_nil
      | some x =>
        rw [List.mem_singleton.mp h3]
        exact hrok x rfl
    · exact zok_mono hk' (hO2 w h3)
end ZC
