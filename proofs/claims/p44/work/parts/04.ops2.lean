/-! CLOSURES: stack, branches, fields, arrays -/
section ZS2
variable {X : Nat × (Nat → Int32) × Value} {cc : ByteArray} {own : String} {nL mc ms d : Nat} {ini : Bool} {pc : Nat}
theorem s_dup (hd : decode cc pc = .ok (.dup, 1)) : zSnd X cc own nL mc ms d ini pc a_dup := by
  intro p l e R s m args below meth c cA D A ad0 h0 Q st st' hC hpc ha hk ad H locs lsA hE h1 hR hS hO hL
  obtain ⟨pc', ls, stk, h, n⟩ := st
  subst hpc
  cases stk with
  | nil => simp [a_dup] at ha
  | cons v r =>
    simp only [a_dup] at ha
    split at ha
    · rename_i hg
      cases ha
      exact lv_dup hC.1 hC.2.1 hd (by rw [zcat_cv]; exact hg) (hk ad H locs lsA hE h1 hR hS ⟨hO.1, fun w hw => (List.mem_cons.mp hw).elim (fun e => by rw [e]; exact hO.2 _ List.mem_cons_self) (hO.2 w)⟩ hL)
    · cases ha
theorem s_dup2 (hd : decode cc pc = .ok (.dup2, 1)) : zSnd X cc own nL mc ms d ini pc a_dup2 := by
  intro p l e R s m args below meth c cA D A ad0 h0 Q st st' hC hpc ha hk ad H locs lsA hE h1 hR hS hO hL
  obtain ⟨pc', ls, stk, h, n⟩ := st
  subst hpc
  rcases stk with _ | ⟨v, _ | ⟨w, r⟩⟩
  · simp [a_dup2] at ha
  · simp [a_dup2] at ha
  · simp only [a_dup2] at ha
    split at ha
    · rename_i hg
      cases ha
      refine lv_dup2_11 hC.1 hC.2.1 hd (by rw [zcat_cv]; exact hg.1) (by rw [zcat_cv]; exact hg.2) (hk ad H locs lsA hE h1 hR hS ⟨hO.1, fun x hx => ?_⟩ hL)
      rcases List.mem_cons.mp hx with e | hx
      · rw [e]; exact hO.2 _ List.mem_cons_self
      · rcases List.mem_cons.mp hx with e | hx
        · rw [e]; exact hO.2 _ (List.mem_cons_of_mem _ List.mem_cons_self)
        · exact hO.2 x hx
    · cases ha
theorem s_pop (hd : decode cc pc = .ok (.pop, 1)) : zSnd X cc own nL mc ms d ini pc a_pop := by
  intro p l e R s m args below meth c cA D A ad0 h0 Q st st' hC hpc ha hk ad H locs lsA hE h1 hR hS hO hL
  obtain ⟨pc', ls, stk, h, n⟩ := st
  subst hpc
  cases stk with
  | nil => simp [a_pop] at ha
  | cons v r =>
    simp only [a_pop] at ha
    split at ha
    · rename_i hg
      cases ha
      exact lv_pop hC.1 hC.2.1 hd (by rw [zcat_cv]; exact hg) (hk ad H locs lsA hE h1 hR hS ⟨hO.1, fun w hw => hO.2 w (List.mem_cons_of_mem _ hw)⟩ hL)
    · cases ha
theorem s_if1 {f : Int32 → Bool} {tgt : Nat} (row : ∀ {p : Program} {l : Launch} {e : Env} {R : Room} {s : State} {m : MethodId} {args : Array Value} {below : List Frame} {meth : Method} {c : Code} {H : Heap} {locs : List Loc} {cells slots : Nat} {Q : State → Prop} {ls : Array Slot} {rest : List Value} (x : Int32), p.tables.exec = Jvm.exec → c.code = cc →
    (f x = true → W p l e R s m args below meth c H locs cells slots Q (F0 m tgt ls rest)) → (f x = false → W p l e R s m args below meth c H locs cells slots Q (F0 m (pc + 3) ls rest)) → W p l e R s m args below meth c H locs cells slots Q (F0 m pc ls (.int x :: rest))) : zSnd X cc own nL mc ms d ini pc (a_if1 f tgt) := by
  intro p l e R s m args below meth c cA D A ad0 h0 Q st st' hC hpc ha hk ad H locs lsA hE h1 hR hS hO hL
  obtain ⟨pc', ls, stk, h, n⟩ := st
  subst hpc
  simp only [a_if1] at ha
  split at ha
  · rename_i heq
    simp only [Prod.mk.injEq] at heq
    obtain ⟨rfl, rfl, rfl, rfl, rfl⟩ := heq
    refine row _ hC.1 hC.2.1 (fun hf => ?_) (fun hf => ?_)
    · rw [if_pos hf] at ha
      cases ha
      exact hk ad H locs lsA hE h1 hR hS ⟨hO.1, fun w hw => hO.2 w (List.mem_cons_of_mem _ hw)⟩ hL
    · rw [if_neg (by rw [hf]; decide)] at ha
      cases ha
      exact hk ad H locs lsA hE h1 hR hS ⟨hO.1, fun w hw => hO.2 w (List.mem_cons_of_mem _ hw)⟩ hL
  · cases ha
theorem s_if2 {f : Int32 → Int32 → Bool} {tgt : Nat} (row : ∀ {p : Program} {l : Launch} {e : Env} {R : Room} {s : State} {m : MethodId} {args : Array Value} {below : List Frame} {meth : Method} {c : Code} {H : Heap} {locs : List Loc} {cells slots : Nat} {Q : State → Prop} {ls : Array Slot} {rest : List Value} (x y : Int32), p.tables.exec = Jvm.exec → c.code = cc →
    (f x y = true → W p l e R s m args below meth c H locs cells slots Q (F0 m tgt ls rest)) → (f x y = false → W p l e R s m args below meth c H locs cells slots Q (F0 m (pc + 3) ls rest)) → W p l e R s m args below meth c H locs cells slots Q (F0 m pc ls (.int y :: .int x :: rest))) : zSnd X cc own nL mc ms d ini pc (a_if2 f tgt) := by
  intro p l e R s m args below meth c cA D A ad0 h0 Q st st' hC hpc ha hk ad H locs lsA hE h1 hR hS hO hL
  obtain ⟨pc', ls, stk, h, n⟩ := st
  subst hpc
  simp only [a_if2] at ha
  split at ha
  · rename_i heq
    simp only [Prod.mk.injEq] at heq
    obtain ⟨rfl, rfl, rfl, rfl, rfl⟩ := heq
    refine row _ _ hC.1 hC.2.1 (fun hf => ?_) (fun hf => ?_)
    · rw [if_pos hf] at ha
      cases ha
      exact hk ad H locs lsA hE h1 hR hS ⟨hO.1, fun w hw => hO.2 w (List.mem_cons_of_mem _ (List.mem_cons_of_mem _ hw))⟩ hL
    · rw [if_neg (by rw [hf]; decide)] at ha
      cases ha
      exact hk ad H locs lsA hE h1 hR hS ⟨hO.1, fun w hw => hO.2 w (List.mem_cons_of_mem _ (List.mem_cons_of_mem _ hw))⟩ hL
  · cases ha
theorem s_goto {off : Int} {tgt : Nat} (hd : decode cc pc = .ok (.goto off, 3)) (ht : (pc : Int) + off = (tgt : Int)) : zSnd X cc own nL mc ms d ini pc (a_goto tgt) := by
  intro p l e R s m args below meth c cA D A ad0 h0 Q st st' hC hpc ha hk ad H locs lsA hE h1 hR hS hO hL
  obtain ⟨pc', ls, stk, h, n⟩ := st
  subst hpc
  cases ha
  exact lv_goto hC.1 hC.2.1 hd ht (hk ad H locs lsA hE h1 hR hS hO hL)
theorem s_sw {dflt lo hi : Int} {offs : Array Int} {len : Nat} {ts : List Nat} {td : Nat} (hd : decode cc pc = .ok (.tableswitch dflt lo hi offs, len)) (h1 : (pc : Int) + dflt = (td : Int)) (h2 : offs.toList.map (fun o => (pc : Int) + o) = ts.map Int.ofNat) : zSnd X cc own nL mc ms d ini pc (a_sw lo hi ts td) := by
  intro p l e R s m args below meth c cA D A ad0 h0 Q st st' hC hpc ha hk ad H locs lsA hE hh hR hS hO hL
  obtain ⟨pc', ls, stk, h, n⟩ := st
  subst hpc
  rcases stk with _ | ⟨v, r⟩
  · exact nomatch (show (none : zO) = _ from ha)
  rcases v with v | v
  rotate_left
  · exact nomatch (show (none : zO) = _ from ha)
  cases v with
  | int x =>
    simp only [a_sw] at ha
    by_cases hg : x.toInt < lo ∨ hi < x.toInt
    · rw [if_pos hg] at ha
      cases ha
      exact lv_tableOut hC.1 hC.2.1 hd hg h1 (hk ad H locs lsA hE hh hR hS ⟨hO.1, fun w hw => hO.2 w (List.mem_cons_of_mem _ hw)⟩ hL)
    · rw [if_neg hg] at ha
      cases ht : ts[(x.toInt - lo).toNat]? with
      | none => rw [ht] at ha; cases ha
      | some t =>
        rw [ht] at ha
        cases ha
        have h3 : (ts.map Int.ofNat)[(x.toInt - lo).toNat]? = some (t : Int) := by rw [List.getElem?_map, ht]; rfl
        rw [← h2, List.getElem?_map] at h3
        cases ho : offs.toList[(x.toInt - lo).toNat]? with
        | none => rw [ho] at h3; cases h3
        | some o =>
          rw [ho] at h3
          have h4 : (pc' : Int) + o = (t : Int) := Option.some.inj h3
          exact lv_tableIn hC.1 hC.2.1 hd (fun q => hg (Or.inl q)) (fun q => hg (Or.inr q)) (by rw [← Array.getElem?_toList]; exact ho) h4 (hk ad H locs lsA hE hh hR hS ⟨hO.1, fun w hw => hO.2 w (List.mem_cons_of_mem _ hw)⟩ hL)
  | _ => exact nomatch (show (none : zO) = _ from ha)
/-! fields -/
def zgv (h : zH) (k : zK) (f : Nat) : zV := if (zty k.1 f).isReference = true then (match h.2.2.1 k f with
  | some k' => .inr k'
  | none => .inl .null) else .inl (.int (h.2.2.2.1 k f))
theorem zgv_cv (ad : zK → Nat) (h : zH) (k : zK) (f : Nat) : zcv ad (zgv h k f) = zfv ad h k f := by
  unfold zgv zfv
  split
  · cases h.2.2.1 k f <;> rfl
  · rfl
theorem zgv_ok {h : zH} (hw : zwf h) {k : zK} (hk : k ∈ h.1) (f : Nat) : zok h (zgv h k f) := by
  unfold zgv
  split
  · cases hr : h.2.2.1 k f with
    | none => trivial
    | some k' => exact Or.inl ((hw.2 k hk).2 f k' hr)
  · trivial
def a_get (s f : Nat) : zA := fun _ st => match st with
  | (pc, ls, .inr k :: st, h, n) => if k.1 = s then some (.inl (pc + 3, ls, zgv h k f :: st, h, n)) else none
  | _ => none
def zpv (h : zH) (k : zK) (f : Nat) (v : zV) : Option zH := match v with
  | .inl (.int x) => if (zty k.1 f).isReference = false ∧ (zty k.1 f = .boolean → (x = 0 ∨ x = 1)) then some (h.1, h.2.1, h.2.2.1, (fun k' j => if k' = k ∧ j = f then x else h.2.2.2.1 k' j), h.2.2.2.2) else none
  | .inr r => if (zty k.1 f).isReference = true ∧ r.1 < 40 then some (h.1, h.2.1, (fun k' j => if k' = k ∧ j = f then some r else h.2.2.1 k' j), h.2.2.2.1, h.2.2.2.2) else none
  | _ => none
def a_put (s f : Nat) : zA := fun _ st => match st with
  | (pc, ls, v :: .inr k :: st, h, n) => if k.1 = s then (match zpv h k f v with
    | some h' => some (.inl (pc + 3, ls, st, h', n))
    | none => none) else none
  | _ => none
theorem zL_get {cA : Nat → ClassId} {ad : zK → Nat} {h : zH} {k : zK} (hk : k ∈ h.1) : ∃ q : Nat, h.1[q]? = some k ∧ (zL cA ad h)[q]? = some (ad k, zE cA ad h k) := by
  obtain ⟨q, hq⟩ := List.getElem?_of_mem hk
  exact ⟨q, hq, by unfold zL; rw [List.getElem?_map, hq]; rfl⟩
theorem zE_obj {cA : Nat → ClassId} {ad : zK → Nat} {h : zH} {k : zK} (hk : k.1 < 7) : zE cA ad h k = .inr (k.1, (List.range (zN k.1)).map (zfv ad h k)) := by
  unfold zE
  rw [if_pos hk]
theorem zcl_at : ∀ s, s < 7 → vwCl[s]? = some (zRR s, zTT s, zN s) := by
  intro s hs
  match s, hs with
  | 0, _ => rfl
  | 1, _ => rfl
  | 2, _ => rfl
  | 3, _ => rfl
  | 4, _ => rfl
  | 5, _ => rfl
  | 6, _ => rfl
  | s + 8, h => omega
theorem zT_in : ∀ s, s < 7 → ∀ w ∈ u_ws (zRR s) (zTT s) (zN s), w ∈ zTb := by
  have h : ∀ s, s < 7 → ∀ w ∈ u_ws (zRR s) (zTT s) (zN s), w ∈ lw_tbl ∧ goodWord w = true := by decide +kernel
  exact fun s hs w hw => List.mem_filter.mpr (h s hs w hw)
theorem zT_ty : ∀ s, s < 7 → ∀ k, k < zN s → parseFieldDescriptor (zTT s k).2.2.1 = some (zty s k) := by decide +kernel
theorem zT_nm : ∀ s, s < 7 → ∀ a, a < zN s → ∀ b, b < zN s → a ≠ b → (zTT s a).2.1 ≠ (zTT s b).2.1 := by decide +kernel
theorem zT_own : ∀ s, s < 7 → ∀ k, k < zN s → (zTT s k).1 = zRR s := by decide +kernel
theorem s_get {s f idx : Nat} (hd : decode cc pc = .ok (.getfield idx, 3)) (hs : s < 7) (hf : f < zN s) (hlk : Cond.fieldLink own idx (zTT s f).1 (zTT s f).2.1 (zTT s f).2.2.1 ∈ zTb) : zSnd X cc own nL mc ms d ini pc (a_get s f) := by
  intro p l e R st0 m args below meth c cA D A ad0 h0 Q st st' hC hpc ha hk ad H locs lsA hE h1 hR hS hO hL
  obtain ⟨pc', ls, stk, h, n⟩ := st
  subst hpc
  simp only [a_get] at ha
  split at ha
  · rename_i heq
    simp only [Prod.mk.injEq] at heq
    obtain ⟨rfl, rfl, rfl, rfl, rfl⟩ := heq
    split at ha
    · rename_i k r hg
      cases ha
      subst hg
      have hkin : k ∈ h.1 := (hO.2 _ List.mem_cons_self).elim id (fun q => by omega)
      obtain ⟨q, -, hq⟩ := zL_get (cA := cA) (ad := ad) hkin
      rw [zE_obj hs] at hq
      have hts := hC.2.2.2.2.1
      refine va_get hC.1 hC.2.1 hts (zT_in _ hs) hC.2.2.2.1 hC.2.2.2.2.2.1.2.1.1 hR.1 q hq (zcl_at _ hs) f hf (hts _ hlk) (fun x hx => hx) (v := zcv ad (zgv h k f)) ?_ hd (hk ad H locs lsA hE h1 hR hS ⟨hO.1, fun w hw => (List.mem_cons.mp hw).elim (fun e => by rw [e]; exact zgv_ok hR.2.2 hkin f) (fun q => hO.2 w (List.mem_cons_of_mem _ q))⟩ hL)
      rw [zgv_cv, List.getElem?_map, List.getElem?_range hf]
      rfl
    · cases ha
  · cases ha
end ZS2
