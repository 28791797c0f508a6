/-! CLOSURES OF INSTRUCTIONS, and that the machine does what they say -/
def a_push (v : Value) (len : Nat) : zA := fun _ st => match st with
  | (pc, ls, st, h, n) => some (.inl (pc + len, ls, .inl v :: st, h, n))
def zti (v : zV) : Bool := match v with
  | .inl (.int _) => true
  | _ => false
def ztl (v : zV) : Bool := match v with
  | .inl (.long _) => true
  | _ => false
def ztf (v : zV) : Bool := match v with
  | .inl (.float _) => true
  | _ => false
def ztd (v : zV) : Bool := match v with
  | .inl (.double _) => true
  | _ => false
def ztr (v : zV) : Bool := match v with
  | .inr _ => true
  | _ => false
def a_load (t : zV → Bool) (i len : Nat) : zA := fun _ st => match st with
  | (pc, ls, st, h, n) => match ls[i]? with
    | some v => if t v = true then some (.inl (pc + len, ls, v :: st, h, n)) else none
    | none => none
def a_st1 (t : zV → Bool) (i len : Nat) : zA := fun _ st => match st with
  | (pc, ls, v :: st, h, n) => if t v = true ∧ i < ls.length ∧ zpre ls i = true then some (.inl (pc + len, ls.set i v, st, h, n)) else none
  | _ => none
def a_st2 (t : zV → Bool) (i len : Nat) : zA := fun _ st => match st with
  | (pc, ls, v :: st, h, n) => if t v = true ∧ i + 1 < ls.length ∧ zpre ls i = true then some (.inl (pc + len, (ls.set i v).set (i + 1) (.inl .null), st, h, n)) else none
  | _ => none
def a_iinc (i : Nat) (x : Int32) : zA := fun _ st => match st with
  | (pc, ls, st, h, n) => match ls[i]? with
    | some (.inl (.int y)) => if zpre ls i = true then some (.inl (pc + 3, ls.set i (.inl (.int (y + x))), st, h, n)) else none
    | _ => none
def a_un (f : Value → Option Value) : zA := fun _ st => match st with
  | (pc, ls, .inl x :: st, h, n) => match f x with
    | some v => some (.inl (pc + 1, ls, .inl v :: st, h, n))
    | none => none
  | _ => none
def a_bin (f : Value → Value → Option Value) : zA := fun _ st => match st with
  | (pc, ls, .inl y :: .inl x :: st, h, n) => match f x y with
    | some v => some (.inl (pc + 1, ls, .inl v :: st, h, n))
    | none => none
  | _ => none
def a_dup : zA := fun _ st => match st with
  | (pc, ls, v :: st, h, n) => if zcat v = 1 then some (.inl (pc + 1, ls, v :: v :: st, h, n)) else none
  | _ => none
def a_dup2 : zA := fun _ st => match st with
  | (pc, ls, v :: w :: st, h, n) => if zcat v = 1 ∧ zcat w = 1 then some (.inl (pc + 1, ls, v :: w :: v :: w :: st, h, n)) else none
  | _ => none
def a_pop : zA := fun _ st => match st with
  | (pc, ls, v :: st, h, n) => if zcat v = 1 then some (.inl (pc + 1, ls, st, h, n)) else none
  | _ => none
def a_if1 (c : Int32 → Bool) (tgt : Nat) : zA := fun _ st => match st with
  | (pc, ls, .inl (.int x) :: st, h, n) => if c x = true then some (.inl (tgt, ls, st, h, n)) else some (.inl (pc + 3, ls, st, h, n))
  | _ => none
def a_if2 (c : Int32 → Int32 → Bool) (tgt : Nat) : zA := fun _ st => match st with
  | (pc, ls, .inl (.int y) :: .inl (.int x) :: st, h, n) => if c x y = true then some (.inl (tgt, ls, st, h, n)) else some (.inl (pc + 3, ls, st, h, n))
  | _ => none
def a_goto (tgt : Nat) : zA := fun _ st => match st with
  | (_, ls, st, h, n) => some (.inl (tgt, ls, st, h, n))
def a_sw (lo hi : Int) (ts : List Nat) (dflt : Nat) : zA := fun _ st => match st with
  | (_, ls, .inl (.int x) :: st, h, n) => if x.toInt < lo ∨ hi < x.toInt then some (.inl (dflt, ls, st, h, n)) else match ts[(x.toInt - lo).toNat]? with
    | some t => some (.inl (t, ls, st, h, n))
    | none => none
  | _ => none
section ZS
variable {X : Nat × (Nat → Int32) × Value} {cc : ByteArray} {own : String} {nL mc ms d : Nat} {ini : Bool} {pc : Nat}
theorem zok_mono {h h' : zH} (hk : ∀ k ∈ h.1, k ∈ h'.1) {v : zV} (hv : zok h v) : zok h' v := by
  cases v with
  | inl x => trivial
  | inr k => exact hv.imp (hk k) id
theorem s_push {v : Value} {len : Nat} (row : ∀ {p : Program} {l : Launch} {e : Env} {R : Room} {s : State} {m : MethodId} {args : Array Value} {below : List Frame} {meth : Method} {c : Code} {H : Heap} {locs : List Loc} {cells slots : Nat} {Q : State → Prop} {ls : Array Slot} {rest : List Value},
    p.tables.exec = Jvm.exec → c.code = cc → s.vm.findClass own = some m.cls → (∀ w ∈ zTb, w.before args s = true) → W p l e R s m args below meth c H locs cells slots Q (F0 m (pc + len) ls (v :: rest)) → W p l e R s m args below meth c H locs cells slots Q (F0 m pc ls rest)) : zSnd X cc own nL mc ms d ini pc (a_push v len) := by
  intro p l e R s m args below meth c cA D A ad0 h0 Q st st' hC hpc ha hk ad H locs lsA hE h1 hR hS hO hL
  obtain ⟨pc', ls, stk, h, n⟩ := st
  subst hpc
  simp only [a_push, Option.some.injEq, Sum.inl.injEq] at ha
  subst ha
  exact row hC.1 hC.2.1 hC.2.2.2.1 hC.2.2.2.2.1 (hk ad H locs lsA hE h1 hR hS ⟨hO.1, fun v hv => (List.mem_cons.mp hv).elim (fun e => by rw [e]; trivial) (hO.2 v)⟩ hL)
theorem s_load {t : zV → Bool} {i len : Nat} (ht : ∀ v, t v = true → znl v = false) (row : ∀ {p : Program} {l : Launch} {e : Env} {R : Room} {s : State} {m : MethodId} {args : Array Value} {below : List Frame} {meth : Method} {c : Code} {H : Heap} {locs : List Loc} {cells slots : Nat} {Q : State → Prop} {ls : Array Slot} {rest : List Value} (v : zV) (ad : zK → Nat),
    t v = true → p.tables.exec = Jvm.exec → c.code = cc → ls[i]? = some (.val (zcv ad v)) → W p l e R s m args below meth c H locs cells slots Q (F0 m (pc + len) ls (zcv ad v :: rest)) → W p l e R s m args below meth c H locs cells slots Q (F0 m pc ls rest)) : zSnd X cc own nL mc ms d ini pc (a_load t i len) := by
  intro p l e R s m args below meth c cA D A ad0 h0 Q st st' hC hpc ha hk ad H locs lsA hE h1 hR hS hO hL
  obtain ⟨pc', ls, stk, h, n⟩ := st
  subst hpc
  simp only [a_load] at ha
  cases hv : ls[i]? with
  | none => rw [hv] at ha; cases ha
  | some v =>
    rw [hv] at ha
    dsimp only at ha
    by_cases htv : t v = true
    · rw [if_pos htv] at ha
      cases ha
      exact row v ad htv hC.1 hC.2.1 (hL.at hv (ht v htv)) (hk ad H locs lsA hE h1 hR hS ⟨hO.1, fun w hw => (List.mem_cons.mp hw).elim (fun e => by rw [e]; exact hO.1 v (List.mem_of_getElem? hv)) (hO.2 w)⟩ hL)
    · rw [if_neg htv] at ha
      cases ha
theorem zLR.set1 {ad : zK → Nat} {ls : List zV} {lsA : Array Slot} (h : zLR ad nL ls lsA) {i : Nat} {v : zV} (hp : zpre ls i = true) {ls' : Array Slot} (h' : lv_has ls' nL ((i, zcv ad v) :: (zlv ad ls 0).filter (fun q => !(q.1 == i) && !(q.1 + 1 == i && q.2.category == 2)))) : zLR ad nL (ls.set i v) ls' := by
  refine ⟨by rw [List.length_set]; exact h.1, h'.mono fun q hq => ?_⟩
  obtain ⟨j, w, h1, h2, rfl⟩ := (zlv_mem _ _ _).mp hq
  rw [Nat.zero_add]
  by_cases hji : j = i
  · subst hji
    have hl : j < ls.length := by
      have := (List.getElem?_eq_some_iff.mp h1).1
      rwa [List.length_set] at this
    rw [List.getElem?_set_self hl] at h1
    cases h1
    exact List.mem_cons_self
  · rw [List.getElem?_set_ne (Ne.symm hji)] at h1
    refine List.mem_cons_of_mem _ (List.mem_filter.mpr ⟨(zlv_mem _ _ _).mpr ⟨j, w, h1, h2, by simp⟩, ?_⟩)
    have hc : ¬ (j + 1 = i ∧ (zcv ad w).category = 2) := by
      rintro ⟨e1, e2⟩
      subst e1
      simp only [zpre, h1, Bool.or_eq_true, beq_iff_eq] at hp
      rw [zcat_cv] at e2
      rcases hp with hp | hp
      · omega
      · rw [h2] at hp; cases hp
    simp only [Bool.and_eq_true, Bool.not_eq_true', beq_eq_false_iff_ne, ne_eq, Bool.and_eq_false_iff]
    refine ⟨hji, ?_⟩
    by_cases e1 : j + 1 = i
    · right
      exact fun e2 => hc ⟨e1, e2⟩
    · left
      exact e1
theorem zok_set {h : zH} {ls : List zV} (hO : ∀ v ∈ ls, zok h v) {i : Nat} {v : zV} (hv : zok h v) : ∀ w ∈ ls.set i v, zok h w := fun w hw => (List.mem_or_eq_of_mem_set hw).elim (hO w) (fun e => by rw [e]; exact hv)
theorem s_st1 {t : zV → Bool} {i len : Nat} (row : ∀ {p : Program} {l : Launch} {e : Env} {R : Room} {s : State} {m : MethodId} {args : Array Value} {below : List Frame} {meth : Method} {c : Code} {H : Heap} {locs : List Loc} {cells slots : Nat} {Q : State → Prop} {ls : Array Slot} {rest : List Value} {lv : List (Nat × Value)} (v : zV) (ad : zK → Nat),
    t v = true → p.tables.exec = Jvm.exec → c.code = cc → lv_has ls nL lv → i < nL → (∀ ls' : Array Slot, lv_has ls' nL ((i, zcv ad v) :: lv.filter (fun q => !(q.1 == i) && !(q.1 + 1 == i && q.2.category == 2))) → W p l e R s m args below meth c H locs cells slots Q (F0 m (pc + len) ls' rest)) → W p l e R s m args below meth c H locs cells slots Q (F0 m pc ls (zcv ad v :: rest))) : zSnd X cc own nL mc ms d ini pc (a_st1 t i len) := by
  intro p l e R s m args below meth c cA D A ad0 h0 Q st st' hC hpc ha hk ad H locs lsA hE h1 hR hS hO hL
  obtain ⟨pc', ls, stk, h, n⟩ := st
  subst hpc
  cases stk with
  | nil => simp [a_st1] at ha
  | cons v r =>
    simp only [a_st1] at ha
    split at ha
    · rename_i hg
      cases ha
      refine row v ad hg.1 hC.1 hC.2.1 hL.2 (by rw [← hL.1]; exact hg.2.1) fun ls' h' => hk ad H locs ls' hE h1 hR hS ⟨zok_set hO.1 (hO.2 v List.mem_cons_self), fun w hw => hO.2 w (List.mem_cons_of_mem _ hw)⟩ (hL.set1 hg.2.2 h')
    · cases ha
theorem zLR.set2 {ad : zK → Nat} {ls : List zV} {lsA : Array Slot} (h : zLR ad nL ls lsA) {i : Nat} {v : zV} (hp : zpre ls i = true) {ls' : Array Slot} (h' : lv_has ls' nL ((i, zcv ad v) :: (zlv ad ls 0).filter (fun q => !(q.1 == i) && (!(q.1 == i + 1) && !(q.1 + 1 == i && q.2.category == 2))))) : zLR ad nL ((ls.set i v).set (i + 1) (.inl .null)) ls' := by
  refine ⟨by rw [List.length_set, List.length_set]; exact h.1, h'.mono fun q hq => ?_⟩
  obtain ⟨j, w, h1, h2, rfl⟩ := (zlv_mem _ _ _).mp hq
  rw [Nat.zero_add]
  by_cases hj1 : j = i + 1
  · subst hj1
    have hl : i + 1 < (ls.set i v).length := by
      have := (List.getElem?_eq_some_iff.mp h1).1
      rwa [List.length_set] at this
    rw [List.getElem?_set_self hl] at h1
    cases h1
    cases h2
  · rw [List.getElem?_set_ne (Ne.symm hj1)] at h1
    by_cases hji : j = i
    · subst hji
      have hl : j < ls.length := by
        have := (List.getElem?_eq_some_iff.mp h1).1
        rwa [List.length_set] at this
      rw [List.getElem?_set_self hl] at h1
      cases h1
      exact List.mem_cons_self
    · rw [List.getElem?_set_ne (Ne.symm hji)] at h1
      refine List.mem_cons_of_mem _ (List.mem_filter.mpr ⟨(zlv_mem _ _ _).mpr ⟨j, w, h1, h2, by simp⟩, ?_⟩)
      have hc : ¬ (j + 1 = i ∧ (zcv ad w).category = 2) := by
        rintro ⟨e1, e2⟩
        subst e1
        simp only [zpre, h1, Bool.or_eq_true, beq_iff_eq] at hp
        rw [zcat_cv] at e2
        rcases hp with hp | hp
        · omega
        · rw [h2] at hp; cases hp
      simp only [Bool.and_eq_true, Bool.not_eq_true', beq_eq_false_iff_ne, ne_eq, Bool.and_eq_false_iff]
      refine ⟨hji, hj1, ?_⟩
      by_cases e1 : j + 1 = i
      · right
        exact fun e2 => hc ⟨e1, e2⟩
      · left
        exact e1
theorem s_st2 {t : zV → Bool} {i len : Nat} (row : ∀ {p : Program} {l : Launch} {e : Env} {R : Room} {s : State} {m : MethodId} {args : Array Value} {below : List Frame} {meth : Method} {c : Code} {H : Heap} {locs : List Loc} {cells slots : Nat} {Q : State → Prop} {ls : Array Slot} {rest : List Value} {lv : List (Nat × Value)} (v : zV) (ad : zK → Nat),
    t v = true → p.tables.exec = Jvm.exec → c.code = cc → lv_has ls nL lv → i + 1 < nL → (∀ ls' : Array Slot, lv_has ls' nL ((i, zcv ad v) :: lv.filter (fun q => !(q.1 == i) && (!(q.1 == i + 1) && !(q.1 + 1 == i && q.2.category == 2)))) → W p l e R s m args below meth c H locs cells slots Q (F0 m (pc + len) ls' rest)) → W p l e R s m args below meth c H locs cells slots Q (F0 m pc ls (zcv ad v :: rest))) : zSnd X cc own nL mc ms d ini pc (a_st2 t i len) := by
  intro p l e R s m args below meth c cA D A ad0 h0 Q st st' hC hpc ha hk ad H locs lsA hE h1 hR hS hO hL
  obtain ⟨pc', ls, stk, h, n⟩ := st
  subst hpc
  cases stk with
  | nil => simp [a_st2] at ha
  | cons v r =>
    simp only [a_st2] at ha
    split at ha
    · rename_i hg
      cases ha
      refine row v ad hg.1 hC.1 hC.2.1 hL.2 (by rw [← hL.1]; exact hg.2.1) fun ls' h' => hk ad H locs ls' hE h1 hR hS ⟨zok_set (zok_set hO.1 (hO.2 v List.mem_cons_self)) trivial, fun w hw => hO.2 w (List.mem_cons_of_mem _ hw)⟩ (hL.set2 hg.2.2 h')
    · cases ha
theorem s_iinc {i : Nat} {n : Int} (hd : decode cc pc = .ok (.iinc i n, 3)) : zSnd X cc own nL mc ms d ini pc (a_iinc i (Int32.ofInt n)) := by
  intro p l e R s m args below meth c cA D A ad0 h0 Q st st' hC hpc ha hk ad H locs lsA hE h1 hR hS hO hL
  obtain ⟨pc', ls, stk, h, nn⟩ := st
  subst hpc
  simp only [a_iinc] at ha
  split at ha
  · rename_i y hy
    split at ha
    · rename_i hg
      cases ha
      have hm : (i, Value.int y) ∈ zlv ad ls 0 := (zlv_mem _ _ _).mpr ⟨i, _, hy, rfl, by simp [zcv]⟩
      obtain ⟨k, hk'⟩ := List.getElem?_of_mem hm
      exact lv_iinc (k := k) hC.1 hC.2.1 hd hL.2 hk' rfl (by rw [← hL.1]; exact (List.getElem?_eq_some_iff.mp hy).1) rfl fun ls' h' => hk ad H locs ls' hE h1 hR hS ⟨zok_set hO.1 trivial, hO.2⟩ (hL.set1 (v := .inl (.int (y + Int32.ofInt n))) hg h')
    · cases ha
  · cases ha
theorem s_un {f : Value → Option Value} (row : ∀ {p : Program} {l : Launch} {e : Env} {R : Room} {s : State} {m : MethodId} {args : Array Value} {below : List Frame} {meth : Method} {c : Code} {H : Heap} {locs : List Loc} {cells slots : Nat} {Q : State → Prop} {ls : Array Slot} {rest : List Value} (x v : Value), f x = some v → p.tables.exec = Jvm.exec → c.code = cc →
    W p l e R s m args below meth c H locs cells slots Q (F0 m (pc + 1) ls (v :: rest)) → W p l e R s m args below meth c H locs cells slots Q (F0 m pc ls (x :: rest))) : zSnd X cc own nL mc ms d ini pc (a_un f) := by
  intro p l e R s m args below meth c cA D A ad0 h0 Q st st' hC hpc ha hk ad H locs lsA hE h1 hR hS hO hL
  obtain ⟨pc', ls, stk, h, n⟩ := st
  subst hpc
  simp only [a_un] at ha
  split at ha
  · rename_i heq
    simp only [Prod.mk.injEq] at heq
    obtain ⟨rfl, rfl, rfl, rfl, rfl⟩ := heq
    split at ha
    · rename_i x _ v hv
      cases ha
      exact row _ v hv hC.1 hC.2.1 (hk ad H locs lsA hE h1 hR hS ⟨hO.1, fun w hw => (List.mem_cons.mp hw).elim (fun e => by rw [e]; trivial) (fun q => hO.2 w (List.mem_cons_of_mem _ q))⟩ hL)
    · cases ha
  · cases ha
theorem s_bin {f : Value → Value → Option Value} (row : ∀ {p : Program} {l : Launch} {e : Env} {R : Room} {s : State} {m : MethodId} {args : Array Value} {below : List Frame} {meth : Method} {c : Code} {H : Heap} {locs : List Loc} {cells slots : Nat} {Q : State → Prop} {ls : Array Slot} {rest : List Value} (x y v : Value), f x y = some v → p.tables.exec = Jvm.exec → c.code = cc →
    W p l e R s m args below meth c H locs cells slots Q (F0 m (pc + 1) ls (v :: rest)) → W p l e R s m args below meth c H locs cells slots Q (F0 m pc ls (y :: x :: rest))) : zSnd X cc own nL mc ms d ini pc (a_bin f) := by
  intro p l e R s m args below meth c cA D A ad0 h0 Q st st' hC hpc ha hk ad H locs lsA hE h1 hR hS hO hL
  obtain ⟨pc', ls, stk, h, n⟩ := st
  subst hpc
  simp only [a_bin] at ha
  split at ha
  · rename_i heq
    simp only [Prod.mk.injEq] at heq
    obtain ⟨rfl, rfl, rfl, rfl, rfl⟩ := heq
    split at ha
    · rename_i v hv
      cases ha
      exact row _ _ v hv hC.1 hC.2.1 (hk ad H locs lsA hE h1 hR hS ⟨hO.1, fun w hw => (List.mem_cons.mp hw).elim (fun e => by rw [e]; trivial) (fun q => hO.2 w (List.mem_cons_of_mem _ (List.mem_cons_of_mem _ q)))⟩ hL)
    · cases ha
  · cases ha
end ZS
