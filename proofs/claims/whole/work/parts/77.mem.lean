/-! the memory that is made -/
theorem chk_all {α : Type} {l : List α} {p : α → Bool} (h : l.all p = true) {x : α} (hx : x ∈ l) : p x = true := List.all_eq_true.mp h x hx
theorem Inv_0 {h : zH} (c : chk5 h = true) : Inv 0 (mk0 h) := by
  unfold chk5 at c
  simp only [Bool.and_eq_true] at c
  obtain ⟨⟨⟨⟨⟨⟨⟨c1, c2⟩, c3⟩, c4⟩, c5⟩, c6⟩, c7⟩, c8⟩ := c
  have s : ∀ f, f ∈ [2, 3, 4, 5, 6] → mk0 h (0, 0, 0) f = 0 := fun f hf => eq_of_beq (chk_all c1 hf)
  have r : ∀ f, f ∈ [0, 1, 2, 3] → mk0 h (20, 0, 0) f = 0 := fun f hf => eq_of_beq (chk_all c2 hf)
  have q : ∀ f, f ∈ [3, 5, 8] → mk0 h (7, 0, 0) f = 0 := fun f hf => eq_of_beq (chk_all c3 hf)
  have e4 : mk0 h (1, 0, 0) 1 = 0 := eq_of_beq c4
  have e5 : mk0 h (6, 0, 0) 2 = 0 := eq_of_beq c5
  have z4 : (mk0 h (0, 0, 0) 4).toInt = 0 := by rw [s 4 (by decide)]; rfl
  have z5 : (mk0 h (0, 0, 0) 5).toInt = 0 := by rw [s 5 (by decide)]; rfl
  refine ⟨⟨0, 0, 0, ?_, s 6 (by decide), ?_, q 5 (by decide), e4, ?_⟩, .inl ⟨e5, q 3 (by decide)⟩, ⟨0, by omega, e4, q 8 (by decide), fun i hi => absurd hi (Nat.not_lt_zero i)⟩, ?_, ?_, ?_⟩
  · refine ⟨⟨s 2 (by decide), s 3 (by decide), by omega, by omega, fun j hj => absurd hj (Nat.not_lt_zero j), fun j hj => absurd hj (Nat.not_lt_zero j)⟩, fun j hj => absurd hj (Nat.not_lt_zero j), ?_, ?_, ?_, ?_, ?_⟩
    · intro p hp
      exact absurd hp (Nat.not_lt_zero p)
    · show 0 ≤ (mk0 h (0, 0, 0) 4).toInt
      omega
    · show (mk0 h (0, 0, 0) 4).toInt ≤ 2000000000
      omega
    · show 0 ≤ (mk0 h (0, 0, 0) 5).toInt
      omega
    · show (mk0 h (0, 0, 0) 5).toInt ≤ 9999
      omega
  · refine ⟨fun f hf => ?_, fun j f hj => absurd hj (Nat.not_lt_zero j), fun p g hp => absurd hp (Nat.not_lt_zero p)⟩
    rcases hf with rfl | rfl | rfl | rfl | rfl
    · exact (s 2 (by decide)).trans (r 0 (by decide)).symm
    · exact (s 3 (by decide)).trans (r 1 (by decide)).symm
    · exact (s 4 (by decide)).trans (r 3 (by decide)).symm
    · exact (s 5 (by decide)).trans (r 2 (by decide)).symm
    · exact s 6 (by decide)
  · omega
  · intro c h1 h6
    exact eq_of_beq (chk_all c6 (List.mem_range.mpr (by omega)))
  · intro l hl
    have := chk_all c7 (List.mem_range.mpr hl)
    rw [Bool.and_eq_true] at this
    have a := eq_of_beq this.1
    have b := eq_of_beq this.2
    exact ⟨a.trans b.symm, .inl a⟩
  · intro l hl
    have := chk_all c8 (List.mem_range.mpr hl)
    rw [Bool.and_eq_true] at this
    have a := eq_of_beq this.1
    have b := eq_of_beq this.2
    exact ⟨a.trans b.symm, .inl a⟩
theorem ite_c {α : Type} {c : Prop} {i : Decidable c} {a b a' b' : α} (h1 : c → a = a') (h2 : ¬ c → b = b') : @ite α c i a b = @ite α c i a' b' := by
  by_cases h : c
  · rw [if_pos h, if_pos h]; exact h1 h
  · rw [if_neg h, if_neg h]; exact h2 h
section ZP
variable {X : Nat × (Nat → Int32) × Value} {T : zTab} {zcc : Nat → ByteArray} {zown : Nat → String} {zy : Nat → MethodName} {zret : Nat → Option FieldType} {zini : Nat → Bool}
/-- what is called inside is sound -/
theorem z_met (hT : ∀ M pc i, T.1 M pc = some i → zOkI X T zcc zown zy zret zini M pc i) (n d : Nat) : ∀ d' m args h r h', d = d' + 1 → zexec T n d' m (zent (T.2.1 m) args h) = some (r, h') → (zflat args).length ≤ T.2.1 m → (∀ v ∈ args, zok h v) → (plainFor (zy m) = true ∧ (zini m = true → (zy m).name = "<init>") ∧ (zy m).cls = zown m) → ∀ (l : Launch) (cA : Nat → ClassId) (D : va_G) (A : Nat → Prop) (ad : zK → Nat), Met l (zy m) (Cond.code (zy m) (zcc m) (T.2.1 m) (zret m) :: zTb) (zrm d' (T.2.2.1 m) (T.2.2.2 m)) (va_Pc (args.map (zcv ad)) (zU cA D A X ad h)) (zQ cA D A X ad h r h') (T.2.2.1 m) (T.2.2.2 m) A := by
  intro d' mm as h r1 h1 _ hr hlen hargs hpl l cA D A ad
  refine va_MetF (cc := zcc mm) (maxL := T.2.1 mm) (ret := zret mm) hpl.1 rfl ?_
  intro p e s m args below meth c s₁ B hml hv
  obtain ⟨rfl, hU⟩ := hv
  have hts : ∀ w ∈ zTb, w.before (as.map (zcv ad)).toArray s = true := fun w hw => atoms_spec (ws := Cond.code (zy mm) (zcc mm) (T.2.1 mm) (zret mm) :: zTb) B.pre w (List.mem_cons_of_mem _ hw)
  have hown : s.vm.findClass (zown mm) = some m.cls := by rw [← hpl.2.2]; exact findClass_of_methodNamed B.named
  have hname := (name_of_methodNamed B.named B.method).1
  have hC2 : zCtx p e (headSpec (Cond.code (zy mm) (zcc mm) (T.2.1 mm) (zret mm) :: zTb) (zrm d' (T.2.2.1 mm) (T.2.2.2 mm))).room s m (as.map (zcv ad)).toArray meth c (zcc mm) (zown mm) (T.2.1 mm) (T.2.2.1 mm) (T.2.2.2 mm) d' (zini mm) cA D A X ad h :=
    ⟨B.exec, B.bytes, hml, hown, hts, hU, ⟨Nat.le_refl _, Nat.le_refl _, Nat.le_refl _, Nat.le_refl _⟩, fun hi => hname.trans (hpl.2.1 hi)⟩
  have hw := z_sound hT n d' mm _ r1 h1 hr p l e _ s m _ below meth c cA D A ad h (MQ below (zQ cA D A X ad h r1 h1) (as.map (zcv ad)).toArray s (T.2.2.1 mm) (T.2.2.2 mm) A) hC2 (fun pc a st2 hi hpc ha => hT mm pc _ hi p l e _ s m _ below meth c cA D A ad h d' st2 r1 h1 hC2 B.returns B.notSynchronized hpc ha)
  rw [lg_entry_eq]
  exact hw ad s.heap [] _ (fun k _ => rfl) (fun k hk => hk) hU.1 va_S.rf ⟨zflat_ok hargs _, fun v hv => absurd hv List.not_mem_nil⟩ (zent_LR hlen)
/-- some steps of a method -/
theorem z_part (hT : ∀ M pc i, T.1 M pc = some i → zOkI X T zcc zown zy zret zini M pc i) (N : Nat) : ∀ (j d M : Nat) (st st' : zS), zrun T N j d M st = some st' →
    ∀ (p : Program) (l : Launch) (e : Env) (R : Room) (s : State) (m : MethodId) (args : Array Value) (below : List Frame) (meth : Method) (c : Code) (cA : Nat → ClassId) (D : va_G) (A : Nat → Prop) (ad0 : zK → Nat) (h0 : zH) (Q : State → Prop),
    zCtx p e R s m args meth c (zcc M) (zown M) (T.2.1 M) (T.2.2.1 M) (T.2.2.2 M) d (zini M) cA D A X ad0 h0 →
    zWs p l e R s m args below meth c (T.2.1 M) cA D A ad0 h0 Q st' → zWs p l e R s m args below meth c (T.2.1 M) cA D A ad0 h0 Q st := by
  intro j
  induction j with
  | zero =>
    intro d M st st' h p l e R s m args below meth c cA D A ad0 h0 Q hC hW
    cases h
    exact hW
  | succ j ih =>
    intro d M st st' h p l e R s m args below meth c cA D A ad0 h0 Q hC hW
    unfold zrun at h
    cases hs : zstep T (zexec T N) d M st with
    | none => rw [hs] at h; cases h
    | some y =>
      rw [hs] at h
      cases y with
      | inl st2 => exact z_step hT hs (z_met hT N d) hC (ih d M st2 st' h p l e R s m args below meth c cA D A ad0 h0 Q hC hW)
      | inr r2 => cases h
end ZP
