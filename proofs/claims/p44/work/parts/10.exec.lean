/-! RUNS, and that the machine makes them -/
abbrev zI : Type := zA ⊕ zA ⊕ (Nat × Nat × Nat)
/-- code; locals, cells and slots of a method -/
abbrev zTab : Type := (Nat → Nat → Option zI) × (Nat → Nat) × (Nat → Nat) × (Nat → Nat)
def zflat (args : List zV) : List zV := args.flatMap fun v => if zcat v = 2 then [v, .inl .null] else [v]
def zent (nl : Nat) (args : List zV) (h : zH) : zS := (0, zflat args ++ List.replicate (nl - (zflat args).length) (.inl .null), [], h, 0, 0)
def zstep (T : zTab) (ex : Nat → Nat → zS → Option zR) (d M : Nat) (st : zS) : Option (zS ⊕ zR) := match T.1 M st.1 with
  | none => none
  | some (.inl a) => (match a d st with
    | some (.inl st') => some (.inl st')
    | _ => none)
  | some (.inr (.inl a)) => (match a d st with
    | some (.inr (.inl r)) => some (.inr r)
    | _ => none)
  | some (.inr (.inr q)) => (match d with
    | 0 => none
    | d' + 1 => if (q.2.2 ≤ st.2.2.1.length ∧ ((st.2.2.1.drop q.2.2).map zcat).sum ≤ 8 ∧ zrcv q.1 (st.2.2.1.take q.2.2).reverse = true) ∧ (zflat (st.2.2.1.take q.2.2).reverse).length ≤ T.2.1 q.2.1 ∧ st.2.2.2.2.1 + T.2.2.1 q.2.1 ≤ T.2.2.1 M ∧ st.2.2.2.2.2 + T.2.2.2 q.2.1 ≤ T.2.2.2 M then (match ex d' q.2.1 (zent (T.2.1 q.2.1) (st.2.2.1.take q.2.2).reverse st.2.2.2.1) with
      | some r => some (.inl (st.1 + 3, st.2.1, r.1.toList ++ st.2.2.1.drop q.2.2, r.2, st.2.2.2.2.1 + T.2.2.1 q.2.1, st.2.2.2.2.2 + T.2.2.2 q.2.1))
      | none => none) else none)
def zexec (T : zTab) : Nat → Nat → Nat → zS → Option zR
  | 0 => fun _ _ _ => none
  | n + 1 => fun d M st => match zstep T (zexec T n) d M st with
    | none => none
    | some (.inl st') => zexec T n d M st'
    | some (.inr r) => some r
def zRt (X : Nat × (Nat → Int32) × Value) (cc : ByteArray) (own : String) (nL mc ms : Nat) (ini : Bool) (ret : Option FieldType) (pc : Nat) (a : zA) : Prop :=
  ∀ (p : Program) (l : Launch) (e : Env) (R : Room) (s : State) (m : MethodId) (args : Array Value) (below : List Frame) (meth : Method) (c : Code) (cA : Nat → ClassId) (D : va_G) (A : Nat → Prop) (ad0 : zK → Nat) (h0 : zH) (d : Nat) (st : zS) (r : Option zV) (h' : zH),
    zCtx p e R s m args meth c cc own nL mc ms d ini cA D A X ad0 h0 → meth.sig.returnType = ret → meth.locks = false → st.1 = pc → a d st = some (.inr (.inl (r, h'))) →
    zWs p l e R s m args below meth c nL cA D A ad0 h0 (MQ below (zQ cA D A X ad0 h0 r h') args s mc ms A) st
section ZX
variable {X : Nat × (Nat → Int32) × Value} {T : zTab} {zcc : Nat → ByteArray} {zown : Nat → String} {zy : Nat → MethodName} {zret : Nat → Option FieldType} {zini : Nat → Bool}
def zOkI (X : Nat × (Nat → Int32) × Value) (T : zTab) (zcc : Nat → ByteArray) (zown : Nat → String) (zy : Nat → MethodName) (zret : Nat → Option FieldType) (zini : Nat → Bool) (M pc : Nat) (i : zI) : Prop := match i with
  | .inl a => ∀ d, zSnd X (zcc M) (zown M) (T.2.1 M) (T.2.2.1 M) (T.2.2.2 M) d (zini M) pc a
  | .inr (.inl a) => zRt X (zcc M) (zown M) (T.2.1 M) (T.2.2.1 M) (T.2.2.2 M) (zini M) (zret M) pc a
  | .inr (.inr q) => zLk (zown M) (zcc M) pc q.1 q.2.2 (zy q.2.1) (zcc q.2.1) (T.2.1 q.2.1) (zret q.2.1) ∧ (plainFor (zy q.2.1) = true ∧ (zini q.2.1 = true → (zy q.2.1).name = "<init>") ∧ (zy q.2.1).cls = zown q.2.1)
theorem zlv_null (ad : zK → Nat) : ∀ (k b : Nat), zlv ad (List.replicate k (.inl .null)) b = []
  | 0, _ => rfl
  | k + 1, b => by
    rw [List.replicate_succ]
    unfold zlv
    rw [if_pos (show znl (.inl .null) = true from rfl)]
    exact zlv_null ad k (b + 1)
theorem zlv_flat (ad : zK → Nat) (k : Nat) : ∀ (args : List zV) (b : Nat), ∀ q ∈ zlv ad (zflat args ++ List.replicate k (.inl .null)) b, q ∈ lv_args b (args.map (zcv ad))
  | [], b, q, hq => by
    have : zlv ad (zflat [] ++ List.replicate k (.inl .null)) b = [] := zlv_null ad k b
    rw [this] at hq
    exact absurd hq List.not_mem_nil
  | v :: r, b, q, hq => by
    rw [List.map_cons]
    unfold lv_args
    have e1 : zflat (v :: r) = (if zcat v = 2 then [v, .inl .null] else [v]) ++ zflat r := by simp [zflat]
    rw [e1] at hq
    rw [zcat_cv]
    by_cases h2 : zcat v = 2
    · rw [if_pos h2] at hq ⊢
      have hq2 : q ∈ zlv ad (v :: .inl .null :: (zflat r ++ List.replicate k (.inl .null))) b := hq
      unfold zlv at hq2
      unfold zlv at hq2
      rw [if_pos (show znl (.inl .null) = true from rfl)] at hq2
      split at hq2
      · exact List.mem_cons_of_mem _ (zlv_flat ad k r (b + 2) q hq2)
      · rcases List.mem_cons.mp hq2 with h | h
        · rw [h]; exact List.mem_cons_self
        · exact List.mem_cons_of_mem _ (zlv_flat ad k r (b + 2) q h)
    · rw [if_neg h2] at hq ⊢
      have hq2 : q ∈ zlv ad (v :: (zflat r ++ List.replicate k (.inl .null))) b := hq
      unfold zlv at hq2
      split at hq2
      · exact List.mem_cons_of_mem _ (zlv_flat ad k r (b + 1) q hq2)
      · rcases List.mem_cons.mp hq2 with h | h
        · rw [h]; exact List.mem_cons_self
        · exact List.mem_cons_of_mem _ (zlv_flat ad k r (b + 1) q h)
theorem zflat_len (ad : zK → Nat) : ∀ args : List zV, (lg_sl (args.map (zcv ad))).length = (zflat args).length
  | [] => rfl
  | v :: r => by
    have h := zflat_len ad r
    simp only [lg_sl, zflat, List.map_cons, List.flatMap_cons, List.length_append] at h ⊢
    rw [h, zcat_cv]
    by_cases h2 : zcat v = 2
    · rw [if_pos h2, if_pos h2]; rfl
    · rw [if_neg h2, if_neg h2]; rfl
theorem zent_LR {ad : zK → Nat} {nl : Nat} {args : List zV} {h : zH} (hl : (zflat args).length ≤ nl) : zLR ad nl (zent nl args h).2.1 ((lg_sl (args.map (zcv ad)) ++ List.replicate (nl - (lg_sl (args.map (zcv ad))).length) Slot.unset).toArray) := by
  refine ⟨?_, (lv_entry (args.map (zcv ad)) (n := nl) (by rw [zflat_len]; exact hl)).mono (zlv_flat ad _ args 0)⟩
  show (zflat args ++ List.replicate _ _).length = nl
  rw [List.length_append, List.length_replicate]
  omega
theorem zflat_ok {h : zH} {args : List zV} (ha : ∀ v ∈ args, zok h v) (k : Nat) : ∀ v ∈ zflat args ++ List.replicate k (.inl .null), zok h v := by
  intro v hv
  rcases List.mem_append.mp hv with hv | hv
  · obtain ⟨w, hw, hv⟩ := List.mem_flatMap.mp hv
    split at hv
    · rcases List.mem_cons.mp hv with h1 | h1
      · rw [h1]; exact ha w hw
      · rw [List.mem_singleton.mp h1]; trivial
    · rw [List.mem_singleton.mp hv]; exact ha w hw
  · rw [List.eq_of_mem_replicate hv]; trivial
/-- one step -/
theorem z_step (hT : ∀ M pc i, T.1 M pc = some i → zOkI X T zcc zown zy zret zini M pc i) {ex : Nat → Nat → zS → Option zR} {d M : Nat} {st st' : zS} (hs : zstep T ex d M st = some (.inl st'))
    (hex : ∀ d' m args h r h', d = d' + 1 → ex d' m (zent (T.2.1 m) args h) = some (r, h') → (zflat args).length ≤ T.2.1 m → (∀ v ∈ args, zok h v) → (plainFor (zy m) = true ∧ (zini m = true → (zy m).name = "<init>") ∧ (zy m).cls = zown m) → ∀ (l : Launch) (cA : Nat → ClassId) (D : va_G) (A : Nat → Prop) (ad : zK → Nat), Met l (zy m) (Cond.code (zy m) (zcc m) (T.2.1 m) (zret m) :: zTb) (zrm d' (T.2.2.1 m) (T.2.2.2 m)) (va_Pc (args.map (zcv ad)) (zU cA D A X ad h)) (zQ cA D A X ad h r h') (T.2.2.1 m) (T.2.2.2 m) A)
    {p : Program} {l : Launch} {e : Env} {R : Room} {s : State} {m : MethodId} {args : Array Value} {below : List Frame} {meth : Method} {c : Code} {cA : Nat → ClassId} {D : va_G} {A : Nat → Prop} {ad0 : zK → Nat} {h0 : zH} {Q : State → Prop}
    (hC : zCtx p e R s m args meth c (zcc M) (zown M) (T.2.1 M) (T.2.2.1 M) (T.2.2.2 M) d (zini M) cA D A X ad0 h0)
    (hk : zWs p l e R s m args below meth c (T.2.1 M) cA D A ad0 h0 Q st') : zWs p l e R s m args below meth c (T.2.1 M) cA D A ad0 h0 Q st := by
  unfold zstep at hs
  cases hi : T.1 M st.1 with
  | none => rw [hi] at hs; cases hs
  | some i =>
    rw [hi] at hs
    have hok := hT M st.1 i hi
    rcases i with a | a | q
    · dsimp only at hs
      split at hs
      · rename_i st2 ha
        cases hs
        exact hok d p l e R s m args below meth c cA D A ad0 h0 Q st _ hC rfl ha hk
      · cases hs
    · dsimp only at hs
      split at hs
      · cases hs
      · cases hs
    · dsimp only at hs
      cases d with
      | zero => cases hs
      | succ d' =>
        dsimp only at hs
        split at hs
        · rename_i hg
          split at hs
          · rename_i r hr
            cases hs
            obtain ⟨pc, ls, stk, h, nc, ns⟩ := st
            obtain ⟨⟨g1, g2, g3⟩, g4, g5, g6⟩ := hg
            intro ad H locs lsA hE h1 hR hS hO hL
            have hargs : ∀ v ∈ (stk.take q.2.2).reverse, zok h v := fun v hv => hO.2 v (List.mem_of_mem_take (List.mem_reverse.mp hv))
            have hM := hex d' q.2.1 _ _ r.1 r.2 rfl hr g4 hargs hok.2 l cA D A ad
            have hrun := z_run (below := below) hok.1 hC hE hR hS (fun v hv => hO.2 v hv) hL.2.1 g1 g2 g3 g5 g6 hM
            exact z_cont hrun hE h1 hS hO.1 (fun v hv => hO.2 v (List.mem_of_mem_drop hv)) hL hk
          · cases hs
        · cases hs
/-- a run, to any end Q that the answer's instruction reaches -/
theorem z_sound (hT : ∀ M pc i, T.1 M pc = some i → zOkI X T zcc zown zy zret zini M pc i) : ∀ (n d M : Nat) (st : zS) (r : Option zV) (h' : zH), zexec T n d M st = some (r, h') →
    ∀ (p : Program) (l : Launch) (e : Env) (R : Room) (s : State) (m : MethodId) (args : Array Value) (below : List Frame) (meth : Method) (c : Code) (cA : Nat → ClassId) (D : va_G) (A : Nat → Prop) (ad0 : zK → Nat) (h0 : zH) (Q : State → Prop),
    zCtx p e R s m args meth c (zcc M) (zown M) (T.2.1 M) (T.2.2.1 M) (T.2.2.2 M) d (zini M) cA D A X ad0 h0 →
    (∀ pc a st2, T.1 M pc = some (.inr (.inl a)) → st2.1 = pc → a d st2 = some (.inr (.inl (r, h'))) → zWs p l e R s m args below meth c (T.2.1 M) cA D A ad0 h0 Q st2) →
    zWs p l e R s m args below meth c (T.2.1 M) cA D A ad0 h0 Q st := by
  intro n
  induction n with
  | zero => intro d M st r h' h; cases h
  | succ n ih =>
    intro d M st r h' hx p l e R s m args below meth c cA D A ad0 h0 Q hC hQ
    have hmet : ∀ d' m args h r h', d = d' + 1 → zexec T n d' m (zent (T.2.1 m) args h) = some (r, h') → (zflat args).length ≤ T.2.1 m → (∀ v ∈ args, zok h v) → (plainFor (zy m) = true ∧ (zini m = true → (zy m).name = "<init>") ∧ (zy m).cls = zown m) → ∀ (l : Launch) (cA : Nat → ClassId) (D : va_G) (A : Nat → Prop) (ad : zK → Nat), Met l (zy m) (Cond.code (zy m) (zcc m) (T.2.1 m) (zret m) :: zTb) (zrm d' (T.2.2.1 m) (T.2.2.2 m)) (va_Pc (args.map (zcv ad)) (zU cA D A X ad h)) (zQ cA D A X ad h r h') (T.2.2.1 m) (T.2.2.2 m) A := by
      intro d' mm as h r1 h1 _ hr hlen hargs hpl l cA D A ad
      refine va_MetF (cc := zcc mm) (maxL := T.2.1 mm) (ret := zret mm) hpl.1 rfl ?_
      intro p e s m args below meth c s₁ B hml hv
      obtain ⟨rfl, hU⟩ := hv
      have hts : ∀ w ∈ zTb, w.before (as.map (zcv ad)).toArray s = true := fun w hw => atoms_spec (ws := Cond.code (zy mm) (zcc mm) (T.2.1 mm) (zret mm) :: zTb) B.pre w (List.mem_cons_of_mem _ hw)
      have hown : s.vm.findClass (zown mm) = some m.cls := by rw [← hpl.2.2]; exact findClass_of_methodNamed B.named
      have hname := (name_of_methodNamed B.named B.method).1
      have hC2 : zCtx p e (headSpec (Cond.code (zy mm) (zcc mm) (T.2.1 mm) (zret mm) :: zTb) (zrm d' (T.2.2.1 mm) (T.2.2.2 mm))).room s m (as.map (zcv ad)).toArray meth c (zcc mm) (zown mm) (T.2.1 mm) (T.2.2.1 mm) (T.2.2.2 mm) d' (zini mm) cA D A X ad h :=
        ⟨B.exec, B.bytes, hml, hown, hts, hU, ⟨Nat.le_refl _, Nat.le_refl _, Nat.le_refl _, Nat.le_refl _⟩, fun hi => hname.trans (hpl.2.1 hi)⟩
      have hw := ih d' mm _ r1 h1 hr p l e _ s m _ below meth c cA D A ad h (MQ below (zQ cA D A X ad h r1 h1) (as.map (zcv ad)).toArray s (T.2.2.1 mm) (T.2.2.2 mm) A) hC2 (fun pc a st2 hi hpc ha => hT mm pc _ hi p l e _ s m _ below meth c cA D A ad h d' st2 r1 h1 hC2 B.returns B.notSynchronized hpc ha)
      rw [lg_entry_eq]
      exact hw ad s.heap [] _ (fun k _ => rfl) (fun k hk => hk) hU.1 va_S.rf ⟨zflat_ok hargs _, fun v hv => absurd hv List.not_mem_nil⟩ (zent_LR hlen)
    unfold zexec at hx
    cases hs : zstep T (zexec T n) d M st with
    | none => rw [hs] at hx; cases hx
    | some y =>
      rw [hs] at hx
      cases y with
      | inl st' => exact z_step hT hs hmet hC (ih d M st' r h' hx p l e R s m args below meth c cA D A ad0 h0 Q hC hQ)
      | inr r2 =>
        cases hx
        unfold zstep at hs
        cases hi : T.1 M st.1 with
        | none => rw [hi] at hs; cases hs
        | some i =>
          rw [hi] at hs
          rcases i with a | a | q
          · dsimp only at hs
            split at hs <;> cases hs
          · dsimp only at hs
            split at hs
            · rename_i r3 ha
              cases hs
              exact hQ st.1 a st hi rfl ha
            · cases hs
          · dsimp only at hs
            cases d with
            | zero => cases hs
            | succ d' =>
              dsimp only at hs
              split at hs
              · split at hs <;> cases hs
              · cases hs
end ZX
