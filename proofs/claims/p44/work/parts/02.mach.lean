/-! PURE MACHINE: cells have keys (sort, i, j); values are numbers or keys; a heap is a list of keys and what each holds. -/
def zTb : List Cond := lw_tbl.filter goodWord
abbrev zK : Type := Nat × Nat × Nat
abbrev zV : Type := Value ⊕ zK
/-- keys that are there, sizes of rows, references, ints, longs -/
abbrev zH : Type := List zK × (zK → Nat) × (zK → Nat → Option zK) × (zK → Nat → Int32) × (zK → Nat → Int64)
/-- pc, locals, stack, heap, cells and slots made -/
abbrev zS : Type := Nat × List zV × List zV × zH × Nat × Nat
abbrev zR : Type := Option zV × zH
abbrev zO : Type := Option (zS ⊕ zR ⊕ (Nat × List zV × zS))
abbrev zA : Type := Nat → zS → zO
def zty (s f : Nat) : FieldType := match s with
  | 0 => tyX0 f
  | 1 => tyX1 f
  | 2 => tyX2 f
  | 3 => tyX3 f
  | 4 => tyX4 f
  | 5 => tyX5 f
  | 6 => tyX6 f
  | _ => tyX7 f
def zTT (s : Nat) : u_T := match s with
  | 0 => TX0
  | 1 => TX1
  | 2 => TX2
  | 3 => TX3
  | 4 => TX4
  | 5 => TX5
  | 6 => TX6
  | _ => TX7
def zRR (s : Nat) : String := match s with
  | 0 => RX0
  | 1 => RX1
  | 2 => RX2
  | 3 => RX3
  | 4 => RX4
  | 5 => RX5
  | 6 => RX6
  | _ => RX7
def zN (s : Nat) : Nat := match s with
  | 0 => 9
  | 1 => 4
  | 2 => 6
  | 3 => 8
  | 4 => 2
  | 5 => 5
  | 6 => 10
  | _ => 0
/-- which array class: 0 ints, 1 longs, 2 Vessels, 3 Pipes, 4 Rows -/
def zc (s : Nat) : Nat := match s with
  | 8 => 2
  | 9 => 3
  | 10 => 4
  | 11 => 4
  | 12 => 1
  | _ => 0
def zaty (n : Nat) : FieldType := match n with
  | 0 => .int
  | 1 => .long
  | 2 => .object RX5
  | 3 => .object RX3
  | _ => .object RX4
def ztys (cA : Nat → ClassId) : List (ClassId × FieldType) := (List.range 5).map fun n => (cA n, zaty n)
def zcv (ad : zK → Nat) (v : zV) : Value := match v with
  | .inl x => x
  | .inr k => .ref (ad k)
def zrf (ad : zK → Nat) (o : Option zK) : Value := match o with
  | some k => .ref (ad k)
  | none => .null
def zfv (ad : zK → Nat) (h : zH) (k : zK) (f : Nat) : Value := if (zty k.1 f).isReference = true then zrf ad (h.2.2.1 k f) else .int (h.2.2.2.1 k f)
def zE (cA : Nat → ClassId) (ad : zK → Nat) (h : zH) (k : zK) : va_E :=
  if k.1 < 7 then .inr (k.1, (List.range (zN k.1)).map (zfv ad h k))
  else if k.1 < 12 then .inl (cA (zc k.1), h.2.1 k, .inr (.inr (.inr (.inr fun j => if j < h.2.1 k then (h.2.2.1 k j).map ad else none))))
  else if k.1 = 12 then .inl (cA 1, h.2.1 k, .inr (.inl (h.2.2.2.2 k)))
  else .inl (cA 0, h.2.1 k, .inl (h.2.2.2.1 k))
def zL (cA : Nat → ClassId) (ad : zK → Nat) (h : zH) : va_W := h.1.map fun k => (ad k, zE cA ad h k)
def zok (h : zH) (v : zV) : Prop := match v with
  | .inr k => k ∈ h.1 ∨ 50 ≤ k.1
  | .inl _ => True
def zwf (h : zH) : Prop := h.1.Nodup ∧ (∀ k ∈ h.1, k.1 < 40 ∧ ∀ f k', h.2.2.1 k f = some k' → k' ∈ h.1)
def znl (v : zV) : Bool := match v with
  | .inl .null => true
  | _ => false
def zlv (ad : zK → Nat) : List zV → Nat → List (Nat × Value)
  | [], _ => []
  | v :: r, i => if znl v = true then zlv ad r (i + 1) else (i, zcv ad v) :: zlv ad r (i + 1)
theorem zlv_mem {ad : zK → Nat} : ∀ (ls : List zV) (b : Nat) (q : Nat × Value), q ∈ zlv ad ls b ↔ ∃ j v, ls[j]? = some v ∧ znl v = false ∧ q = (b + j, zcv ad v) := by
  intro ls
  induction ls with
  | nil => intro b q; simp [zlv]
  | cons v r ih =>
    intro b q
    have key : (∃ j w, (v :: r)[j]? = some w ∧ znl w = false ∧ q = (b + j, zcv ad w)) ↔ ((znl v = false ∧ q = (b, zcv ad v)) ∨ ∃ j w, r[j]? = some w ∧ znl w = false ∧ q = (b + 1 + j, zcv ad w)) := by
      constructor
      · rintro ⟨j, w, h1, h2, h3⟩
        cases j with
        | zero =>
          rw [List.getElem?_cons_zero] at h1
          cases h1
          exact Or.inl ⟨h2, h3⟩
        | succ j =>
          rw [List.getElem?_cons_succ] at h1
          exact Or.inr ⟨j, w, h1, h2, by rw [h3]; congr 1; omega⟩
      · rintro (⟨h1, h2⟩ | ⟨j, w, h1, h2, h3⟩)
        · exact ⟨0, v, by simp, h1, h2⟩
        · exact ⟨j + 1, w, by simpa using h1, h2, by rw [h3]; congr 1; omega⟩
    rw [key]
    unfold zlv
    split
    · rename_i hv
      rw [ih]
      constructor
      · exact Or.inr
      · rintro (⟨h1, -⟩ | h)
        · rw [hv] at h1; cases h1
        · exact h
    · rename_i hv
      rw [List.mem_cons, ih]
      constructor
      · rintro (h | h)
        · exact Or.inl ⟨by simpa using hv, h⟩
        · exact Or.inr h
      · rintro (⟨-, h⟩ | h)
        · exact Or.inl h
        · exact Or.inr h
def zLR (ad : zK → Nat) (nL : Nat) (ls : List zV) (lsA : Array Slot) : Prop := ls.length = nL ∧ lv_has lsA nL (zlv ad ls 0)
theorem lv_has.mono {ls : Array Slot} {nL : Nat} {l l' : List (Nat × Value)} (h : lv_has ls nL l) (hs : ∀ q ∈ l', q ∈ l) : lv_has ls nL l' := ⟨h.1, h.2.1, fun q hq => h.2.2 q (hs q hq)⟩
theorem zLR.at {ad : zK → Nat} {nL : Nat} {ls : List zV} {lsA : Array Slot} (h : zLR ad nL ls lsA) {i : Nat} {v : zV} (hv : ls[i]? = some v) (hn : znl v = false) : lsA[i]? = some (.val (zcv ad v)) :=
  h.2.2.2 (i, zcv ad v) ((zlv_mem ls 0 _).mpr ⟨i, v, hv, hn, by simp⟩)
def zcat (v : zV) : Nat := match v with
  | .inl x => x.category
  | .inr _ => 1
theorem zcat_cv (ad : zK → Nat) (v : zV) : (zcv ad v).category = zcat v := by
  cases v <;> rfl
def zpre (ls : List zV) (i : Nat) : Bool := match i with
  | 0 => true
  | i + 1 => match ls[i]? with
    | some v => zcat v == 1 || znl v
    | none => true
def zNest : List Cond := [.methodLinkNest RX0 17 yX5_init RX6, .methodLinkNest RX0 24 yX3_init RX6, .methodLinkNest RX0 99 yX6_isKind RX6, .methodLinkNest RX0 102 yX6_outside RX6, .methodLinkNest RX2 124 yX6_power RX6]
/-- what stays: the tables' classes, links of nest mates, constants; X: the script's length and ints, the formatter -/
def zSt (cA : Nat → ClassId) (D : va_G) (A : Nat → Prop) (X : Nat × (Nat → Int32) × Value) (ad : zK → Nat) (U : State) (H : Heap) : Prop :=
  va_K D vwCl (ztys cA) U ∧ (∀ w ∈ zNest, va_Nw w U) ∧ (va_AO RX5 U ∧ va_AO RX3 U ∧ va_AO RX4 U) ∧
  (va_X (ad (50, 0, 0)) X.1 X.2.1 U H ∧ ad (50, 0, 0) < H.size ∧ ¬ A (ad (50, 0, 0)))
/-- the world of a heap -/
def zRep (cA : Nat → ClassId) (D : va_G) (A : Nat → Prop) (ad : zK → Nat) (h : zH) (H : Heap) : Prop := va_P D vwCl (zL cA ad h) H ∧ va_D A (zL cA ad h) ∧ zwf h
/-- same addresses of the keys that are there, and of the constants -/
def zExt (h : zH) (ad ad' : zK → Nat) : Prop := ∀ k : zK, k ∈ h.1 ∨ 50 ≤ k.1 → ad' k = ad k
def zU (cA : Nat → ClassId) (D : va_G) (A : Nat → Prop) (X : Nat × (Nat → Int32) × Value) (ad : zK → Nat) (h : zH) (U : State) : Prop := zRep cA D A ad h U.heap ∧ zSt cA D A X ad U U.heap ∧ ∀ q, U.heap.size ≤ q → A q
def zOk (st : zS) : Prop := (∀ v ∈ st.2.1, zok st.2.2.2.1 v) ∧ ∀ v ∈ st.2.2.1, zok st.2.2.2.1 v
def zCtx (p : Program) (e : Env) (R : Room) (s : State) (m : MethodId) (args : Array Value) (meth : Method) (c : Code) (cc : ByteArray) (own : String) (nL mc ms d : Nat) (ini : Bool) (cA : Nat → ClassId) (D : va_G) (A : Nat → Prop) (X : Nat × (Nat → Int32) × Value) (ad0 : zK → Nat) (h0 : zH) : Prop :=
  p.tables.exec = Jvm.exec ∧ c.code = cc ∧ c.maxLocals = nL ∧ s.vm.findClass own = some m.cls ∧ (∀ w ∈ zTb, w.before args s = true) ∧ zU cA D A X ad0 h0 s ∧
  (d ≤ R.frames ∧ 40 * d ≤ R.locals ∧ mc ≤ R.cells ∧ ms ≤ R.slots) ∧ (ini = true → meth.name = "<init>")
def zWs (p : Program) (l : Launch) (e : Env) (R : Room) (s : State) (m : MethodId) (args : Array Value) (below : List Frame) (meth : Method) (c : Code) (nL : Nat) (cA : Nat → ClassId) (D : va_G) (A : Nat → Prop) (ad0 : zK → Nat) (h0 : zH) (Q : State → Prop) (st : zS) : Prop :=
  ∀ (ad : zK → Nat) (H : Heap) (locs : List Loc) (lsA : Array Slot), zExt h0 ad0 ad → (∀ k ∈ h0.1, k ∈ st.2.2.2.1.1) → zRep cA D A ad st.2.2.2.1 H → va_S A s.heap H locs → zOk st → zLR ad nL st.2.1 lsA →
    W p l e R s m args below meth c H locs st.2.2.2.2.1 st.2.2.2.2.2 Q (F0 m st.1 lsA (st.2.2.1.map (zcv ad)))
/-- an instruction at pc is what the closure a says -/
def zSnd (X : Nat × (Nat → Int32) × Value) (cc : ByteArray) (own : String) (nL mc ms d : Nat) (ini : Bool) (pc : Nat) (a : zA) : Prop :=
  ∀ (p : Program) (l : Launch) (e : Env) (R : Room) (s : State) (m : MethodId) (args : Array Value) (below : List Frame) (meth : Method) (c : Code) (cA : Nat → ClassId) (D : va_G) (A : Nat → Prop) (ad0 : zK → Nat) (h0 : zH) (Q : State → Prop) (st st' : zS),
    zCtx p e R s m args meth c cc own nL mc ms d ini cA D A X ad0 h0 → st.1 = pc → a d st = some (.inl st') →
    zWs p l e R s m args below meth c nL cA D A ad0 h0 Q st' → zWs p l e R s m args below meth c nL cA D A ad0 h0 Q st
