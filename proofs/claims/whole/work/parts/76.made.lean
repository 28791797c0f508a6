/-! what is made first -/
def zrun (T : zTab) (N : Nat) : Nat → Nat → Nat → zS → Option zS
  | 0, _, _, st => some st
  | j + 1, d, M, st => match zstep T (zexec T N) d M st with
    | some (.inl st') => zrun T N j d M st'
    | _ => none
def hN : zH := ([], fun _ => 0, fun _ _ => none, fun _ _ => 0, fun _ _ => 0)
def X00 : Nat × (Nat → Int32) × Value := (0, fun _ => 0, .null)
def st00 : zS := (0, [vR (50, 0, 0), vN, vN, vN], [], hN, 0, 0)
/-- the key that a row had when it was made -/
def kσ (k : zK) : zK := if k.1 = 5 then (5, 5 * k.2.1 + k.2.2, 0) else if k.1 = 3 then (3, 8 * k.2.1 + k.2.2, 0) else k
def isL : List zV → Bool
  | [.inr a, .inr b, .inr c, .inl .null] => a == (50, 0, 0) && b == (6, 0, 0) && c == (7, 0, 0)
  | _ => false
def chk1 (st : zS) : Bool := st.1 == 16 && isL st.2.1 && st.2.2.1.isEmpty && decide (st.2.2.2.2.1 ≤ 600000) && decide (st.2.2.2.2.2 ≤ 7302250)
def chk2 (h : zH) : Bool := h.1.length == hK0.length && hK0.all fun k => h.1.contains (kσ k)
def chk3 (h : zH) : Bool := hK0.all fun k => decide (k.1 < 8) || h.2.1 (kσ k) == hln k
def chk4 (h : zH) : Bool := hK0.all fun k => decide (12 ≤ k.1) || (List.range (if k.1 < 8 then zN k.1 else hln k)).all fun f => h.2.2.1 (kσ k) f == (hrf k f).map kσ
def mk0 (h : zH) (k : zK) (f : Nat) : Int32 := h.2.2.2.1 (kσ k) f
def chk5 (h : zH) : Bool := [2, 3, 4, 5, 6].all (fun f => mk0 h (0, 0, 0) f == 0) && [0, 1, 2, 3].all (fun f => mk0 h (20, 0, 0) f == 0) && [3, 5, 8].all (fun f => mk0 h (7, 0, 0) f == 0) && mk0 h (1, 0, 0) 1 == 0 && mk0 h (6, 0, 0) 2 == 0 && (List.range 7).all (fun c => mk0 h (17, 0, 0) c == mk0 h (23, 0, 0) c) && (List.range 4).all (fun l => mk0 h (4, l, 0) 1 == -1 && mk0 h (28, 0, 0) l == -1) && (List.range 3).all (fun r => mk0 h (4, 4 + r, 0) 1 == -1 && mk0 h (31, 0, 0) r == -1)
/-- the table of what runs then -/
def Tp : zTab := (fun M pc => if M = 243 then (if pc < 16 then zcd X00 243 pc else none) else if M = 231 ∨ 243 < M then none else zcd X00 M pc, znL, zmc, zms)
theorem tst : (match zrun Tp 20000 8 13 243 st00 with
  | some st => chk1 st && chk2 st.2.2.2.1 && chk3 st.2.2.2.1 && chk4 st.2.2.2.1 && chk5 st.2.2.2.1
  | none => false) = true := by decide +kernel
theorem mk_run : ∃ st, zrun Tp 20000 8 13 243 st00 = some st ∧ chk1 st = true ∧ chk2 st.2.2.2.1 = true ∧ chk3 st.2.2.2.1 = true ∧ chk4 st.2.2.2.1 = true ∧ chk5 st.2.2.2.1 = true := by
  have t := tst
  cases h : zrun Tp 20000 8 13 243 st00 with
  | none => rw [h] at t; exact absurd t Bool.false_ne_true
  | some st =>
    rw [h] at t
    have t' : (chk1 st && chk2 st.2.2.2.1 && chk3 st.2.2.2.1 && chk4 st.2.2.2.1 && chk5 st.2.2.2.1) = true := t
    simp only [Bool.and_eq_true] at t'
    obtain ⟨⟨⟨⟨a, b⟩, c⟩, d⟩, e⟩ := t'
    exact ⟨st, rfl, a, b, c, d, e⟩
theorem zstep_tab {T T' : zTab} (h1 : ∀ M pc i, T'.1 M pc = some i → T.1 M pc = some i) (h2 : T'.2 = T.2) {e1 e2 : Nat → Nat → zS → Option zR} (h : ∀ d M st r, e1 d M st = some r → e2 d M st = some r) {d M : Nat} {st : zS} {y : zS ⊕ zR} (hs : zstep T' e1 d M st = some y) : zstep T e2 d M st = some y := by
  have hs := zstep_mono h hs
  unfold zstep at hs ⊢
  cases hi : T'.1 M st.1 with
  | none => rw [hi] at hs; cases hs
  | some i =>
    rw [hi] at hs
    rw [h1 _ _ _ hi, ← h2]
    exact hs
theorem zrun_tab {T T' : zTab} (h1 : ∀ M pc i, T'.1 M pc = some i → T.1 M pc = some i) (h2 : T'.2 = T.2) : ∀ (n d M : Nat) (st : zS) (r : zR), zexec T' n d M st = some r → zexec T n d M st = some r := by
  intro n
  induction n with
  | zero => intro d M st r h; cases h
  | succ n ih =>
    intro d M st r h
    unfold zexec at h ⊢
    cases hs : zstep T' (zexec T' n) d M st with
    | none => rw [hs] at h; cases h
    | some y =>
      have e := zstep_tab h1 h2 ih hs
      rw [hs] at h
      rw [e]
      cases y with
      | inl st' => exact ih d M st' r h
      | inr r2 => exact h
theorem zrun_s {T T' : zTab} (h1 : ∀ M pc i, T'.1 M pc = some i → T.1 M pc = some i) (h2 : T'.2 = T.2) (N : Nat) : ∀ (j d M : Nat) (st st' : zS), zrun T' N j d M st = some st' → zrun T N j d M st = some st' := by
  intro j
  induction j with
  | zero => intro d M st st' h; exact h
  | succ j ih =>
    intro d M st st' h
    unfold zrun at h ⊢
    cases hs : zstep T' (zexec T' N) d M st with
    | none => rw [hs] at h; cases h
    | some y =>
      have e := zstep_tab h1 h2 (zrun_tab h1 h2 N) hs
      rw [hs] at h
      rw [e]
      cases y with
      | inl st2 => exact ih d M st2 st' h
      | inr r2 => cases h
