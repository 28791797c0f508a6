/-! LOOPS, said once; STEPS of both sides as one row; turns -/
theorem zlr {σ : Type} {n : Nat} {f : Nat → σ → Option zR} {P : Nat → σ → Prop} (h : ∀ i s, i < n → P i s → ∃ s', P (i + 1) s' ∧ ∀ w, f (i + 1) s' = w → f i s = w) : ∀ (m i : Nat) (s : σ), i + m = n → P i s → ∃ s', P n s' ∧ f i s = f n s' := by
  intro m
  induction m with
  | zero =>
    intro i s hi hp
    have : i = n := by omega
    subst this
    exact ⟨s, hp, rfl⟩
  | succ m ih =>
    intro i s hi hp
    obtain ⟨s1, p1, e1⟩ := h i s (by omega) hp
    obtain ⟨s2, p2, e2⟩ := ih (i + 1) s1 (by omega) p1
    exact ⟨s2, p2, (e1 _ rfl).trans e2⟩
theorem zlf {n : Nat} {f : Nat → Option zR} (h : ∀ i, i < n → ∀ w, f (i + 1) = w → f i = w) : ∀ (m i : Nat), i + m = n → f i = f n := by
  intro m
  induction m with
  | zero =>
    intro i hi
    have : i = n := by omega
    subst this
    rfl
  | succ m ih =>
    intro i hi
    exact (h i (by omega) _ rfl).trans (ih (i + 1) (by omega))
/-- the first from s on, of m, for which Q; s + m if there is none -/
def fi (Q : Nat → Bool) (s : Nat) : Nat → Nat
  | 0 => s
  | m + 1 => if Q s = true then s else fi Q (s + 1) m
theorem fi_b {Q : Nat → Bool} : ∀ (m s : Nat), s ≤ fi Q s m ∧ fi Q s m ≤ s + m := by
  intro m
  induction m with
  | zero => intro s; exact ⟨Nat.le_refl _, Nat.le_refl _⟩
  | succ m ih =>
    intro s
    unfold fi
    by_cases h : Q s = true
    · rw [if_pos h]; omega
    · rw [if_neg h]; have := ih (s + 1); omega
theorem fi_t {Q : Nat → Bool} : ∀ (m s : Nat), fi Q s m < s + m → Q (fi Q s m) = true := by
  intro m
  induction m with
  | zero => intro s h; unfold fi at h; omega
  | succ m ih =>
    intro s h
    unfold fi at h ⊢
    by_cases q : Q s = true
    · rw [if_pos q]; exact q
    · rw [if_neg q] at h ⊢; exact ih (s + 1) (by omega)
theorem fi_n {Q : Nat → Bool} : ∀ (m s k : Nat), s ≤ k → k < fi Q s m → Q k = false := by
  intro m
  induction m with
  | zero => intro s k h1 h2; unfold fi at h2; omega
  | succ m ih =>
    intro s k h1 h2
    unfold fi at h2
    by_cases q : Q s = true
    · rw [if_pos q] at h2; omega
    · rw [if_neg q] at h2
      by_cases e : s = k
      · subst e; exact Bool.not_eq_true _ ▸ q
      · exact ih (s + 1) k (by omega) h2
theorem fi_c {Q Q' : Nat → Bool} : ∀ (m s : Nat), (∀ k, s ≤ k → k < s + m → Q k = Q' k) → fi Q s m = fi Q' s m := by
  intro m
  induction m with
  | zero => intro s _; rfl
  | succ m ih =>
    intro s h
    unfold fi
    rw [h s (by omega) (by omega), ih (s + 1) fun k h1 h2 => h k (by omega) (by omega)]
theorem zsr {σ : Type} {n : Nat} {f : Nat → σ → Option zR} {P : Nat → σ → Prop} {Q : Nat → Bool} (h : ∀ i s, i < n → P i s → Q i = false → ∃ s', P (i + 1) s' ∧ ∀ w, f (i + 1) s' = w → f i s = w) : ∀ (m i : Nat) (s : σ), i + m = n → P i s → ∃ s', P (fi Q i m) s' ∧ f i s = f (fi Q i m) s' := by
  intro m
  induction m with
  | zero => intro i s _ hp; exact ⟨s, hp, rfl⟩
  | succ m ih =>
    intro i s hi hp
    unfold fi
    by_cases q : Q i = true
    · rw [if_pos q]; exact ⟨s, hp, rfl⟩
    · rw [if_neg q]
      obtain ⟨s1, p1, e1⟩ := h i s (by omega) hp (Bool.not_eq_true _ ▸ q)
      obtain ⟨s2, p2, e2⟩ := ih (i + 1) s1 (by omega) p1
      exact ⟨s2, p2, (e1 _ rfl).trans e2⟩
theorem nlt {a b : Nat} (ha : a < 2 ^ 31) (hb : b < 2 ^ 31) : (nI a < nI b) = (a < b) := by rw [i_lt, nI_int ha, nI_int hb]; exact propext (by omega)
theorem nle {a b : Nat} (ha : a < 2 ^ 31) (hb : b < 2 ^ 31) : (nI a ≤ nI b) = (a ≤ b) := by rw [i_le, nI_int ha, nI_int hb]; exact propext (by omega)
theorem neq {a b : Nat} (ha : a < 2 ^ 31) (hb : b < 2 ^ 31) : (nI a = nI b) = (a = b) := propext ⟨fun h => by have := congrArg Int32.toInt h; rw [nI_int ha, nI_int hb] at this; omega, fun h => by rw [h]⟩
def rS (nv np : Nat) (B : zB) (R : Nat → Int32) : Nat → Nat → Int32
  | 0 => R
  | n + 1 => uS R 6 ((bst nv np B (n + 1)).1 8)
theorem rS_o {nv np : Nat} {B : zB} {R : Nat → Int32} {n f : Nat} (h : f ≠ 6) : rS nv np B R n f = R f := by
  cases n with
  | zero => rfl
  | succ n => exact uS_n h
theorem rS_s {nv np : Nat} {B : zB} {R : Nat → Int32} {n : Nat} : uS (rS nv np B R n) 6 ((bst nv np B (n + 1)).1 8) = rS nv np B R (n + 1) := by
  cases n with
  | zero => rfl
  | succ n => exact uS_uS
section WS
variable (X : Nat × (Nat → Int32) × Value) (d : Nat) (M : zM) (G : zG)
theorem W11 {nv np : Nat} {B : zB} (h : vb B nv np) (n : Nat) : zd X (d + 3) 11 [vR (0, 3, 0)] (hh (cb M 3 (bst nv np B n)) G) = some (none, hh (cb M 3 (bst nv np B (n + 1))) G) := B11 X d M G 3 _ nv np (bst_v h n)
end WS
theorem ni_0 {x : Int32} : x + 0 = x := Int32.add_zero x
def tns (nv np : Nat) (B : zB) (p : Nat) : Nat → Int32
  | 0 => 0
  | n + 1 => if sta nv np (bst nv np B n) p = 0 then tns nv np B p n else tns nv np B p n + 1
theorem tns_c {nv np : Nat} {B C : zB} (h : vb B nv np) (h6 : B.1 6 = 0) (a : ag nv np B C) (p : Nat) (hp : p < np) : ∀ n, tns nv np B p n = tns nv np C p n := by
  intro n
  induction n with
  | zero => rfl
  | succ n ih =>
    unfold tns
    rw [ih, sta_c (bst_v h n) ((bst_6 n).trans h6) (bst_c h a n) p hp]
