/-! THE MODEL'S ROWS as benches; laid aside and back -/
def mb (M : zM) (B : zB) (R : Nat → Int32) : zM := mm M B.1 B.2.1 B.2.2 R
/-- the bench that a row of the model is; o: what is out -/
def gr (M : zM) (k : zK) (o : Int32) : zB := (fun s => if s = 6 then o else M k (if s = 2 then 0 else if s = 3 then 1 else if s = 5 then 2 else 3), fun j f => M k (4 + 5 * j + f), fun p s => M k (29 + 8 * p + (if s = 5 then 0 else if s = 6 then 1 else if s = 0 then 2 else if s = 1 then 3 else if s = 2 then 4 else if s = 3 then 5 else if s = 4 then 6 else 7)))
theorem mm_cS {M : zM} {S S' : Nat → Int32} {V P : tV} {R : Nat → Int32} (h : ∀ f, f = 2 ∨ f = 3 ∨ f = 4 ∨ f = 5 → S f = S' f) : mm M S V P R = mm M S' V P R := by
  funext k f
  unfold mm wo
  rw [h 2 (by decide), h 3 (by decide), h 4 (by decide), h 5 (by decide)]
theorem gr_wo (M : zM) (k : zK) (o : Int32) {n : Nat} (hn : n < 93) : wo (gr M k o).1 (gr M k o).2.1 (gr M k o).2.2 n = M k n := by
  unfold wo gr
  by_cases h5 : n < 4
  · rcases (show n = 0 ∨ n = 1 ∨ n = 2 ∨ n = 3 by omega) with rfl | rfl | rfl | rfl <;> rfl
  · rw [if_neg (by omega), if_neg (by omega), if_neg (by omega), if_neg (by omega)]
    by_cases h4 : n < 29
    · rw [if_pos h4]
      exact congrArg (M k) (by omega)
    · rw [if_neg h4]
      have h6 : (n - 29) % 8 < 8 := Nat.mod_lt _ (by decide)
      refine congrArg (M k) ?_
      have key : ∀ g, g < 8 → (if mi g = 5 then 0 else if mi g = 6 then 1 else if mi g = 0 then 2 else if mi g = 1 then 3 else if mi g = 2 then 4 else if mi g = 3 then 5 else if mi g = 4 then 6 else 7) = g := by decide
      rw [key _ h6]
      omega
theorem mb_self (M : zM) (o : Int32) : mb M (gr M (20, 0, 0) o) (M (7, 0, 0)) = M := by
  funext k n
  unfold mb mm
  by_cases h1 : k = (20, 0, 0)
  · subst h1
    rw [if_pos rfl]
    split
    · rename_i h3
      exact gr_wo M _ o h3
    · rfl
  · rw [if_neg h1]
    split
    · rename_i h2
      rw [h2]
    · rfl
theorem mm_mm {M : zM} {S S' : Nat → Int32} {V V' P P' : tV} {R R' : Nat → Int32} : mm (mm M S V P R) S' V' P' R' = mm M S' V' P' R' := by
  funext k f
  unfold mm
  split
  · split
    · rfl
    · rfl
  · split <;> rfl
theorem B148 (X : Nat × (Nat → Int32) × Value) (d : Nat) (M : zM) (G : zG) (B : zB) (R : Nat → Int32) (nv np : Nat) (h : vb B nv np) (ho : R 5 = B.1 6) : zd X (d + 7) 148 [vR (7, 0, 0)] (hh (mb M B R) G) = some (none, hh (mb M (stp nv np B) (uS R 6 ((stp nv np B).1 8))) G) := by
  have q := nStp_eq (S' := B.1) (o := R 5) h ho (fun _ _ => rfl)
  have c := C148 X d M G B.1 B.2.1 B.2.2 R nv np (vC_end h.1)
  rw [q.2.1, q.2.2.1, q.2.2.2, mm_cS q.1] at c
  exact c
section CPK
variable (X : Nat × (Nat → Int32) × Value) (d : Nat) (M : zM) (G : zG)
def cpK (M : zM) (a b : zK) (n : Nat) : zM := fun k f => if k = b ∧ f < n then M a f else M k f
theorem cpK_0 (M : zM) (a b : zK) : cpK M a b 0 = M := by funext k f; simp [cpK]
theorem cpK_a {M : zM} {a b : zK} {n f : Nat} (h : a ≠ b) : cpK M a b n a f = M a f := by unfold cpK; rw [if_neg fun e => h e.1]
theorem cpK_s (M : zM) (a b : zK) (n : Nat) : u2 (cpK M a b n) b n (M a n) = cpK M a b (n + 1) := by
  funext k f
  unfold u2 cpK
  by_cases h : k = b
  · subst h
    by_cases e : f = n
    · subst e; simp
    · by_cases q : f < n
      · simp [e, q, Nat.lt_succ_of_lt q]
      · have : ¬ f < n + 1 := by omega
        simp [e, q, this]
  · simp [h]
theorem L131 (a b : zK) (h : a ≠ b) (a1 : 13 ≤ a.1) (a2 : a.1 < 40) (b1 : 13 ≤ b.1) (b2 : b.1 < 40) (la : hln a = 93) (lb : hln b = 93) : ∀ (m i : Nat), i + m = 93 → zx X d 131 2 [vR a, vR b, vI (nI i)] [] (hh (cpK M a b i) G) = some (none, hh (cpK M a b 93) G) := by
  intro m
  induction m with
  | zero =>
    intro i hi
    have : i = 93 := by omega
    subst this
    simp only [e131_2, e131_3, e131_5]
    rw [if_pos (by decide)]
    simp only [e131_20]
  | succ m ih =>
    intro i hi
    have hz := zin_nI (i := i) (n := 93) (by omega) (by decide)
    have hza : zin (nI i) (hln a) = true := la ▸ hz
    have hzb : zin (nI i) (hln b) = true := lb ▸ hz
    have hc : (nI i).toNatClampNeg = i := nI_clamp (by omega)
    have hlt : ¬ (93 : Int32) ≤ nI i := nI_ge (b := 93) (by omega) (by omega)
    simp only [e131_2, e131_3, e131_5]
    rw [if_neg hlt]
    simp only [e131_8, e131_9, e131_10, e131_11, e131_12, e131_13, e131_14, e131_17, a1, a2, b1, b2, hza, hzb, hc, cpK_a h, cpK_s, nI_1]
    exact ih (i + 1) (by omega)
theorem C131 (a b : zK) (h : a ≠ b) (a1 : 13 ≤ a.1) (a2 : a.1 < 40) (b1 : 13 ≤ b.1) (b2 : b.1 < 40) (la : hln a = 93) (lb : hln b = 93) : zd X d 131 [vR a, vR b] (hh M G) = some (none, hh (cpK M a b 93) G) := by
  have l := L131 X d M G a b h a1 a2 b1 b2 la lb 93 0 (by omega)
  rw [cpK_0, nI_0] at l
  simp only [E131, e131_0, e131_1]
  exact l
theorem C150 : zd X (d + 1) 150 [vR (7, 0, 0)] (hh M G) = some (none, hh (cpK M (20, 0, 0) (21, 0, 0) 93) G) := by
  simp only [E150, e150_0, e150_1, e150_4, e150_5, e150_8, e150_11, zt0, zt1, zn3, not_false_eq_true, toListS, toListN, zk_some, zpi, C131 X _ M G (20, 0, 0) (21, 0, 0) (by decide) (by decide) (by decide) (by decide) (by decide) rfl rfl]
theorem C151 : zd X (d + 1) 151 [vR (7, 0, 0)] (hh M G) = some (none, hh (u2 (cpK M (21, 0, 0) (20, 0, 0) 93) (7, 0, 0) 5 0) G) := by
  simp only [E151, e151_0, e151_1, e151_4, e151_5, e151_8, e151_11, e151_12, e151_13, e151_16, zt0, zt1, zn3, not_false_eq_true, toListS, toListN, zk_some, zpi, C131 X _ M G (21, 0, 0) (20, 0, 0) (by decide) (by decide) (by decide) (by decide) (by decide) rfl rfl]
end CPK
/-- what calls look at later -/
def per (k : zK) (f : Nat) : Bool := match k.1 with
  | 0 => k.2.1 < 2
  | 3 => k.2.1 < 2
  | 5 => k.2.1 < 2
  | 1 => f == 1
  | 2 => false
  | 7 => f == 3 || f == 5 || f == 8
  | 14 => false
  | 21 => false
  | 25 => false
  | 26 => false
  | 27 => false
  | _ => true
def sm (M M' : zM) : Prop := ∀ k f, per k f = true → M' k f = M k f
theorem sm_r (M : zM) : sm M M := fun _ _ _ => rfl
theorem sm_t {M N O : zM} (a : sm M N) (b : sm N O) : sm M O := fun k f h => (b k f h).trans (a k f h)
theorem sm_cb {M : zM} {b : Nat} {B : zB} (h : 2 ≤ b) : sm M (cb M b B) := by
  intro k f hk
  obtain ⟨k1, k2, k3⟩ := k
  refine cm_o ⟨?_, ?_, ?_⟩
  · rintro ⟨rfl, e⟩
    cases e
    simp [per] at hk
    omega
  · rintro ⟨rfl, rfl⟩
    simp [per] at hk h
    omega
  · rintro ⟨rfl, rfl⟩
    simp [per] at hk h
    omega
/-- thought, and back: as it was -/
theorem sm_back {M : zM} {B : zB} {R : Nat → Int32} (h3 : R 3 = M (7, 0, 0) 3) (h5 : M (7, 0, 0) 5 = 0) (h8 : R 8 = M (7, 0, 0) 8) : sm M (u2 (cpK (mb (cpK M (20, 0, 0) (21, 0, 0) 93) B R) (21, 0, 0) (20, 0, 0) 93) (7, 0, 0) 5 0) := by
  intro k f hk
  unfold u2 cpK mb mm
  by_cases e7 : k = (7, 0, 0)
  · subst e7
    simp [per] at hk
    rcases hk with (rfl | rfl) | rfl
    · simp [h3]
    · simp [h5]
    · simp [h8]
  · by_cases e20 : k = (20, 0, 0)
    · subst e20
      by_cases q : f < 93
      · simp [q]
      · simp [q]
    · by_cases e21 : k = (21, 0, 0)
      · subst e21
        simp [per] at hk
      · simp [e7, e20, e21]
