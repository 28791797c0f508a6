/-! THE MODEL'S ROW of numbers as the same S, V, P -/
def mi (g : Nat) : Nat := match g with
  | 0 => 5
  | 1 => 6
  | 2 => 0
  | 3 => 1
  | 4 => 2
  | 5 => 3
  | 6 => 4
  | _ => 7
def wo (S : Nat → Int32) (V P : tV) (n : Nat) : Int32 := if n = 0 then S 2 else if n = 1 then S 3 else if n = 2 then S 5 else if n = 3 then S 4 else if n < 29 then V ((n - 4) / 5) ((n - 4) % 5) else P ((n - 29) / 8) (mi ((n - 29) % 8))
def mm (M : zM) (S : Nat → Int32) (V P : tV) (R : Nat → Int32) : zM := fun k f => if k = (20, 0, 0) then (if f < 93 then wo S V P f else M k f) else if k = (7, 0, 0) then R f else M k f
section MM
variable {M : zM} {S : Nat → Int32} {V P : tV} {R : Nat → Int32}
theorem mm_R {f : Nat} : mm M S V P R (7, 0, 0) f = R f := by unfold mm; rw [if_neg (by decide), if_pos rfl]
theorem mm_0 : mm M S V P R (20, 0, 0) 0 = S 2 := rfl
theorem mm_1 : mm M S V P R (20, 0, 0) 1 = S 3 := rfl
theorem mm_2 : mm M S V P R (20, 0, 0) 2 = S 5 := rfl
theorem mm_3 : mm M S V P R (20, 0, 0) 3 = S 4 := rfl
theorem mm_V {j f : Nat} (hj : j < 5) (hf : f < 5) : mm M S V P R (20, 0, 0) (4 + 5 * j + f) = V j f := by
  unfold mm wo
  rw [if_pos rfl, if_pos (by omega), if_neg (by omega), if_neg (by omega), if_neg (by omega), if_neg (by omega), if_pos (by omega), show (4 + 5 * j + f - 4) / 5 = j by omega, show (4 + 5 * j + f - 4) % 5 = f by omega]
theorem mm_V0 {j : Nat} (hj : j < 5) : mm M S V P R (20, 0, 0) (4 + 5 * j) = V j 0 := mm_V (f := 0) hj (by decide)
theorem mm_P {p g : Nat} (hp : p < 8) (hg : g < 8) : mm M S V P R (20, 0, 0) (29 + 8 * p + g) = P p (mi g) := by
  unfold mm wo
  rw [if_pos rfl, if_pos (by omega), if_neg (by omega), if_neg (by omega), if_neg (by omega), if_neg (by omega), if_neg (by omega), show (29 + 8 * p + g - 29) / 8 = p by omega, show (29 + 8 * p + g - 29) % 8 = g by omega]
theorem mm_P0 {p : Nat} (hp : p < 8) : mm M S V P R (20, 0, 0) (29 + 8 * p) = P p 5 := mm_P (g := 0) hp (by decide)
theorem mm_o {k : zK} {f : Nat} (h1 : ¬ k = (20, 0, 0)) (h2 : ¬ k = (7, 0, 0)) : mm M S V P R k f = M k f := by unfold mm; rw [if_neg h1, if_neg h2]
theorem mm_uR {f : Nat} {x : Int32} : u2 (mm M S V P R) (7, 0, 0) f x = mm M S V P (uS R f x) := by
  funext k n
  unfold u2 mm uS
  by_cases h1 : k = (7, 0, 0)
  · subst h1
    by_cases h2 : n = f
    · simp [h2]
    · simp [h2]
  · simp [h1]
theorem mm_uS {q s : Nat} {x : Int32} (hq : (q = 0 ∧ s = 2) ∨ (q = 1 ∧ s = 3) ∨ (q = 2 ∧ s = 5) ∨ (q = 3 ∧ s = 4)) : u2 (mm M S V P R) (20, 0, 0) q x = mm M (uS S s x) V P R := by
  funext k n
  unfold u2 mm
  by_cases h1 : k = (20, 0, 0)
  · subst h1
    by_cases h2 : n = q
    · subst h2
      rcases hq with ⟨rfl, rfl⟩ | ⟨rfl, rfl⟩ | ⟨rfl, rfl⟩ | ⟨rfl, rfl⟩ <;> rfl
    · rw [if_neg (fun e => h2 e.2), if_pos rfl, if_pos rfl]
      unfold wo uS
      rcases hq with ⟨rfl, rfl⟩ | ⟨rfl, rfl⟩ | ⟨rfl, rfl⟩ | ⟨rfl, rfl⟩ <;> simp [h2]
  · simp [h1]
theorem mm_uV {j f : Nat} {x : Int32} (hj : j < 5) (hf : f < 5) : u2 (mm M S V P R) (20, 0, 0) (4 + 5 * j + f) x = mm M S (uV V j f x) P R := by
  funext k n
  unfold u2
  by_cases h1 : k = (20, 0, 0)
  · subst h1
    by_cases h2 : n = 4 + 5 * j + f
    · rw [if_pos ⟨rfl, h2⟩, h2, mm_V hj hf]
      exact uV_s.symm
    · rw [if_neg (fun e => h2 e.2)]
      unfold mm wo
      rw [if_pos rfl, if_pos rfl]
      by_cases h3 : n < 93
      · rw [if_pos h3, if_pos h3]
        by_cases h4 : n < 29
        · by_cases h5 : n < 4
          · rcases (show n = 0 ∨ n = 1 ∨ n = 2 ∨ n = 3 by omega) with rfl | rfl | rfl | rfl <;> rfl
          · rw [if_neg (by omega), if_neg (by omega), if_neg (by omega), if_neg (by omega), if_pos h4, if_neg (by omega), if_neg (by omega), if_neg (by omega), if_neg (by omega), if_pos h4]
            unfold uV
            rw [if_neg (by omega)]
        · simp only [if_neg h4]
      · rw [if_neg h3, if_neg h3]
  · rw [if_neg (fun e => h1 e.1)]
    unfold mm
    rw [if_neg h1, if_neg h1]
theorem mi_inj : ∀ a, a < 8 → ∀ b, b < 8 → mi a = mi b → a = b := by decide
theorem mm_uP {p g : Nat} {x : Int32} (hp : p < 8) (hg : g < 8) : u2 (mm M S V P R) (20, 0, 0) (29 + 8 * p + g) x = mm M S V (uV P p (mi g) x) R := by
  funext k n
  unfold u2
  by_cases h1 : k = (20, 0, 0)
  · subst h1
    by_cases h2 : n = 29 + 8 * p + g
    · rw [if_pos ⟨rfl, h2⟩, h2, mm_P hp hg]
      exact uV_s.symm
    · rw [if_neg (fun e => h2 e.2)]
      unfold mm wo
      rw [if_pos rfl, if_pos rfl]
      by_cases h3 : n < 93
      · rw [if_pos h3, if_pos h3]
        by_cases h4 : n < 29
        · simp only [if_pos h4]
        · rw [if_neg (by omega), if_neg (by omega), if_neg (by omega), if_neg (by omega), if_neg h4, if_neg (by omega), if_neg (by omega), if_neg (by omega), if_neg (by omega), if_neg h4]
          unfold uV
          rw [if_neg (fun e => by
            have := mi_inj ((n - 29) % 8) (Nat.mod_lt _ (by decide)) g hg e.2
            omega)]
      · rw [if_neg h3, if_neg h3]
  · rw [if_neg (fun e => h1 e.1)]
    unfold mm
    rw [if_neg h1, if_neg h1]
theorem mm_self : ∃ S V P R, mm M S V P R = M ∧ (∀ q, R q = M (7, 0, 0) q) := by
  refine ⟨fun s => M (20, 0, 0) (if s = 2 then 0 else if s = 3 then 1 else if s = 5 then 2 else 3), fun j f => M (20, 0, 0) (4 + 5 * j + f), fun p s => M (20, 0, 0) (29 + 8 * p + (if s = 5 then 0 else if s = 6 then 1 else if s = 0 then 2 else if s = 1 then 3 else if s = 2 then 4 else if s = 3 then 5 else if s = 4 then 6 else 7)), M (7, 0, 0), ?_, fun _ => rfl⟩
  funext k n
  unfold mm wo
  by_cases h1 : k = (20, 0, 0)
  · subst h1
    rw [if_pos rfl]
    by_cases h3 : n < 93
    · rw [if_pos h3]
      by_cases h5 : n < 4
      · rcases (show n = 0 ∨ n = 1 ∨ n = 2 ∨ n = 3 by omega) with rfl | rfl | rfl | rfl <;> rfl
      · rw [if_neg (by omega), if_neg (by omega), if_neg (by omega), if_neg (by omega)]
        by_cases h4 : n < 29
        · rw [if_pos h4]
          exact congrArg (M (20, 0, 0)) (by omega)
        · rw [if_neg h4]
          have h6 : (n - 29) % 8 < 8 := Nat.mod_lt _ (by decide)
          refine congrArg (M (20, 0, 0)) ?_
          have key : ∀ g, g < 8 → (if mi g = 5 then 0 else if mi g = 6 then 1 else if mi g = 0 then 2 else if mi g = 1 then 3 else if mi g = 2 then 4 else if mi g = 3 then 5 else if mi g = 4 then 6 else 7) = g := by decide
          rw [key _ h6]
          omega
    · rw [if_neg h3]
  · rw [if_neg h1]
    by_cases h2 : k = (7, 0, 0)
    · rw [if_pos h2, h2]
    · rw [if_neg h2]
end MM
theorem mi0 : mi 0 = 5 := rfl
theorem mi1 : mi 1 = 6 := rfl
theorem mi2 : mi 2 = 0 := rfl
theorem mi3 : mi 3 = 1 := rfl
theorem mi4 : mi 4 = 2 := rfl
theorem mi5 : mi 5 = 3 := rfl
theorem mi6 : mi 6 = 4 := rfl
theorem mi7 : mi 7 = 7 := rfl
theorem ni0 (a : Nat) : nI a + 0 = nI a := by rw [show (0 : Int32) = nI 0 from rfl, nI_add]; rfl
theorem ni1 (a : Nat) : nI a + 1 = nI (a + 1) := nI_1 a
theorem ni2 (a : Nat) : nI a + 2 = nI (a + 2) := nI_add a 2
theorem ni3 (a : Nat) : nI a + 3 = nI (a + 3) := nI_add a 3
theorem ni4 (a : Nat) : nI a + 4 = nI (a + 4) := nI_add a 4
theorem ni5 (a : Nat) : nI a + 5 = nI (a + 5) := nI_add a 5
theorem ni6 (a : Nat) : nI a + 6 = nI (a + 6) := nI_add a 6
theorem ni7 (a : Nat) : nI a + 7 = nI (a + 7) := nI_add a 7
theorem niV (j : Nat) : 4 + 5 * nI j = nI (4 + 5 * j) := by rw [show (4 : Int32) = nI 4 from rfl, show (5 : Int32) = nI 5 from rfl, pk_mul, nI_add]
theorem niP (p : Nat) : 29 + 8 * nI p = nI (29 + 8 * p) := by rw [show (29 : Int32) = nI 29 from rfl, show (8 : Int32) = nI 8 from rfl, pk_mul, nI_add]
theorem cV {j f : Nat} (hj : j < 5) (hf : f < 5) : (nI (4 + 5 * j + f)).toNatClampNeg = 4 + 5 * j + f := nI_clamp (by omega)
theorem cV0 {j : Nat} (hj : j < 5) : (nI (4 + 5 * j)).toNatClampNeg = 4 + 5 * j := nI_clamp (by omega)
theorem cP {p g : Nat} (hp : p < 8) (hg : g < 8) : (nI (29 + 8 * p + g)).toNatClampNeg = 29 + 8 * p + g := nI_clamp (by omega)
theorem cP0 {p : Nat} (hp : p < 8) : (nI (29 + 8 * p)).toNatClampNeg = 29 + 8 * p := nI_clamp (by omega)
theorem wV {j f : Nat} (hj : j < 5) (hf : f < 5) : zin (nI (4 + 5 * j + f)) 93 = true := zin_nI (by omega) (by decide)
theorem wV0 {j : Nat} (hj : j < 5) : zin (nI (4 + 5 * j)) 93 = true := zin_nI (by omega) (by decide)
theorem wP {p g : Nat} (hp : p < 8) (hg : g < 8) : zin (nI (29 + 8 * p + g)) 93 = true := zin_nI (by omega) (by decide)
theorem wP0 {p : Nat} (hp : p < 8) : zin (nI (29 + 8 * p)) 93 = true := zin_nI (by omega) (by decide)
theorem w0 : zin 0 93 = true := by decide
theorem w1 : zin 1 93 = true := by decide
theorem w2 : zin 2 93 = true := by decide
theorem w3 : zin 3 93 = true := by decide
theorem t0 : (0 : Int32).toNatClampNeg = 0 := by decide
theorem t1 : (1 : Int32).toNatClampNeg = 1 := by decide
theorem t2 : (2 : Int32).toNatClampNeg = 2 := by decide
theorem t3 : (3 : Int32).toNatClampNeg = 3 := by decide
