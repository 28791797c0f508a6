/-! THE MODEL'S ROWS as benches; laid aside and back -/
/-- what calls look at later -/
def per (k : zK) (f : Nat) : Bool := match k.1 with
  | 0 => k.2.1 < 2
  | 3 => k.2.1 < 2
  | 5 => k.2.1 < 2
  | 1 => f == 1
  | 2 => false
  | 7 => f == 3 || f == 5 || f == 8
  | 14 => false
  | 21 => false
  | 25 => false
  | 26 => false
  | 27 => false
  | _ => true
def sm (M M' : zM) : Prop := ∀ k f, per k f = true → M' k f = M k f
theorem sm_r (M : zM) : sm M M := fun _ _ _ => rfl
theorem sm_t {M N O : zM} (a : sm M N) (b : sm N O) : sm M O := fun k f h => (b k f h).trans (a k f h)
theorem sm_cb {M : zM} {b : Nat} {B : zB} (h : 2 ≤ b) : sm M (cb M b B) := by
  intro k f hk
  obtain ⟨k1, k2, k3⟩ := k
  refine cm_o ⟨?_, ?_, ?_⟩
  · rintro ⟨rfl, e⟩
    cases e
    simp [per] at hk
    omega
  · rintro ⟨rfl, rfl⟩
    simp [per] at hk h
    omega
  · rintro ⟨rfl, rfl⟩
    simp [per] at hk h
    omega
