/-! WHAT A BENCH DOES, said of its numbers: S scalars (as the class has them: 2 vessels, 3 pipes, 4 sump, 5 step, 6 out, 7 lost, 8 lostBits), V vessels, P pipes (as the class has them) -/
def imin (a b : Int32) : Int32 := if b < a then b else a
def imax (a b : Int32) : Int32 := if a < b then b else a
def iabs (a : Int32) : Int32 := if 0 ≤ a then a else -a
abbrev tV : Type := Nat → Nat → Int32
def vw (M : zM) (b : Nat) : tV := fun j f => M (5, b, j) f
def pw (M : zM) (b : Nat) : tV := fun p g => M (3, b, p) g
def sHt (V : tV) (j : Nat) : Int32 := V j 1 * V j 0 + V j 3
def sBr (V : tV) (j : Nat) : Int32 := V j 0 * V j 2
def sHd (V : tV) (j : Nat) (m : Int32) : Int32 := if sHt V j ≤ m * V j 0 then m * V j 0 else sHt V j
def sWa (V : tV) (j : Nat) (m : Int32) : Int32 := if (V j 1 - m) * V j 0 + V j 3 ≤ 0 then 0 else (V j 1 - m) * V j 0 + V j 3
def sSi (P : tV) (p : Nat) : Int32 := if P p 5 = 1 then 1 else if P p 5 = 3 then 1 else 0
def sCr (V P : tV) (p a : Nat) : Int32 := if P p 5 = 3 then if V a 1 + V a 2 - P p 6 ≤ P p 2 then P p 2 else V a 1 + V a 2 - P p 6 else P p 2 + P p 6 + 1
def sAt (V P : tV) (p a : Nat) : Int32 := if sHt V a < sCr V P p a * V a 0 then 0 else 1
def sWi (P : tV) (p : Nat) (st : Int32) : Int32 := if P p 5 = 3 then 2 * P p 4 else if P p 5 = 4 then 2147483647 else if P p 5 = 5 then if st - st / 3 * 3 = P p 6 - P p 6 / 3 * 3 then P p 4 else 0 else P p 4
def sUn (V P : tV) (p a b : Nat) : Int32 := sHd V a (P p 2) * V b 0 - sHd V b (P p 3) * V a 0
def sFl (V P : tV) (p a b : Nat) (st : Int32) : Int32 := if 1 ≤ V a 0 + V b 0 then if sUn V P p a b ≤ 0 then if P p 5 = 0 then -imin (P p 4) (imin (sWa V b (P p 3)) (-sUn V P p a b / (V a 0 + V b 0))) else 0 else imin (sWi P p st) (imin (sWa V a (P p 2)) (sUn V P p a b / (V a 0 + V b 0))) else 0
def sHv (S : Nat → Int32) (x : Int32) : Int32 := if x < 0 then 0 else if S 2 ≤ x then 0 else 1
def sHp (S : Nat → Int32) (x : Int32) : Int32 := if x < 0 then 0 else if S 3 ≤ x then 0 else 1
section C1
variable (X : Nat × (Nat → Int32) × Value) (d : Nat) (M : zM) (G : zG)
theorem C2 (b : Nat) (x : Int32) : zd X d 2 [vR (0, b, 0), vI x] (hh M G) = some (some (vI (sHv (M (0, b, 0)) x)), hh M G) := D2 X d M G b x
theorem C3 (b : Nat) (x : Int32) : zd X d 3 [vR (0, b, 0), vI x] (hh M G) = some (some (vI (sHp (M (0, b, 0)) x)), hh M G) := D3 X d M G b x
theorem C55 (b p : Nat) : zd X d 55 [vR (3, b, p)] (hh M G) = some (some (vI (sSi (pw M b) p)), hh M G) := D55 X d M G b p
theorem C56 (b p a : Nat) : zd X d 56 [vR (3, b, p), vR (5, b, a)] (hh M G) = some (some (vI (sCr (vw M b) (pw M b) p a)), hh M G) := D56 X d M G b p b a
theorem C57 (b p a : Nat) : zd X (d + 1) 57 [vR (3, b, p), vR (5, b, a)] (hh M G) = some (some (vI (sAt (vw M b) (pw M b) p a)), hh M G) := D57 X d M G b p b a
theorem C67 (b a : Nat) : zd X d 67 [vR (5, b, a)] (hh M G) = some (some (vI (sBr (vw M b) a)), hh M G) := D67 X d M G b a
theorem C68 (b a : Nat) : zd X d 68 [vR (5, b, a)] (hh M G) = some (some (vI (sHt (vw M b) a)), hh M G) := D68 X d M G b a
theorem C70 (b a : Nat) (m : Int32) : zd X d 70 [vR (5, b, a), vI m] (hh M G) = some (some (vI (sWa (vw M b) a m)), hh M G) := D70 X d M G b a m
theorem C58 (c p a b : Nat) (st : Int32) (hA : ¬ vw M c a 0 + vw M c b 0 = 0) : zd X (d + 1) 58 [vR (3, c, p), vR (5, c, a), vR (5, c, b), vI st] (hh M G) = some (some (vI (sFl (vw M c) (pw M c) p a b st)), hh M G) := D58 X d M G c p c a c b st hA
end C1
/-! a bench's numbers laid over a memory -/
def cm (M : zM) (b : Nat) (S : Nat → Int32) (V P : tV) : zM := fun k f => if k.1 = 0 ∧ k.2 = (b, 0) then S f else if k.1 = 5 ∧ k.2.1 = b then V k.2.2 f else if k.1 = 3 ∧ k.2.1 = b then P k.2.2 f else M k f
def uS (S : Nat → Int32) (f : Nat) (x : Int32) : Nat → Int32 := fun f' => if f' = f then x else S f'
def uV (V : tV) (j f : Nat) (x : Int32) : tV := fun j' f' => if j' = j ∧ f' = f then x else V j' f'
section CM
variable {M : zM} {b : Nat} {S : Nat → Int32} {V P : tV}
theorem cm_S {f : Nat} : cm M b S V P (0, b, 0) f = S f := if_pos ⟨rfl, rfl⟩
theorem cm_Sf : cm M b S V P (0, b, 0) = S := funext fun _ => cm_S
theorem cm_V {j f : Nat} : cm M b S V P (5, b, j) f = V j f := by unfold cm; rw [if_neg (fun q => nomatch q.1), if_pos ⟨rfl, rfl⟩]
theorem cm_P {p g : Nat} : cm M b S V P (3, b, p) g = P p g := by unfold cm; rw [if_neg (fun q => nomatch q.1), if_neg (fun q => nomatch q.1), if_pos ⟨rfl, rfl⟩]
theorem cm_vw : vw (cm M b S V P) b = V := funext fun _ => funext fun _ => cm_V
theorem cm_pw : pw (cm M b S V P) b = P := funext fun _ => funext fun _ => cm_P
theorem cm_o {k : zK} {f : Nat} (h : ¬ (k.1 = 0 ∧ k.2 = (b, 0)) ∧ ¬ (k.1 = 5 ∧ k.2.1 = b) ∧ ¬ (k.1 = 3 ∧ k.2.1 = b)) : cm M b S V P k f = M k f := by unfold cm; rw [if_neg h.1, if_neg h.2.1, if_neg h.2.2]
theorem cm_uS {f : Nat} {x : Int32} : u2 (cm M b S V P) (0, b, 0) f x = cm M b (uS S f x) V P := by
  funext k g
  unfold u2 cm uS
  by_cases h1 : k.1 = 0 ∧ k.2 = (b, 0)
  · have hk : k = (0, b, 0) := Prod.ext h1.1 h1.2
    simp [hk]
  · have hk : k ≠ (0, b, 0) := fun e => h1 (by rw [e]; exact ⟨rfl, rfl⟩)
    simp [h1, hk]
theorem cm_uV {j f : Nat} {x : Int32} : u2 (cm M b S V P) (5, b, j) f x = cm M b S (uV V j f x) P := by
  funext k g
  obtain ⟨k1, k2, k3⟩ := k
  unfold u2 cm uV
  by_cases h1 : k1 = 5 ∧ k2 = b
  · obtain ⟨rfl, rfl⟩ := h1
    simp
  · have hk : ¬ ((k1, k2, k3) = (5, b, j)) := fun e => h1 ⟨congrArg Prod.fst e, congrArg (fun q : zK => q.2.1) e⟩
    simp [h1, hk]
theorem cm_uP {j f : Nat} {x : Int32} : u2 (cm M b S V P) (3, b, j) f x = cm M b S V (uV P j f x) := by
  funext k g
  obtain ⟨k1, k2, k3⟩ := k
  unfold u2 cm uV
  by_cases h1 : k1 = 3 ∧ k2 = b
  · obtain ⟨rfl, rfl⟩ := h1
    simp
  · have hk : ¬ ((k1, k2, k3) = (3, b, j)) := fun e => h1 ⟨congrArg Prod.fst e, congrArg (fun q : zK => q.2.1) e⟩
    simp [h1, hk]
theorem cm_self : cm M b (M (0, b, 0)) (vw M b) (pw M b) = M := by
  funext k f
  obtain ⟨k1, k2, k3⟩ := k
  unfold cm vw pw
  split
  · rename_i h
    obtain ⟨h1, h2⟩ := h
    dsimp only at h1 h2
    rw [h1, h2]
  · split
    · rename_i h
      obtain ⟨h1, h2⟩ := h
      dsimp only at h1 h2
      rw [h1, h2]
    · split
      · rename_i h
        obtain ⟨h1, h2⟩ := h
        dsimp only at h1 h2
        rw [h1, h2]
      · rfl
end CM
