/-! THE MODEL: heads, flows, turns over its row -/
section MD
variable (X : Nat × (Nat → Int32) × Value) (d : Nat) (M : zM) (G : zG) (S : Nat → Int32) (V P : tV) (R : Nat → Int32)
theorem uS_uS {S : Nat → Int32} {f : Nat} {x y : Int32} : uS (uS S f x) f y = uS S f y := by funext g; unfold uS; split <;> simp_all
theorem ni21 (p : Nat) : nI (29 + 8 * p + 2) + 1 = nI (29 + 8 * p + 3) := nI_add (29 + 8 * p + 2) 1
theorem ni41 (p : Nat) : nI (29 + 8 * p + 4) + 1 = nI (29 + 8 * p + 5) := nI_add (29 + 8 * p + 4) 1
theorem C236 (h : zH) (x : Int32) (M : zM) (G : zG) : zd X d 236 [vI x] (hh M G) = some (some (vI (iabs x)), hh M G) := D236 X d M G x
theorem C238 (x y : Int32) (M : zM) (G : zG) : zd X d 238 [vI x, vI y] (hh M G) = some (some (vI (imin x y)), hh M G) := D238 X d M G x y
def nUn (V P : tV) (p a c : Nat) : Int32 := imax (sHt V a) (P p 2 * V a 0) * V c 0 - imax (sHt V c) (P p 3 * V c 0) * V a 0
def nGo (V P : tV) (p a c e : Nat) (m most : Int32) : Int32 := imin most (imin (iabs (nUn V P p a c) / (V a 0 + V c 0)) (imax 0 (sHt V e - m * V e 0)))
def nCr (V P : tV) (p a : Nat) : Int32 := if P p 5 = 1 then P p 2 + P p 6 + 1 else imax (P p 2) (V a 1 + V a 2 - P p 6)
def nRn (V P : tV) (p a : Nat) : Int32 := if P p 7 = 1 then 1 else if sHt V a < nCr V P p a * V a 0 then 0 else 1
def nRa (stp : Int32) (V P : tV) (p a : Nat) : Int32 := if P p 5 = 1 then (if nRn V P p a = 0 then 0 else P p 4) else if P p 5 = 3 then (if nRn V P p a = 0 then 0 else 2 * P p 4) else if P p 5 = 4 then 2147483647 else if P p 5 = 5 then (if stp - stp / 3 * 3 = P p 6 - P p 6 / 3 * 3 then P p 4 else 0) else P p 4
def nAm (stp : Int32) (V P : tV) (p a c : Nat) : Int32 := if nUn V P p a c ≤ 0 then (if 0 ≤ nUn V P p a c then 0 else if P p 5 = 0 then -nGo V P p a c c (P p 3) (nRa stp V P p a) else 0) else nGo V P p a c a (P p 2) (nRa stp V P p a)
def nSi (P : tV) (p : Nat) : Int32 := if P p 5 = 1 then 1 else if P p 5 = 3 then 1 else 0
def nTw (si stp : Int32) (V P : tV) (p a c : Nat) : tV × tV :=
  let V1 := uV V a 3 (V a 3 - nAm stp V P p a c)
  let V2 := uV V1 c 3 (V1 c 3 + nAm stp V P p a c)
  (V2, if si = 0 then P else if nAm stp V P p a c = 0 then uV P p 7 0 else if imax 0 (sHt V2 a - P p 2 * V2 a 0) = 0 then uV P p 7 0 else P)
def nTn (stp : Int32) (V P : tV) (p a c : Nat) : tV × tV := nTw (nSi P p) stp V (if nSi P p = 0 then P else if nRn V P p a = 0 then P else uV P p 7 1) p a c
def nPs (o stp : Int32) (V P : tV) : Nat → tV × tV
  | 0 => (V, P)
  | i + 1 => if (o >>> (nI i &&& 31)) &&& 1 = 0 then nTn stp (nPs o stp V P i).1 (nPs o stp V P i).2 i (P i 0).toNatClampNeg (P i 1).toNatClampNeg else nPs o stp V P i
theorem nTw_k (si stp : Int32) (V P : tV) (p a c : Nat) : (∀ j f, f ≠ 3 → (nTw si stp V P p a c).1 j f = V j f) ∧ (∀ q g, g ≠ 7 → (nTw si stp V P p a c).2 q g = P q g) := by
  refine ⟨fun j f hf => ?_, fun q g hg => ?_⟩
  · simp only [nTw, uV_f hf]
  · simp only [nTw]
    split
    · rfl
    · split
      · exact uV_f hg
      · split
        · exact uV_f hg
        · rfl
theorem nTn_k (stp : Int32) (V P : tV) (p a c : Nat) : (∀ j f, f ≠ 3 → (nTn stp V P p a c).1 j f = V j f) ∧ (∀ q g, g ≠ 7 → (nTn stp V P p a c).2 q g = P q g) := by
  refine ⟨(nTw_k ..).1, fun q g hg => ((nTw_k ..).2 q g hg).trans ?_⟩
  split
  · rfl
  · split
    · rfl
    · exact uV_f hg
theorem nPs_k (o stp : Int32) (V P : tV) (n : Nat) : (∀ j f, f ≠ 3 → (nPs o stp V P n).1 j f = V j f) ∧ (∀ q g, g ≠ 7 → (nPs o stp V P n).2 q g = P q g) := by
  induction n with
  | zero => exact ⟨fun _ _ _ => rfl, fun _ _ _ => rfl⟩
  | succ n ih =>
    unfold nPs
    split
    · exact ⟨fun j f hf => ((nTn_k ..).1 j f hf).trans (ih.1 j f hf), fun q g hg => ((nTn_k ..).2 q g hg).trans (ih.2 q g hg)⟩
    · exact ih
def nMo (V : tV) (j : Nat) : Int32 := imax 0 (V j 3 - V j 0 * V j 2)
/-- over the rims: S, V, the bits -/
def nSs (S : Nat → Int32) (V : tV) (r : Int32) : Nat → (Nat → Int32) × tV × Int32
  | 0 => (S, V, r)
  | i + 1 =>
    let Z := nSs S V r i
    let mo := nMo Z.2.1 i
    (uS Z.1 4 (if Z.1 4 ≤ 2000000000 - mo then Z.1 4 + mo else 2000000000), uV Z.2.1 i 3 (Z.2.1 i 3 - mo), Z.2.2 ||| (if mo ≤ 0 then (0 : Int32) else 1 <<< (nI i &&& 31)))
theorem nSs_k (S : Nat → Int32) (V : tV) (r : Int32) (n f : Nat) (h4 : f ≠ 4) : (nSs S V r n).1 f = S f := by
  induction n with
  | zero => rfl
  | succ n ih => exact (uS_n h4).trans ih
/-- the model's STEP -/
def nStp (S : Nat → Int32) (V P : tV) (o : Int32) (nv np : Nat) : (Nat → Int32) × tV × tV × Int32 :=
  let W := nPs o (S 5) (tpV V nv) P np
  let Z := nSs S W.1 0 nv
  (uS Z.1 5 (imin 9999 (Z.1 5 + 1)), Z.2.1, W.2, Z.2.2)
end MD
