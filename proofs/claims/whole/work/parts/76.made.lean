/-! what is made first -/
def zrun (T : zTab) (N : Nat) : Nat → Nat → Nat → zS → Option zS
  | 0, _, _, st => some st
  | j + 1, d, M, st => match zstep T (zexec T N) d M st with
    | some (.inl st') => zrun T N j d M st'
    | _ => none
def hN : zH := ([], fun _ => 0, fun _ _ => none, fun _ _ => 0, fun _ _ => 0)
def X00 : Nat × (Nat → Int32) × Value := (0, fun _ => 0, .null)
def st00 : zS := (0, [vR (50, 0, 0), vN, vN, vN], [], hN, 0, 0)
/-- the key that a row had when it was made -/
def kσ (k : zK) : zK := if k.1 = 5 then (5, 5 * k.2.1 + k.2.2, 0) else if k.1 = 3 then (3, 8 * k.2.1 + k.2.2, 0) else k
def isL : List zV → Bool
  | [.inr a, .inr b, .inr c, .inl .null] => a == (50, 0, 0) && b == (6, 0, 0) && c == (7, 0, 0)
  | _ => false
def chk1 (st : zS) : Bool := st.1 == 16 && isL st.2.1 && st.2.2.1.isEmpty && decide (st.2.2.2.2.1 ≤ 600000) && decide (st.2.2.2.2.2 ≤ 7302250)
def chk2 (h : zH) : Bool := h.1.length == hK0.length && hK0.all fun k => h.1.contains (kσ k)
def chk3 (h : zH) : Bool := hK0.all fun k => decide (k.1 < 8) || h.2.1 (kσ k) == hln k
def chk4 (h : zH) : Bool := hK0.all fun k => decide (12 ≤ k.1) || (List.range (if k.1 < 8 then zN k.1 else hln k)).all fun f => h.2.2.1 (kσ k) f == (hrf k f).map kσ
theorem tst : (match zrun (zTX X00) 20000 8 13 243 st00 with
  | some st => chk1 st && chk2 st.2.2.2.1 && chk3 st.2.2.2.1 && chk4 st.2.2.2.1
  | none => false) = true := by decide +kernel
