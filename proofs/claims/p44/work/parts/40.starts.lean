/-! starts, turns -/
def sta (nv np : Nat) (B : zB) (p : Nat) : Int32 := if B.2.2 p 7 = 0 then (if (stp nv np B).2.2 p 7 = 0 then 0 else 1) else 0
def Qst (nv np : Nat) (B : zB) (p s : Nat) : Bool := decide (¬ sta nv np (bst nv np B (s - 1)) p = 0)
theorem sta_c {nv np : Nat} {B C : zB} (h : vb B nv np) (h6 : B.1 6 = 0) (a : ag nv np B C) (p : Nat) (hp : p < np) : sta nv np B p = sta nv np C p := by
  have n8 : np ≤ 8 := h.1.2.2.2.1
  have e1 := a.2.2 p 7 hp (by decide) (fun _ => by rw [h6]; exact out_0 p)
  have e2 := (stp_c h a).1.2.2 p 7 hp (by decide) (fun _ => by rw [show (stp nv np B).1 6 = 0 from sStp_6.trans h6]; exact out_0 p)
  unfold sta
  rw [e1, e2]
