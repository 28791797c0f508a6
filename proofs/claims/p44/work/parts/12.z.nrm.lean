/-! WHAT THE HEAP IS once all is made: sizes of rows, references -/
def hln (k : zK) : Nat := match k.1 with
  | 8 => 5
  | 9 => 8
  | 10 => 4
  | 11 => 3
  | 12 => if k.2.1 = 0 then 201 else 3
  | 13 => 120
  | 14 => 5
  | 15 => if k.2.1 < 4 then 20 else 9
  | 16 => 3
  | 17 => 7
  | _ => 0
def hrf (k : zK) (f : Nat) : Option zK := match k.1, f with
  | 0, 0 => some (8, k.2.1, 0)
  | 0, 1 => some (9, k.2.1, 0)
  | 1, 0 => some (13, 0, 0)
  | 1, 3 => some (14, 0, 0)
  | 2, 0 => some (0, 3, 0)
  | 2, 1 => some (12, 0, 0)
  | 4, 0 => some (15, k.2.1, 0)
  | 6, 0 => some (0, 0, 0)
  | 6, 1 => some (0, 1, 0)
  | 6, 3 => some (0, 2, 0)
  | 6, 4 => some (2, 0, 0)
  | 6, 5 => some (1, 0, 0)
  | 6, 6 => some (10, 0, 0)
  | 6, 7 => some (11, 0, 0)
  | 6, 8 => some (16, 0, 0)
  | 6, 9 => some (17, 0, 0)
  | 8, j => if j < 5 then some (5, k.2.1, j) else none
  | 9, j => if j < 8 then some (3, k.2.1, j) else none
  | 10, j => if j < 4 then some (4, j, 0) else none
  | 11, j => if j < 3 then some (4, 4 + j, 0) else none
  | _, _ => none
def nrm (h : zH) : zH := (h.1, hln, hrf, h.2.2.2.1, h.2.2.2.2)
def chkK (h : zH) (k : zK) : Bool := decide (k.1 < 40) && (if k.1 < 7 then (List.range (zN k.1)).all (fun f => h.2.2.1 k f == hrf k f) else h.2.1 k == hln k && (decide (12 ≤ k.1) || (List.range (hln k)).all (fun f => h.2.2.1 k f == hrf k f)))
def chkR (h : zH) (k : zK) : Bool := (List.range 32).all fun f => match hrf k f with
  | some k' => h.1.contains k'
  | none => true
def chkN (h : zH) : Bool := h.1.all fun k => chkK h k && chkR h k
/-- an instruction, and the heap is called by its own names from then on -/
def a_nrm (a : zA) : zA := fun d st => match a d st with
  | some (.inl (pc, ls, stk, h, n)) => if chkN h = true then some (.inl (pc, ls, stk, nrm h, n)) else none
  | _ => none
theorem ite_c {α : Type} {c : Prop} {i : Decidable c} {a b a' b' : α} (h1 : c → a = a') (h2 : ¬ c → b = b') : @ite α c i a b = @ite α c i a' b' := by
  by_cases h : c
  · rw [if_pos h, if_pos h]; exact h1 h
  · rw [if_neg h, if_neg h]; exact h2 h
theorem chk_all {α : Type} {l : List α} {p : α → Bool} (h : l.all p = true) {x : α} (hx : x ∈ l) : p x = true := List.all_eq_true.mp h x hx
theorem hrf_12 {k k' : zK} {f : Nat} (h : hrf k f = some k') : f < 32 := by
  unfold hrf at h
  split at h
  all_goals first
    | omega
    | (split at h <;> first | omega | cases h)
    | cases h
theorem zE_nrm {cA : Nat → ClassId} {ad : zK → Nat} {h : zH} {k : zK} (c : chkK h k = true) : zE cA ad (nrm h) k = zE cA ad h k := by
  unfold chkK at c
  rw [Bool.and_eq_true] at c
  obtain ⟨-, c⟩ := c
  unfold zE
  by_cases q1 : k.1 < 7
  · rw [if_pos q1] at c
    rw [if_pos q1, if_pos q1]
    refine congrArg (fun l => Sum.inr (k.1, l)) (List.map_congr_left fun f hf => ?_)
    have e : h.2.2.1 k f = hrf k f := eq_of_beq (chk_all c hf)
    unfold zfv
    rw [e]
    rfl
  · rw [if_neg q1, Bool.and_eq_true] at c
    rw [if_neg q1, if_neg q1]
    obtain ⟨c1, c2⟩ := c
    have e3 : h.2.1 k = hln k := eq_of_beq c1
    have e3' : (nrm h).2.1 k = hln k := rfl
    rw [e3, e3']
    refine ite_c (fun q2 => ?_) (fun _ => rfl)
    refine congrArg (fun g : Nat → Option Nat => (Sum.inl (cA (zc k.1), hln k, Sum.inr (Sum.inr (Sum.inr (Sum.inr g)))) : va_E)) (funext fun j => ?_)
    refine ite_c (fun hj => ?_) (fun _ => rfl)
    rw [Bool.or_eq_true] at c2
    rcases c2 with a | a
    · have := of_decide_eq_true a; omega
    · have e : h.2.2.1 k j = hrf k j := eq_of_beq (chk_all a (List.mem_range.mpr hj))
      rw [e]
      rfl
theorem zRep_nrm {cA : Nat → ClassId} {D : va_G} {A : Nat → Prop} {ad : zK → Nat} {h : zH} {H : Heap} (c : chkN h = true) (r : zRep cA D A ad h H) : zRep cA D A ad (nrm h) H := by
  have ck : ∀ k ∈ h.1, chkK h k = true ∧ chkR h k = true := fun k hk => by
    have := chk_all c hk
    rwa [Bool.and_eq_true] at this
  have e : zL cA ad (nrm h) = zL cA ad h := List.map_congr_left fun k hk => by rw [zE_nrm (ck k hk).1]
  obtain ⟨rP, rD, rw1, rw2⟩ := r
  refine ⟨by rw [e]; exact rP, by rw [e]; exact rD, rw1, fun k hk => ⟨(rw2 k hk).1, fun f k' hr => ?_⟩⟩
  have hr' : hrf k f = some k' := hr
  have q := chk_all (ck k hk).2 (List.mem_range.mpr (hrf_12 hr'))
  rw [hr'] at q
  exact List.contains_iff_mem.mp q
theorem s_nrm {X : Nat × (Nat → Int32) × Value} {cc : ByteArray} {own : String} {nL mc ms d : Nat} {ini : Bool} {pc : Nat} {a : zA} (ha : zSnd X cc own nL mc ms d ini pc a) : zSnd X cc own nL mc ms d ini pc (a_nrm a) := by
  intro p l e R s m args below meth c cA D A ad0 h0 Q st st' hC hpc hq hk
  unfold a_nrm at hq
  split at hq
  · rename_i pc2 ls2 stk2 h2 n2 heq
    split at hq
    · rename_i hc
      cases hq
      refine ha p l e R s m args below meth c cA D A ad0 h0 Q st _ hC hpc heq ?_
      intro ad H locs lsA hE h1 hR hS hO hL
      exact hk ad H locs lsA hE h1 (zRep_nrm hc hR) hS hO hL
    · cases hq
  · cases hq
