/-! CLOSURES: rows, constants -/
def zin (i : Int32) (n : Nat) : Bool := decide (¬ i < 0) && decide (i.toNatClampNeg < n)
theorem zin_vp {i : Int32} {n : Nat} (h : zin i n = true) : vp_in i n := by
  simp only [zin, Bool.and_eq_true, decide_eq_true_eq] at h
  rintro (q | q)
  · exact h.1 q
  · omega
def a_iald : zA := fun _ st => match st with
  | (pc, ls, .inl (.int i) :: .inr k :: st, h, n) => if 13 ≤ k.1 ∧ k.1 < 40 ∧ zin i (h.2.1 k) = true then some (.inl (pc + 1, ls, .inl (.int (h.2.2.2.1 k i.toNatClampNeg)) :: st, h, n)) else none
  | _ => none
def a_lald : zA := fun _ st => match st with
  | (pc, ls, .inl (.int i) :: .inr k :: st, h, n) => if k.1 = 12 ∧ zin i (h.2.1 k) = true then some (.inl (pc + 1, ls, .inl (.long (h.2.2.2.2 k i.toNatClampNeg)) :: st, h, n)) else none
  | _ => none
def a_aald : zA := fun _ st => match st with
  | (pc, ls, .inl (.int i) :: .inr k :: st, h, n) => if 8 ≤ k.1 ∧ k.1 < 12 ∧ zin i (h.2.1 k) = true then (match h.2.2.1 k i.toNatClampNeg with
    | some k' => some (.inl (pc + 1, ls, .inr k' :: st, h, n))
    | none => none) else none
  | _ => none
def zseti (h : zH) (k : zK) (j : Nat) (x : Int32) : zH := (h.1, h.2.1, h.2.2.1, (fun k' j' => if k' = k ∧ j' = j then x else h.2.2.2.1 k' j'), h.2.2.2.2)
def zsetl (h : zH) (k : zK) (j : Nat) (x : Int64) : zH := (h.1, h.2.1, h.2.2.1, h.2.2.2.1, (fun k' j' => if k' = k ∧ j' = j then x else h.2.2.2.2 k' j'))
def zsetr (h : zH) (k : zK) (j : Nat) (r : zK) : zH := (h.1, h.2.1, (fun k' j' => if k' = k ∧ j' = j then some r else h.2.2.1 k' j'), h.2.2.2.1, h.2.2.2.2)
def a_iast : zA := fun _ st => match st with
  | (pc, ls, .inl (.int x) :: .inl (.int i) :: .inr k :: st, h, n) => if 13 ≤ k.1 ∧ k.1 < 40 ∧ zin i (h.2.1 k) = true then some (.inl (pc + 1, ls, st, zseti h k i.toNatClampNeg x, n)) else none
  | _ => none
def a_last : zA := fun _ st => match st with
  | (pc, ls, .inl (.long x) :: .inl (.int i) :: .inr k :: st, h, n) => if k.1 = 12 ∧ zin i (h.2.1 k) = true then some (.inl (pc + 1, ls, st, zsetl h k i.toNatClampNeg x, n)) else none
  | _ => none
/-- the class whose objects a row of references holds -/
def zcs (s : Nat) : Nat := match s with
  | 8 => 5
  | 9 => 3
  | _ => 4
def a_aast : zA := fun _ st => match st with
  | (pc, ls, .inr r :: .inl (.int i) :: .inr k :: st, h, n) => if (8 ≤ k.1 ∧ k.1 < 12 ∧ r.1 = zcs k.1) ∧ zin i (h.2.1 k) = true then some (.inl (pc + 1, ls, st, zsetr h k i.toNatClampNeg r, n)) else none
  | _ => none
def a_alen : zA := fun _ st => match st with
  | (pc, ls, .inr k :: st, h, n) => if 8 ≤ k.1 ∧ k.1 < 40 then some (.inl (pc + 1, ls, .inl (.int (Int32.ofNat (h.2.1 k))) :: st, h, n)) else none
  | _ => none
def a_sld (X : Nat × (Nat → Int32) × Value) : zA := fun _ st => match st with
  | (pc, ls, .inl (.int i) :: .inr k :: st, h, n) => if k = (50, 0, 0) ∧ zin i X.1 = true then some (.inl (pc + 1, ls, .inl (.int (X.2.1 i.toNatClampNeg)) :: st, h, n)) else none
  | _ => none
def a_slen (X : Nat × (Nat → Int32) × Value) : zA := fun _ st => match st with
  | (pc, ls, .inr k :: st, h, n) => if k = (50, 0, 0) then some (.inl (pc + 1, ls, .inl (.int (Int32.ofNat X.1)) :: st, h, n)) else none
  | _ => none
section ZS4
variable {X : Nat × (Nat → Int32) × Value} {cc : ByteArray} {own : String} {nL mc ms d : Nat} {ini : Bool} {pc : Nat}
theorem zty_at {cA : Nat → ClassId} {n : Nat} (h : n < 5) : (ztys cA)[n]? = some (cA n, zaty n) := by
  unfold ztys
  rw [List.getElem?_map, List.getElem?_range h]
  rfl
theorem z_in {A : Nat → Prop} {h : zH} {k : zK} {ls st : List zV} {pc : Nat} {n : Nat × Nat} (hO : zOk (pc, ls, st, h, n)) (hk : Sum.inr k ∈ st) (h50 : k.1 < 50) : k ∈ h.1 := (hO.2 _ hk).elim id (fun q => by omega)
theorem s_iald (hd : decode cc pc = .ok (.iaload, 1)) : zSnd X cc own nL mc ms d ini pc a_iald := by
  intro p l e R s m args below meth c cA D A ad0 h0 Q st st' hC hpc ha hk ad H locs lsA hE h1 hR hS hO hL
  obtain ⟨pc', ls, stk, h, n⟩ := st
  subst hpc
  simp only [a_iald] at ha
  split at ha
  · rename_i heq
    simp only [Prod.mk.injEq] at heq
    obtain ⟨rfl, rfl, rfl, rfl, rfl⟩ := heq
    split at ha
    · rename_i i k r hg
      cases ha
      obtain ⟨q, -, hq⟩ := zL_get (cA := cA) (ad := ad) (z_in (A := A) hO (by simp) (by omega) : k ∈ h.1)
      rw [zE_i hg.1] at hq
      exact va_iald hC.1 hC.2.1 hC.2.2.2.2.2.1.2.1.1 hR.1 q 0 hq (zty_at (by decide)) (zin_vp hg.2.2) hd (hk ad H locs lsA hE h1 hR hS ⟨hO.1, fun w hw => (List.mem_cons.mp hw).elim (fun e => by rw [e]; trivial) (fun q => hO.2 w (List.mem_cons_of_mem _ (List.mem_cons_of_mem _ q)))⟩ hL)
    · cases ha
  · cases ha
theorem s_lald (hd : decode cc pc = .ok (.laload, 1)) : zSnd X cc own nL mc ms d ini pc a_lald := by
  intro p l e R s m args below meth c cA D A ad0 h0 Q st st' hC hpc ha hk ad H locs lsA hE h1 hR hS hO hL
  obtain ⟨pc', ls, stk, h, n⟩ := st
  subst hpc
  simp only [a_lald] at ha
  split at ha
  · rename_i heq
    simp only [Prod.mk.injEq] at heq
    obtain ⟨rfl, rfl, rfl, rfl, rfl⟩ := heq
    split at ha
    · rename_i i k r hg
      cases ha
      obtain ⟨q, -, hq⟩ := zL_get (cA := cA) (ad := ad) (z_in (A := A) hO (by simp) (by omega) : k ∈ h.1)
      rw [zE_l hg.1] at hq
      exact va_lald hC.1 hC.2.1 hC.2.2.2.2.2.1.2.1.1 hR.1 q 1 hq (zty_at (by decide)) (zin_vp hg.2) hd (hk ad H locs lsA hE h1 hR hS ⟨hO.1, fun w hw => (List.mem_cons.mp hw).elim (fun e => by rw [e]; trivial) (fun q => hO.2 w (List.mem_cons_of_mem _ (List.mem_cons_of_mem _ q)))⟩ hL)
    · cases ha
  · cases ha
theorem zc_lt (s : Nat) : zc s < 5 := by unfold zc; split <;> decide
theorem zc_ty {s : Nat} (h8 : 8 ≤ s) (h12 : s < 12) : zaty (zc s) = .object (zRR (zcs s)) := by
  rcases (show s = 8 ∨ s = 9 ∨ s = 10 ∨ s = 11 by omega) with rfl | rfl | rfl | rfl <;> rfl
theorem s_aald (hd : decode cc pc = .ok (.aaload, 1)) : zSnd X cc own nL mc ms d ini pc a_aald := by
  intro p l e R s m args below meth c cA D A ad0 h0 Q st st' hC hpc ha hk ad H locs lsA hE h1 hR hS hO hL
  obtain ⟨pc', ls, stk, h, n⟩ := st
  subst hpc
  simp only [a_aald] at ha
  split at ha
  · rename_i heq
    simp only [Prod.mk.injEq] at heq
    obtain ⟨rfl, rfl, rfl, rfl, rfl⟩ := heq
    split at ha
    · rename_i i k r hg
      have hkin : k ∈ h.1 := z_in (A := A) hO (by simp) (by omega)
      obtain ⟨q, -, hq⟩ := zL_get (cA := cA) (ad := ad) hkin
      rw [zE_q hg.1 hg.2.1] at hq
      cases hr : h.2.2.1 k i.toNatClampNeg with
      | none => rw [hr] at ha; cases ha
      | some k' =>
        rw [hr] at ha
        cases ha
        have hk2 := hk ad H locs lsA hE h1 hR hS ⟨hO.1, fun w hw => (List.mem_cons.mp hw).elim (fun e => by rw [e]; exact Or.inl ((hR.2.2.2 k hkin).2 _ _ hr)) (fun q => hO.2 w (List.mem_cons_of_mem _ (List.mem_cons_of_mem _ q)))⟩ hL
        refine va_aldq hC.1 hC.2.1 hC.2.2.2.2.2.1.2.1.1 hR.1 q (zc k.1) hq ((zty_at (zc_lt _)).trans (by rw [zc_ty hg.1 hg.2.1])) (zin_vp hg.2.2) hd ?_
        have hlt : i.toNatClampNeg < h.2.1 k := Nat.not_le.mp fun q => zin_vp hg.2.2 (Or.inr q)
        dsimp only
        rw [if_pos hlt, hr]
        exact hk2
    · cases ha
  · cases ha
theorem s_alen (hd : decode cc pc = .ok (.arraylength, 1)) : zSnd X cc own nL mc ms d ini pc a_alen := by
  intro p l e R s m args below meth c cA D A ad0 h0 Q st st' hC hpc ha hk ad H locs lsA hE h1 hR hS hO hL
  obtain ⟨pc', ls, stk, h, n⟩ := st
  subst hpc
  simp only [a_alen] at ha
  split at ha
  · rename_i heq
    simp only [Prod.mk.injEq] at heq
    obtain ⟨rfl, rfl, rfl, rfl, rfl⟩ := heq
    split at ha
    · rename_i k r hg
      cases ha
      have hkin : k ∈ h.1 := z_in (A := A) hO (by simp) (by omega)
      obtain ⟨q, -, hq⟩ := zL_get (cA := cA) (ad := ad) hkin
      have hk2 := hk ad H locs lsA hE h1 hR hS ⟨hO.1, fun w hw => (List.mem_cons.mp hw).elim (fun e => by rw [e]; trivial) (fun q => hO.2 w (List.mem_cons_of_mem _ q))⟩ hL
      by_cases c12 : k.1 < 12
      · rw [zE_q hg.1 c12] at hq
        exact va_alen hC.1 hC.2.1 hC.2.2.2.2.2.1.2.1.1 hR.1 q (zc k.1) hq (zty_at (zc_lt _)) rfl hd hk2
      · by_cases c13 : k.1 = 12
        · rw [zE_l c13] at hq
          exact va_alen hC.1 hC.2.1 hC.2.2.2.2.2.1.2.1.1 hR.1 q 1 hq (zty_at (by decide)) rfl hd hk2
        · rw [zE_i (by omega)] at hq
          exact va_alen hC.1 hC.2.1 hC.2.2.2.2.2.1.2.1.1 hR.1 q 0 hq (zty_at (by decide)) rfl hd hk2
    · cases ha
  · cases ha
theorem s_iast (hd : decode cc pc = .ok (.iastore, 1)) : zSnd X cc own nL mc ms d ini pc a_iast := by
  intro p l e R s m args below meth c cA D A ad0 h0 Q st st' hC hpc ha hk ad H locs lsA hE h1 hR hS hO hL
  obtain ⟨pc', ls, stk, h, n⟩ := st
  subst hpc
  simp only [a_iast] at ha
  split at ha
  · rename_i heq
    simp only [Prod.mk.injEq] at heq
    obtain ⟨rfl, rfl, rfl, rfl, rfl⟩ := heq
    split at ha
    · rename_i x i k r hg
      cases ha
      have hkin : k ∈ h.1 := z_in (A := A) hO (by simp) (by omega)
      obtain ⟨q, hq1, hq⟩ := zL_get (cA := cA) (ad := ad) hkin
      rw [zE_i hg.1] at hq
      refine va_iast hC.1 hC.2.1 hC.2.2.2.2.2.1.2.1.1 hR.1 hR.2.1 hS q 0 hq (zty_at (by decide)) (zin_vp hg.2.2) hd fun H1 locs1 hP1 hD1 hS1 => ?_
      have he : zE cA ad (zseti h k i.toNatClampNeg x) k = .inl (cA 0, h.2.1 k, .inl (upd (h.2.2.2.1 k) i.toNatClampNeg x)) := by
        rw [zE_i hg.1]
        congr 4
        funext j
        simp [zseti, upd]
      rw [zL_set (h' := zseti h k i.toNatClampNeg x) hq1 hR.2.2.1 rfl he (fun k' _ hne => zE_keep rfl rfl (by funext j; simp [zseti, hne]) rfl)] at hP1 hD1
      exact hk ad H1 locs1 lsA hE h1 ⟨hP1, hD1, zwf_ints hR.2.2 _ _⟩ hS1 (zOk_keys (pc := pc' + 1) (n := n) rfl hO.1 (fun w hw => hO.2 w (List.mem_cons_of_mem _ (List.mem_cons_of_mem _ (List.mem_cons_of_mem _ hw))))) hL
    · cases ha
  · cases ha
theorem s_last (hd : decode cc pc = .ok (.lastore, 1)) : zSnd X cc own nL mc ms d ini pc a_last := by
  intro p l e R s m args below meth c cA D A ad0 h0 Q st st' hC hpc ha hk ad H locs lsA hE h1 hR hS hO hL
  obtain ⟨pc', ls, stk, h, n⟩ := st
  subst hpc
  simp only [a_last] at ha
  split at ha
  · rename_i heq
    simp only [Prod.mk.injEq] at heq
    obtain ⟨rfl, rfl, rfl, rfl, rfl⟩ := heq
    split at ha
    · rename_i x i k r hg
      cases ha
      have hkin : k ∈ h.1 := z_in (A := A) hO (by simp) (by omega)
      obtain ⟨q, hq1, hq⟩ := zL_get (cA := cA) (ad := ad) hkin
      rw [zE_l hg.1] at hq
      refine va_last hC.1 hC.2.1 hC.2.2.2.2.2.1.2.1.1 hR.1 hR.2.1 hS q 1 hq (zty_at (by decide)) (zin_vp hg.2) hd fun H1 locs1 hP1 hD1 hS1 => ?_
      have he : zE cA ad (zsetl h k i.toNatClampNeg x) k = .inl (cA 1, h.2.1 k, .inr (.inl (vp_updL (h.2.2.2.2 k) i.toNatClampNeg x))) := by
        rw [zE_l hg.1]
        congr 5
        funext j
        simp [zsetl, vp_updL]
      rw [zL_set (h' := zsetl h k i.toNatClampNeg x) hq1 hR.2.2.1 rfl he (fun k' _ hne => zE_keep rfl rfl rfl (by funext j; simp [zsetl, hne]))] at hP1 hD1
      exact hk ad H1 locs1 lsA hE h1 ⟨hP1, hD1, zwf_ints hR.2.2 _ _⟩ hS1 (zOk_keys (pc := pc' + 1) (n := n) rfl hO.1 (fun w hw => hO.2 w (List.mem_cons_of_mem _ (List.mem_cons_of_mem _ (List.mem_cons_of_mem _ hw))))) hL
    · cases ha
  · cases ha
theorem zcs_lt (s : Nat) : zcs s < 7 := by unfold zcs; split <;> decide
theorem s_aast (hd : decode cc pc = .ok (.aastore, 1)) : zSnd X cc own nL mc ms d ini pc a_aast := by
  intro p l e R s m args below meth c cA D A ad0 h0 Q st st' hC hpc ha hk ad H locs lsA hE h1 hR hS hO hL
  obtain ⟨pc', ls, stk, h, n⟩ := st
  subst hpc
  simp only [a_aast] at ha
  split at ha
  · rename_i heq
    simp only [Prod.mk.injEq] at heq
    obtain ⟨rfl, rfl, rfl, rfl, rfl⟩ := heq
    split at ha
    · rename_i rr i k r hg
      cases ha
      obtain ⟨⟨g1, g2, g3⟩, g4⟩ := hg
      have hkin : k ∈ h.1 := z_in (A := A) hO (by simp) (by omega)
      have hrin : rr ∈ h.1 := z_in (A := A) hO (by simp) (by have := zcs_lt k.1; omega)
      obtain ⟨q, hq1, hq⟩ := zL_get (cA := cA) (ad := ad) hkin
      obtain ⟨q2, -, hq2⟩ := zL_get (cA := cA) (ad := ad) hrin
      rw [zE_q g1 g2] at hq
      rw [zE_obj (by rw [g3]; exact zcs_lt _)] at hq2
      refine va_astq hC.1 hC.2.1 hC.2.2.2.2.2.1.2.1.1 hR.1 hR.2.1 hS q (zc k.1) q2 rr.1 hq ((zty_at (zc_lt _)).trans (by rw [zc_ty g1 g2, ← g3])) hq2 (zcl_at _ (by rw [g3]; exact zcs_lt _)) (zin_vp g4) hd fun H1 locs1 hP1 hD1 hS1 => ?_
      have he : zE cA ad (zsetr h k i.toNatClampNeg rr) k = .inl (cA (zc k.1), h.2.1 k, .inr (.inr (.inr (.inr (va_up (fun j => if j < h.2.1 k then (h.2.2.1 k j).map ad else none) i.toNatClampNeg (some (ad rr))))))) := by
        rw [zE_q g1 g2]
        congr 7
        funext j
        by_cases hj : j = i.toNatClampNeg
        · have hlt : i.toNatClampNeg < h.2.1 k := Nat.not_le.mp fun q => zin_vp g4 (Or.inr q)
          simp [zsetr, va_up, hj, hlt]
        · simp [zsetr, va_up, hj]
      rw [zL_set (h' := zsetr h k i.toNatClampNeg rr) hq1 hR.2.2.1 rfl he (fun k' _ hne => zE_keep rfl (by funext j; simp [zsetr, hne]) rfl rfl)] at hP1 hD1
      exact hk ad H1 locs1 lsA hE h1 ⟨hP1, hD1, zwf_ref hR.2.2 hrin _ _⟩ hS1 (zOk_keys (pc := pc' + 1) (n := n) rfl hO.1 (fun w hw => hO.2 w (List.mem_cons_of_mem _ (List.mem_cons_of_mem _ (List.mem_cons_of_mem _ hw))))) hL
    · cases ha
  · cases ha
end ZS4
