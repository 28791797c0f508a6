/-! CLOSURES: making cells; bits of floats -/
def zcnt (h : zH) (s : Nat) : Nat := (h.1.filter (fun k => k.1 == s)).length
def zadd (h : zH) (k : zK) (n : Nat) : zH := (h.1 ++ [k], (fun k' => if k' = k then n else h.2.1 k'), (fun k' j => if k' = k then none else h.2.2.1 k' j), (fun k' j => if k' = k then 0 else h.2.2.2.1 k' j), (fun k' j => if k' = k then 0 else h.2.2.2.2 k' j))
/-- the name of the n-th cell of a sort -/
def znm (s n : Nat) : zK := (s, if s = 5 then (n / 5, n % 5) else if s = 3 then (n / 8, n % 8) else (n, 0))
def a_new (s mc ms : Nat) : zA := fun _ st => match st with
  | (pc, ls, st, h, nc, ns) => if ¬ (znm s (zcnt h s)) ∈ h.1 ∧ nc + 1 ≤ mc ∧ ns + zN s ≤ ms then some (.inl (pc + 3, ls, .inr (znm s (zcnt h s)) :: st, zadd h (znm s (zcnt h s)) 0, nc + 1, ns + zN s)) else none
/-- a new row of sort s; len: how long the instruction is -/
def a_newa (s len mc ms : Nat) : zA := fun _ st => match st with
  | (pc, ls, .inl (.int x) :: st, h, nc, ns) => if ¬ (s, zcnt h s, 0) ∈ h.1 ∧ ¬ x < 0 ∧ x.toNatClampNeg ≤ 10000 ∧ nc + 1 ≤ mc ∧ ns + x.toNatClampNeg ≤ ms then some (.inl (pc + len, ls, .inr (s, zcnt h s, 0) :: st, zadd h (s, zcnt h s, 0) x.toNatClampNeg, nc + 1, ns + x.toNatClampNeg)) else none
  | _ => none
section ZS6
variable {X : Nat × (Nat → Int32) × Value} {cc : ByteArray} {own : String} {nL mc ms d : Nat} {ini : Bool} {pc : Nat}
def zadv (ad : zK → Nat) (k : zK) (q : Nat) : zK → Nat := fun x => if x = k then q else ad x
theorem zadv_ne {ad : zK → Nat} {k x : zK} {q : Nat} (h : x ≠ k) : zadv ad k q x = ad x := if_neg h
theorem zcv_adv {ad : zK → Nat} {h : zH} {k : zK} {q : Nat} (hk : ¬ k ∈ h.1) (h40 : k.1 < 40) {v : zV} (hv : zok h v) : zcv (zadv ad k q) v = zcv ad v := by
  cases v with
  | inl x => rfl
  | inr r =>
    have : r ≠ k := by
      rintro rfl
      rcases hv with hv | hv
      · exact hk hv
      · omega
    show Value.ref _ = Value.ref _
    rw [zadv_ne this]
theorem zlv_adv {ad : zK → Nat} {h : zH} {k : zK} {q : Nat} (hk : ¬ k ∈ h.1) (h40 : k.1 < 40) : ∀ (ls : List zV) (b : Nat), (∀ v ∈ ls, zok h v) → zlv (zadv ad k q) ls b = zlv ad ls b
  | [], _, _ => rfl
  | v :: r, b, hv => by
    unfold zlv
    rw [zlv_adv hk h40 r (b + 1) (fun w hw => hv w (List.mem_cons_of_mem _ hw)), zcv_adv hk h40 (hv v List.mem_cons_self)]
theorem zmap_adv {ad : zK → Nat} {h : zH} {k : zK} {q : Nat} (hk : ¬ k ∈ h.1) (h40 : k.1 < 40) {st : List zV} (hv : ∀ v ∈ st, zok h v) : st.map (zcv (zadv ad k q)) = st.map (zcv ad) := List.map_congr_left fun v hv' => zcv_adv hk h40 (hv v hv')
theorem zadd_keep {cA : Nat → ClassId} {ad : zK → Nat} {h : zH} {k k' : zK} {n q : Nat} (hw : zwf h) (hk : ¬ k ∈ h.1) (hk' : k' ∈ h.1) : zE cA (zadv ad k q) (zadd h k n) k' = zE cA ad h k' := by
  have hne : k' ≠ k := fun e => hk (e ▸ hk')
  have hr : ∀ f r, h.2.2.1 k' f = some r → zadv ad k q r = ad r := fun f r h1 => zadv_ne (fun e => hk (e ▸ (hw.2 k' hk').2 f r h1))
  have e1 : zfv (zadv ad k q) (zadd h k n) k' = zfv ad h k' := by
    funext f
    simp only [zfv, zadd, if_neg hne]
    cases h1 : h.2.2.1 k' f with
    | none => rfl
    | some r => simp only [zrf, hr f r h1]
  have e2 : (fun j => if j < (zadd h k n).2.1 k' then ((zadd h k n).2.2.1 k' j).map (zadv ad k q) else none) = fun j => if j < h.2.1 k' then (h.2.2.1 k' j).map ad else none := by
    funext j
    simp only [zadd, if_neg hne]
    cases h1 : h.2.2.1 k' j with
    | none => rfl
    | some r => simp only [Option.map_some, hr j r h1]
  unfold zE
  rw [e1, e2]
  simp only [zadd, if_neg hne]
theorem zL_add {cA : Nat → ClassId} {ad : zK → Nat} {h : zH} {k : zK} {n q : Nat} (hw : zwf h) (hk : ¬ k ∈ h.1) : zL cA (zadv ad k q) (zadd h k n) = zL cA ad h ++ [(q, zE cA (zadv ad k q) (zadd h k n) k)] := by
  show (h.1 ++ [k]).map _ = _
  rw [List.map_append]
  congr 1
  · refine List.map_congr_left fun k' hk' => ?_
    rw [zadd_keep hw hk hk', zadv_ne (x := k') (fun e : k' = k => hk (e ▸ hk'))]
  · show [(zadv ad k q k, _)] = _
    simp [zadv]
theorem zwf_add {h : zH} {k : zK} {n : Nat} (hw : zwf h) (hk : ¬ k ∈ h.1) (h40 : k.1 < 40) : zwf (zadd h k n) := by
  refine ⟨?_, fun k' hk' => ?_⟩
  · show (h.1 ++ [k]).Nodup
    rw [List.nodup_append]
    exact ⟨hw.1, by simp, fun a ha b hb => by rw [List.mem_singleton.mp hb]; exact fun e => hk (e ▸ ha)⟩
  · rcases List.mem_append.mp hk' with h1 | h1
    · refine ⟨(hw.2 k' h1).1, fun f r hr => ?_⟩
      simp only [zadd] at hr
      split at hr
      · cases hr
      · exact List.mem_append_left _ ((hw.2 k' h1).2 f r hr)
    · rw [List.mem_singleton.mp h1]
      refine ⟨h40, fun f r hr => ?_⟩
      simp [zadd] at hr
theorem zok_add {h : zH} {k : zK} {n : Nat} {v : zV} (hv : zok h v) : zok (zadd h k n) v := zok_mono (fun x hx => List.mem_append_left _ hx) hv
/-- a new cell: the rest of the step, when a row has put it there -/
theorem z_born {p : Program} {l : Launch} {e : Env} {R : Room} {s : State} {m : MethodId} {args : Array Value} {below : List Frame} {meth : Method} {c : Code} {cA : Nat → ClassId} {D : va_G} {A : Nat → Prop} {ad0 ad : zK → Nat} {h0 h : zH} {Q : State → Prop} {ls st : List zV} {H1 : Heap} {locs : List Loc} {lsA : Array Slot} {k : zK} {n q pc' nc ns : Nat} (hk : ¬ k ∈ h.1) (h40 : k.1 < 40) (hwf : zwf h)
    (hK : zWs p l e R s m args below meth c nL cA D A ad0 h0 Q (pc', ls, .inr k :: st, zadd h k n, nc, ns)) (hE : zExt h0 ad0 ad) (h1 : ∀ k ∈ h0.1, k ∈ h.1) (hP : va_P D vwCl (zL cA ad h ++ [(q, zE cA (zadv ad k q) (zadd h k n) k)]) H1) (hD : va_D A (zL cA ad h ++ [(q, zE cA (zadv ad k q) (zadd h k n) k)])) (hS : va_S A s.heap H1 locs) (hO1 : ∀ v ∈ ls, zok h v) (hO2 : ∀ v ∈ st, zok h v) (hL : zLR ad nL ls lsA) :
    W p l e R s m args below meth c H1 locs nc ns Q (F0 m pc' lsA (.ref q :: st.map (zcv ad))) := by
  rw [← zL_add hwf hk] at hP hD
  have hne : ∀ x : zK, (x ∈ h0.1 ∨ 50 ≤ x.1) → x ≠ k := fun x hx e => by
    subst e
    rcases hx with hx | hx
    · exact hk (h1 _ hx)
    · omega
  have h2 := hK (zadv ad k q) H1 locs lsA (fun x hx => by rw [zadv_ne (hne x hx)]; exact hE x hx) (fun x hx => List.mem_append_left _ (h1 x hx)) ⟨hP, hD, zwf_add hwf hk h40⟩ hS ⟨fun v hv => zok_add (hO1 v hv), fun v hv => (List.mem_cons.mp hv).elim (fun e => by rw [e]; exact Or.inl (List.mem_append_right _ List.mem_cons_self)) (fun h => zok_add (hO2 v h))⟩ ⟨hL.1, by rw [zlv_adv hk h40 ls 0 hO1]; exact hL.2⟩
  have e3 : (Sum.inr k :: st : List zV).map (zcv (zadv ad k q)) = .ref q :: st.map (zcv ad) := by
    rw [List.map_cons, zmap_adv hk h40 hO2]
    congr 1
    simp [zcv, zadv]
  exact e3 ▸ h2
theorem zty_def : ∀ s, s < 7 → ∀ f, f < zN s → defaultValue (zty s f) = if (zty s f).isReference = true then .null else .int 0 := by decide +kernel
theorem s_new {s idx : Nat} (hd : decode cc pc = .ok (.new idx, 3)) (hs : s < 7) (hcl : Cond.classLink own idx (zRR s) ∈ zTb) (hin : Cond.instantiable (zRR s) (zN s) ∈ zTb) (hini : Cond.initialized (zRR s) ∈ zTb) : zSnd X cc own nL mc ms d ini pc (a_new s mc ms) := by
  intro p l e R st0 m args below meth c cA D A ad0 h0 Q st st' hC hpc ha hk ad H locs lsA hE h1 hR hS hO hL
  obtain ⟨pc', ls, stk, h, nc, ns⟩ := st
  subst hpc
  simp only [a_new] at ha
  split at ha
  · rename_i hg
    cases ha
    have hts := hC.2.2.2.2.1
    have hA : ∀ q, st0.heap.size ≤ q → A q := hC.2.2.2.2.2.1.2.2
    have hrm := hC.2.2.2.2.2.2.1
    have he : zE cA (zadv ad (znm s (zcnt h s)) 0) (zadd h (znm s (zcnt h s)) 0) (znm s (zcnt h s)) = .inr (s, (List.range (zN s)).map fun f => defaultValue (zty s f)) := by
      rw [zE_obj hs]
      congr 2
      refine List.map_congr_left fun f hf => ?_
      rw [zty_def s hs f (List.mem_range.mp hf)]
      simp [zfv, zadd, zrf]
      rfl
    refine va_new (ci := s) (fs := (List.range (zN s)).map fun f => defaultValue (zty s f)) hC.1 hC.2.1 hts (zT_in s hs) (zty s) (zT_ty s hs) hC.2.2.2.1 (hts _ hcl) (hts _ hin) (hts _ hini) hC.2.2.2.2.2.1.2.1.1 hR.1 hR.2.1 hS hA (zcl_at s hs) (fun j hj => ?_) (Nat.le_trans hg.2.1 hrm.2.2.1) (Nat.le_trans hg.2.2 hrm.2.2.2) hd fun q H1 hP1 hD1 hS1 => ?_
    · simp [vp_V, List.getD_eq_getElem?_getD, List.getElem?_map, List.getElem?_range hj]
    · have he2 : zE cA (zadv ad (znm s (zcnt h s)) q) (zadd h (znm s (zcnt h s)) 0) (znm s (zcnt h s)) = .inr (s, (List.range (zN s)).map fun f => defaultValue (zty s f)) := by
        rw [zE_obj hs]
        congr 2
        refine List.map_congr_left fun f hf => ?_
        rw [zty_def s hs f (List.mem_range.mp hf)]
        simp [zfv, zadd, zrf]
        rfl
      rw [← he2] at hP1 hD1
      exact z_born hg.1 (by show s < 40; omega) hR.2.2 hk hE h1 hP1 hD1 hS1 hO.1 hO.2 hL
  · cases ha
theorem s_newI {s : Nat} (hd : decode cc pc = .ok (.newarray .int, 2)) (hs : 13 ≤ s) (h40 : s < 40) (hw : Cond.arrayClass .int ∈ zTb) : zSnd X cc own nL mc ms d ini pc (a_newa s 2 mc ms) := by
  intro p l e R st0 m args below meth c cA D A ad0 h0 Q st st' hC hpc ha hk ad H locs lsA hE h1 hR hS hO hL
  obtain ⟨pc', ls, stk, h, nc, ns⟩ := st
  subst hpc
  simp only [a_newa] at ha
  split at ha
  · rename_i heq
    simp only [Prod.mk.injEq] at heq
    obtain ⟨rfl, rfl, rfl, rfl, rfl, rfl⟩ := heq
    split at ha
    · rename_i x r hg
      cases ha
      have hts := hC.2.2.2.2.1
      have hrm := hC.2.2.2.2.2.2.1
      have hK := hC.2.2.2.2.2.1.2.1.1
      refine va_newa (atype := .int) hC.1 hC.2.1 (hts _ hw) (ty := .int) rfl hK hR.1 hR.2.1 hS hC.2.2.2.2.2.1.2.2 (N' := x.toNatClampNeg) (a0 := (x.toNatClampNeg, .inl fun _ => 0)) (fun cA => by rw [vp_cell_i]; rfl) hg.2.1 rfl (by show _ * 4 ≤ _; have := hg.2.2.1; omega) (Nat.le_trans hg.2.2.2.1 hrm.2.2.1) (Nat.le_trans hg.2.2.2.2 hrm.2.2.2) hd fun q cB H1 hK1 hP1 hD1 hS1 => ?_
      have hcB : cB = cA 0 := by
        have e1 := (hK1.2 5 (cB, .int) (by rw [List.getElem?_append_right (by simp [ztys])]; simp [ztys])).2
        have e2 := (hK.2 0 (cA 0, .int) (zty_at (by decide))).2
        exact Option.some.inj (e1.symm.trans e2)
      have he2 : zE cA (zadv ad (s, zcnt h s, 0) q) (zadd h (s, zcnt h s, 0) x.toNatClampNeg) (s, zcnt h s, 0) = .inl (cA 0, (x.toNatClampNeg, .inl fun _ => 0)) := by
        rw [zE_i hs]
        simp [zadd]
      rw [hcB, ← he2] at hP1 hD1
      exact z_born hg.1 h40 hR.2.2 hk hE h1 hP1 hD1 hS1 hO.1 (fun v hv => hO.2 v (List.mem_cons_of_mem _ hv)) hL
    · cases ha
  · cases ha
theorem s_newL (hd : decode cc pc = .ok (.newarray .long, 2)) (hw : Cond.arrayClass .long ∈ zTb) : zSnd X cc own nL mc ms d ini pc (a_newa 12 2 mc ms) := by
  intro p l e R st0 m args below meth c cA D A ad0 h0 Q st st' hC hpc ha hk ad H locs lsA hE h1 hR hS hO hL
  obtain ⟨pc', ls, stk, h, nc, ns⟩ := st
  subst hpc
  simp only [a_newa] at ha
  split at ha
  · rename_i heq
    simp only [Prod.mk.injEq] at heq
    obtain ⟨rfl, rfl, rfl, rfl, rfl, rfl⟩ := heq
    split at ha
    · rename_i x r hg
      cases ha
      have hts := hC.2.2.2.2.1
      have hrm := hC.2.2.2.2.2.2.1
      have hK := hC.2.2.2.2.2.1.2.1.1
      refine va_newa (atype := .long) hC.1 hC.2.1 (hts _ hw) (ty := .long) rfl hK hR.1 hR.2.1 hS hC.2.2.2.2.2.1.2.2 (N' := x.toNatClampNeg) (a0 := (x.toNatClampNeg, .inr (.inl fun _ => 0))) (fun cA => by rw [vp_cell_l]; rfl) hg.2.1 rfl (by show _ * 8 ≤ _; have := hg.2.2.1; omega) (Nat.le_trans hg.2.2.2.1 hrm.2.2.1) (Nat.le_trans hg.2.2.2.2 hrm.2.2.2) hd fun q cB H1 hK1 hP1 hD1 hS1 => ?_
      have hcB : cB = cA 1 := by
        have e1 := (hK1.2 5 (cB, .long) (by rw [List.getElem?_append_right (by simp [ztys])]; simp [ztys])).2
        have e2 := (hK.2 1 (cA 1, .long) (zty_at (by decide))).2
        exact Option.some.inj (e1.symm.trans e2)
      have he2 : zE cA (zadv ad (12, zcnt h 12, 0) q) (zadd h (12, zcnt h 12, 0) x.toNatClampNeg) (12, zcnt h 12, 0) = .inl (cA 1, (x.toNatClampNeg, .inr (.inl fun _ => 0))) := by
        rw [zE_l rfl]
        simp [zadd]
      rw [hcB, ← he2] at hP1 hD1
      exact z_born hg.1 (by show 12 < 40; decide) hR.2.2 hk hE h1 hP1 hD1 hS1 hO.1 (fun v hv => hO.2 v (List.mem_cons_of_mem _ hv)) hL
    · cases ha
  · cases ha
theorem s_newQ {s idx : Nat} (hd : decode cc pc = .ok (.anewarray idx, 3)) (h8 : 8 ≤ s) (h12 : s < 12) (hcl : Cond.classLink own idx (zRR (zcs s)) ∈ zTb) : zSnd X cc own nL mc ms d ini pc (a_newa s 3 mc ms) := by
  intro p l e R st0 m args below meth c cA D A ad0 h0 Q st st' hC hpc ha hk ad H locs lsA hE h1 hR hS hO hL
  obtain ⟨pc', ls, stk, h, nc, ns⟩ := st
  subst hpc
  simp only [a_newa] at ha
  split at ha
  · rename_i heq
    simp only [Prod.mk.injEq] at heq
    obtain ⟨rfl, rfl, rfl, rfl, rfl, rfl⟩ := heq
    split at ha
    · rename_i x r hg
      cases ha
      have hts := hC.2.2.2.2.1
      have hrm := hC.2.2.2.2.2.2.1
      have hK := hC.2.2.2.2.2.1.2.1.1
      have hAO : va_AO (zRR (zcs s)) st0 := by
        have h3 := hC.2.2.2.2.2.1.2.1.2.2.1
        rcases (show s = 8 ∨ s = 9 ∨ s = 10 ∨ s = 11 by omega) with rfl | rfl | rfl | rfl
        · exact h3.1
        · exact h3.2.1
        · exact h3.2.2
        · exact h3.2.2
      refine va_newq (C := zRR (zcs s)) hC.1 hC.2.1 hC.2.2.2.1 (hts _ hcl) hAO hK hR.1 hR.2.1 hS hC.2.2.2.2.2.1.2.2 (N' := x.toNatClampNeg) hg.2.1 rfl (by have := hg.2.2.1; omega) (Nat.le_trans hg.2.2.2.1 hrm.2.2.1) (Nat.le_trans hg.2.2.2.2 hrm.2.2.2) hd fun q cB H1 hK1 hP1 hD1 hS1 => ?_
      have hcB : cB = cA (zc s) := by
        have e1 := (hK1.2 5 (cB, .object (zRR (zcs s))) (by rw [List.getElem?_append_right (by simp [ztys])]; simp [ztys])).2
        have e2 := (hK.2 (zc s) (cA (zc s), .object (zRR (zcs s))) ((zty_at (zc_lt _)).trans (by rw [zc_ty h8 h12]))).2
        obtain ⟨_, _, _, _, _, e1⟩ := e1
        obtain ⟨_, _, _, _, _, e2⟩ := e2
        exact Option.some.inj (e1.symm.trans e2)
      have he2 : zE cA (zadv ad (s, zcnt h s, 0) q) (zadd h (s, zcnt h s, 0) x.toNatClampNeg) (s, zcnt h s, 0) = .inl (cA (zc s), x.toNatClampNeg, .inr (.inr (.inr (.inr (fun _ => none))))) := by
        rw [zE_q h8 h12]
        simp [zadd]
      rw [hcB, ← he2] at hP1 hD1
      exact z_born hg.1 (by show s < 40; omega) hR.2.2 hk hE h1 hP1 hD1 hS1 hO.1 (fun v hv => hO.2 v (List.mem_cons_of_mem _ hv)) hL
    · cases ha
  · cases ha
theorem zsum_cv (ad : zK → Nat) (st : List zV) : ((st.map (zcv ad)).map fun v => v.category).sum = (st.map zcat).sum := by
  rw [List.map_map]
  congr 1
  exact List.map_congr_left fun v _ => zcat_cv ad v
end ZS6
