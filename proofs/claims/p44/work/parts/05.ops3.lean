/-! CLOSURES: writing fields, rows -/
section ZS3
variable {X : Nat × (Nat → Int32) × Value} {cc : ByteArray} {own : String} {nL mc ms d : Nat} {ini : Bool} {pc : Nat}
theorem z_nodup {α : Type} {l : List α} (hn : l.Nodup) {i j : Nat} {x : α} (hi : l[i]? = some x) (hj : l[j]? = some x) : i = j := by
  obtain ⟨hil, rfl⟩ := List.getElem?_eq_some_iff.mp hi
  obtain ⟨hjl, he⟩ := List.getElem?_eq_some_iff.mp hj
  rcases Nat.lt_trichotomy i j with h | h | h
  · exact absurd he.symm (List.pairwise_iff_getElem.mp hn i j hil hjl h)
  · exact h
  · exact absurd he (List.pairwise_iff_getElem.mp hn j i hjl hil h)
theorem zL_set {cA : Nat → ClassId} {ad : zK → Nat} {h h' : zH} {k : zK} {q : Nat} {e : va_E} (hq : h.1[q]? = some k) (hn : h.1.Nodup) (hk : h'.1 = h.1) (he : zE cA ad h' k = e) (ho : ∀ k' ∈ h.1, k' ≠ k → zE cA ad h' k' = zE cA ad h k') : (zL cA ad h).set q (ad k, e) = zL cA ad h' := by
  have hql := (List.getElem?_eq_some_iff.mp hq).1
  refine List.ext_getElem? fun j => ?_
  unfold zL
  rw [hk]
  by_cases hj : q = j
  · subst hj
    rw [List.getElem?_set_self (by rw [List.length_map]; exact hql), List.getElem?_map, hq, ← he]
    rfl
  · rw [List.getElem?_set_ne hj, List.getElem?_map, List.getElem?_map]
    cases hk' : h.1[j]? with
    | none => rfl
    | some k' =>
      have hne : k' ≠ k := by
        intro e1
        subst e1
        exact hj (z_nodup hn hq hk')
      show some (ad k', zE cA ad h k') = some (ad k', zE cA ad h' k')
      rw [ho k' (List.mem_of_getElem? hk') hne]
theorem zwf_ints {h : zH} (hw : zwf h) (f : zK → Nat → Int32) (g : zK → Nat → Int64) : zwf (h.1, h.2.1, h.2.2.1, f, g) := hw
theorem zwf_ref {h : zH} (hw : zwf h) {k r : zK} (hr : r ∈ h.1) {f : Nat} (g : zK → Nat → Int32) (g' : zK → Nat → Int64) : zwf (h.1, h.2.1, (fun k' j => if k' = k ∧ j = f then some r else h.2.2.1 k' j), g, g') := by
  refine ⟨hw.1, fun k' hk' => ⟨(hw.2 k' hk').1, fun j x hx => ?_⟩⟩
  dsimp only at hx
  split at hx
  · cases hx
    exact hr
  · exact (hw.2 k' hk').2 j x hx
theorem zok_keys {h h' : zH} (hk : h'.1 = h.1) {v : zV} (hv : zok h v) : zok h' v := zok_mono (fun k q => by rw [hk]; exact q) hv
theorem zOk_keys {h h' : zH} (hk : h'.1 = h.1) {ls st : List zV} (h1 : ∀ v ∈ ls, zok h v) (h2 : ∀ v ∈ st, zok h v) {pc : Nat} {n : Nat × Nat} : zOk (pc, ls, st, h', n) := ⟨fun v hv => zok_keys hk (h1 v hv), fun v hv => zok_keys hk (h2 v hv)⟩
theorem zfv_off {ad : zK → Nat} {h : zH} {k k' : zK} {f j : Nat} {x : Int32} (hne : ¬ (k' = k ∧ j = f)) (g : zK → Nat → Int64) : zfv ad (h.1, h.2.1, h.2.2.1, (fun k' j => if k' = k ∧ j = f then x else h.2.2.2.1 k' j), g) k' j = zfv ad h k' j := by
  simp only [zfv, if_neg hne]
theorem zfv_offr {ad : zK → Nat} {h : zH} {k k' r : zK} {f j : Nat} (hne : ¬ (k' = k ∧ j = f)) (g : zK → Nat → Int64) : zfv ad (h.1, h.2.1, (fun k' j => if k' = k ∧ j = f then some r else h.2.2.1 k' j), h.2.2.2.1, g) k' j = zfv ad h k' j := by
  simp only [zfv, if_neg hne]
theorem zE_i {cA : Nat → ClassId} {ad : zK → Nat} {h : zH} {k : zK} (h1 : 13 ≤ k.1) : zE cA ad h k = .inl (cA 0, h.2.1 k, .inl (h.2.2.2.1 k)) := by
  unfold zE
  rw [if_neg (by omega), if_neg (by omega), if_neg (by omega)]
theorem zE_l {cA : Nat → ClassId} {ad : zK → Nat} {h : zH} {k : zK} (h1 : k.1 = 12) : zE cA ad h k = .inl (cA 1, h.2.1 k, .inr (.inl (h.2.2.2.2 k))) := by
  unfold zE
  rw [if_neg (by omega), if_neg (by omega), if_pos h1]
theorem zE_q {cA : Nat → ClassId} {ad : zK → Nat} {h : zH} {k : zK} (h1 : 8 ≤ k.1) (h2 : k.1 < 12) : zE cA ad h k = .inl (cA (zc k.1), h.2.1 k, .inr (.inr (.inr (.inr fun j => if j < h.2.1 k then (h.2.2.1 k j).map ad else none)))) := by
  unfold zE
  rw [if_neg (by omega), if_pos h2]
theorem zE_keep {cA : Nat → ClassId} {ad : zK → Nat} {h h' : zH} {k : zK} (h1 : h'.2.1 k = h.2.1 k) (h2 : h'.2.2.1 k = h.2.2.1 k) (h3 : h'.2.2.2.1 k = h.2.2.2.1 k) (h4 : h'.2.2.2.2 k = h.2.2.2.2 k) : zE cA ad h' k = zE cA ad h k := by
  have e : zfv ad h' k = zfv ad h k := by
    funext f
    simp only [zfv, h2, h3]
  simp only [zE, h1, h2, h3, h4, e]
theorem zty_cases : ∀ s, s < 7 → ∀ f, f < zN s → (zty s f).isReference = false → zty s f = .int ∨ zty s f = .boolean := by decide +kernel
/-- a put, whichever row does it -/
theorem s_put0 {s f : Nat} (hs : s < 7) (hf : f < zN s) (row : ∀ {p : Program} {l : Launch} {e : Env} {R : Room} {s' : State} {m : MethodId} {args : Array Value} {below : List Frame} {meth : Method} {c : Code} {H : Heap} {locs : List Loc} {cells slots : Nat} {Q : State → Prop} {ls : Array Slot} {rest : List Value} {D : va_G} {A : Nat → Prop} {H0 : Heap} {ws : va_W} {a : Nat} {tys : List (ClassId × FieldType)} (q0 : Nat) {fs : List Value} {v : Value},
    p.tables.exec = Jvm.exec → c.code = cc → (∀ w ∈ zTb, w.before args s' = true) → s'.vm.findClass own = some m.cls → (ini = true → meth.name = "<init>") → va_K D vwCl tys s' → va_P D vwCl ws H → va_D A ws → va_S A H0 H locs → ws[q0]? = some (a, .inr (s, fs)) → narrow (zty s f) v = v → fits (zty s f) v = true → f < fs.length →
    (∀ (H1 : Heap) (locs1 : List Loc), va_P D vwCl (ws.set q0 (a, .inr (s, fs.set f v))) H1 → va_D A (ws.set q0 (a, .inr (s, fs.set f v))) → va_S A H0 H1 locs1 → W p l e R s' m args below meth c H1 locs1 cells slots Q (F0 m (pc + 3) ls rest)) → W p l e R s' m args below meth c H locs cells slots Q (F0 m pc ls (v :: .ref a :: rest))) : zSnd X cc own nL mc ms d ini pc (a_put s f) := by
  intro p l e R st0 m args below meth c cA D A ad0 h0 Q st st' hC hpc ha hk ad H locs lsA hE h1 hR hS hO hL
  obtain ⟨pc', ls, stk, h, n⟩ := st
  subst hpc
  rcases stk with _ | ⟨v, _ | ⟨w, r⟩⟩
  · exact nomatch (show (none : zO) = _ from ha)
  · cases v <;> exact nomatch (show (none : zO) = _ from ha)
  rcases w with w | k
  · exact nomatch (show (none : zO) = _ from ha)
  by_cases hg : k.1 = s
  rotate_left
  · simp only [a_put, if_neg hg] at ha
    cases ha
  subst hg
  simp only [a_put, if_true] at ha
  have hkin : k ∈ h.1 := (hO.2 _ (List.mem_cons_of_mem _ List.mem_cons_self)).elim id (fun q => by omega)
  obtain ⟨q, hq1, hq⟩ := zL_get (cA := cA) (ad := ad) hkin
  rw [zE_obj hs] at hq
  have key : ∀ h' : zH, st' = (pc' + 3, ls, r, h', n) → h'.1 = h.1 → zwf h' → (narrow (zty k.1 f) (zcv ad v) = zcv ad v ∧ fits (zty k.1 f) (zcv ad v) = true) → zfv ad h' k f = zcv ad v → (∀ j, j ≠ f → zfv ad h' k j = zfv ad h k j) → (∀ k' ∈ h.1, k' ≠ k → zE cA ad h' k' = zE cA ad h k') → W p l e R st0 m args below meth c H locs n.1 n.2 Q (F0 m pc' lsA ((v :: .inr k :: r).map (zcv ad))) := by
    intro h' hst hk' hw' hnf hv hvo ho
    subst hst
    refine row q hC.1 hC.2.1 hC.2.2.2.2.1 hC.2.2.2.1 hC.2.2.2.2.2.2.2 hC.2.2.2.2.2.1.2.1.1 hR.1 hR.2.1 hS hq hnf.1 hnf.2 (by rw [List.length_map, List.length_range]; exact hf) fun H1 locs1 hP1 hD1 hS1 => ?_
    have he : (Sum.inr (k.1, ((List.range (zN k.1)).map (zfv ad h k)).set f (zcv ad v)) : va_E) = zE cA ad h' k := by
      rw [zE_obj hs]
      congr 2
      refine List.ext_getElem? fun j => ?_
      by_cases hj : f = j
      · subst hj
        rw [List.getElem?_set_self (by rw [List.length_map, List.length_range]; exact hf), List.getElem?_map, List.getElem?_range hf, ← hv]
        rfl
      · rw [List.getElem?_set_ne hj, List.getElem?_map, List.getElem?_map]
        cases hrj : (List.range (zN k.1))[j]? with
        | none => rfl
        | some j' =>
          show some _ = some _
          by_cases hj' : j' = f
          · obtain ⟨hl1, hl2⟩ := List.getElem?_eq_some_iff.mp hrj
            rw [List.getElem_range] at hl2
            omega
          · rw [hvo j' hj']
    rw [he, zL_set hq1 hR.2.2.1 hk' rfl ho] at hP1 hD1
    exact hk ad H1 locs1 lsA hE (fun k0 q0 => by show k0 ∈ h'.1; rw [hk']; exact h1 k0 q0) ⟨hP1, hD1, hw'⟩ hS1 (zOk_keys hk' hO.1 (fun w hw => hO.2 w (List.mem_cons_of_mem _ (List.mem_cons_of_mem _ hw)))) hL
  cases hz : zpv h k f v with
  | none => rw [hz] at ha; cases ha
  | some h' =>
    rw [hz] at ha
    have hst : st' = (pc' + 3, ls, r, h', n) := by
      cases ha
      rfl
    rcases v with v | rk
    · cases v with
      | int x =>
        simp only [zpv] at hz
        split at hz
        · rename_i hg
          cases hz
          refine key _ hst rfl (zwf_ints hR.2.2 _ _) ?_ ?_ (fun j hj => ?_) (fun k' hk' hne => ?_)
          · rcases zty_cases k.1 hs f hf hg.1 with e1 | e1
            · rw [e1]
              exact ⟨rfl, rfl⟩
            · rw [e1]
              rcases hg.2 e1 with rfl | rfl
              · exact ⟨rfl, rfl⟩
              · exact ⟨rfl, rfl⟩
          · simp [zfv, hg.1, zcv]
          · exact zfv_off (fun q => hj q.2) _
          · refine zE_keep rfl rfl ?_ rfl
            funext j
            simp [hne]
        · cases hz
      | _ => exact nomatch (show (none : Option zH) = _ from hz)
    · simp only [zpv] at hz
      split at hz
      · rename_i hg
        cases hz
        have hrk : rk ∈ h.1 := (hO.2 _ List.mem_cons_self).elim id (fun q => by omega)
        refine key _ hst rfl (zwf_ref hR.2.2 hrk _ _) ?_ ?_ (fun j hj => ?_) (fun k' hk' hne => ?_)
        · have h5 := hg.1
          cases ht : zty k.1 f <;> rw [ht] at h5 <;> first | exact ⟨rfl, rfl⟩ | exact absurd h5 (by decide)
        · simp [zfv, hg.1, zcv, zrf]
        · exact zfv_offr (fun q => hj q.2) _
        · refine zE_keep rfl ?_ rfl rfl
          funext j
          simp [hne]
      · cases hz
theorem s_put {s f idx : Nat} (hd : decode cc pc = .ok (.putfield idx, 3)) (hs : s < 7) (hf : f < zN s) (hlk : Cond.fieldLink own idx (zTT s f).1 (zTT s f).2.1 (zTT s f).2.2.1 ∈ zTb) (hfin : (zTT s f).2.2.2 = false) : zSnd X cc own nL mc ms d ini pc (a_put s f) :=
  s_put0 hs hf (fun q0 _ _ hx hb hts hown hini hK hP hD hS he hn hfit hl kk => va_put hx hb hts (zT_in s hs) (zty s) (zT_ty s hs) (zT_nm s hs) hown hK hP hD hS q0 he (zcl_at s hs) f hf (hts _ hlk) (fun x hx => hx) hfin (zT_ty s hs f hf) hn hfit hl hd kk)
theorem s_putF {s f idx : Nat} (hd : decode cc pc = .ok (.putfield idx, 3)) (hs : s < 7) (hf : f < zN s) (hlk : Cond.fieldLink own idx (zTT s f).1 (zTT s f).2.1 (zTT s f).2.2.1 ∈ zTb) (hfin : (zTT s f).2.2.2 = true) (hini : ini = true) (hown : own = zRR s) : zSnd X cc own nL mc ms d ini pc (a_put s f) :=
  s_put0 hs hf (fun q0 _ _ hx hb hts hown' hini' hK hP hD hS he hn hfit hl kk => va_putF hx hb hts (zT_in s hs) (zty s) (zT_ty s hs) (zT_nm s hs) hown' hK hP hD hS q0 he (zcl_at s hs) f hf (hts _ hlk) (fun x hx => hx) hfin (hini' hini) (by rw [hown]; exact zT_own s hs f hf) (zT_ty s hs f hf) hn hfit hl hd kk)
end ZS3
