/-! what holds at the entry of the law -/
theorem ws_nest : ∀ w ∈ zNest, w ∈ lw_tbl ∧ w.onTables = true := by decide +kernel
theorem ws_inst : ∀ s, s < 7 → Cond.instantiable (zRR s) (zN s) ∈ lw_tbl := by decide +kernel
theorem ws_ao : Cond.arrayOver (.object RX5) ∈ lw_tbl ∧ Cond.arrayOver (.object RX3) ∈ lw_tbl ∧ Cond.arrayOver (.object RX4) ∈ lw_tbl := by decide +kernel
theorem ws_ac : Cond.arrayClass .int ∈ lw_tbl ∧ Cond.arrayClass .long ∈ lw_tbl := by decide +kernel
theorem zAr_p {s : State} {args : Array Value} {ty : FieldType} (h : (Cond.arrayClass ty).before args s = true) : ∃ cA : ClassId, ArrOfT s cA ty ∧ s.vm.findClass ("[" ++ ty.toString) = some cA := by
  obtain ⟨cA, kA, comp, h1, h2, h3⟩ := Cond.arrayClass_spec h
  exact ⟨cA, fun n z => ⟨fun k e => (by cases e), kA, h2, comp, h3⟩, h1⟩
theorem zAr_q {s : State} {args : Array Value} {C : String} (h : (Cond.arrayOver (.object C)).before args s = true) : ∃ cA : ClassId, ArrOfT s cA (.object C) ∧ va_RA s cA (.object C) := by
  obtain ⟨comp, cA, kA, h1, -, h3, h4, h5⟩ := Cond.arrayOver_spec h
  exact ⟨cA, fun n z => ⟨fun k e => (by cases e), kA, h3, comp, h4⟩, kA, comp, h3, h4, h1, h5⟩
/-- the world at the entry -/
theorem w_entry {s : State} {b L : Nat} {xs : Nat → Int32} (hts : ∀ w ∈ lw_tbl, w.before #[Value.ref b] s = true) (hX : va_X b L xs s s.heap) (hbl : b < s.heap.size) :
    ∃ (v : Value) (cA : Nat → ClassId) (D : va_G) (ad : zK → Nat), ad (50, 0, 0) = b ∧ zU cA D (fun q => s.heap.size ≤ q) (L, xs, v) ad hN s := by
  have hA : ∀ a : Nat, a < s.heap.size → ¬ (fun q : Nat => s.heap.size ≤ q) a := fun a h => Nat.not_le.mpr h
  have cl : ∀ k : Nat, ∃ q : ClassId × (Nat → Nat), k < 7 → u_Kn s (zRR k) (zTT k) (zN k) q.1 q.2 := by
    intro k
    by_cases hk : k < 7
    · obtain ⟨c, i, h⟩ := u_known (C := zRR k) (T := zTT k) (N := zN k) (n := zN k) hts (fun w hw => (List.mem_filter.mp (zT_in k hk w hw)).1) (hts _ (ws_inst k hk))
      exact ⟨(c, i), fun _ => h⟩
    · exact ⟨(0, fun _ => 0), fun h => absurd h hk⟩
  obtain ⟨dq, hdq⟩ := Classical.axiomOfChoice cl
  obtain ⟨cA, hcA⟩ : ∃ cA : Nat → ClassId, ∀ n, n < 5 → ArrOfT s (cA n) (zaty n) ∧ va_RA s (cA n) (zaty n) := by
    obtain ⟨a0, b0, c0⟩ := zAr_p (hts _ ws_ac.1)
    obtain ⟨a1, b1, c1⟩ := zAr_p (hts _ ws_ac.2)
    obtain ⟨a2, b2, c2⟩ := zAr_q (hts _ ws_ao.1)
    obtain ⟨a3, b3, c3⟩ := zAr_q (hts _ ws_ao.2.1)
    obtain ⟨a4, b4, c4⟩ := zAr_q (hts _ ws_ao.2.2)
    refine ⟨fun n => if n = 0 then a0 else if n = 1 then a1 else if n = 2 then a2 else if n = 3 then a3 else a4, fun n hn => ?_⟩
    rcases (show n = 0 ∨ n = 1 ∨ n = 2 ∨ n = 3 ∨ n = 4 by omega) with rfl | rfl | rfl | rfl | rfl
    · exact ⟨b0, c0⟩
    · exact ⟨b1, c1⟩
    · exact ⟨b2, c2⟩
    · exact ⟨b3, c3⟩
    · exact ⟨b4, c4⟩
  refine ⟨.null, cA, (fun k => (dq k).1, fun k => (dq k).2), fun _ => b, rfl, ⟨fun k q h => absurd (List.mem_of_getElem? h) List.not_mem_nil, ⟨fun i j p q h => absurd (List.mem_of_getElem? h) List.not_mem_nil, fun k q h => absurd (List.mem_of_getElem? h) List.not_mem_nil⟩, List.nodup_nil, fun k h => absurd h List.not_mem_nil⟩, ⟨⟨fun c q hq => ?_, fun k q hq => ?_⟩, fun w hw => va_Nw.of (ws_nest w hw).2 (hts w (ws_nest w hw).1), ⟨va_AO.of (hts _ ws_ao.1), va_AO.of (hts _ ws_ao.2.1), va_AO.of (hts _ ws_ao.2.2)⟩, ⟨hX, hbl, hA b hbl⟩⟩, fun q hq => hq⟩
  · have h8 : c < 7 := by
      have := (List.getElem?_eq_some_iff.mp hq).1
      exact this
    rw [zcl_at c h8] at hq
    cases hq
    exact hdq c h8
  · have h5 : k < 5 := by
      have := (List.getElem?_eq_some_iff.mp hq).1
      exact this
    rw [zty_at h5] at hq
    cases hq
    exact hcA k h5
