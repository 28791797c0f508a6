/-! what holds at the entry of the law -/
def tmS (i : Nat) : Term := .string (if i < 6 then RX1 else RX7) ([57, 59, 61, 63, 65, 67, 149, 151, 153, 155, 159].getD i 0)
abbrev gvC : Cond := Jvm.Cond.and given_1 narrow_1
abbrev tKA : Term := .static RX6 "KIND_ABOVE" "[I"
theorem ws_ex : ∀ i, i < 11 → Cond.exactly (tmS i) "java/lang/String" ∈ flatC gvC := by decide +kernel
theorem ws_co : ∀ i, i < 11 → Cond.eq (.field (tmS i) "java/lang/String" "coder" "B") (.int 0) ∈ flatC gvC := by decide +kernel
theorem ws_ar : ∀ i, i < 11 → Cond.arrayOf (.field (tmS i) "java/lang/String" "value" "[B") .byte ∈ flatC gvC := by decide +kernel
theorem ws_le : ∀ i, i < 11 → Cond.eq (.length (.field (tmS i) "java/lang/String" "value" "[B")) (.int (Int32.ofNat (zsl.getD i 0))) ∈ flatC gvC := by decide +kernel
theorem ws_el : ∀ i, i < 11 → ∀ j, j < zsl.getD i 0 → Cond.eq (.elem (.field (tmS i) "java/lang/String" "value" "[B") (.int (Int32.ofNat j))) (.int ((zsb.getD i []).getD j 0)) ∈ flatC gvC := by decide +kernel
theorem ws_ne : ∀ i, i < 11 → ∀ j, j < 11 → i ≠ j → Cond.not (Cond.eq (tmS i) (tmS j)) ∈ flatC gvC ∨ Cond.not (Cond.eq (tmS j) (tmS i)) ∈ flatC gvC := by decide +kernel
theorem ws_57 : Cond.eq (.string RX1 67) (.string RX7 157) ∈ flatC gvC := by decide +kernel
theorem ws_kl : Cond.eq (.length tKA) (.int 6) ∈ flatC gvC := by decide +kernel
theorem ws_ka : Cond.arrayOf tKA .int ∈ flatC gvC := by decide +kernel
theorem ws_ke : ∀ j, j < 6 → Cond.eq (.elem tKA (.int (Int32.ofNat j))) (.int (zka.getD j 0)) ∈ flatC gvC := by decide +kernel
theorem ws_cs : Cond.eq (.static "java/lang/String" "COMPACT_STRINGS" "Z") (.int 1) ∈ flatC gvC := by decide +kernel
theorem ws_si : Cond.isRef (.static "jdk/internal/util/Preconditions" "SIOOBE_FORMATTER" "Ljava/util/function/BiFunction;") ∈ flatC gvC := by decide +kernel
theorem ws_sr : ∀ q ∈ zsR, Cond.stringRef q.1 q.2.1 q.2.2.1 ∈ lw_tbl := by decide +kernel
theorem ws_nest : ∀ w ∈ zNest, w ∈ lw_tbl ∧ w.onTables = true := by decide +kernel
theorem ws_inst : ∀ s, s < 8 → Cond.instantiable (zRR s) (zN s) ∈ lw_tbl := by decide +kernel
theorem ws_ls : Cond.laysStatic RX6 "KIND_ABOVE" "[I" ∈ lw_tbl ∧ Cond.laysStatic "java/lang/String" "COMPACT_STRINGS" "Z" ∈ lw_tbl ∧ Cond.laysStatic "jdk/internal/util/Preconditions" "SIOOBE_FORMATTER" "Ljava/util/function/BiFunction;" ∈ lw_tbl := by decide +kernel
theorem ws_in : Cond.initialized RX6 ∈ lw_tbl ∧ Cond.initialized "java/lang/String" ∈ lw_tbl ∧ Cond.initialized "jdk/internal/util/Preconditions" ∈ lw_tbl := by decide +kernel
theorem ws_ao : Cond.arrayOver (.object RX5) ∈ lw_tbl ∧ Cond.arrayOver (.object RX3) ∈ lw_tbl ∧ Cond.arrayOver (.object RX4) ∈ lw_tbl := by decide +kernel
theorem ws_ac : Cond.arrayClass .int ∈ lw_tbl ∧ Cond.arrayClass .long ∈ lw_tbl := by decide +kernel
theorem ev_ref {args : Array Value} {s : State} {t1 t2 : Term} {a : Nat} (h : (Cond.eq t1 t2).before args s = true) (h1 : t1.eval args s none [] s = some (.ref a)) : t2.eval args s none [] s = some (.ref a) := by
  cases hv : t2.eval args s none [] s with
  | none => simp [Cond.before, Cond.holds, Cond.value, h1, hv] at h
  | some w =>
    simp only [Cond.before, Cond.holds, Cond.value, h1, hv] at h
    cases w <;> simp_all
theorem ev_isRef {args : Array Value} {s : State} {t : Term} (h : (Cond.isRef t).before args s = true) : ∃ v : Value, t.eval args s none [] s = some v ∧ v.category = 1 := by
  cases hv : t.eval args s none [] s with
  | none => simp [Cond.before, Cond.holds, Cond.value, hv] at h
  | some w =>
    refine ⟨w, rfl, ?_⟩
    simp only [Cond.before, Cond.holds, Cond.value, hv] at h
    cases w <;> first | rfl | simp_all [Value.isRef]
theorem zAr_p {s : State} {args : Array Value} {ty : FieldType} (h : (Cond.arrayClass ty).before args s = true) : ∃ cA : ClassId, ArrOfT s cA ty ∧ s.vm.findClass ("[" ++ ty.toString) = some cA := by
  obtain ⟨cA, kA, comp, h1, h2, h3⟩ := Cond.arrayClass_spec h
  exact ⟨cA, fun n z => ⟨fun k e => (by cases e), kA, h2, comp, h3⟩, h1⟩
theorem zAr_q {s : State} {args : Array Value} {C : String} (h : (Cond.arrayOver (.object C)).before args s = true) : ∃ cA : ClassId, ArrOfT s cA (.object C) ∧ va_RA s cA (.object C) := by
  obtain ⟨comp, cA, kA, h1, -, h3, h4, h5⟩ := Cond.arrayOver_spec h
  exact ⟨cA, fun n z => ⟨fun k e => (by cases e), kA, h3, comp, h4⟩, kA, comp, h3, h4, h1, h5⟩
/-- the world at the entry -/
theorem w_entry {s : State} {b L : Nat} {xs : Nat → Int32} (hts : ∀ w ∈ lw_tbl, w.before #[Value.ref b] s = true) (hgv : gvC.before #[Value.ref b] s = true) (hX : va_X b L xs s s.heap) (hbl : b < s.heap.size) :
    ∃ (v : Value) (cA : Nat → ClassId) (D : va_G) (ad : zK → Nat), v.category = 1 ∧ ad (50, 0, 0) = b ∧ zU cA D (fun q => s.heap.size ≤ q) (L, xs, v) ad hN s := by
  have gv := flat_of_before _ hgv
  have hA : ∀ a : Nat, a < s.heap.size → ¬ (fun q : Nat => s.heap.size ≤ q) a := fun a h => Nat.not_le.mpr h
  have cl : ∀ k : Nat, ∃ q : ClassId × (Nat → Nat), k < 8 → u_Kn s (zRR k) (zTT k) (zN k) q.1 q.2 := by
    intro k
    by_cases hk : k < 8
    · obtain ⟨c, i, h⟩ := u_known (C := zRR k) (T := zTT k) (N := zN k) (n := zN k) hts (fun w hw => (List.mem_filter.mp (zT_in k hk w hw)).1) (hts _ (ws_inst k hk))
      exact ⟨(c, i), fun _ => h⟩
    · exact ⟨(0, fun _ => 0), fun h => absurd h hk⟩
  obtain ⟨dq, hdq⟩ := Classical.axiomOfChoice cl
  obtain ⟨cA, hcA⟩ : ∃ cA : Nat → ClassId, ∀ n, n < 5 → ArrOfT s (cA n) (zaty n) ∧ va_RA s (cA n) (zaty n) := by
    obtain ⟨a0, b0, c0⟩ := zAr_p (hts _ ws_ac.1)
    obtain ⟨a1, b1, c1⟩ := zAr_p (hts _ ws_ac.2)
    obtain ⟨a2, b2, c2⟩ := zAr_q (hts _ ws_ao.1)
    obtain ⟨a3, b3, c3⟩ := zAr_q (hts _ ws_ao.2.1)
    obtain ⟨a4, b4, c4⟩ := zAr_q (hts _ ws_ao.2.2)
    refine ⟨fun n => if n = 0 then a0 else if n = 1 then a1 else if n = 2 then a2 else if n = 3 then a3 else a4, fun n hn => ?_⟩
    rcases (show n = 0 ∨ n = 1 ∨ n = 2 ∨ n = 3 ∨ n = 4 by omega) with rfl | rfl | rfl | rfl | rfl
    · exact ⟨b0, c0⟩
    · exact ⟨b1, c1⟩
    · exact ⟨b2, c2⟩
    · exact ⟨b3, c3⟩
    · exact ⟨b4, c4⟩
  obtain ⟨adK, adV, hS, hev⟩ := vk_Sof (tm := tmS) (N := 11) (len := zsl) (byt := zsb) (A := fun q => s.heap.size ≤ q) (by decide +kernel) (fun i hi => gv _ (ws_ex i hi)) (fun i hi => gv _ (ws_co i hi)) (fun i hi => gv _ (ws_ar i hi)) (fun i hi => gv _ (ws_le i hi)) (fun i hi j hj => gv _ (ws_el i hi j hj)) (fun i j hi hj hij => (ws_ne i hi j hj hij).imp (gv _) (gv _)) hA
  obtain ⟨t, ht, hT⟩ := va_Tof (ty := .int) (N := 6) (f := fun j => .int (zka.getD j 0)) (A := fun q => s.heap.size ≤ q) (by decide) (gv _ ws_ka) (va_eqt (gv _ ws_kl)) (fun j hj => va_eqt (gv _ (ws_ke j hj))) hA
  obtain ⟨v, hv, hc⟩ := ev_isRef (gv _ ws_si)
  refine ⟨v, cA, (fun k => (dq k).1, fun k => (dq k).2), fun k => if k.1 = 50 then b else if k.1 = 51 then t else if k.1 = 52 then adK k.2.1 else adV k.2.1, hc, rfl, ⟨fun k q h => absurd (List.mem_of_getElem? h) List.not_mem_nil, ⟨fun i j p q h => absurd (List.mem_of_getElem? h) List.not_mem_nil, fun k q h => absurd (List.mem_of_getElem? h) List.not_mem_nil⟩, List.nodup_nil, fun k h => absurd h List.not_mem_nil⟩, ⟨⟨fun c q hq => ?_, fun k q hq => ?_⟩, fun w hw => va_Nw.of (ws_nest w hw).2 (hts w (ws_nest w hw).1), ⟨va_AO.of (hts _ ws_ao.1), va_AO.of (hts _ ws_ao.2.1), va_AO.of (hts _ ws_ao.2.2)⟩, ⟨hX, hbl, hA b hbl⟩, ⟨va_Zref (hts _ ws_ls.1) (hts _ ws_in.1) ht hA, hT⟩, ⟨hS, fun q hq => ?_⟩, va_Zof (hts _ ws_ls.2.1) (hts _ ws_in.2.1) (va_eqi (gv _ ws_cs)) hA, va_Zof (hts _ ws_ls.2.2) (hts _ ws_in.2.2) hv hA⟩, fun q hq => hq⟩
  · have h8 : c < 8 := by
      have := (List.getElem?_eq_some_iff.mp hq).1
      exact this
    rw [zcl_at c h8] at hq
    cases hq
    exact hdq c h8
  · have h5 : k < 5 := by
      have := (List.getElem?_eq_some_iff.mp hq).1
      exact this
    rw [zty_at h5] at hq
    cases hq
    exact hcA k h5
  · refine vk_R.of (hts _ (ws_sr q hq)) ?_
    rcases List.mem_cons.mp hq with rfl | hq
    · exact hev 0 (by decide)
    rcases List.mem_cons.mp hq with rfl | hq
    · exact hev 1 (by decide)
    rcases List.mem_cons.mp hq with rfl | hq
    · exact hev 2 (by decide)
    rcases List.mem_cons.mp hq with rfl | hq
    · exact hev 3 (by decide)
    rcases List.mem_cons.mp hq with rfl | hq
    · exact hev 4 (by decide)
    rcases List.mem_cons.mp hq with rfl | hq
    · exact hev 5 (by decide)
    rcases List.mem_cons.mp hq with rfl | hq
    · exact hev 6 (by decide)
    rcases List.mem_cons.mp hq with rfl | hq
    · exact hev 7 (by decide)
    rcases List.mem_cons.mp hq with rfl | hq
    · exact hev 8 (by decide)
    rcases List.mem_cons.mp hq with rfl | hq
    · exact hev 9 (by decide)
    rcases List.mem_cons.mp hq with rfl | hq
    · exact ev_ref (gv _ ws_57) (hev 5 (by decide))
    rcases List.mem_cons.mp hq with rfl | hq
    · exact hev 10 (by decide)
    · exact absurd hq List.not_mem_nil
