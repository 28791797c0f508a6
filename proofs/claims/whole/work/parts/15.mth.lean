/-! THE TABLE IS SOUND -/
def zMth (X : Nat × (Nat → Int32) × Value) (k : Nat) : Prop := Cond.code (zy k) (zcc k) ((zTX X).2.1 k) (zret k) ∈ zTb ∧ Cond.initialized (zy k).cls ∈ zTb ∧ (zTX X).2.1 k ≤ 21 ∧ ((zy k).cls ≠ "java/lang/invoke/MethodHandle" ∧ (zy k).cls ≠ "java/lang/invoke/VarHandle") ∧ plainFor (zy k) = true ∧ (zini k = true → (zy k).name = "<init>") ∧ (zy k).cls = zown k
abbrev zOK (X : Nat × (Nat → Int32) × Value) (k : Nat) (f : Nat → Option zI) : Prop := ∀ pc i, f pc = some i → zOkI X (zTX X) zcc zown zy zret zini k pc i
section ZTS
variable {X : Nat × (Nat → Int32) × Value}
theorem zT_tr {k n : Nat} {a b : Nat → Option zI} (ha : zOK X k a) (hb : zOK X k b) : zOK X k (zTr n a b) := by
  intro pc i h
  unfold zTr at h
  split at h
  · exact ha pc i h
  · exact hb pc i h
theorem zT_lf {k n : Nat} {x : zI} (hx : zOkI X (zTX X) zcc zown zy zret zini k n x) : zOK X k (zLf n x) := by
  intro pc i h
  unfold zLf at h
  split at h
  · rename_i e
    cases h
    rw [e]
    exact hx
  · cases h
theorem zT_I {k n : Nat} {a : zA} (hx : ∀ d, zSnd X (zcc k) (zown k) (znL k) (zmc k) (zms k) d (zini k) n a) : zOK X k (zLf n (.inl a)) := zT_lf hx
theorem zT_R {k n : Nat} {a : zA} (hx : zRt X (zcc k) (zown k) (znL k) (zmc k) (zms k) (zini k) (zret k) n a) : zOK X k (zLf n (.inr (.inl a))) := zT_lf hx
theorem zT_C {k n : Nat} {q : Nat × Nat × Nat} (hx : zLk (zown k) (zcc k) n q.1 q.2.2 (zy q.2.1) (zcc q.2.1) ((zTX X).2.1 q.2.1) (zret q.2.1) ∧ (plainFor (zy q.2.1) = true ∧ (zini q.2.1 = true → (zy q.2.1).name = "<init>") ∧ (zy q.2.1).cls = zown q.2.1)) : zOK X k (zLf n (.inr (.inr q))) := zT_lf hx
theorem zLk_s {own : String} {cc : ByteArray} {pc n m idx : Nat} (hm : zMth X m) (hd : decode cc pc = .ok (.invokestatic idx, 3)) (hl : Cond.methodLink own idx (zy m) ∈ zTb ∨ Cond.methodLinkNest own idx (zy m) RX6 ∈ zNest) (hs : Cond.static (zy m) ∈ zTb) (hp : (parseMethodDescriptor (zy m).desc).map (fun d => d.parameters.length) = some n) :
    zLk own cc pc 0 n (zy m) (zcc m) ((zTX X).2.1 m) (zret m) ∧ (plainFor (zy m) = true ∧ (zini m = true → (zy m).name = "<init>") ∧ (zy m).cls = zown m) :=
  ⟨⟨hm.1, hm.2.1, hm.2.2.1, hm.2.2.2.1, Or.inl ⟨rfl, ⟨idx, hd, hl⟩, hs, hp⟩⟩, hm.2.2.2.2⟩
theorem zLk_i {own : String} {cc : ByteArray} {pc n m idx : Nat} (hm : zMth X m) (hd : decode cc pc = .ok (.invokespecial idx, 3)) (hl : Cond.methodLink own idx (zy m) ∈ zTb ∨ Cond.methodLinkNest own idx (zy m) RX6 ∈ zNest) (hn : (zy m).name = "<init>") (hr : zret m = none) (hi : Cond.instanceMethod (zy m) ∈ zTb) (hp : (parseMethodDescriptor (zy m).desc).map (fun d => d.parameters.length) = some n) :
    zLk own cc pc 100 (n + 1) (zy m) (zcc m) ((zTX X).2.1 m) (zret m) ∧ (plainFor (zy m) = true ∧ (zini m = true → (zy m).name = "<init>") ∧ (zy m).cls = zown m) :=
  ⟨⟨hm.1, hm.2.1, hm.2.2.1, hm.2.2.2.1, Or.inr (Or.inl ⟨rfl, ⟨idx, hd, hl⟩, hn, hr, hi, n, rfl, hp⟩)⟩, hm.2.2.2.2⟩
theorem zLk_v {own : String} {cc : ByteArray} {pc n m idx s : Nat} (hm : zMth X m) (h99 : s ≠ 99) (hd : decode cc pc = .ok (.invokevirtual idx, 3)) (hl : Cond.methodLink own idx (zy m) ∈ zTb ∨ Cond.methodLinkNest own idx (zy m) RX6 ∈ zNest) (hi : Cond.instanceMethod (zy m) ∈ zTb) (hc : (s < 8 ∧ (zy m).cls = zRR s) ∨ (s = 52 ∧ (zy m).cls = "java/lang/String")) (hs : Cond.selects (zy m).cls (zy m) (zy m) ∈ zTb) (hp : (parseMethodDescriptor (zy m).desc).map (fun d => d.parameters.length) = some n) :
    zLk own cc pc (s + 1) (n + 1) (zy m) (zcc m) ((zTX X).2.1 m) (zret m) ∧ (plainFor (zy m) = true ∧ (zini m = true → (zy m).name = "<init>") ∧ (zy m).cls = zown m) :=
  ⟨⟨hm.1, hm.2.1, hm.2.2.1, hm.2.2.2.1, Or.inr (Or.inr ⟨s, rfl, h99, ⟨idx, hd, hl⟩, hi, hc, hs, n, rfl, hp⟩)⟩, hm.2.2.2.2⟩
end ZTS
theorem zm_0 (X : Nat × (Nat → Int32) × Value) : zMth X 0 := ⟨zq89, zq62, Nat.le_of_ble_eq_true rfl, ⟨by decide +kernel, by decide +kernel⟩, by decide +kernel, by decide +kernel, rfl⟩
theorem zm_1 (X : Nat × (Nat → Int32) × Value) : zMth X 1 := ⟨zq428, zq62, Nat.le_of_ble_eq_true rfl, ⟨by decide +kernel, by decide +kernel⟩, by decide +kernel, by decide +kernel, rfl⟩
theorem zm_2 (X : Nat × (Nat → Int32) × Value) : zMth X 2 := ⟨zq455, zq62, Nat.le_of_ble_eq_true rfl, ⟨by decide +kernel, by decide +kernel⟩, by decide +kernel, by decide +kernel, rfl⟩
theorem zm_3 (X : Nat × (Nat → Int32) × Value) : zMth X 3 := ⟨zq467, zq62, Nat.le_of_ble_eq_true rfl, ⟨by decide +kernel, by decide +kernel⟩, by decide +kernel, by decide +kernel, rfl⟩
theorem zm_4 (X : Nat × (Nat → Int32) × Value) : zMth X 4 := ⟨zq447, zq62, Nat.le_of_ble_eq_true rfl, ⟨by decide +kernel, by decide +kernel⟩, by decide +kernel, by decide +kernel, rfl⟩
theorem zm_5 (X : Nat × (Nat → Int32) × Value) : zMth X 5 := ⟨zq451, zq62, Nat.le_of_ble_eq_true rfl, ⟨by decide +kernel, by decide +kernel⟩, by decide +kernel, by decide +kernel, rfl⟩
theorem zm_6 (X : Nat × (Nat → Int32) × Value) : zMth X 6 := ⟨zq459, zq62, Nat.le_of_ble_eq_true rfl, ⟨by decide +kernel, by decide +kernel⟩, by decide +kernel, by decide +kernel, rfl⟩
theorem zm_7 (X : Nat × (Nat → Int32) × Value) : zMth X 7 := ⟨zq463, zq62, Nat.le_of_ble_eq_true rfl, ⟨by decide +kernel, by decide +kernel⟩, by decide +kernel, by decide +kernel, rfl⟩
theorem zm_8 (X : Nat × (Nat → Int32) × Value) : zMth X 8 := ⟨zq477, zq62, Nat.le_of_ble_eq_true rfl, ⟨by decide +kernel, by decide +kernel⟩, by decide +kernel, by decide +kernel, rfl⟩
theorem zm_9 (X : Nat × (Nat → Int32) × Value) : zMth X 9 := ⟨zq485, zq62, Nat.le_of_ble_eq_true rfl, ⟨by decide +kernel, by decide +kernel⟩, by decide +kernel, by decide +kernel, rfl⟩
theorem zm_10 (X : Nat × (Nat → Int32) × Value) : zMth X 10 := ⟨zq489, zq62, Nat.le_of_ble_eq_true rfl, ⟨by decide +kernel, by decide +kernel⟩, by decide +kernel, by decide +kernel, rfl⟩
theorem zm_11 (X : Nat × (Nat → Int32) × Value) : zMth X 11 := ⟨zq493, zq62, Nat.le_of_ble_eq_true rfl, ⟨by decide +kernel, by decide +kernel⟩, by decide +kernel, by decide +kernel, rfl⟩
theorem zm_12 (X : Nat × (Nat → Int32) × Value) : zMth X 12 := ⟨zq538, zq62, Nat.le_of_ble_eq_true rfl, ⟨by decide +kernel, by decide +kernel⟩, by decide +kernel, by decide +kernel, rfl⟩
theorem zm_13 (X : Nat × (Nat → Int32) × Value) : zMth X 13 := ⟨zq497, zq62, Nat.le_of_ble_eq_true rfl, ⟨by decide +kernel, by decide +kernel⟩, by decide +kernel, by decide +kernel, rfl⟩
theorem zm_14 (X : Nat × (Nat → Int32) × Value) : zMth X 14 := ⟨zq617, zq62, Nat.le_of_ble_eq_true rfl, ⟨by decide +kernel, by decide +kernel⟩, by decide +kernel, by decide +kernel, rfl⟩
theorem zm_15 (X : Nat × (Nat → Int32) × Value) : zMth X 15 := ⟨zq592, zq62, Nat.le_of_ble_eq_true rfl, ⟨by decide +kernel, by decide +kernel⟩, by decide +kernel, by decide +kernel, rfl⟩
theorem zm_16 (X : Nat × (Nat → Int32) × Value) : zMth X 16 := ⟨zq685, zq62, Nat.le_of_ble_eq_true rfl, ⟨by decide +kernel, by decide +kernel⟩, by decide +kernel, by decide +kernel, rfl⟩
theorem zm_17 (X : Nat × (Nat → Int32) × Value) : zMth X 17 := ⟨zq735, zq62, Nat.le_of_ble_eq_true rfl, ⟨by decide +kernel, by decide +kernel⟩, by decide +kernel, by decide +kernel, rfl⟩
theorem zm_18 (X : Nat × (Nat → Int32) × Value) : zMth X 18 := ⟨zq681, zq62, Nat.le_of_ble_eq_true rfl, ⟨by decide +kernel, by decide +kernel⟩, by decide +kernel, by decide +kernel, rfl⟩
theorem zm_19 (X : Nat × (Nat → Int32) × Value) : zMth X 19 := ⟨zq258, zq66, Nat.le_of_ble_eq_true rfl, ⟨by decide +kernel, by decide +kernel⟩, by decide +kernel, by decide +kernel, rfl⟩
theorem zm_20 (X : Nat × (Nat → Int32) × Value) : zMth X 20 := ⟨zq336, zq66, Nat.le_of_ble_eq_true rfl, ⟨by decide +kernel, by decide +kernel⟩, by decide +kernel, by decide +kernel, rfl⟩
theorem zm_21 (X : Nat × (Nat → Int32) × Value) : zMth X 21 := ⟨zq544, zq66, Nat.le_of_ble_eq_true rfl, ⟨by decide +kernel, by decide +kernel⟩, by decide +kernel, by decide +kernel, rfl⟩
theorem zm_22 (X : Nat × (Nat → Int32) × Value) : zMth X 22 := ⟨zq348, zq66, Nat.le_of_ble_eq_true rfl, ⟨by decide +kernel, by decide +kernel⟩, by decide +kernel, by decide +kernel, rfl⟩
theorem zm_23 (X : Nat × (Nat → Int32) × Value) : zMth X 23 := ⟨zq356, zq66, Nat.le_of_ble_eq_true rfl, ⟨by decide +kernel, by decide +kernel⟩, by decide +kernel, by decide +kernel, rfl⟩
theorem zm_24 (X : Nat × (Nat → Int32) × Value) : zMth X 24 := ⟨zq344, zq66, Nat.le_of_ble_eq_true rfl, ⟨by decide +kernel, by decide +kernel⟩, by decide +kernel, by decide +kernel, rfl⟩
theorem zm_25 (X : Nat × (Nat → Int32) × Value) : zMth X 25 := ⟨zq352, zq66, Nat.le_of_ble_eq_true rfl, ⟨by decide +kernel, by decide +kernel⟩, by decide +kernel, by decide +kernel, rfl⟩
theorem zm_26 (X : Nat × (Nat → Int32) × Value) : zMth X 26 := ⟨zq359, zq66, Nat.le_of_ble_eq_true rfl, ⟨by decide +kernel, by decide +kernel⟩, by decide +kernel, by decide +kernel, rfl⟩
theorem zm_27 (X : Nat × (Nat → Int32) × Value) : zMth X 27 := ⟨zq421, zq66, Nat.le_of_ble_eq_true rfl, ⟨by decide +kernel, by decide +kernel⟩, by decide +kernel, by decide +kernel, rfl⟩
theorem zm_28 (X : Nat × (Nat → Int32) × Value) : zMth X 28 := ⟨zq424, zq66, Nat.le_of_ble_eq_true rfl, ⟨by decide +kernel, by decide +kernel⟩, by decide +kernel, by decide +kernel, rfl⟩
theorem zm_29 (X : Nat × (Nat → Int32) × Value) : zMth X 29 := ⟨zq227, zq65, Nat.le_of_ble_eq_true rfl, ⟨by decide +kernel, by decide +kernel⟩, by decide +kernel, by decide +kernel, rfl⟩
theorem zm_30 (X : Nat × (Nat → Int32) × Value) : zMth X 30 := ⟨zq625, zq65, Nat.le_of_ble_eq_true rfl, ⟨by decide +kernel, by decide +kernel⟩, by decide +kernel, by decide +kernel, rfl⟩
theorem zm_31 (X : Nat × (Nat → Int32) × Value) : zMth X 31 := ⟨zq630, zq65, Nat.le_of_ble_eq_true rfl, ⟨by decide +kernel, by decide +kernel⟩, by decide +kernel, by decide +kernel, rfl⟩
theorem zm_32 (X : Nat × (Nat → Int32) × Value) : zMth X 32 := ⟨zq639, zq65, Nat.le_of_ble_eq_true rfl, ⟨by decide +kernel, by decide +kernel⟩, by decide +kernel, by decide +kernel, rfl⟩
theorem zm_33 (X : Nat × (Nat → Int32) × Value) : zMth X 33 := ⟨zq647, zq65, Nat.le_of_ble_eq_true rfl, ⟨by decide +kernel, by decide +kernel⟩, by decide +kernel, by decide +kernel, rfl⟩
theorem zm_34 (X : Nat × (Nat → Int32) × Value) : zMth X 34 := ⟨zq656, zq65, Nat.le_of_ble_eq_true rfl, ⟨by decide +kernel, by decide +kernel⟩, by decide +kernel, by decide +kernel, rfl⟩
theorem zm_35 (X : Nat × (Nat → Int32) × Value) : zMth X 35 := ⟨zq669, zq65, Nat.le_of_ble_eq_true rfl, ⟨by decide +kernel, by decide +kernel⟩, by decide +kernel, by decide +kernel, rfl⟩
theorem zm_36 (X : Nat × (Nat → Int32) × Value) : zMth X 36 := ⟨zq660, zq65, Nat.le_of_ble_eq_true rfl, ⟨by decide +kernel, by decide +kernel⟩, by decide +kernel, by decide +kernel, rfl⟩
theorem zm_37 (X : Nat × (Nat → Int32) × Value) : zMth X 37 := ⟨zq677, zq65, Nat.le_of_ble_eq_true rfl, ⟨by decide +kernel, by decide +kernel⟩, by decide +kernel, by decide +kernel, rfl⟩
theorem zm_38 (X : Nat × (Nat → Int32) × Value) : zMth X 38 := ⟨zq693, zq65, Nat.le_of_ble_eq_true rfl, ⟨by decide +kernel, by decide +kernel⟩, by decide +kernel, by decide +kernel, rfl⟩
theorem zm_39 (X : Nat × (Nat → Int32) × Value) : zMth X 39 := ⟨zq699, zq65, Nat.le_of_ble_eq_true rfl, ⟨by decide +kernel, by decide +kernel⟩, by decide +kernel, by decide +kernel, rfl⟩
theorem zm_40 (X : Nat × (Nat → Int32) × Value) : zMth X 40 := ⟨zq707, zq65, Nat.le_of_ble_eq_true rfl, ⟨by decide +kernel, by decide +kernel⟩, by decide +kernel, by decide +kernel, rfl⟩
theorem zm_41 (X : Nat × (Nat → Int32) × Value) : zMth X 41 := ⟨zq711, zq65, Nat.le_of_ble_eq_true rfl, ⟨by decide +kernel, by decide +kernel⟩, by decide +kernel, by decide +kernel, rfl⟩
theorem zm_42 (X : Nat × (Nat → Int32) × Value) : zMth X 42 := ⟨zq720, zq65, Nat.le_of_ble_eq_true rfl, ⟨by decide +kernel, by decide +kernel⟩, by decide +kernel, by decide +kernel, rfl⟩
theorem zm_43 (X : Nat × (Nat → Int32) × Value) : zMth X 43 := ⟨zq724, zq65, Nat.le_of_ble_eq_true rfl, ⟨by decide +kernel, by decide +kernel⟩, by decide +kernel, by decide +kernel, rfl⟩
theorem zm_44 (X : Nat × (Nat → Int32) × Value) : zMth X 44 := ⟨zq748, zq65, Nat.le_of_ble_eq_true rfl, ⟨by decide +kernel, by decide +kernel⟩, by decide +kernel, by decide +kernel, rfl⟩
theorem zm_45 (X : Nat × (Nat → Int32) × Value) : zMth X 45 := ⟨zq769, zq65, Nat.le_of_ble_eq_true rfl, ⟨by decide +kernel, by decide +kernel⟩, by decide +kernel, by decide +kernel, rfl⟩
theorem zm_46 (X : Nat × (Nat → Int32) × Value) : zMth X 46 := ⟨zq773, zq65, Nat.le_of_ble_eq_true rfl, ⟨by decide +kernel, by decide +kernel⟩, by decide +kernel, by decide +kernel, rfl⟩
theorem zm_47 (X : Nat × (Nat → Int32) × Value) : zMth X 47 := ⟨zq802, zq65, Nat.le_of_ble_eq_true rfl, ⟨by decide +kernel, by decide +kernel⟩, by decide +kernel, by decide +kernel, rfl⟩
theorem zm_48 (X : Nat × (Nat → Int32) × Value) : zMth X 48 := ⟨zq815, zq65, Nat.le_of_ble_eq_true rfl, ⟨by decide +kernel, by decide +kernel⟩, by decide +kernel, by decide +kernel, rfl⟩
theorem zm_49 (X : Nat × (Nat → Int32) × Value) : zMth X 49 := ⟨zq824, zq65, Nat.le_of_ble_eq_true rfl, ⟨by decide +kernel, by decide +kernel⟩, by decide +kernel, by decide +kernel, rfl⟩
theorem zm_50 (X : Nat × (Nat → Int32) × Value) : zMth X 50 := ⟨zq819, zq65, Nat.le_of_ble_eq_true rfl, ⟨by decide +kernel, by decide +kernel⟩, by decide +kernel, by decide +kernel, rfl⟩
theorem zm_51 (X : Nat × (Nat → Int32) × Value) : zMth X 51 := ⟨zq832, zq65, Nat.le_of_ble_eq_true rfl, ⟨by decide +kernel, by decide +kernel⟩, by decide +kernel, by decide +kernel, rfl⟩
theorem zm_52 (X : Nat × (Nat → Int32) × Value) : zMth X 52 := ⟨zq836, zq65, Nat.le_of_ble_eq_true rfl, ⟨by decide +kernel, by decide +kernel⟩, by decide +kernel, by decide +kernel, rfl⟩
theorem zm_53 (X : Nat × (Nat → Int32) × Value) : zMth X 53 := ⟨zq134, zq64, Nat.le_of_ble_eq_true rfl, ⟨by decide +kernel, by decide +kernel⟩, by decide +kernel, by decide +kernel, rfl⟩
theorem zm_54 (X : Nat × (Nat → Int32) × Value) : zMth X 54 := ⟨zq436, zq64, Nat.le_of_ble_eq_true rfl, ⟨by decide +kernel, by decide +kernel⟩, by decide +kernel, by decide +kernel, rfl⟩
theorem zm_55 (X : Nat × (Nat → Int32) × Value) : zMth X 55 := ⟨zq501, zq64, Nat.le_of_ble_eq_true rfl, ⟨by decide +kernel, by decide +kernel⟩, by decide +kernel, by decide +kernel, rfl⟩
theorem zm_56 (X : Nat × (Nat → Int32) × Value) : zMth X 56 := ⟨zq513, zq64, Nat.le_of_ble_eq_true rfl, ⟨by decide +kernel, by decide +kernel⟩, by decide +kernel, by decide +kernel, rfl⟩
theorem zm_57 (X : Nat × (Nat → Int32) × Value) : zMth X 57 := ⟨zq505, zq64, Nat.le_of_ble_eq_true rfl, ⟨by decide +kernel, by decide +kernel⟩, by decide +kernel, by decide +kernel, rfl⟩
theorem zm_58 (X : Nat × (Nat → Int32) × Value) : zMth X 58 := ⟨zq517, zq64, Nat.le_of_ble_eq_true rfl, ⟨by decide +kernel, by decide +kernel⟩, by decide +kernel, by decide +kernel, rfl⟩
theorem zm_59 (X : Nat × (Nat → Int32) × Value) : zMth X 59 := ⟨zq525, zq64, Nat.le_of_ble_eq_true rfl, ⟨by decide +kernel, by decide +kernel⟩, by decide +kernel, by decide +kernel, rfl⟩
theorem zm_60 (X : Nat × (Nat → Int32) × Value) : zMth X 60 := ⟨zq282, zq67, Nat.le_of_ble_eq_true rfl, ⟨by decide +kernel, by decide +kernel⟩, by decide +kernel, by decide +kernel, rfl⟩
theorem zm_61 (X : Nat × (Nat → Int32) × Value) : zMth X 61 := ⟨zq798, zq67, Nat.le_of_ble_eq_true rfl, ⟨by decide +kernel, by decide +kernel⟩, by decide +kernel, by decide +kernel, rfl⟩
theorem zm_62 (X : Nat × (Nat → Int32) × Value) : zMth X 62 := ⟨zq806, zq67, Nat.le_of_ble_eq_true rfl, ⟨by decide +kernel, by decide +kernel⟩, by decide +kernel, by decide +kernel, rfl⟩
theorem zm_63 (X : Nat × (Nat → Int32) × Value) : zMth X 63 := ⟨zq848, zq67, Nat.le_of_ble_eq_true rfl, ⟨by decide +kernel, by decide +kernel⟩, by decide +kernel, by decide +kernel, rfl⟩
theorem zm_64 (X : Nat × (Nat → Int32) × Value) : zMth X 64 := ⟨zq886, zq67, Nat.le_of_ble_eq_true rfl, ⟨by decide +kernel, by decide +kernel⟩, by decide +kernel, by decide +kernel, rfl⟩
theorem zm_65 (X : Nat × (Nat → Int32) × Value) : zMth X 65 := ⟨zq96, zq63, Nat.le_of_ble_eq_true rfl, ⟨by decide +kernel, by decide +kernel⟩, by decide +kernel, by decide +kernel, rfl⟩
theorem zm_66 (X : Nat × (Nat → Int32) × Value) : zMth X 66 := ⟨zq432, zq63, Nat.le_of_ble_eq_true rfl, ⟨by decide +kernel, by decide +kernel⟩, by decide +kernel, by decide +kernel, rfl⟩
theorem zm_67 (X : Nat × (Nat → Int32) × Value) : zMth X 67 := ⟨zq481, zq63, Nat.le_of_ble_eq_true rfl, ⟨by decide +kernel, by decide +kernel⟩, by decide +kernel, by decide +kernel, rfl⟩
theorem zm_68 (X : Nat × (Nat → Int32) × Value) : zMth X 68 := ⟨zq509, zq63, Nat.le_of_ble_eq_true rfl, ⟨by decide +kernel, by decide +kernel⟩, by decide +kernel, by decide +kernel, rfl⟩
theorem zm_69 (X : Nat × (Nat → Int32) × Value) : zMth X 69 := ⟨zq521, zq63, Nat.le_of_ble_eq_true rfl, ⟨by decide +kernel, by decide +kernel⟩, by decide +kernel, by decide +kernel, rfl⟩
theorem zm_70 (X : Nat × (Nat → Int32) × Value) : zMth X 70 := ⟨zq530, zq63, Nat.le_of_ble_eq_true rfl, ⟨by decide +kernel, by decide +kernel⟩, by decide +kernel, by decide +kernel, rfl⟩
theorem zm_71 (X : Nat × (Nat → Int32) × Value) : zMth X 71 := ⟨zq739, zq63, Nat.le_of_ble_eq_true rfl, ⟨by decide +kernel, by decide +kernel⟩, by decide +kernel, by decide +kernel, rfl⟩
theorem zm_72 (X : Nat × (Nat → Int32) × Value) : zMth X 72 := ⟨zq81, zq61, Nat.le_of_ble_eq_true rfl, ⟨by decide +kernel, by decide +kernel⟩, by decide +kernel, by decide +kernel, rfl⟩
theorem zm_73 (X : Nat × (Nat → Int32) × Value) : zMth X 73 := ⟨zq328, zq61, Nat.le_of_ble_eq_true rfl, ⟨by decide +kernel, by decide +kernel⟩, by decide +kernel, by decide +kernel, rfl⟩
theorem zm_74 (X : Nat × (Nat → Int32) × Value) : zMth X 74 := ⟨zq340, zq61, Nat.le_of_ble_eq_true rfl, ⟨by decide +kernel, by decide +kernel⟩, by decide +kernel, by decide +kernel, rfl⟩
theorem zm_75 (X : Nat × (Nat → Int32) × Value) : zMth X 75 := ⟨zq549, zq61, Nat.le_of_ble_eq_true rfl, ⟨by decide +kernel, by decide +kernel⟩, by decide +kernel, by decide +kernel, rfl⟩
theorem zm_76 (X : Nat × (Nat → Int32) × Value) : zMth X 76 := ⟨zq557, zq61, Nat.le_of_ble_eq_true rfl, ⟨by decide +kernel, by decide +kernel⟩, by decide +kernel, by decide +kernel, rfl⟩
theorem zm_77 (X : Nat × (Nat → Int32) × Value) : zMth X 77 := ⟨zq561, zq61, Nat.le_of_ble_eq_true rfl, ⟨by decide +kernel, by decide +kernel⟩, by decide +kernel, by decide +kernel, rfl⟩
theorem zm_78 (X : Nat × (Nat → Int32) × Value) : zMth X 78 := ⟨zq565, zq61, Nat.le_of_ble_eq_true rfl, ⟨by decide +kernel, by decide +kernel⟩, by decide +kernel, by decide +kernel, rfl⟩
theorem zm_79 (X : Nat × (Nat → Int32) × Value) : zMth X 79 := ⟨zq571, zq61, Nat.le_of_ble_eq_true rfl, ⟨by decide +kernel, by decide +kernel⟩, by decide +kernel, by decide +kernel, rfl⟩
theorem zm_80 (X : Nat × (Nat → Int32) × Value) : zMth X 80 := ⟨zq575, zq61, Nat.le_of_ble_eq_true rfl, ⟨by decide +kernel, by decide +kernel⟩, by decide +kernel, by decide +kernel, rfl⟩
theorem zm_81 (X : Nat × (Nat → Int32) × Value) : zMth X 81 := ⟨zq579, zq61, Nat.le_of_ble_eq_true rfl, ⟨by decide +kernel, by decide +kernel⟩, by decide +kernel, by decide +kernel, rfl⟩
theorem zm_82 (X : Nat × (Nat → Int32) × Value) : zMth X 82 := ⟨zq583, zq61, Nat.le_of_ble_eq_true rfl, ⟨by decide +kernel, by decide +kernel⟩, by decide +kernel, by decide +kernel, rfl⟩
theorem zm_83 (X : Nat × (Nat → Int32) × Value) : zMth X 83 := ⟨zq588, zq61, Nat.le_of_ble_eq_true rfl, ⟨by decide +kernel, by decide +kernel⟩, by decide +kernel, by decide +kernel, rfl⟩
theorem zm_84 (X : Nat × (Nat → Int32) × Value) : zMth X 84 := ⟨zq597, zq61, Nat.le_of_ble_eq_true rfl, ⟨by decide +kernel, by decide +kernel⟩, by decide +kernel, by decide +kernel, rfl⟩
theorem zm_85 (X : Nat × (Nat → Int32) × Value) : zMth X 85 := ⟨zq613, zq61, Nat.le_of_ble_eq_true rfl, ⟨by decide +kernel, by decide +kernel⟩, by decide +kernel, by decide +kernel, rfl⟩
theorem zm_86 (X : Nat × (Nat → Int32) × Value) : zMth X 86 := ⟨zq621, zq61, Nat.le_of_ble_eq_true rfl, ⟨by decide +kernel, by decide +kernel⟩, by decide +kernel, by decide +kernel, rfl⟩
theorem zm_87 (X : Nat × (Nat → Int32) × Value) : zMth X 87 := ⟨zq635, zq61, Nat.le_of_ble_eq_true rfl, ⟨by decide +kernel, by decide +kernel⟩, by decide +kernel, by decide +kernel, rfl⟩
theorem zm_88 (X : Nat × (Nat → Int32) × Value) : zMth X 88 := ⟨zq643, zq61, Nat.le_of_ble_eq_true rfl, ⟨by decide +kernel, by decide +kernel⟩, by decide +kernel, by decide +kernel, rfl⟩
theorem zm_89 (X : Nat × (Nat → Int32) × Value) : zMth X 89 := ⟨zq652, zq61, Nat.le_of_ble_eq_true rfl, ⟨by decide +kernel, by decide +kernel⟩, by decide +kernel, by decide +kernel, rfl⟩
theorem zm_90 (X : Nat × (Nat → Int32) × Value) : zMth X 90 := ⟨zq665, zq61, Nat.le_of_ble_eq_true rfl, ⟨by decide +kernel, by decide +kernel⟩, by decide +kernel, by decide +kernel, rfl⟩
theorem zm_91 (X : Nat × (Nat → Int32) × Value) : zMth X 91 := ⟨zq673, zq61, Nat.le_of_ble_eq_true rfl, ⟨by decide +kernel, by decide +kernel⟩, by decide +kernel, by decide +kernel, rfl⟩
theorem zm_92 (X : Nat × (Nat → Int32) × Value) : zMth X 92 := ⟨zq689, zq61, Nat.le_of_ble_eq_true rfl, ⟨by decide +kernel, by decide +kernel⟩, by decide +kernel, by decide +kernel, rfl⟩
theorem zm_93 (X : Nat × (Nat → Int32) × Value) : zMth X 93 := ⟨zq703, zq61, Nat.le_of_ble_eq_true rfl, ⟨by decide +kernel, by decide +kernel⟩, by decide +kernel, by decide +kernel, rfl⟩
theorem zm_94 (X : Nat × (Nat → Int32) × Value) : zMth X 94 := ⟨zq716, zq61, Nat.le_of_ble_eq_true rfl, ⟨by decide +kernel, by decide +kernel⟩, by decide +kernel, by decide +kernel, rfl⟩
theorem zm_95 (X : Nat × (Nat → Int32) × Value) : zMth X 95 := ⟨zq731, zq61, Nat.le_of_ble_eq_true rfl, ⟨by decide +kernel, by decide +kernel⟩, by decide +kernel, by decide +kernel, rfl⟩
theorem zm_96 (X : Nat × (Nat → Int32) × Value) : zMth X 96 := ⟨zq744, zq61, Nat.le_of_ble_eq_true rfl, ⟨by decide +kernel, by decide +kernel⟩, by decide +kernel, by decide +kernel, rfl⟩
theorem zm_97 (X : Nat × (Nat → Int32) × Value) : zMth X 97 := ⟨zq753, zq61, Nat.le_of_ble_eq_true rfl, ⟨by decide +kernel, by decide +kernel⟩, by decide +kernel, by decide +kernel, rfl⟩
theorem zm_98 (X : Nat × (Nat → Int32) × Value) : zMth X 98 := ⟨zq761, zq61, Nat.le_of_ble_eq_true rfl, ⟨by decide +kernel, by decide +kernel⟩, by decide +kernel, by decide +kernel, rfl⟩
theorem zm_99 (X : Nat × (Nat → Int32) × Value) : zMth X 99 := ⟨zq765, zq61, Nat.le_of_ble_eq_true rfl, ⟨by decide +kernel, by decide +kernel⟩, by decide +kernel, by decide +kernel, rfl⟩
theorem zm_100 (X : Nat × (Nat → Int32) × Value) : zMth X 100 := ⟨zq787, zq61, Nat.le_of_ble_eq_true rfl, ⟨by decide +kernel, by decide +kernel⟩, by decide +kernel, by decide +kernel, rfl⟩
theorem zm_101 (X : Nat × (Nat → Int32) × Value) : zMth X 101 := ⟨zq791, zq61, Nat.le_of_ble_eq_true rfl, ⟨by decide +kernel, by decide +kernel⟩, by decide +kernel, by decide +kernel, rfl⟩
theorem zm_102 (X : Nat × (Nat → Int32) × Value) : zMth X 102 := ⟨zq811, zq61, Nat.le_of_ble_eq_true rfl, ⟨by decide +kernel, by decide +kernel⟩, by decide +kernel, by decide +kernel, rfl⟩
theorem zm_103 (X : Nat × (Nat → Int32) × Value) : zMth X 103 := ⟨zq828, zq61, Nat.le_of_ble_eq_true rfl, ⟨by decide +kernel, by decide +kernel⟩, by decide +kernel, by decide +kernel, rfl⟩
theorem zm_104 (X : Nat × (Nat → Int32) × Value) : zMth X 104 := ⟨zq844, zq61, Nat.le_of_ble_eq_true rfl, ⟨by decide +kernel, by decide +kernel⟩, by decide +kernel, by decide +kernel, rfl⟩
theorem zm_105 (X : Nat × (Nat → Int32) × Value) : zMth X 105 := ⟨zq852, zq61, Nat.le_of_ble_eq_true rfl, ⟨by decide +kernel, by decide +kernel⟩, by decide +kernel, by decide +kernel, rfl⟩
theorem zm_106 (X : Nat × (Nat → Int32) × Value) : zMth X 106 := ⟨zq857, zq61, Nat.le_of_ble_eq_true rfl, ⟨by decide +kernel, by decide +kernel⟩, by decide +kernel, by decide +kernel, rfl⟩
theorem zm_107 (X : Nat × (Nat → Int32) × Value) : zMth X 107 := ⟨zq861, zq61, Nat.le_of_ble_eq_true rfl, ⟨by decide +kernel, by decide +kernel⟩, by decide +kernel, by decide +kernel, rfl⟩
theorem zm_108 (X : Nat × (Nat → Int32) × Value) : zMth X 108 := ⟨zq869, zq61, Nat.le_of_ble_eq_true rfl, ⟨by decide +kernel, by decide +kernel⟩, by decide +kernel, by decide +kernel, rfl⟩
theorem zm_109 (X : Nat × (Nat → Int32) × Value) : zMth X 109 := ⟨zq878, zq61, Nat.le_of_ble_eq_true rfl, ⟨by decide +kernel, by decide +kernel⟩, by decide +kernel, by decide +kernel, rfl⟩
theorem zm_110 (X : Nat × (Nat → Int32) × Value) : zMth X 110 := ⟨zq882, zq61, Nat.le_of_ble_eq_true rfl, ⟨by decide +kernel, by decide +kernel⟩, by decide +kernel, by decide +kernel, rfl⟩
theorem zm_111 (X : Nat × (Nat → Int32) × Value) : zMth X 111 := ⟨zq890, zq61, Nat.le_of_ble_eq_true rfl, ⟨by decide +kernel, by decide +kernel⟩, by decide +kernel, by decide +kernel, rfl⟩
theorem zm_112 (X : Nat × (Nat → Int32) × Value) : zMth X 112 := ⟨zq894, zq61, Nat.le_of_ble_eq_true rfl, ⟨by decide +kernel, by decide +kernel⟩, by decide +kernel, by decide +kernel, rfl⟩
theorem zm_113 (X : Nat × (Nat → Int32) × Value) : zMth X 113 := ⟨zq898, zq61, Nat.le_of_ble_eq_true rfl, ⟨by decide +kernel, by decide +kernel⟩, by decide +kernel, by decide +kernel, rfl⟩
theorem zm_114 (X : Nat × (Nat → Int32) × Value) : zMth X 114 := ⟨zq332, zq61, Nat.le_of_ble_eq_true rfl, ⟨by decide +kernel, by decide +kernel⟩, by decide +kernel, by decide +kernel, rfl⟩
theorem zm_115 (X : Nat × (Nat → Int32) × Value) : zMth X 115 := ⟨zq601, zq61, Nat.le_of_ble_eq_true rfl, ⟨by decide +kernel, by decide +kernel⟩, by decide +kernel, by decide +kernel, rfl⟩
theorem zm_116 (X : Nat × (Nat → Int32) × Value) : zMth X 116 := ⟨zq553, zq61, Nat.le_of_ble_eq_true rfl, ⟨by decide +kernel, by decide +kernel⟩, by decide +kernel, by decide +kernel, rfl⟩
theorem zm_117 (X : Nat × (Nat → Int32) × Value) : zMth X 117 := ⟨zq443, zq61, Nat.le_of_ble_eq_true rfl, ⟨by decide +kernel, by decide +kernel⟩, by decide +kernel, by decide +kernel, rfl⟩
theorem zm_118 (X : Nat × (Nat → Int32) × Value) : zMth X 118 := ⟨zq473, zq61, Nat.le_of_ble_eq_true rfl, ⟨by decide +kernel, by decide +kernel⟩, by decide +kernel, by decide +kernel, rfl⟩
theorem zm_119 (X : Nat × (Nat → Int32) × Value) : zMth X 119 := ⟨zq794, zq61, Nat.le_of_ble_eq_true rfl, ⟨by decide +kernel, by decide +kernel⟩, by decide +kernel, by decide +kernel, rfl⟩
theorem zm_120 (X : Nat × (Nat → Int32) × Value) : zMth X 120 := ⟨zq864, zq61, Nat.le_of_ble_eq_true rfl, ⟨by decide +kernel, by decide +kernel⟩, by decide +kernel, by decide +kernel, rfl⟩
theorem zm_121 (X : Nat × (Nat → Int32) × Value) : zMth X 121 := ⟨zq470, zq61, Nat.le_of_ble_eq_true rfl, ⟨by decide +kernel, by decide +kernel⟩, by decide +kernel, by decide +kernel, rfl⟩
theorem zm_122 (X : Nat × (Nat → Int32) × Value) : zMth X 122 := ⟨zq872, zq61, Nat.le_of_ble_eq_true rfl, ⟨by decide +kernel, by decide +kernel⟩, by decide +kernel, by decide +kernel, rfl⟩
theorem zm_123 (X : Nat × (Nat → Int32) × Value) : zMth X 123 := ⟨zq606, zq61, Nat.le_of_ble_eq_true rfl, ⟨by decide +kernel, by decide +kernel⟩, by decide +kernel, by decide +kernel, rfl⟩
theorem zm_124 (X : Nat × (Nat → Int32) × Value) : zMth X 124 := ⟨zq609, zq61, Nat.le_of_ble_eq_true rfl, ⟨by decide +kernel, by decide +kernel⟩, by decide +kernel, by decide +kernel, rfl⟩
theorem zm_125 (X : Nat × (Nat → Int32) × Value) : zMth X 125 := ⟨zq782, zq61, Nat.le_of_ble_eq_true rfl, ⟨by decide +kernel, by decide +kernel⟩, by decide +kernel, by decide +kernel, rfl⟩
theorem zm_126 (X : Nat × (Nat → Int32) × Value) : zMth X 126 := ⟨zq756, zq61, Nat.le_of_ble_eq_true rfl, ⟨by decide +kernel, by decide +kernel⟩, by decide +kernel, by decide +kernel, rfl⟩
theorem zm_127 (X : Nat × (Nat → Int32) × Value) : zMth X 127 := ⟨zq904, zq68, Nat.le_of_ble_eq_true rfl, ⟨by decide +kernel, by decide +kernel⟩, by decide +kernel, by decide +kernel, rfl⟩
theorem zm_128 (X : Nat × (Nat → Int32) × Value) : zMth X 128 := ⟨zq1015, zq68, Nat.le_of_ble_eq_true rfl, ⟨by decide +kernel, by decide +kernel⟩, by decide +kernel, by decide +kernel, rfl⟩
theorem zm_129 (X : Nat × (Nat → Int32) × Value) : zMth X 129 := ⟨zq977, zq68, Nat.le_of_ble_eq_true rfl, ⟨by decide +kernel, by decide +kernel⟩, by decide +kernel, by decide +kernel, rfl⟩
theorem zm_130 (X : Nat × (Nat → Int32) × Value) : zMth X 130 := ⟨zq1188, zq68, Nat.le_of_ble_eq_true rfl, ⟨by decide +kernel, by decide +kernel⟩, by decide +kernel, by decide +kernel, rfl⟩
theorem zm_131 (X : Nat × (Nat → Int32) × Value) : zMth X 131 := ⟨zq1028, zq68, Nat.le_of_ble_eq_true rfl, ⟨by decide +kernel, by decide +kernel⟩, by decide +kernel, by decide +kernel, rfl⟩
theorem zm_132 (X : Nat × (Nat → Int32) × Value) : zMth X 132 := ⟨zq1047, zq68, Nat.le_of_ble_eq_true rfl, ⟨by decide +kernel, by decide +kernel⟩, by decide +kernel, by decide +kernel, rfl⟩
theorem zm_133 (X : Nat × (Nat → Int32) × Value) : zMth X 133 := ⟨zq1062, zq68, Nat.le_of_ble_eq_true rfl, ⟨by decide +kernel, by decide +kernel⟩, by decide +kernel, by decide +kernel, rfl⟩
theorem zm_134 (X : Nat × (Nat → Int32) × Value) : zMth X 134 := ⟨zq1039, zq68, Nat.le_of_ble_eq_true rfl, ⟨by decide +kernel, by decide +kernel⟩, by decide +kernel, by decide +kernel, rfl⟩
theorem zm_135 (X : Nat × (Nat → Int32) × Value) : zMth X 135 := ⟨zq1054, zq68, Nat.le_of_ble_eq_true rfl, ⟨by decide +kernel, by decide +kernel⟩, by decide +kernel, by decide +kernel, rfl⟩
theorem zm_136 (X : Nat × (Nat → Int32) × Value) : zMth X 136 := ⟨zq1067, zq68, Nat.le_of_ble_eq_true rfl, ⟨by decide +kernel, by decide +kernel⟩, by decide +kernel, by decide +kernel, rfl⟩
theorem zm_137 (X : Nat × (Nat → Int32) × Value) : zMth X 137 := ⟨zq1099, zq68, Nat.le_of_ble_eq_true rfl, ⟨by decide +kernel, by decide +kernel⟩, by decide +kernel, by decide +kernel, rfl⟩
theorem zm_138 (X : Nat × (Nat → Int32) × Value) : zMth X 138 := ⟨zq1132, zq68, Nat.le_of_ble_eq_true rfl, ⟨by decide +kernel, by decide +kernel⟩, by decide +kernel, by decide +kernel, rfl⟩
theorem zm_139 (X : Nat × (Nat → Int32) × Value) : zMth X 139 := ⟨zq1118, zq68, Nat.le_of_ble_eq_true rfl, ⟨by decide +kernel, by decide +kernel⟩, by decide +kernel, by decide +kernel, rfl⟩
theorem zm_140 (X : Nat × (Nat → Int32) × Value) : zMth X 140 := ⟨zq1114, zq68, Nat.le_of_ble_eq_true rfl, ⟨by decide +kernel, by decide +kernel⟩, by decide +kernel, by decide +kernel, rfl⟩
theorem zm_141 (X : Nat × (Nat → Int32) × Value) : zMth X 141 := ⟨zq1127, zq68, Nat.le_of_ble_eq_true rfl, ⟨by decide +kernel, by decide +kernel⟩, by decide +kernel, by decide +kernel, rfl⟩
theorem zm_142 (X : Nat × (Nat → Int32) × Value) : zMth X 142 := ⟨zq1091, zq68, Nat.le_of_ble_eq_true rfl, ⟨by decide +kernel, by decide +kernel⟩, by decide +kernel, by decide +kernel, rfl⟩
theorem zm_143 (X : Nat × (Nat → Int32) × Value) : zMth X 143 := ⟨zq1103, zq68, Nat.le_of_ble_eq_true rfl, ⟨by decide +kernel, by decide +kernel⟩, by decide +kernel, by decide +kernel, rfl⟩
theorem zm_144 (X : Nat × (Nat → Int32) × Value) : zMth X 144 := ⟨zq1095, zq68, Nat.le_of_ble_eq_true rfl, ⟨by decide +kernel, by decide +kernel⟩, by decide +kernel, by decide +kernel, rfl⟩
theorem zm_145 (X : Nat × (Nat → Int32) × Value) : zMth X 145 := ⟨zq1122, zq68, Nat.le_of_ble_eq_true rfl, ⟨by decide +kernel, by decide +kernel⟩, by decide +kernel, by decide +kernel, rfl⟩
theorem zm_146 (X : Nat × (Nat → Int32) × Value) : zMth X 146 := ⟨zq1110, zq68, Nat.le_of_ble_eq_true rfl, ⟨by decide +kernel, by decide +kernel⟩, by decide +kernel, by decide +kernel, rfl⟩
theorem zm_147 (X : Nat × (Nat → Int32) × Value) : zMth X 147 := ⟨zq1088, zq68, Nat.le_of_ble_eq_true rfl, ⟨by decide +kernel, by decide +kernel⟩, by decide +kernel, by decide +kernel, rfl⟩
theorem zm_148 (X : Nat × (Nat → Int32) × Value) : zMth X 148 := ⟨zq1084, zq68, Nat.le_of_ble_eq_true rfl, ⟨by decide +kernel, by decide +kernel⟩, by decide +kernel, by decide +kernel, rfl⟩
theorem zm_149 (X : Nat × (Nat → Int32) × Value) : zMth X 149 := ⟨zq1080, zq68, Nat.le_of_ble_eq_true rfl, ⟨by decide +kernel, by decide +kernel⟩, by decide +kernel, by decide +kernel, rfl⟩
theorem zm_150 (X : Nat × (Nat → Int32) × Value) : zMth X 150 := ⟨zq1025, zq68, Nat.le_of_ble_eq_true rfl, ⟨by decide +kernel, by decide +kernel⟩, by decide +kernel, by decide +kernel, rfl⟩
theorem zm_151 (X : Nat × (Nat → Int32) × Value) : zMth X 151 := ⟨zq1138, zq68, Nat.le_of_ble_eq_true rfl, ⟨by decide +kernel, by decide +kernel⟩, by decide +kernel, by decide +kernel, rfl⟩
theorem zm_152 (X : Nat × (Nat → Int32) × Value) : zMth X 152 := ⟨zq973, zq68, Nat.le_of_ble_eq_true rfl, ⟨by decide +kernel, by decide +kernel⟩, by decide +kernel, by decide +kernel, rfl⟩
theorem zm_153 (X : Nat × (Nat → Int32) × Value) : zMth X 153 := ⟨zq989, zq68, Nat.le_of_ble_eq_true rfl, ⟨by decide +kernel, by decide +kernel⟩, by decide +kernel, by decide +kernel, rfl⟩
theorem zm_154 (X : Nat × (Nat → Int32) × Value) : zMth X 154 := ⟨zq1021, zq68, Nat.le_of_ble_eq_true rfl, ⟨by decide +kernel, by decide +kernel⟩, by decide +kernel, by decide +kernel, rfl⟩
theorem zm_155 (X : Nat × (Nat → Int32) × Value) : zMth X 155 := ⟨zq1010, zq68, Nat.le_of_ble_eq_true rfl, ⟨by decide +kernel, by decide +kernel⟩, by decide +kernel, by decide +kernel, rfl⟩
theorem zm_156 (X : Nat × (Nat → Int32) × Value) : zMth X 156 := ⟨zq992, zq68, Nat.le_of_ble_eq_true rfl, ⟨by decide +kernel, by decide +kernel⟩, by decide +kernel, by decide +kernel, rfl⟩
theorem zm_157 (X : Nat × (Nat → Int32) × Value) : zMth X 157 := ⟨zq985, zq68, Nat.le_of_ble_eq_true rfl, ⟨by decide +kernel, by decide +kernel⟩, by decide +kernel, by decide +kernel, rfl⟩
theorem zm_158 (X : Nat × (Nat → Int32) × Value) : zMth X 158 := ⟨zq1032, zq68, Nat.le_of_ble_eq_true rfl, ⟨by decide +kernel, by decide +kernel⟩, by decide +kernel, by decide +kernel, rfl⟩
theorem zm_159 (X : Nat × (Nat → Int32) × Value) : zMth X 159 := ⟨zq981, zq68, Nat.le_of_ble_eq_true rfl, ⟨by decide +kernel, by decide +kernel⟩, by decide +kernel, by decide +kernel, rfl⟩
theorem zm_160 (X : Nat × (Nat → Int32) × Value) : zMth X 160 := ⟨zq1036, zq68, Nat.le_of_ble_eq_true rfl, ⟨by decide +kernel, by decide +kernel⟩, by decide +kernel, by decide +kernel, rfl⟩
theorem zm_161 (X : Nat × (Nat → Int32) × Value) : zMth X 161 := ⟨zq1051, zq68, Nat.le_of_ble_eq_true rfl, ⟨by decide +kernel, by decide +kernel⟩, by decide +kernel, by decide +kernel, rfl⟩
theorem zm_162 (X : Nat × (Nat → Int32) × Value) : zMth X 162 := ⟨zq1043, zq68, Nat.le_of_ble_eq_true rfl, ⟨by decide +kernel, by decide +kernel⟩, by decide +kernel, by decide +kernel, rfl⟩
theorem zm_163 (X : Nat × (Nat → Int32) × Value) : zMth X 163 := ⟨zq1058, zq68, Nat.le_of_ble_eq_true rfl, ⟨by decide +kernel, by decide +kernel⟩, by decide +kernel, by decide +kernel, rfl⟩
theorem zm_164 (X : Nat × (Nat → Int32) × Value) : zMth X 164 := ⟨zq1071, zq68, Nat.le_of_ble_eq_true rfl, ⟨by decide +kernel, by decide +kernel⟩, by decide +kernel, by decide +kernel, rfl⟩
theorem zm_165 (X : Nat × (Nat → Int32) × Value) : zMth X 165 := ⟨zq1075, zq68, Nat.le_of_ble_eq_true rfl, ⟨by decide +kernel, by decide +kernel⟩, by decide +kernel, by decide +kernel, rfl⟩
theorem zm_166 (X : Nat × (Nat → Int32) × Value) : zMth X 166 := ⟨zq1146, zq68, Nat.le_of_ble_eq_true rfl, ⟨by decide +kernel, by decide +kernel⟩, by decide +kernel, by decide +kernel, rfl⟩
theorem zm_167 (X : Nat × (Nat → Int32) × Value) : zMth X 167 := ⟨zq1142, zq68, Nat.le_of_ble_eq_true rfl, ⟨by decide +kernel, by decide +kernel⟩, by decide +kernel, by decide +kernel, rfl⟩
theorem zm_168 (X : Nat × (Nat → Int32) × Value) : zMth X 168 := ⟨zq1150, zq68, Nat.le_of_ble_eq_true rfl, ⟨by decide +kernel, by decide +kernel⟩, by decide +kernel, by decide +kernel, rfl⟩
theorem zm_169 (X : Nat × (Nat → Int32) × Value) : zMth X 169 := ⟨zq1154, zq68, Nat.le_of_ble_eq_true rfl, ⟨by decide +kernel, by decide +kernel⟩, by decide +kernel, by decide +kernel, rfl⟩
theorem zm_170 (X : Nat × (Nat → Int32) × Value) : zMth X 170 := ⟨zq1158, zq68, Nat.le_of_ble_eq_true rfl, ⟨by decide +kernel, by decide +kernel⟩, by decide +kernel, by decide +kernel, rfl⟩
theorem zm_171 (X : Nat × (Nat → Int32) × Value) : zMth X 171 := ⟨zq1162, zq68, Nat.le_of_ble_eq_true rfl, ⟨by decide +kernel, by decide +kernel⟩, by decide +kernel, by decide +kernel, rfl⟩
theorem zm_172 (X : Nat × (Nat → Int32) × Value) : zMth X 172 := ⟨zq1166, zq68, Nat.le_of_ble_eq_true rfl, ⟨by decide +kernel, by decide +kernel⟩, by decide +kernel, by decide +kernel, rfl⟩
theorem zm_173 (X : Nat × (Nat → Int32) × Value) : zMth X 173 := ⟨zq1170, zq68, Nat.le_of_ble_eq_true rfl, ⟨by decide +kernel, by decide +kernel⟩, by decide +kernel, by decide +kernel, rfl⟩
theorem zm_174 (X : Nat × (Nat → Int32) × Value) : zMth X 174 := ⟨zq1174, zq68, Nat.le_of_ble_eq_true rfl, ⟨by decide +kernel, by decide +kernel⟩, by decide +kernel, by decide +kernel, rfl⟩
theorem zm_175 (X : Nat × (Nat → Int32) × Value) : zMth X 175 := ⟨zq1179, zq68, Nat.le_of_ble_eq_true rfl, ⟨by decide +kernel, by decide +kernel⟩, by decide +kernel, by decide +kernel, rfl⟩
theorem zm_176 (X : Nat × (Nat → Int32) × Value) : zMth X 176 := ⟨zq1195, zq68, Nat.le_of_ble_eq_true rfl, ⟨by decide +kernel, by decide +kernel⟩, by decide +kernel, by decide +kernel, rfl⟩
theorem zm_177 (X : Nat × (Nat → Int32) × Value) : zMth X 177 := ⟨zq1192, zq68, Nat.le_of_ble_eq_true rfl, ⟨by decide +kernel, by decide +kernel⟩, by decide +kernel, by decide +kernel, rfl⟩
theorem zm_178 (X : Nat × (Nat → Int32) × Value) : zMth X 178 := ⟨zq1184, zq68, Nat.le_of_ble_eq_true rfl, ⟨by decide +kernel, by decide +kernel⟩, by decide +kernel, by decide +kernel, rfl⟩
theorem zm_179 (X : Nat × (Nat → Int32) × Value) : zMth X 179 := ⟨zq1199, zq68, Nat.le_of_ble_eq_true rfl, ⟨by decide +kernel, by decide +kernel⟩, by decide +kernel, by decide +kernel, rfl⟩
theorem zm_180 (X : Nat × (Nat → Int32) × Value) : zMth X 180 := ⟨zq1212, zq68, Nat.le_of_ble_eq_true rfl, ⟨by decide +kernel, by decide +kernel⟩, by decide +kernel, by decide +kernel, rfl⟩
theorem zm_181 (X : Nat × (Nat → Int32) × Value) : zMth X 181 := ⟨zq1208, zq68, Nat.le_of_ble_eq_true rfl, ⟨by decide +kernel, by decide +kernel⟩, by decide +kernel, by decide +kernel, rfl⟩
theorem zm_182 (X : Nat × (Nat → Int32) × Value) : zMth X 182 := ⟨zq1203, zq68, Nat.le_of_ble_eq_true rfl, ⟨by decide +kernel, by decide +kernel⟩, by decide +kernel, by decide +kernel, rfl⟩
theorem zm_183 (X : Nat × (Nat → Int32) × Value) : zMth X 183 := ⟨zq1216, zq68, Nat.le_of_ble_eq_true rfl, ⟨by decide +kernel, by decide +kernel⟩, by decide +kernel, by decide +kernel, rfl⟩
theorem zm_184 (X : Nat × (Nat → Int32) × Value) : zMth X 184 := ⟨zq1220, zq68, Nat.le_of_ble_eq_true rfl, ⟨by decide +kernel, by decide +kernel⟩, by decide +kernel, by decide +kernel, rfl⟩
theorem zm_185 (X : Nat × (Nat → Int32) × Value) : zMth X 185 := ⟨zq1228, zq68, Nat.le_of_ble_eq_true rfl, ⟨by decide +kernel, by decide +kernel⟩, by decide +kernel, by decide +kernel, rfl⟩
theorem zm_186 (X : Nat × (Nat → Int32) × Value) : zMth X 186 := ⟨zq1224, zq68, Nat.le_of_ble_eq_true rfl, ⟨by decide +kernel, by decide +kernel⟩, by decide +kernel, by decide +kernel, rfl⟩
theorem zm_187 (X : Nat × (Nat → Int32) × Value) : zMth X 187 := ⟨zq1232, zq68, Nat.le_of_ble_eq_true rfl, ⟨by decide +kernel, by decide +kernel⟩, by decide +kernel, by decide +kernel, rfl⟩
theorem zm_188 (X : Nat × (Nat → Int32) × Value) : zMth X 188 := ⟨zq1240, zq68, Nat.le_of_ble_eq_true rfl, ⟨by decide +kernel, by decide +kernel⟩, by decide +kernel, by decide +kernel, rfl⟩
theorem zm_189 (X : Nat × (Nat → Int32) × Value) : zMth X 189 := ⟨zq1244, zq68, Nat.le_of_ble_eq_true rfl, ⟨by decide +kernel, by decide +kernel⟩, by decide +kernel, by decide +kernel, rfl⟩
theorem zm_190 (X : Nat × (Nat → Int32) × Value) : zMth X 190 := ⟨zq1252, zq68, Nat.le_of_ble_eq_true rfl, ⟨by decide +kernel, by decide +kernel⟩, by decide +kernel, by decide +kernel, rfl⟩
theorem zm_191 (X : Nat × (Nat → Int32) × Value) : zMth X 191 := ⟨zq1248, zq68, Nat.le_of_ble_eq_true rfl, ⟨by decide +kernel, by decide +kernel⟩, by decide +kernel, by decide +kernel, rfl⟩
theorem zm_192 (X : Nat × (Nat → Int32) × Value) : zMth X 192 := ⟨zq1236, zq68, Nat.le_of_ble_eq_true rfl, ⟨by decide +kernel, by decide +kernel⟩, by decide +kernel, by decide +kernel, rfl⟩
theorem zm_193 (X : Nat × (Nat → Int32) × Value) : zMth X 193 := ⟨zq1260, zq68, Nat.le_of_ble_eq_true rfl, ⟨by decide +kernel, by decide +kernel⟩, by decide +kernel, by decide +kernel, rfl⟩
theorem zm_194 (X : Nat × (Nat → Int32) × Value) : zMth X 194 := ⟨zq1256, zq68, Nat.le_of_ble_eq_true rfl, ⟨by decide +kernel, by decide +kernel⟩, by decide +kernel, by decide +kernel, rfl⟩
theorem zm_195 (X : Nat × (Nat → Int32) × Value) : zMth X 195 := ⟨zq1264, zq68, Nat.le_of_ble_eq_true rfl, ⟨by decide +kernel, by decide +kernel⟩, by decide +kernel, by decide +kernel, rfl⟩
theorem zm_196 (X : Nat × (Nat → Int32) × Value) : zMth X 196 := ⟨zq1272, zq68, Nat.le_of_ble_eq_true rfl, ⟨by decide +kernel, by decide +kernel⟩, by decide +kernel, by decide +kernel, rfl⟩
theorem zm_197 (X : Nat × (Nat → Int32) × Value) : zMth X 197 := ⟨zq1268, zq68, Nat.le_of_ble_eq_true rfl, ⟨by decide +kernel, by decide +kernel⟩, by decide +kernel, by decide +kernel, rfl⟩
theorem zm_198 (X : Nat × (Nat → Int32) × Value) : zMth X 198 := ⟨zq1280, zq68, Nat.le_of_ble_eq_true rfl, ⟨by decide +kernel, by decide +kernel⟩, by decide +kernel, by decide +kernel, rfl⟩
theorem zm_199 (X : Nat × (Nat → Int32) × Value) : zMth X 199 := ⟨zq1276, zq68, Nat.le_of_ble_eq_true rfl, ⟨by decide +kernel, by decide +kernel⟩, by decide +kernel, by decide +kernel, rfl⟩
theorem zm_200 (X : Nat × (Nat → Int32) × Value) : zMth X 200 := ⟨zq1288, zq68, Nat.le_of_ble_eq_true rfl, ⟨by decide +kernel, by decide +kernel⟩, by decide +kernel, by decide +kernel, rfl⟩
theorem zm_201 (X : Nat × (Nat → Int32) × Value) : zMth X 201 := ⟨zq1284, zq68, Nat.le_of_ble_eq_true rfl, ⟨by decide +kernel, by decide +kernel⟩, by decide +kernel, by decide +kernel, rfl⟩
theorem zm_202 (X : Nat × (Nat → Int32) × Value) : zMth X 202 := ⟨zq1292, zq68, Nat.le_of_ble_eq_true rfl, ⟨by decide +kernel, by decide +kernel⟩, by decide +kernel, by decide +kernel, rfl⟩
theorem zm_203 (X : Nat × (Nat → Int32) × Value) : zMth X 203 := ⟨zq1306, zq68, Nat.le_of_ble_eq_true rfl, ⟨by decide +kernel, by decide +kernel⟩, by decide +kernel, by decide +kernel, rfl⟩
theorem zm_204 (X : Nat × (Nat → Int32) × Value) : zMth X 204 := ⟨zq1325, zq68, Nat.le_of_ble_eq_true rfl, ⟨by decide +kernel, by decide +kernel⟩, by decide +kernel, by decide +kernel, rfl⟩
theorem zm_205 (X : Nat × (Nat → Int32) × Value) : zMth X 205 := ⟨zq1321, zq68, Nat.le_of_ble_eq_true rfl, ⟨by decide +kernel, by decide +kernel⟩, by decide +kernel, by decide +kernel, rfl⟩
theorem zm_206 (X : Nat × (Nat → Int32) × Value) : zMth X 206 := ⟨zq1329, zq68, Nat.le_of_ble_eq_true rfl, ⟨by decide +kernel, by decide +kernel⟩, by decide +kernel, by decide +kernel, rfl⟩
theorem zm_207 (X : Nat × (Nat → Int32) × Value) : zMth X 207 := ⟨zq1336, zq68, Nat.le_of_ble_eq_true rfl, ⟨by decide +kernel, by decide +kernel⟩, by decide +kernel, by decide +kernel, rfl⟩
theorem zm_208 (X : Nat × (Nat → Int32) × Value) : zMth X 208 := ⟨zq1333, zq68, Nat.le_of_ble_eq_true rfl, ⟨by decide +kernel, by decide +kernel⟩, by decide +kernel, by decide +kernel, rfl⟩
theorem zm_209 (X : Nat × (Nat → Int32) × Value) : zMth X 209 := ⟨zq1346, zq68, Nat.le_of_ble_eq_true rfl, ⟨by decide +kernel, by decide +kernel⟩, by decide +kernel, by decide +kernel, rfl⟩
theorem zm_210 (X : Nat × (Nat → Int32) × Value) : zMth X 210 := ⟨zq1342, zq68, Nat.le_of_ble_eq_true rfl, ⟨by decide +kernel, by decide +kernel⟩, by decide +kernel, by decide +kernel, rfl⟩
theorem zm_211 (X : Nat × (Nat → Int32) × Value) : zMth X 211 := ⟨zq1355, zq68, Nat.le_of_ble_eq_true rfl, ⟨by decide +kernel, by decide +kernel⟩, by decide +kernel, by decide +kernel, rfl⟩
theorem zm_212 (X : Nat × (Nat → Int32) × Value) : zMth X 212 := ⟨zq1350, zq68, Nat.le_of_ble_eq_true rfl, ⟨by decide +kernel, by decide +kernel⟩, by decide +kernel, by decide +kernel, rfl⟩
theorem zm_213 (X : Nat × (Nat → Int32) × Value) : zMth X 213 := ⟨zq1361, zq68, Nat.le_of_ble_eq_true rfl, ⟨by decide +kernel, by decide +kernel⟩, by decide +kernel, by decide +kernel, rfl⟩
theorem zm_214 (X : Nat × (Nat → Int32) × Value) : zMth X 214 := ⟨zq1365, zq68, Nat.le_of_ble_eq_true rfl, ⟨by decide +kernel, by decide +kernel⟩, by decide +kernel, by decide +kernel, rfl⟩
theorem zm_215 (X : Nat × (Nat → Int32) × Value) : zMth X 215 := ⟨zq1369, zq68, Nat.le_of_ble_eq_true rfl, ⟨by decide +kernel, by decide +kernel⟩, by decide +kernel, by decide +kernel, rfl⟩
theorem zm_216 (X : Nat × (Nat → Int32) × Value) : zMth X 216 := ⟨zq1376, zq68, Nat.le_of_ble_eq_true rfl, ⟨by decide +kernel, by decide +kernel⟩, by decide +kernel, by decide +kernel, rfl⟩
theorem zm_217 (X : Nat × (Nat → Int32) × Value) : zMth X 217 := ⟨zq1373, zq68, Nat.le_of_ble_eq_true rfl, ⟨by decide +kernel, by decide +kernel⟩, by decide +kernel, by decide +kernel, rfl⟩
theorem zm_218 (X : Nat × (Nat → Int32) × Value) : zMth X 218 := ⟨zq1383, zq68, Nat.le_of_ble_eq_true rfl, ⟨by decide +kernel, by decide +kernel⟩, by decide +kernel, by decide +kernel, rfl⟩
theorem zm_219 (X : Nat × (Nat → Int32) × Value) : zMth X 219 := ⟨zq1380, zq68, Nat.le_of_ble_eq_true rfl, ⟨by decide +kernel, by decide +kernel⟩, by decide +kernel, by decide +kernel, rfl⟩
theorem zm_220 (X : Nat × (Nat → Int32) × Value) : zMth X 220 := ⟨zq1387, zq68, Nat.le_of_ble_eq_true rfl, ⟨by decide +kernel, by decide +kernel⟩, by decide +kernel, by decide +kernel, rfl⟩
theorem zm_221 (X : Nat × (Nat → Int32) × Value) : zMth X 221 := ⟨zq1391, zq68, Nat.le_of_ble_eq_true rfl, ⟨by decide +kernel, by decide +kernel⟩, by decide +kernel, by decide +kernel, rfl⟩
theorem zm_222 (X : Nat × (Nat → Int32) × Value) : zMth X 222 := ⟨zq1395, zq68, Nat.le_of_ble_eq_true rfl, ⟨by decide +kernel, by decide +kernel⟩, by decide +kernel, by decide +kernel, rfl⟩
theorem zm_223 (X : Nat × (Nat → Int32) × Value) : zMth X 223 := ⟨zq1399, zq68, Nat.le_of_ble_eq_true rfl, ⟨by decide +kernel, by decide +kernel⟩, by decide +kernel, by decide +kernel, rfl⟩
theorem zm_224 (X : Nat × (Nat → Int32) × Value) : zMth X 224 := ⟨zq1403, zq68, Nat.le_of_ble_eq_true rfl, ⟨by decide +kernel, by decide +kernel⟩, by decide +kernel, by decide +kernel, rfl⟩
theorem zm_225 (X : Nat × (Nat → Int32) × Value) : zMth X 225 := ⟨zq373, zq69, Nat.le_of_ble_eq_true rfl, ⟨by decide +kernel, by decide +kernel⟩, by decide +kernel, by decide +kernel, rfl⟩
theorem zm_226 (X : Nat × (Nat → Int32) × Value) : zMth X 226 := ⟨zq369, zq69, Nat.le_of_ble_eq_true rfl, ⟨by decide +kernel, by decide +kernel⟩, by decide +kernel, by decide +kernel, rfl⟩
theorem zm_227 (X : Nat × (Nat → Int32) × Value) : zMth X 227 := ⟨zq383, zq69, Nat.le_of_ble_eq_true rfl, ⟨by decide +kernel, by decide +kernel⟩, by decide +kernel, by decide +kernel, rfl⟩
theorem zm_228 (X : Nat × (Nat → Int32) × Value) : zMth X 228 := ⟨zq1002, zq69, Nat.le_of_ble_eq_true rfl, ⟨by decide +kernel, by decide +kernel⟩, by decide +kernel, by decide +kernel, rfl⟩
theorem zm_229 (X : Nat × (Nat → Int32) × Value) : zMth X 229 := ⟨zq377, zq69, Nat.le_of_ble_eq_true rfl, ⟨by decide +kernel, by decide +kernel⟩, by decide +kernel, by decide +kernel, rfl⟩
theorem zm_230 (X : Nat × (Nat → Int32) × Value) : zMth X 230 := ⟨zq387, zq69, Nat.le_of_ble_eq_true rfl, ⟨by decide +kernel, by decide +kernel⟩, by decide +kernel, by decide +kernel, rfl⟩
theorem zm_231 (X : Nat × (Nat → Int32) × Value) : zMth X 231 := ⟨zq393, zq69, Nat.le_of_ble_eq_true rfl, ⟨by decide +kernel, by decide +kernel⟩, by decide +kernel, by decide +kernel, rfl⟩
theorem zm_232 (X : Nat × (Nat → Int32) × Value) : zMth X 232 := ⟨zq390, zq70, Nat.le_of_ble_eq_true rfl, ⟨by decide +kernel, by decide +kernel⟩, by decide +kernel, by decide +kernel, rfl⟩
theorem zm_233 (X : Nat × (Nat → Int32) × Value) : zMth X 233 := ⟨zq1006, zq70, Nat.le_of_ble_eq_true rfl, ⟨by decide +kernel, by decide +kernel⟩, by decide +kernel, by decide +kernel, rfl⟩
theorem zm_234 (X : Nat × (Nat → Int32) × Value) : zMth X 234 := ⟨zq398, zq71, Nat.le_of_ble_eq_true rfl, ⟨by decide +kernel, by decide +kernel⟩, by decide +kernel, by decide +kernel, rfl⟩
theorem zm_235 (X : Nat × (Nat → Int32) × Value) : zMth X 235 := ⟨zq776, zq76, Nat.le_of_ble_eq_true rfl, ⟨by decide +kernel, by decide +kernel⟩, by decide +kernel, by decide +kernel, rfl⟩
theorem zm_236 (X : Nat × (Nat → Int32) × Value) : zMth X 236 := ⟨zq727, zq73, Nat.le_of_ble_eq_true rfl, ⟨by decide +kernel, by decide +kernel⟩, by decide +kernel, by decide +kernel, rfl⟩
theorem zm_237 (X : Nat × (Nat → Int32) × Value) : zMth X 237 := ⟨zq1106, zq73, Nat.le_of_ble_eq_true rfl, ⟨by decide +kernel, by decide +kernel⟩, by decide +kernel, by decide +kernel, rfl⟩
theorem zm_238 (X : Nat × (Nat → Int32) × Value) : zMth X 238 := ⟨zq533, zq73, Nat.le_of_ble_eq_true rfl, ⟨by decide +kernel, by decide +kernel⟩, by decide +kernel, by decide +kernel, rfl⟩
theorem zm_239 (X : Nat × (Nat → Int32) × Value) : zMth X 239 := ⟨zq1313, zq75, Nat.le_of_ble_eq_true rfl, ⟨by decide +kernel, by decide +kernel⟩, by decide +kernel, by decide +kernel, rfl⟩
theorem zm_240 (X : Nat × (Nat → Int32) × Value) : zMth X 240 := ⟨zq1310, zq75, Nat.le_of_ble_eq_true rfl, ⟨by decide +kernel, by decide +kernel⟩, by decide +kernel, by decide +kernel, rfl⟩
theorem zm_241 (X : Nat × (Nat → Int32) × Value) : zMth X 241 := ⟨zq1298, zq74, Nat.le_of_ble_eq_true rfl, ⟨by decide +kernel, by decide +kernel⟩, by decide +kernel, by decide +kernel, rfl⟩
theorem zm_242 (X : Nat × (Nat → Int32) × Value) : zMth X 242 := ⟨zq1295, zq74, Nat.le_of_ble_eq_true rfl, ⟨by decide +kernel, by decide +kernel⟩, by decide +kernel, by decide +kernel, rfl⟩
