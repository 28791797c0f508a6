/-! THE TABLE IS SOUND -/
def zMth (X : Nat × (Nat → Int32) × Value) (k : Nat) : Prop := Cond.code (zy k) (zcc k) ((zTX X).2.1 k) (zret k) ∈ zTb ∧ Cond.initialized (zy k).cls ∈ zTb ∧ (zTX X).2.1 k ≤ 21 ∧ ((zy k).cls ≠ "java/lang/invoke/MethodHandle" ∧ (zy k).cls ≠ "java/lang/invoke/VarHandle") ∧ plainFor (zy k) = true ∧ (zini k = true → (zy k).name = "<init>") ∧ (zy k).cls = zown k
abbrev zOK (X : Nat × (Nat → Int32) × Value) (k : Nat) (f : Nat → Option zI) : Prop := ∀ pc i, f pc = some i → zOkI X (zTX X) zcc zown zy zret zini k pc i
section ZTS
variable {X : Nat × (Nat → Int32) × Value}
theorem zT_tr {k n : Nat} {a b : Nat → Option zI} (ha : zOK X k a) (hb : zOK X k b) : zOK X k (zTr n a b) := by
  intro pc i h
  unfold zTr at h
  split at h
  · exact ha pc i h
  · exact hb pc i h
theorem zT_lf {k n : Nat} {x : zI} (hx : zOkI X (zTX X) zcc zown zy zret zini k n x) : zOK X k (zLf n x) := by
  intro pc i h
  unfold zLf at h
  split at h
  · rename_i e
    cases h
    rw [e]
    exact hx
  · cases h
theorem zT_I {k n : Nat} {a : zA} (hx : ∀ d, zSnd X (zcc k) (zown k) (znL k) (zmc k) (zms k) d (zini k) n a) : zOK X k (zLf n (.inl a)) := zT_lf hx
theorem zT_R {k n : Nat} {a : zA} (hx : zRt X (zcc k) (zown k) (znL k) (zmc k) (zms k) (zini k) (zret k) n a) : zOK X k (zLf n (.inr (.inl a))) := zT_lf hx
theorem zT_C {k n : Nat} {q : Nat × Nat × Nat} (hx : zLk (zown k) (zcc k) n q.1 q.2.2 (zy q.2.1) (zcc q.2.1) ((zTX X).2.1 q.2.1) (zret q.2.1) ∧ (plainFor (zy q.2.1) = true ∧ (zini q.2.1 = true → (zy q.2.1).name = "<init>") ∧ (zy q.2.1).cls = zown q.2.1)) : zOK X k (zLf n (.inr (.inr q))) := zT_lf hx
theorem zLk_s {own : String} {cc : ByteArray} {pc n m idx : Nat} (hm : zMth X m) (hd : decode cc pc = .ok (.invokestatic idx, 3)) (hl : Cond.methodLink own idx (zy m) ∈ zTb ∨ Cond.methodLinkNest own idx (zy m) RX6 ∈ zNest) (hs : Cond.static (zy m) ∈ zTb) (hp : (parseMethodDescriptor (zy m).desc).map (fun d => d.parameters.length) = some n) :
    zLk own cc pc 0 n (zy m) (zcc m) ((zTX X).2.1 m) (zret m) ∧ (plainFor (zy m) = true ∧ (zini m = true → (zy m).name = "<init>") ∧ (zy m).cls = zown m) :=
  ⟨⟨hm.1, hm.2.1, hm.2.2.1, hm.2.2.2.1, Or.inl ⟨rfl, ⟨idx, hd, hl⟩, hs, hp⟩⟩, hm.2.2.2.2⟩
theorem zLk_i {own : String} {cc : ByteArray} {pc n m idx : Nat} (hm : zMth X m) (hd : decode cc pc = .ok (.invokespecial idx, 3)) (hl : Cond.methodLink own idx (zy m) ∈ zTb ∨ Cond.methodLinkNest own idx (zy m) RX6 ∈ zNest) (hn : (zy m).name = "<init>") (hr : zret m = none) (hi : Cond.instanceMethod (zy m) ∈ zTb) (hp : (parseMethodDescriptor (zy m).desc).map (fun d => d.parameters.length) = some n) :
    zLk own cc pc 100 (n + 1) (zy m) (zcc m) ((zTX X).2.1 m) (zret m) ∧ (plainFor (zy m) = true ∧ (zini m = true → (zy m).name = "<init>") ∧ (zy m).cls = zown m) :=
  ⟨⟨hm.1, hm.2.1, hm.2.2.1, hm.2.2.2.1, Or.inr (Or.inl ⟨rfl, ⟨idx, hd, hl⟩, hn, hr, hi, n, rfl, hp⟩)⟩, hm.2.2.2.2⟩
theorem zLk_v {own : String} {cc : ByteArray} {pc n m idx s : Nat} (hm : zMth X m) (h99 : s ≠ 99) (hd : decode cc pc = .ok (.invokevirtual idx, 3)) (hl : Cond.methodLink own idx (zy m) ∈ zTb ∨ Cond.methodLinkNest own idx (zy m) RX6 ∈ zNest) (hi : Cond.instanceMethod (zy m) ∈ zTb) (hc : (s < 7 ∧ (zy m).cls = zRR s) ∨ (s = 52 ∧ False)) (hs : Cond.selects (zy m).cls (zy m) (zy m) ∈ zTb) (hp : (parseMethodDescriptor (zy m).desc).map (fun d => d.parameters.length) = some n) :
    zLk own cc pc (s + 1) (n + 1) (zy m) (zcc m) ((zTX X).2.1 m) (zret m) ∧ (plainFor (zy m) = true ∧ (zini m = true → (zy m).name = "<init>") ∧ (zy m).cls = zown m) :=
  ⟨⟨hm.1, hm.2.1, hm.2.2.1, hm.2.2.2.1, Or.inr (Or.inr ⟨s, rfl, h99, ⟨idx, hd, hl⟩, hi, hc, hs, n, rfl, hp⟩)⟩, hm.2.2.2.2⟩
end ZTS
theorem zm_0 (X : Nat × (Nat → Int32) × Value) : zMth X 0 := ⟨zq320, zq13, Nat.le_of_ble_eq_true rfl, ⟨by decide +kernel, by decide +kernel⟩, by decide +kernel, by decide +kernel, rfl⟩
theorem zm_1 (X : Nat × (Nat → Int32) × Value) : zMth X 1 := ⟨zq161, zq13, Nat.le_of_ble_eq_true rfl, ⟨by decide +kernel, by decide +kernel⟩, by decide +kernel, by decide +kernel, rfl⟩
theorem zm_2 (X : Nat × (Nat → Int32) × Value) : zMth X 2 := ⟨zq74, zq13, Nat.le_of_ble_eq_true rfl, ⟨by decide +kernel, by decide +kernel⟩, by decide +kernel, by decide +kernel, rfl⟩
theorem zm_3 (X : Nat × (Nat → Int32) × Value) : zMth X 3 := ⟨zq32, zq13, Nat.le_of_ble_eq_true rfl, ⟨by decide +kernel, by decide +kernel⟩, by decide +kernel, by decide +kernel, rfl⟩
theorem zm_4 (X : Nat × (Nat → Int32) × Value) : zMth X 4 := ⟨zq546, zq13, Nat.le_of_ble_eq_true rfl, ⟨by decide +kernel, by decide +kernel⟩, by decide +kernel, by decide +kernel, rfl⟩
theorem zm_5 (X : Nat × (Nat → Int32) × Value) : zMth X 5 := ⟨zq570, zq13, Nat.le_of_ble_eq_true rfl, ⟨by decide +kernel, by decide +kernel⟩, by decide +kernel, by decide +kernel, rfl⟩
theorem zm_6 (X : Nat × (Nat → Int32) × Value) : zMth X 6 := ⟨zq574, zq13, Nat.le_of_ble_eq_true rfl, ⟨by decide +kernel, by decide +kernel⟩, by decide +kernel, by decide +kernel, rfl⟩
theorem zm_7 (X : Nat × (Nat → Int32) × Value) : zMth X 7 := ⟨zq28, zq13, Nat.le_of_ble_eq_true rfl, ⟨by decide +kernel, by decide +kernel⟩, by decide +kernel, by decide +kernel, rfl⟩
theorem zm_8 (X : Nat × (Nat → Int32) × Value) : zMth X 8 := ⟨zq554, zq13, Nat.le_of_ble_eq_true rfl, ⟨by decide +kernel, by decide +kernel⟩, by decide +kernel, by decide +kernel, rfl⟩
theorem zm_9 (X : Nat × (Nat → Int32) × Value) : zMth X 9 := ⟨zq562, zq13, Nat.le_of_ble_eq_true rfl, ⟨by decide +kernel, by decide +kernel⟩, by decide +kernel, by decide +kernel, rfl⟩
theorem zm_10 (X : Nat × (Nat → Int32) × Value) : zMth X 10 := ⟨zq61, zq13, Nat.le_of_ble_eq_true rfl, ⟨by decide +kernel, by decide +kernel⟩, by decide +kernel, by decide +kernel, rfl⟩
theorem zm_11 (X : Nat × (Nat → Int32) × Value) : zMth X 11 := ⟨zq65, zq13, Nat.le_of_ble_eq_true rfl, ⟨by decide +kernel, by decide +kernel⟩, by decide +kernel, by decide +kernel, rfl⟩
theorem zm_12 (X : Nat × (Nat → Int32) × Value) : zMth X 12 := ⟨zq116, zq13, Nat.le_of_ble_eq_true rfl, ⟨by decide +kernel, by decide +kernel⟩, by decide +kernel, by decide +kernel, rfl⟩
theorem zm_13 (X : Nat × (Nat → Int32) × Value) : zMth X 13 := ⟨zq70, zq13, Nat.le_of_ble_eq_true rfl, ⟨by decide +kernel, by decide +kernel⟩, by decide +kernel, by decide +kernel, rfl⟩
theorem zm_14 (X : Nat × (Nat → Int32) × Value) : zMth X 14 := ⟨zq149, zq13, Nat.le_of_ble_eq_true rfl, ⟨by decide +kernel, by decide +kernel⟩, by decide +kernel, by decide +kernel, rfl⟩
theorem zm_15 (X : Nat × (Nat → Int32) × Value) : zMth X 15 := ⟨zq135, zq13, Nat.le_of_ble_eq_true rfl, ⟨by decide +kernel, by decide +kernel⟩, by decide +kernel, by decide +kernel, rfl⟩
theorem zm_16 (X : Nat × (Nat → Int32) × Value) : zMth X 16 := ⟨zq303, zq13, Nat.le_of_ble_eq_true rfl, ⟨by decide +kernel, by decide +kernel⟩, by decide +kernel, by decide +kernel, rfl⟩
theorem zm_19 (X : Nat × (Nat → Int32) × Value) : zMth X 19 := ⟨zq477, zq17, Nat.le_of_ble_eq_true rfl, ⟨by decide +kernel, by decide +kernel⟩, by decide +kernel, by decide +kernel, rfl⟩
theorem zm_29 (X : Nat × (Nat → Int32) × Value) : zMth X 29 := ⟨zq453, zq16, Nat.le_of_ble_eq_true rfl, ⟨by decide +kernel, by decide +kernel⟩, by decide +kernel, by decide +kernel, rfl⟩
theorem zm_30 (X : Nat × (Nat → Int32) × Value) : zMth X 30 := ⟨zq157, zq16, Nat.le_of_ble_eq_true rfl, ⟨by decide +kernel, by decide +kernel⟩, by decide +kernel, by decide +kernel, rfl⟩
theorem zm_31 (X : Nat × (Nat → Int32) × Value) : zMth X 31 := ⟨zq174, zq16, Nat.le_of_ble_eq_true rfl, ⟨by decide +kernel, by decide +kernel⟩, by decide +kernel, by decide +kernel, rfl⟩
theorem zm_32 (X : Nat × (Nat → Int32) × Value) : zMth X 32 := ⟨zq183, zq16, Nat.le_of_ble_eq_true rfl, ⟨by decide +kernel, by decide +kernel⟩, by decide +kernel, by decide +kernel, rfl⟩
theorem zm_42 (X : Nat × (Nat → Int32) × Value) : zMth X 42 := ⟨zq191, zq16, Nat.le_of_ble_eq_true rfl, ⟨by decide +kernel, by decide +kernel⟩, by decide +kernel, by decide +kernel, rfl⟩
theorem zm_43 (X : Nat × (Nat → Int32) × Value) : zMth X 43 := ⟨zq195, zq16, Nat.le_of_ble_eq_true rfl, ⟨by decide +kernel, by decide +kernel⟩, by decide +kernel, by decide +kernel, rfl⟩
theorem zm_45 (X : Nat × (Nat → Int32) × Value) : zMth X 45 := ⟨zq206, zq16, Nat.le_of_ble_eq_true rfl, ⟨by decide +kernel, by decide +kernel⟩, by decide +kernel, by decide +kernel, rfl⟩
theorem zm_46 (X : Nat × (Nat → Int32) × Value) : zMth X 46 := ⟨zq210, zq16, Nat.le_of_ble_eq_true rfl, ⟨by decide +kernel, by decide +kernel⟩, by decide +kernel, by decide +kernel, rfl⟩
theorem zm_47 (X : Nat × (Nat → Int32) × Value) : zMth X 47 := ⟨zq245, zq16, Nat.le_of_ble_eq_true rfl, ⟨by decide +kernel, by decide +kernel⟩, by decide +kernel, by decide +kernel, rfl⟩
theorem zm_48 (X : Nat × (Nat → Int32) × Value) : zMth X 48 := ⟨zq259, zq16, Nat.le_of_ble_eq_true rfl, ⟨by decide +kernel, by decide +kernel⟩, by decide +kernel, by decide +kernel, rfl⟩
theorem zm_49 (X : Nat × (Nat → Int32) × Value) : zMth X 49 := ⟨zq269, zq16, Nat.le_of_ble_eq_true rfl, ⟨by decide +kernel, by decide +kernel⟩, by decide +kernel, by decide +kernel, rfl⟩
theorem zm_50 (X : Nat × (Nat → Int32) × Value) : zMth X 50 := ⟨zq264, zq16, Nat.le_of_ble_eq_true rfl, ⟨by decide +kernel, by decide +kernel⟩, by decide +kernel, by decide +kernel, rfl⟩
theorem zm_53 (X : Nat × (Nat → Int32) × Value) : zMth X 53 := ⟨zq363, zq15, Nat.le_of_ble_eq_true rfl, ⟨by decide +kernel, by decide +kernel⟩, by decide +kernel, by decide +kernel, rfl⟩
theorem zm_54 (X : Nat × (Nat → Int32) × Value) : zMth X 54 := ⟨zq169, zq15, Nat.le_of_ble_eq_true rfl, ⟨by decide +kernel, by decide +kernel⟩, by decide +kernel, by decide +kernel, rfl⟩
theorem zm_55 (X : Nat × (Nat → Int32) × Value) : zMth X 55 := ⟨zq78, zq15, Nat.le_of_ble_eq_true rfl, ⟨by decide +kernel, by decide +kernel⟩, by decide +kernel, by decide +kernel, rfl⟩
theorem zm_56 (X : Nat × (Nat → Int32) × Value) : zMth X 56 := ⟨zq90, zq15, Nat.le_of_ble_eq_true rfl, ⟨by decide +kernel, by decide +kernel⟩, by decide +kernel, by decide +kernel, rfl⟩
theorem zm_57 (X : Nat × (Nat → Int32) × Value) : zMth X 57 := ⟨zq82, zq15, Nat.le_of_ble_eq_true rfl, ⟨by decide +kernel, by decide +kernel⟩, by decide +kernel, by decide +kernel, rfl⟩
theorem zm_58 (X : Nat × (Nat → Int32) × Value) : zMth X 58 := ⟨zq94, zq15, Nat.le_of_ble_eq_true rfl, ⟨by decide +kernel, by decide +kernel⟩, by decide +kernel, by decide +kernel, rfl⟩
theorem zm_59 (X : Nat × (Nat → Int32) × Value) : zMth X 59 := ⟨zq103, zq15, Nat.le_of_ble_eq_true rfl, ⟨by decide +kernel, by decide +kernel⟩, by decide +kernel, by decide +kernel, rfl⟩
theorem zm_60 (X : Nat × (Nat → Int32) × Value) : zMth X 60 := ⟨zq497, zq18, Nat.le_of_ble_eq_true rfl, ⟨by decide +kernel, by decide +kernel⟩, by decide +kernel, by decide +kernel, rfl⟩
theorem zm_61 (X : Nat × (Nat → Int32) × Value) : zMth X 61 := ⟨zq241, zq18, Nat.le_of_ble_eq_true rfl, ⟨by decide +kernel, by decide +kernel⟩, by decide +kernel, by decide +kernel, rfl⟩
theorem zm_62 (X : Nat × (Nat → Int32) × Value) : zMth X 62 := ⟨zq249, zq18, Nat.le_of_ble_eq_true rfl, ⟨by decide +kernel, by decide +kernel⟩, by decide +kernel, by decide +kernel, rfl⟩
theorem zm_63 (X : Nat × (Nat → Int32) × Value) : zMth X 63 := ⟨zq277, zq18, Nat.le_of_ble_eq_true rfl, ⟨by decide +kernel, by decide +kernel⟩, by decide +kernel, by decide +kernel, rfl⟩
theorem zm_65 (X : Nat × (Nat → Int32) × Value) : zMth X 65 := ⟨zq327, zq14, Nat.le_of_ble_eq_true rfl, ⟨by decide +kernel, by decide +kernel⟩, by decide +kernel, by decide +kernel, rfl⟩
theorem zm_66 (X : Nat × (Nat → Int32) × Value) : zMth X 66 := ⟨zq165, zq14, Nat.le_of_ble_eq_true rfl, ⟨by decide +kernel, by decide +kernel⟩, by decide +kernel, by decide +kernel, rfl⟩
theorem zm_67 (X : Nat × (Nat → Int32) × Value) : zMth X 67 := ⟨zq120, zq14, Nat.le_of_ble_eq_true rfl, ⟨by decide +kernel, by decide +kernel⟩, by decide +kernel, by decide +kernel, rfl⟩
theorem zm_68 (X : Nat × (Nat → Int32) × Value) : zMth X 68 := ⟨zq86, zq14, Nat.le_of_ble_eq_true rfl, ⟨by decide +kernel, by decide +kernel⟩, by decide +kernel, by decide +kernel, rfl⟩
theorem zm_69 (X : Nat × (Nat → Int32) × Value) : zMth X 69 := ⟨zq98, zq14, Nat.le_of_ble_eq_true rfl, ⟨by decide +kernel, by decide +kernel⟩, by decide +kernel, by decide +kernel, rfl⟩
theorem zm_70 (X : Nat × (Nat → Int32) × Value) : zMth X 70 := ⟨zq108, zq14, Nat.le_of_ble_eq_true rfl, ⟨by decide +kernel, by decide +kernel⟩, by decide +kernel, by decide +kernel, rfl⟩
theorem zm_72 (X : Nat × (Nat → Int32) × Value) : zMth X 72 := ⟨zq313, zq12, Nat.le_of_ble_eq_true rfl, ⟨by decide +kernel, by decide +kernel⟩, by decide +kernel, by decide +kernel, rfl⟩
theorem zm_75 (X : Nat × (Nat → Int32) × Value) : zMth X 75 := ⟨zq542, zq12, Nat.le_of_ble_eq_true rfl, ⟨by decide +kernel, by decide +kernel⟩, by decide +kernel, by decide +kernel, rfl⟩
theorem zm_76 (X : Nat × (Nat → Int32) × Value) : zMth X 76 := ⟨zq566, zq12, Nat.le_of_ble_eq_true rfl, ⟨by decide +kernel, by decide +kernel⟩, by decide +kernel, by decide +kernel, rfl⟩
theorem zm_77 (X : Nat × (Nat → Int32) × Value) : zMth X 77 := ⟨zq24, zq12, Nat.le_of_ble_eq_true rfl, ⟨by decide +kernel, by decide +kernel⟩, by decide +kernel, by decide +kernel, rfl⟩
theorem zm_78 (X : Nat × (Nat → Int32) × Value) : zMth X 78 := ⟨zq51, zq12, Nat.le_of_ble_eq_true rfl, ⟨by decide +kernel, by decide +kernel⟩, by decide +kernel, by decide +kernel, rfl⟩
theorem zm_79 (X : Nat × (Nat → Int32) × Value) : zMth X 79 := ⟨zq550, zq12, Nat.le_of_ble_eq_true rfl, ⟨by decide +kernel, by decide +kernel⟩, by decide +kernel, by decide +kernel, rfl⟩
theorem zm_80 (X : Nat × (Nat → Int32) × Value) : zMth X 80 := ⟨zq558, zq12, Nat.le_of_ble_eq_true rfl, ⟨by decide +kernel, by decide +kernel⟩, by decide +kernel, by decide +kernel, rfl⟩
theorem zm_81 (X : Nat × (Nat → Int32) × Value) : zMth X 81 := ⟨zq57, zq12, Nat.le_of_ble_eq_true rfl, ⟨by decide +kernel, by decide +kernel⟩, by decide +kernel, by decide +kernel, rfl⟩
theorem zm_82 (X : Nat × (Nat → Int32) × Value) : zMth X 82 := ⟨zq126, zq12, Nat.le_of_ble_eq_true rfl, ⟨by decide +kernel, by decide +kernel⟩, by decide +kernel, by decide +kernel, rfl⟩
theorem zm_83 (X : Nat × (Nat → Int32) × Value) : zMth X 83 := ⟨zq131, zq12, Nat.le_of_ble_eq_true rfl, ⟨by decide +kernel, by decide +kernel⟩, by decide +kernel, by decide +kernel, rfl⟩
theorem zm_85 (X : Nat × (Nat → Int32) × Value) : zMth X 85 := ⟨zq140, zq12, Nat.le_of_ble_eq_true rfl, ⟨by decide +kernel, by decide +kernel⟩, by decide +kernel, by decide +kernel, rfl⟩
theorem zm_86 (X : Nat × (Nat → Int32) × Value) : zMth X 86 := ⟨zq153, zq12, Nat.le_of_ble_eq_true rfl, ⟨by decide +kernel, by decide +kernel⟩, by decide +kernel, by decide +kernel, rfl⟩
theorem zm_87 (X : Nat × (Nat → Int32) × Value) : zMth X 87 := ⟨zq179, zq12, Nat.le_of_ble_eq_true rfl, ⟨by decide +kernel, by decide +kernel⟩, by decide +kernel, by decide +kernel, rfl⟩
theorem zm_94 (X : Nat × (Nat → Int32) × Value) : zMth X 94 := ⟨zq187, zq12, Nat.le_of_ble_eq_true rfl, ⟨by decide +kernel, by decide +kernel⟩, by decide +kernel, by decide +kernel, rfl⟩
theorem zm_99 (X : Nat × (Nat → Int32) × Value) : zMth X 99 := ⟨zq202, zq12, Nat.le_of_ble_eq_true rfl, ⟨by decide +kernel, by decide +kernel⟩, by decide +kernel, by decide +kernel, rfl⟩
theorem zm_100 (X : Nat × (Nat → Int32) × Value) : zMth X 100 := ⟨zq230, zq12, Nat.le_of_ble_eq_true rfl, ⟨by decide +kernel, by decide +kernel⟩, by decide +kernel, by decide +kernel, rfl⟩
theorem zm_101 (X : Nat × (Nat → Int32) × Value) : zMth X 101 := ⟨zq234, zq12, Nat.le_of_ble_eq_true rfl, ⟨by decide +kernel, by decide +kernel⟩, by decide +kernel, by decide +kernel, rfl⟩
theorem zm_102 (X : Nat × (Nat → Int32) × Value) : zMth X 102 := ⟨zq255, zq12, Nat.le_of_ble_eq_true rfl, ⟨by decide +kernel, by decide +kernel⟩, by decide +kernel, by decide +kernel, rfl⟩
theorem zm_104 (X : Nat × (Nat → Int32) × Value) : zMth X 104 := ⟨zq273, zq12, Nat.le_of_ble_eq_true rfl, ⟨by decide +kernel, by decide +kernel⟩, by decide +kernel, by decide +kernel, rfl⟩
theorem zm_105 (X : Nat × (Nat → Int32) × Value) : zMth X 105 := ⟨zq281, zq12, Nat.le_of_ble_eq_true rfl, ⟨by decide +kernel, by decide +kernel⟩, by decide +kernel, by decide +kernel, rfl⟩
theorem zm_106 (X : Nat × (Nat → Int32) × Value) : zMth X 106 := ⟨zq286, zq12, Nat.le_of_ble_eq_true rfl, ⟨by decide +kernel, by decide +kernel⟩, by decide +kernel, by decide +kernel, rfl⟩
theorem zm_111 (X : Nat × (Nat → Int32) × Value) : zMth X 111 := ⟨zq290, zq12, Nat.le_of_ble_eq_true rfl, ⟨by decide +kernel, by decide +kernel⟩, by decide +kernel, by decide +kernel, rfl⟩
theorem zm_112 (X : Nat × (Nat → Int32) × Value) : zMth X 112 := ⟨zq295, zq12, Nat.le_of_ble_eq_true rfl, ⟨by decide +kernel, by decide +kernel⟩, by decide +kernel, by decide +kernel, rfl⟩
theorem zm_113 (X : Nat × (Nat → Int32) × Value) : zMth X 113 := ⟨zq299, zq12, Nat.le_of_ble_eq_true rfl, ⟨by decide +kernel, by decide +kernel⟩, by decide +kernel, by decide +kernel, rfl⟩
theorem zm_114 (X : Nat × (Nat → Int32) × Value) : zMth X 114 := ⟨zq47, zq12, Nat.le_of_ble_eq_true rfl, ⟨by decide +kernel, by decide +kernel⟩, by decide +kernel, by decide +kernel, rfl⟩
theorem zm_115 (X : Nat × (Nat → Int32) × Value) : zMth X 115 := ⟨zq144, zq12, Nat.le_of_ble_eq_true rfl, ⟨by decide +kernel, by decide +kernel⟩, by decide +kernel, by decide +kernel, rfl⟩
theorem zm_116 (X : Nat × (Nat → Int32) × Value) : zMth X 116 := ⟨zq43, zq12, Nat.le_of_ble_eq_true rfl, ⟨by decide +kernel, by decide +kernel⟩, by decide +kernel, by decide +kernel, rfl⟩
theorem zm_118 (X : Nat × (Nat → Int32) × Value) : zMth X 118 := ⟨zq38, zq12, Nat.le_of_ble_eq_true rfl, ⟨by decide +kernel, by decide +kernel⟩, by decide +kernel, by decide +kernel, rfl⟩
theorem zm_119 (X : Nat × (Nat → Int32) × Value) : zMth X 119 := ⟨zq237, zq12, Nat.le_of_ble_eq_true rfl, ⟨by decide +kernel, by decide +kernel⟩, by decide +kernel, by decide +kernel, rfl⟩
theorem zm_121 (X : Nat × (Nat → Int32) × Value) : zMth X 121 := ⟨zq35, zq12, Nat.le_of_ble_eq_true rfl, ⟨by decide +kernel, by decide +kernel⟩, by decide +kernel, by decide +kernel, rfl⟩
theorem zm_123 (X : Nat × (Nat → Int32) × Value) : zMth X 123 := ⟨zq223, zq12, Nat.le_of_ble_eq_true rfl, ⟨by decide +kernel, by decide +kernel⟩, by decide +kernel, by decide +kernel, rfl⟩
theorem zm_124 (X : Nat × (Nat → Int32) × Value) : zMth X 124 := ⟨zq226, zq12, Nat.le_of_ble_eq_true rfl, ⟨by decide +kernel, by decide +kernel⟩, by decide +kernel, by decide +kernel, rfl⟩
theorem zm_125 (X : Nat × (Nat → Int32) × Value) : zMth X 125 := ⟨zq219, zq12, Nat.le_of_ble_eq_true rfl, ⟨by decide +kernel, by decide +kernel⟩, by decide +kernel, by decide +kernel, rfl⟩
theorem zm_235 (X : Nat × (Nat → Int32) × Value) : zMth X 235 := ⟨zq213, zq20, Nat.le_of_ble_eq_true rfl, ⟨by decide +kernel, by decide +kernel⟩, by decide +kernel, by decide +kernel, rfl⟩
theorem zm_236 (X : Nat × (Nat → Int32) × Value) : zMth X 236 := ⟨zq198, zq19, Nat.le_of_ble_eq_true rfl, ⟨by decide +kernel, by decide +kernel⟩, by decide +kernel, by decide +kernel, rfl⟩
theorem zm_238 (X : Nat × (Nat → Int32) × Value) : zMth X 238 := ⟨zq111, zq19, Nat.le_of_ble_eq_true rfl, ⟨by decide +kernel, by decide +kernel⟩, by decide +kernel, by decide +kernel, rfl⟩
theorem zm_240 (X : Nat × (Nat → Int32) × Value) : zMth X 240 := ⟨zq306, zq11, Nat.le_of_ble_eq_true rfl, ⟨by decide +kernel, by decide +kernel⟩, by decide +kernel, by decide +kernel, rfl⟩
theorem zm_241 (X : Nat × (Nat → Int32) × Value) : zMth X 241 := ⟨zq309, zq11, Nat.le_of_ble_eq_true rfl, ⟨by decide +kernel, by decide +kernel⟩, by decide +kernel, by decide +kernel, rfl⟩
