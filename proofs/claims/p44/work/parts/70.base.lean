/-! the law: an instruction a row; c1, c2: what has been made before -/
noncomputable def zw (X : Nat × (Nat → Int32) × Value) (c1 c2 d k pc : Nat) (ls st : List zV) (h : zH) : Option zR := zex (zTX X) d k (pc, ls, st, h, c1, c2)
section XW
variable {X : Nat × (Nat → Int32) × Value} {c1 c2 d k pc : Nat} {ls st : List zV} {h : zH} {M : zM} {G : zG}
theorem w_inl {a : zA} {pc' : Nat} {ls' st' : List zV} {h' : zH} (hi : zcd X k pc = some (.inl a)) (ha : a d (pc, ls, st, h, c1, c2) = some (.inl (pc', ls', st', h', c1, c2))) : zw X c1 c2 d k pc ls st h = zw X c1 c2 d k pc' ls' st' h' := zex_inl hi ha
theorem w_push {v : Value} {len pc' : Nat} (hi : zcd X k pc = some (.inl (a_push v len))) (hp : pc + len = pc') : zw X c1 c2 d k pc ls st h = zw X c1 c2 d k pc' ls (.inl v :: st) h := by subst hp; exact w_inl hi rfl
theorem w_load {t : zV → Bool} {i len pc' : Nat} {v : zV} (hi : zcd X k pc = some (.inl (a_load t i len))) (hp : pc + len = pc') (hl : ls[i]? = some v) (ht : t v = true) : zw X c1 c2 d k pc ls st h = zw X c1 c2 d k pc' ls (v :: st) h := by
  subst hp
  refine w_inl hi ?_
  simp only [a_load, hl, if_pos ht]
theorem w_st1 {t : zV → Bool} {i len pc' : Nat} {v : zV} {ls' : List zV} (hi : zcd X k pc = some (.inl (a_st1 t i len))) (hp : pc + len = pc') (ht : t v = true) (hl : i < ls.length) (hz : zpre ls i = true) (he : ls.set i v = ls') : zw X c1 c2 d k pc ls (v :: st) h = zw X c1 c2 d k pc' ls' st h := by
  subst hp; subst he
  refine w_inl hi ?_
  simp only [a_st1, if_pos (And.intro ht (And.intro hl hz))]
theorem w_st2 {t : zV → Bool} {i len pc' : Nat} {v : zV} {ls' : List zV} (hi : zcd X k pc = some (.inl (a_st2 t i len))) (hp : pc + len = pc') (ht : t v = true) (hl : i + 1 < ls.length) (hz : zpre ls i = true) (he : (ls.set i v).set (i + 1) (.inl .null) = ls') : zw X c1 c2 d k pc ls (v :: st) h = zw X c1 c2 d k pc' ls' st h := by
  subst hp; subst he
  refine w_inl hi ?_
  simp only [a_st2, if_pos (And.intro ht (And.intro hl hz))]
theorem w_iinc {i pc' : Nat} {n : Int} {x y : Int32} {ls' : List zV} (hi : zcd X k pc = some (.inl (a_iinc i (Int32.ofInt n)))) (hp : pc + 3 = pc') (hl : ls[i]? = some (vI y)) (hz : zpre ls i = true) (hn : Int32.ofInt n = x) (he : ls.set i (vI (y + x)) = ls') : zw X c1 c2 d k pc ls st h = zw X c1 c2 d k pc' ls' st h := by
  subst hp; subst he; subst hn
  refine w_inl hi ?_
  simp only [a_iinc, hl, if_pos hz]
theorem w_un {f : Value → Option Value} {x v : Value} {pc' : Nat} (hi : zcd X k pc = some (.inl (a_un f))) (hp : pc + 1 = pc') (hf : f x = some v) : zw X c1 c2 d k pc ls (.inl x :: st) h = zw X c1 c2 d k pc' ls (.inl v :: st) h := by
  subst hp
  refine w_inl hi ?_
  simp only [a_un, hf]
theorem w_bin {f : Value → Value → Option Value} {x y v : Value} {pc' : Nat} (hi : zcd X k pc = some (.inl (a_bin f))) (hp : pc + 1 = pc') (hf : f x y = some v) : zw X c1 c2 d k pc ls (.inl y :: .inl x :: st) h = zw X c1 c2 d k pc' ls (.inl v :: st) h := by
  subst hp
  refine w_inl hi ?_
  simp only [a_bin, hf]
theorem w_pop {v : zV} {pc' : Nat} (hi : zcd X k pc = some (.inl a_pop)) (hp : pc + 1 = pc') (hv : zcat v = 1) : zw X c1 c2 d k pc ls (v :: st) h = zw X c1 c2 d k pc' ls st h := by
  subst hp
  refine w_inl hi ?_
  simp only [a_pop, if_pos hv]
theorem w_goto {tgt : Nat} (hi : zcd X k pc = some (.inl (a_goto tgt))) : zw X c1 c2 d k pc ls st h = zw X c1 c2 d k tgt ls st h := w_inl hi rfl
theorem w_if1 {c : Int32 → Bool} {x : Int32} {tgt pc' : Nat} {P : Prop} {iP : Decidable P} (hi : zcd X k pc = some (.inl (a_if1 c tgt))) (hp : pc + 3 = pc') (hc : c x = true ↔ P) : zw X c1 c2 d k pc ls (vI x :: st) h = @ite (Option zR) P iP (zw X c1 c2 d k tgt ls st h) (zw X c1 c2 d k pc' ls st h) := by
  subst hp
  by_cases hP : P
  · rw [if_pos hP]
    exact w_inl hi (by simp only [a_if1, if_pos (hc.mpr hP)])
  · rw [if_neg hP]
    exact w_inl hi (by simp only [a_if1, if_neg (fun q => hP (hc.mp q))])
theorem w_if2 {c : Int32 → Int32 → Bool} {x y : Int32} {tgt pc' : Nat} {P : Prop} {iP : Decidable P} (hi : zcd X k pc = some (.inl (a_if2 c tgt))) (hp : pc + 3 = pc') (hc : c x y = true ↔ P) : zw X c1 c2 d k pc ls (vI y :: vI x :: st) h = @ite (Option zR) P iP (zw X c1 c2 d k tgt ls st h) (zw X c1 c2 d k pc' ls st h) := by
  subst hp
  by_cases hP : P
  · rw [if_pos hP]
    exact w_inl hi (by simp only [a_if2, if_pos (hc.mpr hP)])
  · rw [if_neg hP]
    exact w_inl hi (by simp only [a_if2, if_neg (fun q => hP (hc.mp q))])
theorem w_if1n {c : Int32 → Bool} {x : Int32} {tgt pc' : Nat} {P : Prop} {iP : Decidable P} (hi : zcd X k pc = some (.inl (a_if1 c tgt))) (hp : pc + 3 = pc') (hc : c x = true ↔ ¬ P) : zw X c1 c2 d k pc ls (vI x :: st) h = @ite (Option zR) P iP (zw X c1 c2 d k pc' ls st h) (zw X c1 c2 d k tgt ls st h) := by
  subst hp
  by_cases hP : P
  · rw [if_pos hP]
    exact w_inl hi (by simp only [a_if1, if_neg (fun q => hc.mp q hP)])
  · rw [if_neg hP]
    exact w_inl hi (by simp only [a_if1, if_pos (hc.mpr hP)])
theorem w_if2n {c : Int32 → Int32 → Bool} {x y : Int32} {tgt pc' : Nat} {P : Prop} {iP : Decidable P} (hi : zcd X k pc = some (.inl (a_if2 c tgt))) (hp : pc + 3 = pc') (hc : c x y = true ↔ ¬ P) : zw X c1 c2 d k pc ls (vI y :: vI x :: st) h = @ite (Option zR) P iP (zw X c1 c2 d k pc' ls st h) (zw X c1 c2 d k tgt ls st h) := by
  subst hp
  by_cases hP : P
  · rw [if_pos hP]
    exact w_inl hi (by simp only [a_if2, if_neg (fun q => hc.mp q hP)])
  · rw [if_neg hP]
    exact w_inl hi (by simp only [a_if2, if_pos (hc.mpr hP)])
theorem w_lald {i : Int32} {a : zK} {pc' : Nat} (hi : zcd X k pc = some (.inl a_lald)) (hp : pc + 1 = pc') (h1 : a.1 = 12) (hz : zin i (hln a) = true) : zw X c1 c2 d k pc ls (vI i :: .inr a :: st) (hh M G) = zw X c1 c2 d k pc' ls (vL (G.2 a i.toNatClampNeg) :: st) (hh M G) := by
  subst hp
  refine w_inl hi ?_
  exact if_pos ⟨h1, hz⟩
theorem w_last {i : Int32} {x : Int64} {a : zK} {pc' : Nat} (hi : zcd X k pc = some (.inl a_last)) (hp : pc + 1 = pc') (h1 : a.1 = 12) (hz : zin i (hln a) = true) : zw X c1 c2 d k pc ls (vL x :: vI i :: .inr a :: st) (hh M G) = zw X c1 c2 d k pc' ls st (hh M (u2l G a i.toNatClampNeg x)) := by
  subst hp
  refine w_inl hi ?_
  exact if_pos ⟨h1, hz⟩
theorem w_call {kind m n pc' : Nat} {args rest : List zV} (hi : zcd X k pc = some (.inr (.inr (kind, m, n)))) (hp : pc + 3 = pc') (hn : n ≤ st.length) (ha : (st.take n).reverse = args) (hr : st.drop n = rest) (h8 : (rest.map zcat).sum ≤ 8) (hk : zrcv kind args = true) (hl : (zflat args).length ≤ znL m) (hm : zmc m = 0) (hs : zms m = 0) (h1 : c1 ≤ zmc k) (h2 : c2 ≤ zms k) :
    zw X c1 c2 (d + 1) k pc ls st h = zk (zd X d m args h) (fun r h' => zw X c1 c2 (d + 1) k pc' ls (r.toList ++ rest) h') := by
  subst ha; subst hr; subst hp
  have hg : (n ≤ st.length ∧ ((st.drop n).map zcat).sum ≤ 8 ∧ zrcv kind (st.take n).reverse = true) ∧ (zflat (st.take n).reverse).length ≤ (zTX X).2.1 m ∧ c1 + (zTX X).2.2.1 m ≤ (zTX X).2.2.1 k ∧ c2 + (zTX X).2.2.2 m ≤ (zTX X).2.2.2 k := ⟨⟨hn, h8, hk⟩, hl, by show c1 + zmc m ≤ zmc k; rw [hm]; exact h1, by show c2 + zms m ≤ zms k; rw [hs]; exact h2⟩
  cases hz : zd X d m (st.take n).reverse h with
  | some r =>
    have e := zex_call (T := zTX X) (M := k) (ls := ls) (nc := c1) (ns := c2) (q := (kind, m, n)) hi hg hz
    have e0 : (c1 + (zTX X).2.2.1 m) = c1 := by show c1 + zmc m = c1; rw [hm, Nat.add_zero]
    have e1 : (c2 + (zTX X).2.2.2 m) = c2 := by show c2 + zms m = c2; rw [hs, Nat.add_zero]
    dsimp only at e
    rw [e0, e1] at e
    exact e
  | none =>
    show zex (zTX X) (d + 1) k (pc, ls, st, h, c1, c2) = none
    cases hx : zex (zTX X) (d + 1) k (pc, ls, st, h, c1, c2) with
    | none => rfl
    | some r =>
      obtain ⟨f, hf⟩ := zex_iff.mp hx
      cases f with
      | zero => cases hf
      | succ f =>
        exfalso
        unfold zexec at hf
        have hs2 : zstep (zTX X) (zexec (zTX X) f) (d + 1) k (pc, ls, st, h, c1, c2) = none := by
          unfold zstep
          rw [show (zTX X).1 k (pc, ls, st, h, c1, c2).1 = some (.inr (.inr (kind, m, n))) from hi]
          dsimp only
          rw [if_pos hg]
          cases hc : zexec (zTX X) f d m (zent ((zTX X).2.1 m) (st.take n).reverse h) with
          | none => rfl
          | some r2 =>
            have : zd X d m (st.take n).reverse h = some r2 := zex_iff.mpr ⟨f, hc⟩
            rw [hz] at this
            cases this
        rw [hs2] at hf
        cases hf
theorem w_ret {t : zV → Bool} {v : zV} {mc ms : Nat} (hi : zcd X k pc = some (.inr (.inl (a_ret t mc ms)))) (ht : t v = true) (h1 : c1 ≤ mc) (h2 : c2 ≤ ms) : zw X c1 c2 d k pc ls [v] h = some (some v, h) := zex_ret hi (by simp only [a_ret, if_pos (And.intro ht (And.intro h1 h2))])
end XW
