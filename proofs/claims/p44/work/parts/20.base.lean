/-! THE SYSTEM'S HEAP once all is made: keys, rows' sizes and references stay; ints and longs go -/
abbrev zM : Type := zK → Nat → Int32
/-- the keys that are there, and longs -/
abbrev zG : Type := List zK × (zK → Nat → Int64)
def hh (M : zM) (G : zG) : zH := (G.1, hln, hrf, M, G.2)
abbrev vI (x : Int32) : zV := .inl (.int x)
abbrev vL (x : Int64) : zV := .inl (.long x)
abbrev vF (x : UInt32) : zV := .inl (.float x)
abbrev vD (x : UInt64) : zV := .inl (.double x)
abbrev vR (k : zK) : zV := .inr k
abbrev vN : zV := .inl .null
noncomputable def zx (X : Nat × (Nat → Int32) × Value) (d k pc : Nat) (ls st : List zV) (h : zH) : Option zR := zex (zTX X) d k (pc, ls, st, h, 0, 0)
noncomputable def zd (X : Nat × (Nat → Int32) × Value) (d k : Nat) (args : List zV) (h : zH) : Option zR := zden (zTX X) d k args h
def zk (o : Option zR) (f : Option zV → zH → Option zR) : Option zR := match o with
  | some r => f r.1 r.2
  | none => none
def u2 (M : zM) (k : zK) (f : Nat) (x : Int32) : zM := fun k' j => if k' = k ∧ j = f then x else M k' j
def u2l (G : zG) (k : zK) (f : Nat) (x : Int64) : zG := (G.1, fun k' j => if k' = k ∧ j = f then x else G.2 k' j)
section XB
variable {X : Nat × (Nat → Int32) × Value} {d k pc : Nat} {ls st : List zV} {h : zH} {M : zM} {G : zG}
theorem x_inl {a : zA} {pc' : Nat} {ls' st' : List zV} {h' : zH} (hi : zcd X k pc = some (.inl a)) (ha : a d (pc, ls, st, h, 0, 0) = some (.inl (pc', ls', st', h', 0, 0))) : zx X d k pc ls st h = zx X d k pc' ls' st' h' := zex_inl hi ha
theorem x_push {v : Value} {len pc' : Nat} (hi : zcd X k pc = some (.inl (a_push v len))) (hp : pc + len = pc') : zx X d k pc ls st h = zx X d k pc' ls (.inl v :: st) h := by subst hp; exact x_inl hi rfl
theorem x_load {t : zV → Bool} {i len pc' : Nat} {v : zV} (hi : zcd X k pc = some (.inl (a_load t i len))) (hp : pc + len = pc') (hl : ls[i]? = some v) (ht : t v = true) : zx X d k pc ls st h = zx X d k pc' ls (v :: st) h := by
  subst hp
  refine x_inl hi ?_
  simp only [a_load, hl, if_pos ht]
theorem x_st1 {t : zV → Bool} {i len pc' : Nat} {v : zV} {ls' : List zV} (hi : zcd X k pc = some (.inl (a_st1 t i len))) (hp : pc + len = pc') (ht : t v = true) (hl : i < ls.length) (hz : zpre ls i = true) (he : ls.set i v = ls') : zx X d k pc ls (v :: st) h = zx X d k pc' ls' st h := by
  subst hp; subst he
  refine x_inl hi ?_
  simp only [a_st1, if_pos (And.intro ht (And.intro hl hz))]
theorem x_st2 {t : zV → Bool} {i len pc' : Nat} {v : zV} {ls' : List zV} (hi : zcd X k pc = some (.inl (a_st2 t i len))) (hp : pc + len = pc') (ht : t v = true) (hl : i + 1 < ls.length) (hz : zpre ls i = true) (he : (ls.set i v).set (i + 1) (.inl .null) = ls') : zx X d k pc ls (v :: st) h = zx X d k pc' ls' st h := by
  subst hp; subst he
  refine x_inl hi ?_
  simp only [a_st2, if_pos (And.intro ht (And.intro hl hz))]
theorem x_iinc {i pc' : Nat} {n : Int} {x y : Int32} {ls' : List zV} (hi : zcd X k pc = some (.inl (a_iinc i (Int32.ofInt n)))) (hp : pc + 3 = pc') (hl : ls[i]? = some (vI y)) (hz : zpre ls i = true) (hn : Int32.ofInt n = x) (he : ls.set i (vI (y + x)) = ls') : zx X d k pc ls st h = zx X d k pc' ls' st h := by
  subst hp; subst he; subst hn
  refine x_inl hi ?_
  simp only [a_iinc, hl, if_pos hz]
theorem x_un {f : Value → Option Value} {x v : Value} {pc' : Nat} (hi : zcd X k pc = some (.inl (a_un f))) (hp : pc + 1 = pc') (hf : f x = some v) : zx X d k pc ls (.inl x :: st) h = zx X d k pc' ls (.inl v :: st) h := by
  subst hp
  refine x_inl hi ?_
  simp only [a_un, hf]
theorem x_bin {f : Value → Value → Option Value} {x y v : Value} {pc' : Nat} (hi : zcd X k pc = some (.inl (a_bin f))) (hp : pc + 1 = pc') (hf : f x y = some v) : zx X d k pc ls (.inl y :: .inl x :: st) h = zx X d k pc' ls (.inl v :: st) h := by
  subst hp
  refine x_inl hi ?_
  simp only [a_bin, hf]
theorem x_dup {v : zV} {pc' : Nat} (hi : zcd X k pc = some (.inl a_dup)) (hp : pc + 1 = pc') (hv : zcat v = 1) : zx X d k pc ls (v :: st) h = zx X d k pc' ls (v :: v :: st) h := by
  subst hp
  refine x_inl hi ?_
  simp only [a_dup, if_pos hv]
theorem x_dup2 {v w : zV} {pc' : Nat} (hi : zcd X k pc = some (.inl a_dup2)) (hp : pc + 1 = pc') (hv : zcat v = 1) (hw : zcat w = 1) : zx X d k pc ls (v :: w :: st) h = zx X d k pc' ls (v :: w :: v :: w :: st) h := by
  subst hp
  refine x_inl hi ?_
  simp only [a_dup2, if_pos (And.intro hv hw)]
theorem x_pop {v : zV} {pc' : Nat} (hi : zcd X k pc = some (.inl a_pop)) (hp : pc + 1 = pc') (hv : zcat v = 1) : zx X d k pc ls (v :: st) h = zx X d k pc' ls st h := by
  subst hp
  refine x_inl hi ?_
  simp only [a_pop, if_pos hv]
theorem x_goto {tgt : Nat} (hi : zcd X k pc = some (.inl (a_goto tgt))) : zx X d k pc ls st h = zx X d k tgt ls st h := x_inl hi rfl
theorem x_if1 {c : Int32 → Bool} {x : Int32} {tgt pc' : Nat} {P : Prop} {iP : Decidable P} (hi : zcd X k pc = some (.inl (a_if1 c tgt))) (hp : pc + 3 = pc') (hc : c x = true ↔ P) : zx X d k pc ls (vI x :: st) h = @ite (Option zR) P iP (zx X d k tgt ls st h) (zx X d k pc' ls st h) := by
  subst hp
  by_cases hP : P
  · rw [if_pos hP]
    exact x_inl hi (by simp only [a_if1, if_pos (hc.mpr hP)])
  · rw [if_neg hP]
    exact x_inl hi (by simp only [a_if1, if_neg (fun q => hP (hc.mp q))])
theorem x_if2 {c : Int32 → Int32 → Bool} {x y : Int32} {tgt pc' : Nat} {P : Prop} {iP : Decidable P} (hi : zcd X k pc = some (.inl (a_if2 c tgt))) (hp : pc + 3 = pc') (hc : c x y = true ↔ P) : zx X d k pc ls (vI y :: vI x :: st) h = @ite (Option zR) P iP (zx X d k tgt ls st h) (zx X d k pc' ls st h) := by
  subst hp
  by_cases hP : P
  · rw [if_pos hP]
    exact x_inl hi (by simp only [a_if2, if_pos (hc.mpr hP)])
  · rw [if_neg hP]
    exact x_inl hi (by simp only [a_if2, if_neg (fun q => hP (hc.mp q))])
theorem x_if1n {c : Int32 → Bool} {x : Int32} {tgt pc' : Nat} {P : Prop} {iP : Decidable P} (hi : zcd X k pc = some (.inl (a_if1 c tgt))) (hp : pc + 3 = pc') (hc : c x = true ↔ ¬ P) : zx X d k pc ls (vI x :: st) h = @ite (Option zR) P iP (zx X d k pc' ls st h) (zx X d k tgt ls st h) := by
  subst hp
  by_cases hP : P
  · rw [if_pos hP]
    exact x_inl hi (by simp only [a_if1, if_neg (fun q => hc.mp q hP)])
  · rw [if_neg hP]
    exact x_inl hi (by simp only [a_if1, if_pos (hc.mpr hP)])
theorem x_if2n {c : Int32 → Int32 → Bool} {x y : Int32} {tgt pc' : Nat} {P : Prop} {iP : Decidable P} (hi : zcd X k pc = some (.inl (a_if2 c tgt))) (hp : pc + 3 = pc') (hc : c x y = true ↔ ¬ P) : zx X d k pc ls (vI y :: vI x :: st) h = @ite (Option zR) P iP (zx X d k pc' ls st h) (zx X d k tgt ls st h) := by
  subst hp
  by_cases hP : P
  · rw [if_pos hP]
    exact x_inl hi (by simp only [a_if2, if_neg (fun q => hc.mp q hP)])
  · rw [if_neg hP]
    exact x_inl hi (by simp only [a_if2, if_pos (hc.mpr hP)])
theorem zin_lt {i : Int32} {n : Nat} (h : zin i n = true) : i.toNatClampNeg < n := Nat.not_le.mp fun q => zin_vp h (Or.inr q)
/-- a switch as a chain of tests -/
noncomputable def zsw (X : Nat × (Nat → Int32) × Value) (d k : Nat) (ls st : List zV) (h : zH) (df : Nat) (x : Int32) : List (Int32 × Nat) → Option zR
  | [] => zx X d k df ls st h
  | q :: r => if x = q.1 then zx X d k q.2 ls st h else zsw X d k ls st h df x r
def zlk (df : Nat) (x : Int32) : List (Int32 × Nat) → Nat
  | [] => df
  | q :: r => if x = q.1 then q.2 else zlk df x r
theorem zsw_lk {df : Nat} {x : Int32} : ∀ ps : List (Int32 × Nat), zsw X d k ls st h df x ps = zx X d k (zlk df x ps) ls st h
  | [] => rfl
  | q :: r => by
    unfold zsw zlk
    by_cases hq : x = q.1
    · rw [if_pos hq, if_pos hq]
    · rw [if_neg hq, if_neg hq]
      exact zsw_lk r
theorem zlk_out {df : Nat} {x : Int32} : ∀ ps : List (Int32 × Nat), (∀ q ∈ ps, x ≠ q.1) → zlk df x ps = df
  | [], _ => rfl
  | q :: r, hq => by
    unfold zlk
    rw [if_neg (hq q List.mem_cons_self)]
    exact zlk_out r (fun y hy => hq y (List.mem_cons_of_mem _ hy))
theorem x_sw {lo hi : Int} {ts : List Nat} {df : Nat} {x : Int32} (hz : zcd X k pc = some (.inl (a_sw lo hi ts df))) (ps : List (Int32 × Nat)) (h1 : ∀ q ∈ ps, lo ≤ q.1.toInt ∧ q.1.toInt ≤ hi) (h2 : hi = lo + ts.length - 1 ∧ ∀ i, i < ts.length → zlk df (Int32.ofInt (lo + i)) ps = ts.getD i 0) : zx X d k pc ls (vI x :: st) h = zsw X d k ls st h df x ps := by
  rw [zsw_lk]
  refine x_inl hz ?_
  simp only [a_sw]
  by_cases hr : x.toInt < lo ∨ hi < x.toInt
  · rw [if_pos hr, zlk_out ps (fun q hq e => ?_)]
    have := h1 q hq
    rw [e] at hr
    omega
  · rw [if_neg hr]
    have hi' : (x.toInt - lo).toNat < ts.length := by omega
    have h3 := h2.2 _ hi'
    have h4 : lo + ((x.toInt - lo).toNat : Int) = x.toInt := by omega
    rw [h4, Int32.ofInt_toInt] at h3
    rw [h3, List.getElem?_eq_getElem hi']
    simp [List.getD_eq_getElem?_getD, hi']
theorem x_get {s f pc' : Nat} {a : zK} {v : zV} (hi : zcd X k pc = some (.inl (a_get s f))) (hp : pc + 3 = pc') (hs : a.1 = s) (hv : zgv (hh M G) a f = v) : zx X d k pc ls (.inr a :: st) (hh M G) = zx X d k pc' ls (v :: st) (hh M G) := by
  subst hp; subst hv
  refine x_inl hi ?_
  simp only [a_get, if_pos hs]
theorem x_put {s f pc' : Nat} {a : zK} {x : Int32} (hi : zcd X k pc = some (.inl (a_put s f))) (hp : pc + 3 = pc') (hs : a.1 = s) (hr : (zty a.1 f).isReference = false) (hb : zty a.1 f = .boolean → (x = 0 ∨ x = 1)) : zx X d k pc ls (vI x :: .inr a :: st) (hh M G) = zx X d k pc' ls st (hh (u2 M a f x) G) := by
  subst hp
  refine x_inl hi ?_
  simp only [a_put, if_pos hs, zpv, if_pos (And.intro hr hb), hh]
  rfl
theorem x_iald {i : Int32} {a : zK} {pc' : Nat} (hi : zcd X k pc = some (.inl a_iald)) (hp : pc + 1 = pc') (h1 : 13 ≤ a.1) (h2 : a.1 < 40) (hz : zin i (hln a) = true) : zx X d k pc ls (vI i :: .inr a :: st) (hh M G) = zx X d k pc' ls (vI (M a i.toNatClampNeg) :: st) (hh M G) := by
  subst hp
  refine x_inl hi ?_
  exact if_pos ⟨h1, h2, hz⟩
theorem x_lald {i : Int32} {a : zK} {pc' : Nat} (hi : zcd X k pc = some (.inl a_lald)) (hp : pc + 1 = pc') (h1 : a.1 = 12) (hz : zin i (hln a) = true) : zx X d k pc ls (vI i :: .inr a :: st) (hh M G) = zx X d k pc' ls (vL (G.2 a i.toNatClampNeg) :: st) (hh M G) := by
  subst hp
  refine x_inl hi ?_
  exact if_pos ⟨h1, hz⟩
theorem x_aald {i : Int32} {a a' : zK} {pc' : Nat} (hi : zcd X k pc = some (.inl a_aald)) (hp : pc + 1 = pc') (h1 : 8 ≤ a.1) (h2 : a.1 < 12) (hz : zin i (hln a) = true) (hr : hrf a i.toNatClampNeg = some a') : zx X d k pc ls (vI i :: .inr a :: st) (hh M G) = zx X d k pc' ls (.inr a' :: st) (hh M G) := by
  subst hp
  refine x_inl hi ?_
  refine Eq.trans (if_pos ⟨h1, h2, hz⟩) ?_
  show (match hrf a i.toNatClampNeg with
    | some k' => some (Sum.inl (pc + 1, ls, Sum.inr k' :: st, hh M G, 0, 0))
    | none => none) = _
  rw [hr]
theorem x_iast {i x : Int32} {a : zK} {pc' : Nat} (hi : zcd X k pc = some (.inl a_iast)) (hp : pc + 1 = pc') (h1 : 13 ≤ a.1) (h2 : a.1 < 40) (hz : zin i (hln a) = true) : zx X d k pc ls (vI x :: vI i :: .inr a :: st) (hh M G) = zx X d k pc' ls st (hh (u2 M a i.toNatClampNeg x) G) := by
  subst hp
  refine x_inl hi ?_
  exact if_pos ⟨h1, h2, hz⟩
theorem x_last {i : Int32} {x : Int64} {a : zK} {pc' : Nat} (hi : zcd X k pc = some (.inl a_last)) (hp : pc + 1 = pc') (h1 : a.1 = 12) (hz : zin i (hln a) = true) : zx X d k pc ls (vL x :: vI i :: .inr a :: st) (hh M G) = zx X d k pc' ls st (hh M (u2l G a i.toNatClampNeg x)) := by
  subst hp
  refine x_inl hi ?_
  exact if_pos ⟨h1, hz⟩
theorem x_alen {a : zK} {pc' : Nat} {n : Int32} (hi : zcd X k pc = some (.inl a_alen)) (hp : pc + 1 = pc') (h1 : 8 ≤ a.1) (h2 : a.1 < 40) (hn : Int32.ofNat (hln a) = n) : zx X d k pc ls (.inr a :: st) (hh M G) = zx X d k pc' ls (vI n :: st) (hh M G) := by
  subst hp; subst hn
  refine x_inl hi ?_
  exact if_pos ⟨h1, h2⟩
theorem x_ret {t : zV → Bool} {v : zV} (hi : zcd X k pc = some (.inr (.inl (a_ret t 0 0)))) (ht : t v = true) : zx X d k pc ls [v] h = some (some v, h) := zex_ret hi (by simp only [a_ret, if_pos (And.intro ht (And.intro (Nat.le_refl 0) (Nat.le_refl 0)))])
theorem x_vret (hi : zcd X k pc = some (.inr (.inl (a_vret 0 0)))) : zx X d k pc ls [] h = some (none, h) := zex_ret hi (by simp only [a_vret, if_pos (And.intro (Nat.le_refl 0) (Nat.le_refl 0))])
theorem x_call {kind m n pc' : Nat} {args rest : List zV} (hi : zcd X k pc = some (.inr (.inr (kind, m, n)))) (hp : pc + 3 = pc') (hn : n ≤ st.length) (ha : (st.take n).reverse = args) (hr : st.drop n = rest) (h8 : (rest.map zcat).sum ≤ 8) (hk : zrcv kind args = true) (hl : (zflat args).length ≤ znL m) (hm : zmc m = 0) (hs : zms m = 0) :
    zx X (d + 1) k pc ls st h = zk (zd X d m args h) (fun r h' => zx X (d + 1) k pc' ls (r.toList ++ rest) h') := by
  subst ha; subst hr; subst hp
  have hg : (n ≤ st.length ∧ ((st.drop n).map zcat).sum ≤ 8 ∧ zrcv kind (st.take n).reverse = true) ∧ (zflat (st.take n).reverse).length ≤ (zTX X).2.1 m ∧ 0 + (zTX X).2.2.1 m ≤ (zTX X).2.2.1 k ∧ 0 + (zTX X).2.2.2 m ≤ (zTX X).2.2.2 k := ⟨⟨hn, h8, hk⟩, hl, by show 0 + zmc m ≤ zmc k; rw [hm]; exact Nat.zero_le _, by show 0 + zms m ≤ zms k; rw [hs]; exact Nat.zero_le _⟩
  cases hz : zd X d m (st.take n).reverse h with
  | some r =>
    have e := zex_call (T := zTX X) (M := k) (ls := ls) (nc := 0) (ns := 0) (q := (kind, m, n)) hi hg hz
    have e0 : (0 + (zTX X).2.2.1 m) = 0 := by show 0 + zmc m = 0; rw [hm]
    have e1 : (0 + (zTX X).2.2.2 m) = 0 := by show 0 + zms m = 0; rw [hs]
    dsimp only at e
    rw [e0, e1] at e
    exact e
  | none =>
    show zex (zTX X) (d + 1) k (pc, ls, st, h, 0, 0) = none
    cases hx : zex (zTX X) (d + 1) k (pc, ls, st, h, 0, 0) with
    | none => rfl
    | some r =>
      obtain ⟨f, hf⟩ := zex_iff.mp hx
      cases f with
      | zero => cases hf
      | succ f =>
        exfalso
        unfold zexec at hf
        have hs2 : zstep (zTX X) (zexec (zTX X) f) (d + 1) k (pc, ls, st, h, 0, 0) = none := by
          unfold zstep
          rw [show (zTX X).1 k (pc, ls, st, h, 0, 0).1 = some (.inr (.inr (kind, m, n))) from hi]
          dsimp only
          rw [if_pos hg]
          cases hc : zexec (zTX X) f d m (zent ((zTX X).2.1 m) (st.take n).reverse h) with
          | none => rfl
          | some r2 =>
            have : zd X d m (st.take n).reverse h = some r2 := zex_iff.mpr ⟨f, hc⟩
            rw [hz] at this
            cases this
        rw [hs2] at hf
        cases hf
theorem zcat_I {x : Int32} : zcat (vI x) = 1 := rfl
/-- two ends that differ in their answer alone -/
theorem zpi {c : Prop} {iP : Decidable c} {a b : Int32} {h : zH} : (@ite (Option zR) c iP (some (some (vI a), h)) (some (some (vI b), h))) = some (some (vI (@ite Int32 c iP a b)), h) := by
  by_cases hc : c
  · rw [if_pos hc, if_pos hc]
  · rw [if_neg hc, if_neg hc]
theorem zk_some {r : Option zV} {h : zH} {f : Option zV → zH → Option zR} : zk (some (r, h)) f = f r h := rfl
end XB
