/-! OPCODES -/
def zb_iadd (a b : Value) : Option Value := match a, b with
  | .int x, .int y => some (.int (x + y))
  | _, _ => none
def zb_isub (a b : Value) : Option Value := match a, b with
  | .int x, .int y => some (.int (x - y))
  | _, _ => none
def zb_imul (a b : Value) : Option Value := match a, b with
  | .int x, .int y => some (.int (x * y))
  | _, _ => none
def zb_iand (a b : Value) : Option Value := match a, b with
  | .int x, .int y => some (.int (x &&& y))
  | _, _ => none
def zb_ior (a b : Value) : Option Value := match a, b with
  | .int x, .int y => some (.int (x ||| y))
  | _, _ => none
def zb_ishl (a b : Value) : Option Value := match a, b with
  | .int x, .int y => some (.int (x <<< (y &&& 31)))
  | _, _ => none
def zb_ishr (a b : Value) : Option Value := match a, b with
  | .int x, .int y => some (.int (x >>> (y &&& 31)))
  | _, _ => none
def zb_idiv (a b : Value) : Option Value := match a, b with
  | .int x, .int y => if y = 0 then none else some (.int (x / y))
  | _, _ => none
def zb_irem (a b : Value) : Option Value := match a, b with
  | .int x, .int y => if y = 0 then none else some (.int (x - x / y * y))
  | _, _ => none
def zb_ladd (a b : Value) : Option Value := match a, b with
  | .long x, .long y => some (.long (x + y))
  | _, _ => none
def zb_lsub (a b : Value) : Option Value := match a, b with
  | .long x, .long y => some (.long (x - y))
  | _, _ => none
def zb_lmul (a b : Value) : Option Value := match a, b with
  | .long x, .long y => some (.long (x * y))
  | _, _ => none
def zb_lor (a b : Value) : Option Value := match a, b with
  | .long x, .long y => some (.long (x ||| y))
  | _, _ => none
def zb_ldiv (a b : Value) : Option Value := match a, b with
  | .long x, .long y => if y = 0 then none else some (.long (x / y))
  | _, _ => none
def zb_lrem (a b : Value) : Option Value := match a, b with
  | .long x, .long y => if y = 0 then none else some (.long (x - x / y * y))
  | _, _ => none
def zb_lcmp (a b : Value) : Option Value := match a, b with
  | .long x, .long y => some (.int (lg_cmp x y))
  | _, _ => none
def zb_lshl (a b : Value) : Option Value := match a, b with
  | .long x, .int y => some (.long (x <<< (y.toInt64 &&& 63)))
  | _, _ => none
def zb_iushr (a b : Value) : Option Value := match a, b with
  | .int x, .int y => some (.int (x.toUInt32 >>> (y.toUInt32 &&& Int32.toUInt32 31)).toInt32)
  | _, _ => none
def zb_fadd (a b : Value) : Option Value := match a, b with
  | .float x, .float y => if (FP.fadd x y) &&& 0x7fffffff ≤ 0x7f800000 then some (.float (FP.fadd x y)) else none
  | _, _ => none
def zb_fdiv (a b : Value) : Option Value := match a, b with
  | .float x, .float y => if (FP.fdiv x y) &&& 0x7fffffff ≤ 0x7f800000 then some (.float (FP.fdiv x y)) else none
  | _, _ => none
def zb_dadd (a b : Value) : Option Value := match a, b with
  | .double x, .double y => if (FP.dadd x y) &&& 0x7fffffffffffffff ≤ 0x7ff0000000000000 then some (.double (FP.dadd x y)) else none
  | _, _ => none
def zb_dsub (a b : Value) : Option Value := match a, b with
  | .double x, .double y => if (FP.dsub x y) &&& 0x7fffffffffffffff ≤ 0x7ff0000000000000 then some (.double (FP.dsub x y)) else none
  | _, _ => none
def zb_dmul (a b : Value) : Option Value := match a, b with
  | .double x, .double y => if (FP.dmul x y) &&& 0x7fffffffffffffff ≤ 0x7ff0000000000000 then some (.double (FP.dmul x y)) else none
  | _, _ => none
def zb_ddiv (a b : Value) : Option Value := match a, b with
  | .double x, .double y => if (FP.ddiv x y) &&& 0x7fffffffffffffff ≤ 0x7ff0000000000000 then some (.double (FP.ddiv x y)) else none
  | _, _ => none
def zb_dcmp (op : CmpOp) (a b : Value) : Option Value := match a, b with
  | .double x, .double y => some (.int (Op.cmpValue (FP.dcmp x y) op))
  | _, _ => none
def zb_fcmp (op : CmpOp) (a b : Value) : Option Value := match a, b with
  | .float x, .float y => some (.int (Op.cmpValue (FP.fcmp x y) op))
  | _, _ => none
def zu_ineg (a : Value) : Option Value := match a with
  | .int x => some (.int (-x))
  | _ => none
def zu_i2l (a : Value) : Option Value := match a with
  | .int x => some (.long x.toInt64)
  | _ => none
def zu_l2i (a : Value) : Option Value := match a with
  | .long x => some (.int x.toInt32)
  | _ => none
def zu_i2f (a : Value) : Option Value := match a with
  | .int x => some (.float (FP.i2f x))
  | _ => none
def zu_i2d (a : Value) : Option Value := match a with
  | .int x => some (.double (FP.i2d x))
  | _ => none
def zu_i2c (a : Value) : Option Value := match a with
  | .int x => some (.int (x.toUInt32 % 65536).toInt32)
  | _ => none
def zu_l2d (a : Value) : Option Value := match a with
  | .long x => some (.double (FP.l2d x))
  | _ => none
def zu_d2i (a : Value) : Option Value := match a with
  | .double x => some (.int (FP.d2i x))
  | _ => none
def zu_d2l (a : Value) : Option Value := match a with
  | .double x => some (.long (FP.d2l x))
  | _ => none
def zu_f2d (a : Value) : Option Value := match a with
  | .float x => if (FP.f2d x) &&& 0x7fffffffffffffff ≤ 0x7ff0000000000000 then some (.double (FP.f2d x)) else none
  | _ => none
def zp_eq (x : Int32) : Bool := x == 0
def zd_eq (x y : Int32) : Bool := x == y
def zp_ne (x : Int32) : Bool := !(x == 0)
def zd_ne (x y : Int32) : Bool := !(x == y)
def zp_lt (x : Int32) : Bool := decide (x < 0)
def zd_lt (x y : Int32) : Bool := decide (x < y)
def zp_ge (x : Int32) : Bool := decide (0 ≤ x)
def zd_ge (x y : Int32) : Bool := decide (y ≤ x)
def zp_gt (x : Int32) : Bool := decide (0 < x)
def zd_gt (x y : Int32) : Bool := decide (y < x)
def zp_le (x : Int32) : Bool := decide (x ≤ 0)
def zd_le (x y : Int32) : Bool := decide (x ≤ y)
section ZO
variable {X : Nat × (Nat → Int32) × Value} {cc : ByteArray} {own : String} {nL mc ms d : Nat} {ini : Bool} {pc : Nat}
theorem s_iconst {n : Int} {v : Int32} (hd : decode cc pc = .ok (.iconst n, 1)) (hv : Int32.ofInt n = v) : zSnd X cc own nL mc ms d ini pc (a_push (.int v) 1) := s_push fun hx hb _ _ kk => lv_iconst hx hb hd hv kk
theorem s_bipush {n : Int} {v : Int32} (hd : decode cc pc = .ok (.bipush n, 2)) (hv : (Int8.ofInt n).toInt32 = v) : zSnd X cc own nL mc ms d ini pc (a_push (.int v) 2) := s_push fun hx hb _ _ kk => lv_bipush hx hb hd hv kk
theorem s_sipush {n : Int} {v : Int32} (hd : decode cc pc = .ok (.sipush n, 3)) (hv : (Int16.ofInt n).toInt32 = v) : zSnd X cc own nL mc ms d ini pc (a_push (.int v) 3) := s_push fun hx hb _ _ kk => lv_sipush hx hb hd hv kk
theorem s_lconst {n : Fin 2} {v : Int64} (hd : decode cc pc = .ok (.lconst n, 1)) (hv : Int64.ofNat (n : Nat) = v) : zSnd X cc own nL mc ms d ini pc (a_push (.long v) 1) := s_push fun hx hb _ _ kk => lv_lconst hx hb hd hv kk
theorem s_dconst0 (hd : decode cc pc = .ok (.dconst 0, 1)) : zSnd X cc own nL mc ms d ini pc (a_push (.double FP.dconst0) 1) := s_push fun hx hb _ _ kk => lv_dconst0 hx hb hd kk
theorem s_dconst1 (hd : decode cc pc = .ok (.dconst 1, 1)) : zSnd X cc own nL mc ms d ini pc (a_push (.double FP.dconst1) 1) := s_push fun hx hb _ _ kk => lv_dconst1 hx hb hd kk
theorem s_ldc {idx : Nat} {v : Int32} (hd : decode cc pc = .ok (.ldc idx, 2)) (hc : Cond.constant own idx v ∈ zTb) : zSnd X cc own nL mc ms d ini pc (a_push (.int v) 2) := s_push fun hx hb ho hts kk => lv_ldc hx hb ho (hts _ hc) hd kk
theorem s_ldcw {idx : Nat} {v : Int32} (hd : decode cc pc = .ok (.ldc_w idx, 3)) (hc : Cond.constant own idx v ∈ zTb) : zSnd X cc own nL mc ms d ini pc (a_push (.int v) 3) := s_push fun hx hb ho hts kk => lv_ldcw hx hb ho (hts _ hc) hd kk
theorem s_ldc2 {idx : Nat} {v : Int64} (hd : decode cc pc = .ok (.ldc2_w idx, 3)) (hc : Cond.constantLong own idx v ∈ zTb) : zSnd X cc own nL mc ms d ini pc (a_push (.long v) 3) := s_push fun hx hb ho hts kk => lv_ldc2 hx hb ho (hts _ hc) hd kk
theorem s_ldc2d {idx : Nat} {v : UInt64} (hd : decode cc pc = .ok (.ldc2_w idx, 3)) (hc : Cond.constantDouble own idx v ∈ zTb) : zSnd X cc own nL mc ms d ini pc (a_push (.double v) 3) := s_push fun hx hb ho hts kk => lv_ldc2d hx hb ho (hts _ hc) hd kk
theorem s_iload {i : Nat} (hd : decode cc pc = .ok (.iload i, 2)) : zSnd X cc own nL mc ms d ini pc (a_load zti i 2) := s_load (fun v h => by match v, h with | .inl (.int x), _ => rfl) fun v ad ht hx hb hl kk => by
  match v, ht with
  | .inl (.int x), _ => exact lv_iload hx hb hd hl kk
theorem s_iload_n {k : Fin 4} {i : Nat} (hd : decode cc pc = .ok (.iload_n k, 1)) (hi : (k : Nat) = i) : zSnd X cc own nL mc ms d ini pc (a_load zti i 1) := s_load (fun v h => by match v, h with | .inl (.int x), _ => rfl) fun v ad ht hx hb hl kk => by
  match v, ht with
  | .inl (.int x), _ => exact lv_iload_n hx hb hd hi hl kk
theorem s_istore {i : Nat} (hd : decode cc pc = .ok (.istore i, 2)) : zSnd X cc own nL mc ms d ini pc (a_st1 zti i 2) := s_st1 fun v ad ht hx hb hl hn kk => by
  match v, ht, kk with
  | .inl (.int x), _, kk => exact lv_istore hx hb hd hl hn rfl kk
theorem s_istore_n {k : Fin 4} {i : Nat} (hd : decode cc pc = .ok (.istore_n k, 1)) (hi : (k : Nat) = i) : zSnd X cc own nL mc ms d ini pc (a_st1 zti i 1) := s_st1 fun v ad ht hx hb hl hn kk => by
  match v, ht, kk with
  | .inl (.int x), _, kk => exact lv_istore_n hx hb hd hi hl hn rfl kk
theorem s_lload {i : Nat} (hd : decode cc pc = .ok (.lload i, 2)) : zSnd X cc own nL mc ms d ini pc (a_load ztl i 2) := s_load (fun v h => by match v, h with | .inl (.long x), _ => rfl) fun v ad ht hx hb hl kk => by
  match v, ht with
  | .inl (.long x), _ => exact lv_lload hx hb hd hl kk
theorem s_lload_n {k : Fin 4} {i : Nat} (hd : decode cc pc = .ok (.lload_n k, 1)) (hi : (k : Nat) = i) : zSnd X cc own nL mc ms d ini pc (a_load ztl i 1) := s_load (fun v h => by match v, h with | .inl (.long x), _ => rfl) fun v ad ht hx hb hl kk => by
  match v, ht with
  | .inl (.long x), _ => exact lv_lload_n hx hb hd hi hl kk
theorem s_lstore {i : Nat} (hd : decode cc pc = .ok (.lstore i, 2)) : zSnd X cc own nL mc ms d ini pc (a_st2 ztl i 2) := s_st2 fun v ad ht hx hb hl hn kk => by
  match v, ht, kk with
  | .inl (.long x), _, kk => exact lv_lstore hx hb hd hl hn rfl kk
theorem s_lstore_n {k : Fin 4} {i : Nat} (hd : decode cc pc = .ok (.lstore_n k, 1)) (hi : (k : Nat) = i) : zSnd X cc own nL mc ms d ini pc (a_st2 ztl i 1) := s_st2 fun v ad ht hx hb hl hn kk => by
  match v, ht, kk with
  | .inl (.long x), _, kk => exact lv_lstore_n hx hb hd hi hl hn rfl kk
theorem s_fload {i : Nat} (hd : decode cc pc = .ok (.fload i, 2)) : zSnd X cc own nL mc ms d ini pc (a_load ztf i 2) := s_load (fun v h => by match v, h with | .inl (.float x), _ => rfl) fun v ad ht hx hb hl kk => by
  match v, ht with
  | .inl (.float x), _ => exact lv_fload hx hb hd hl kk
theorem s_fload_n {k : Fin 4} {i : Nat} (hd : decode cc pc = .ok (.fload_n k, 1)) (hi : (k : Nat) = i) : zSnd X cc own nL mc ms d ini pc (a_load ztf i 1) := s_load (fun v h => by match v, h with | .inl (.float x), _ => rfl) fun v ad ht hx hb hl kk => by
  match v, ht with
  | .inl (.float x), _ => exact lv_fload_n hx hb hd hi hl kk
theorem s_fstore {i : Nat} (hd : decode cc pc = .ok (.fstore i, 2)) : zSnd X cc own nL mc ms d ini pc (a_st1 ztf i 2) := s_st1 fun v ad ht hx hb hl hn kk => by
  match v, ht, kk with
  | .inl (.float x), _, kk => exact lv_fstore hx hb hd hl hn rfl kk
theorem s_fstore_n {k : Fin 4} {i : Nat} (hd : decode cc pc = .ok (.fstore_n k, 1)) (hi : (k : Nat) = i) : zSnd X cc own nL mc ms d ini pc (a_st1 ztf i 1) := s_st1 fun v ad ht hx hb hl hn kk => by
  match v, ht, kk with
  | .inl (.float x), _, kk => exact lv_fstore_n hx hb hd hi hl hn rfl kk
theorem s_dload {i : Nat} (hd : decode cc pc = .ok (.dload i, 2)) : zSnd X cc own nL mc ms d ini pc (a_load ztd i 2) := s_load (fun v h => by match v, h with | .inl (.double x), _ => rfl) fun v ad ht hx hb hl kk => by
  match v, ht with
  | .inl (.double x), _ => exact lv_dload hx hb hd hl kk
theorem s_dload_n {k : Fin 4} {i : Nat} (hd : decode cc pc = .ok (.dload_n k, 1)) (hi : (k : Nat) = i) : zSnd X cc own nL mc ms d ini pc (a_load ztd i 1) := s_load (fun v h => by match v, h with | .inl (.double x), _ => rfl) fun v ad ht hx hb hl kk => by
  match v, ht with
  | .inl (.double x), _ => exact lv_dload_n hx hb hd hi hl kk
theorem s_dstore {i : Nat} (hd : decode cc pc = .ok (.dstore i, 2)) : zSnd X cc own nL mc ms d ini pc (a_st2 ztd i 2) := s_st2 fun v ad ht hx hb hl hn kk => by
  match v, ht, kk with
  | .inl (.double x), _, kk => exact lv_dstore hx hb hd hl hn rfl kk
theorem s_dstore_n {k : Fin 4} {i : Nat} (hd : decode cc pc = .ok (.dstore_n k, 1)) (hi : (k : Nat) = i) : zSnd X cc own nL mc ms d ini pc (a_st2 ztd i 1) := s_st2 fun v ad ht hx hb hl hn kk => by
  match v, ht, kk with
  | .inl (.double x), _, kk => exact lv_dstore_n hx hb hd hi hl hn rfl kk
theorem s_aload {i : Nat} (hd : decode cc pc = .ok (.aload i, 2)) : zSnd X cc own nL mc ms d ini pc (a_load ztr i 2) := s_load (fun v h => by match v, h with | .inr x, _ => rfl) fun v ad ht hx hb hl kk => by
  match v, ht with
  | .inr k, _ => exact lv_aload hx hb hd hl kk
theorem s_aload_n {k : Fin 4} {i : Nat} (hd : decode cc pc = .ok (.aload_n k, 1)) (hi : (k : Nat) = i) : zSnd X cc own nL mc ms d ini pc (a_load ztr i 1) := s_load (fun v h => by match v, h with | .inr x, _ => rfl) fun v ad ht hx hb hl kk => by
  match v, ht with
  | .inr k, _ => exact lv_aload_n hx hb hd hi hl kk
theorem s_astore {i : Nat} (hd : decode cc pc = .ok (.astore i, 2)) : zSnd X cc own nL mc ms d ini pc (a_st1 ztr i 2) := s_st1 fun v ad ht hx hb hl hn kk => by
  match v, ht, kk with
  | .inr k, _, kk => exact lv_astore hx hb hd hl hn rfl kk
theorem s_astore_n {k : Fin 4} {i : Nat} (hd : decode cc pc = .ok (.astore_n k, 1)) (hi : (k : Nat) = i) : zSnd X cc own nL mc ms d ini pc (a_st1 ztr i 1) := s_st1 fun v ad ht hx hb hl hn kk => by
  match v, ht, kk with
  | .inr k, _, kk => exact lv_astore_n hx hb hd hi hl hn rfl kk
theorem s_iadd (hd : decode cc pc = .ok (.iadd, 1)) : zSnd X cc own nL mc ms d ini pc (a_bin zb_iadd) := s_bin fun a b v hf hx hb kk => by
  match a, b, hf with
  | .int x, .int y, hf =>
    cases hf
    exact lv_iadd hx hb hd kk
theorem s_isub (hd : decode cc pc = .ok (.isub, 1)) : zSnd X cc own nL mc ms d ini pc (a_bin zb_isub) := s_bin fun a b v hf hx hb kk => by
  match a, b, hf with
  | .int x, .int y, hf =>
    cases hf
    exact lv_isub hx hb hd kk
theorem s_imul (hd : decode cc pc = .ok (.imul, 1)) : zSnd X cc own nL mc ms d ini pc (a_bin zb_imul) := s_bin fun a b v hf hx hb kk => by
  match a, b, hf with
  | .int x, .int y, hf =>
    cases hf
    exact lv_imul hx hb hd kk
theorem s_iand (hd : decode cc pc = .ok (.iand, 1)) : zSnd X cc own nL mc ms d ini pc (a_bin zb_iand) := s_bin fun a b v hf hx hb kk => by
  match a, b, hf with
  | .int x, .int y, hf =>
    cases hf
    exact lv_iand hx hb hd kk
theorem s_ior (hd : decode cc pc = .ok (.ior, 1)) : zSnd X cc own nL mc ms d ini pc (a_bin zb_ior) := s_bin fun a b v hf hx hb kk => by
  match a, b, hf with
  | .int x, .int y, hf =>
    cases hf
    exact lv_ior hx hb hd kk
theorem s_ishl (hd : decode cc pc = .ok (.ishl, 1)) : zSnd X cc own nL mc ms d ini pc (a_bin zb_ishl) := s_bin fun a b v hf hx hb kk => by
  match a, b, hf with
  | .int x, .int y, hf =>
    cases hf
    exact lv_ishl hx hb hd kk
theorem s_ishr (hd : decode cc pc = .ok (.ishr, 1)) : zSnd X cc own nL mc ms d ini pc (a_bin zb_ishr) := s_bin fun a b v hf hx hb kk => by
  match a, b, hf with
  | .int x, .int y, hf =>
    cases hf
    exact lv_ishr hx hb hd kk
theorem s_idiv (hd : decode cc pc = .ok (.idiv, 1)) : zSnd X cc own nL mc ms d ini pc (a_bin zb_idiv) := s_bin fun a b v hf hx hb kk => by
  match a, b, hf with
  | .int x, .int y, hf =>
    simp only [zb_idiv] at hf
    split at hf
    · cases hf
    · rename_i hne
      cases hf
      exact lv_idiv hx hb hd hne kk
theorem s_irem (hd : decode cc pc = .ok (.irem, 1)) : zSnd X cc own nL mc ms d ini pc (a_bin zb_irem) := s_bin fun a b v hf hx hb kk => by
  match a, b, hf with
  | .int x, .int y, hf =>
    simp only [zb_irem] at hf
    split at hf
    · cases hf
    · rename_i hne
      cases hf
      exact lv_irem hx hb hd hne kk
theorem s_ladd (hd : decode cc pc = .ok (.ladd, 1)) : zSnd X cc own nL mc ms d ini pc (a_bin zb_ladd) := s_bin fun a b v hf hx hb kk => by
  match a, b, hf with
  | .long x, .long y, hf =>
    cases hf
    exact lv_ladd hx hb hd kk
theorem s_lsub (hd : decode cc pc = .ok (.lsub, 1)) : zSnd X cc own nL mc ms d ini pc (a_bin zb_lsub) := s_bin fun a b v hf hx hb kk => by
  match a, b, hf with
  | .long x, .long y, hf =>
    cases hf
    exact lv_lsub hx hb hd kk
theorem s_lmul (hd : decode cc pc = .ok (.lmul, 1)) : zSnd X cc own nL mc ms d ini pc (a_bin zb_lmul) := s_bin fun a b v hf hx hb kk => by
  match a, b, hf with
  | .long x, .long y, hf =>
    cases hf
    exact lv_lmul hx hb hd kk
theorem s_lor (hd : decode cc pc = .ok (.lor, 1)) : zSnd X cc own nL mc ms d ini pc (a_bin zb_lor) := s_bin fun a b v hf hx hb kk => by
  match a, b, hf with
  | .long x, .long y, hf =>
    cases hf
    exact lv_lor hx hb hd kk
theorem s_ldiv (hd : decode cc pc = .ok (.ldiv, 1)) : zSnd X cc own nL mc ms d ini pc (a_bin zb_ldiv) := s_bin fun a b v hf hx hb kk => by
  match a, b, hf with
  | .long x, .long y, hf =>
    simp only [zb_ldiv] at hf
    split at hf
    · cases hf
    · rename_i hne
      cases hf
      exact lv_ldiv hx hb hd hne kk
theorem s_lrem (hd : decode cc pc = .ok (.lrem, 1)) : zSnd X cc own nL mc ms d ini pc (a_bin zb_lrem) := s_bin fun a b v hf hx hb kk => by
  match a, b, hf with
  | .long x, .long y, hf =>
    simp only [zb_lrem] at hf
    split at hf
    · cases hf
    · rename_i hne
      cases hf
      exact lv_lrem hx hb hd hne kk
theorem s_lcmp (hd : decode cc pc = .ok (.lcmp, 1)) : zSnd X cc own nL mc ms d ini pc (a_bin zb_lcmp) := s_bin fun a b v hf hx hb kk => by
  match a, b, hf with
  | .long x, .long y, hf =>
    cases hf
    exact W.lcmp hx hb hd kk
theorem s_lshl (hd : decode cc pc = .ok (.lshl, 1)) : zSnd X cc own nL mc ms d ini pc (a_bin zb_lshl) := s_bin fun a b v hf hx hb kk => by
  match a, b, hf with
  | .long x, .int y, hf =>
    cases hf
    exact lv_lshl hx hb hd rfl kk
theorem s_iushr (hd : decode cc pc = .ok (.iushr, 1)) : zSnd X cc own nL mc ms d ini pc (a_bin zb_iushr) := s_bin fun a b v hf hx hb kk => by
  match a, b, hf with
  | .int x, .int y, hf =>
    cases hf
    exact lv_iushr hx hb hd rfl kk
theorem s_fadd (hd : decode cc pc = .ok (.fadd, 1)) : zSnd X cc own nL mc ms d ini pc (a_bin zb_fadd) := s_bin fun a b v hf hx hb kk => by
  match a, b, hf with
  | .float x, .float y, hf =>
    simp only [zb_fadd] at hf
    split at hf
    · rename_i hne
      cases hf
      exact lv_fadd hx hb hd hne kk
    · cases hf
theorem s_fdiv (hd : decode cc pc = .ok (.fdiv, 1)) : zSnd X cc own nL mc ms d ini pc (a_bin zb_fdiv) := s_bin fun a b v hf hx hb kk => by
  match a, b, hf with
  | .float x, .float y, hf =>
    simp only [zb_fdiv] at hf
    split at hf
    · rename_i hne
      cases hf
      exact lv_fdiv hx hb hd hne kk
    · cases hf
theorem s_dadd (hd : decode cc pc = .ok (.dadd, 1)) : zSnd X cc own nL mc ms d ini pc (a_bin zb_dadd) := s_bin fun a b v hf hx hb kk => by
  match a, b, hf with
  | .double x, .double y, hf =>
    simp only [zb_dadd] at hf
    split at hf
    · rename_i hne
      cases hf
      exact lv_dadd hx hb hd hne kk
    · cases hf
theorem s_dsub (hd : decode cc pc = .ok (.dsub, 1)) : zSnd X cc own nL mc ms d ini pc (a_bin zb_dsub) := s_bin fun a b v hf hx hb kk => by
  match a, b, hf with
  | .double x, .double y, hf =>
    simp only [zb_dsub] at hf
    split at hf
    · rename_i hne
      cases hf
      exact lv_dsub hx hb hd hne kk
    · cases hf
theorem s_dmul (hd : decode cc pc = .ok (.dmul, 1)) : zSnd X cc own nL mc ms d ini pc (a_bin zb_dmul) := s_bin fun a b v hf hx hb kk => by
  match a, b, hf with
  | .double x, .double y, hf =>
    simp only [zb_dmul] at hf
    split at hf
    · rename_i hne
      cases hf
      exact lv_dmul hx hb hd hne kk
    · cases hf
theorem s_ddiv (hd : decode cc pc = .ok (.ddiv, 1)) : zSnd X cc own nL mc ms d ini pc (a_bin zb_ddiv) := s_bin fun a b v hf hx hb kk => by
  match a, b, hf with
  | .double x, .double y, hf =>
    simp only [zb_ddiv] at hf
    split at hf
    · rename_i hne
      cases hf
      exact lv_ddiv hx hb hd hne kk
    · cases hf
theorem s_dcmp {op : CmpOp} (hd : decode cc pc = .ok (.dcmp op, 1)) : zSnd X cc own nL mc ms d ini pc (a_bin (zb_dcmp op)) := s_bin fun a b v hf hx hb kk => by
  match a, b, hf with
  | .double x, .double y, hf =>
    cases hf
    exact lv_dcmp hx hb hd kk
theorem s_fcmp {op : CmpOp} (hd : decode cc pc = .ok (.fcmp op, 1)) : zSnd X cc own nL mc ms d ini pc (a_bin (zb_fcmp op)) := s_bin fun a b v hf hx hb kk => by
  match a, b, hf with
  | .float x, .float y, hf =>
    cases hf
    exact lv_fcmp hx hb hd kk
theorem s_uineg (hd : decode cc pc = .ok (.ineg, 1)) : zSnd X cc own nL mc ms d ini pc (a_un zu_ineg) := s_un fun a v hf hx hb kk => by
  match a, hf with
  | .int x, hf =>
    cases hf
    exact lv_ineg hx hb hd kk
theorem s_ui2l (hd : decode cc pc = .ok (.i2l, 1)) : zSnd X cc own nL mc ms d ini pc (a_un zu_i2l) := s_un fun a v hf hx hb kk => by
  match a, hf with
  | .int x, hf =>
    cases hf
    exact lv_i2l hx hb hd rfl kk
theorem s_ul2i (hd : decode cc pc = .ok (.l2i, 1)) : zSnd X cc own nL mc ms d ini pc (a_un zu_l2i) := s_un fun a v hf hx hb kk => by
  match a, hf with
  | .long x, hf =>
    cases hf
    exact lv_l2i hx hb hd rfl kk
theorem s_ui2f (hd : decode cc pc = .ok (.i2f, 1)) : zSnd X cc own nL mc ms d ini pc (a_un zu_i2f) := s_un fun a v hf hx hb kk => by
  match a, hf with
  | .int x, hf =>
    cases hf
    exact lv_i2f hx hb hd kk
theorem s_ui2d (hd : decode cc pc = .ok (.i2d, 1)) : zSnd X cc own nL mc ms d ini pc (a_un zu_i2d) := s_un fun a v hf hx hb kk => by
  match a, hf with
  | .int x, hf =>
    cases hf
    exact lv_i2d hx hb hd kk
theorem s_ui2c (hd : decode cc pc = .ok (.i2c, 1)) : zSnd X cc own nL mc ms d ini pc (a_un zu_i2c) := s_un fun a v hf hx hb kk => by
  match a, hf with
  | .int x, hf =>
    cases hf
    exact lv_i2c hx hb hd rfl kk
theorem s_ul2d (hd : decode cc pc = .ok (.l2d, 1)) : zSnd X cc own nL mc ms d ini pc (a_un zu_l2d) := s_un fun a v hf hx hb kk => by
  match a, hf with
  | .long x, hf =>
    cases hf
    exact lv_l2d hx hb hd kk
theorem s_ud2i (hd : decode cc pc = .ok (.d2i, 1)) : zSnd X cc own nL mc ms d ini pc (a_un zu_d2i) := s_un fun a v hf hx hb kk => by
  match a, hf with
  | .double x, hf =>
    cases hf
    exact lv_d2i hx hb hd kk
theorem s_ud2l (hd : decode cc pc = .ok (.d2l, 1)) : zSnd X cc own nL mc ms d ini pc (a_un zu_d2l) := s_un fun a v hf hx hb kk => by
  match a, hf with
  | .double x, hf =>
    cases hf
    exact lv_d2l hx hb hd kk
theorem s_uf2d (hd : decode cc pc = .ok (.f2d, 1)) : zSnd X cc own nL mc ms d ini pc (a_un zu_f2d) := s_un fun a v hf hx hb kk => by
  match a, hf with
  | .float x, hf =>
    simp only [zu_f2d] at hf
    split at hf
    · rename_i hne
      cases hf
      exact lv_f2d hx hb hd hne kk
    · cases hf
theorem s_if_eq {off : Int} {tgt : Nat} (hd : decode cc pc = .ok (.ifCond .eq off, 3)) (ht : (pc : Int) + off = (tgt : Int)) : zSnd X cc own nL mc ms d ini pc (a_if1 zp_eq tgt) := s_if1 fun x hx hb kt kf => lv_if_eq hx hb hd ht (fun h => kt (by simpa [zp_eq] using h)) (fun h => kf (by simpa [zp_eq] using h))
theorem s_icmp_eq {off : Int} {tgt : Nat} (hd : decode cc pc = .ok (.if_icmp .eq off, 3)) (ht : (pc : Int) + off = (tgt : Int)) : zSnd X cc own nL mc ms d ini pc (a_if2 zd_eq tgt) := s_if2 fun x y hx hb kt kf => lv_icmp_eq hx hb hd ht (fun h => kt (by simpa [zd_eq] using h)) (fun h => kf (by simpa [zd_eq] using h))
theorem s_if_ne {off : Int} {tgt : Nat} (hd : decode cc pc = .ok (.ifCond .ne off, 3)) (ht : (pc : Int) + off = (tgt : Int)) : zSnd X cc own nL mc ms d ini pc (a_if1 zp_ne tgt) := s_if1 fun x hx hb kt kf => lv_if_ne hx hb hd ht (fun h => kt (by simpa [zp_ne] using h)) (fun h => kf (by simpa [zp_ne] using h))
theorem s_icmp_ne {off : Int} {tgt : Nat} (hd : decode cc pc = .ok (.if_icmp .ne off, 3)) (ht : (pc : Int) + off = (tgt : Int)) : zSnd X cc own nL mc ms d ini pc (a_if2 zd_ne tgt) := s_if2 fun x y hx hb kt kf => lv_icmp_ne hx hb hd ht (fun h => kt (by simpa [zd_ne] using h)) (fun h => kf (by simpa [zd_ne] using h))
theorem s_if_lt {off : Int} {tgt : Nat} (hd : decode cc pc = .ok (.ifCond .lt off, 3)) (ht : (pc : Int) + off = (tgt : Int)) : zSnd X cc own nL mc ms d ini pc (a_if1 zp_lt tgt) := s_if1 fun x hx hb kt kf => lv_if_lt hx hb hd ht (fun h => kt (by simpa [zp_lt] using h)) (fun h => kf (by simpa [zp_lt] using h))
theorem s_icmp_lt {off : Int} {tgt : Nat} (hd : decode cc pc = .ok (.if_icmp .lt off, 3)) (ht : (pc : Int) + off = (tgt : Int)) : zSnd X cc own nL mc ms d ini pc (a_if2 zd_lt tgt) := s_if2 fun x y hx hb kt kf => lv_icmp_lt hx hb hd ht (fun h => kt (by simpa [zd_lt] using h)) (fun h => kf (by simpa [zd_lt] using h))
theorem s_if_ge {off : Int} {tgt : Nat} (hd : decode cc pc = .ok (.ifCond .ge off, 3)) (ht : (pc : Int) + off = (tgt : Int)) : zSnd X cc own nL mc ms d ini pc (a_if1 zp_ge tgt) := s_if1 fun x hx hb kt kf => lv_if_ge hx hb hd ht (fun h => kt (by simpa [zp_ge] using h)) (fun h => kf (by simpa [zp_ge] using h))
theorem s_icmp_ge {off : Int} {tgt : Nat} (hd : decode cc pc = .ok (.if_icmp .ge off, 3)) (ht : (pc : Int) + off = (tgt : Int)) : zSnd X cc own nL mc ms d ini pc (a_if2 zd_ge tgt) := s_if2 fun x y hx hb kt kf => lv_icmp_ge hx hb hd ht (fun h => kt (by simpa [zd_ge] using h)) (fun h => kf (by simpa [zd_ge] using h))
theorem s_if_gt {off : Int} {tgt : Nat} (hd : decode cc pc = .ok (.ifCond .gt off, 3)) (ht : (pc : Int) + off = (tgt : Int)) : zSnd X cc own nL mc ms d ini pc (a_if1 zp_gt tgt) := s_if1 fun x hx hb kt kf => lv_if_gt hx hb hd ht (fun h => kt (by simpa [zp_gt] using h)) (fun h => kf (by simpa [zp_gt] using h))
theorem s_icmp_gt {off : Int} {tgt : Nat} (hd : decode cc pc = .ok (.if_icmp .gt off, 3)) (ht : (pc : Int) + off = (tgt : Int)) : zSnd X cc own nL mc ms d ini pc (a_if2 zd_gt tgt) := s_if2 fun x y hx hb kt kf => lv_icmp_gt hx hb hd ht (fun h => kt (by simpa [zd_gt] using h)) (fun h => kf (by simpa [zd_gt] using h))
theorem s_if_le {off : Int} {tgt : Nat} (hd : decode cc pc = .ok (.ifCond .le off, 3)) (ht : (pc : Int) + off = (tgt : Int)) : zSnd X cc own nL mc ms d ini pc (a_if1 zp_le tgt) := s_if1 fun x hx hb kt kf => lv_if_le hx hb hd ht (fun h => kt (by simpa [zp_le] using h)) (fun h => kf (by simpa [zp_le] using h))
theorem s_icmp_le {off : Int} {tgt : Nat} (hd : decode cc pc = .ok (.if_icmp .le off, 3)) (ht : (pc : Int) + off = (tgt : Int)) : zSnd X cc own nL mc ms d ini pc (a_if2 zd_le tgt) := s_if2 fun x y hx hb kt kf => lv_icmp_le hx hb hd ht (fun h => kt (by simpa [zd_le] using h)) (fun h => kf (by simpa [zd_le] using h))
def a_oini : zA := fun d st => match st with
  | (pc, ls, .inr k :: st, h, n) => if 1 ≤ d ∧ (st.map zcat).sum ≤ 8 then some (.inl (pc + 3, ls, st, h, n)) else none
  | _ => none
theorem s_oini {idx : Nat} (hd : decode cc pc = .ok (.invokespecial idx, 3)) (hl : Cond.methodLink own idx objectInit ∈ zTb) (hi : Cond.instanceMethod objectInit ∈ zTb) (hc : Cond.code objectInit ⟨#[0xb1]⟩ 1 none ∈ zTb) : zSnd X cc own nL mc ms d ini pc a_oini := by
  intro p l e R st0 m args below meth c cA D A ad0 h0 Q st st' hC hpc ha hk ad H locs lsA hE h1 hR hS hO hL
  obtain ⟨pc', ls, stk, h, n⟩ := st
  subst hpc
  simp only [a_oini] at ha
  split at ha
  · rename_i heq
    simp only [Prod.mk.injEq] at heq
    obtain ⟨rfl, rfl, rfl, rfl, rfl⟩ := heq
    split at ha
    · rename_i k r hg
      cases ha
      have hts := hC.2.2.2.2.1
      have hrm := hC.2.2.2.2.2.2.1
      exact W.objInit hC.1 hC.2.1 hC.2.2.2.1 (hts _ hl) (hts _ hi) (hts _ hc) (g := F0 m pc' lsA (.ref (ad k) :: r.map (zcv ad))) rfl (by rw [hC.2.2.1]; exact hL.2.1) rfl hd (by omega) (by show 2 * 0 + _ + 12 ≤ _; rw [zsum_cv]; omega) (hk ad H locs lsA hE h1 hR hS ⟨hO.1, fun w hw => hO.2 w (List.mem_cons_of_mem _ hw)⟩ hL)
    · cases ha
  · cases ha
end ZO
