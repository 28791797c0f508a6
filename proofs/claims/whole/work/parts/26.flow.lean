/-! THE MODEL: heads, flows, turns over its row -/
section MD
variable (X : Nat × (Nat → Int32) × Value) (d : Nat) (M : zM) (G : zG) (S : Nat → Int32) (V P : tV) (R : Nat → Int32)
theorem uS_uS {S : Nat → Int32} {f : Nat} {x y : Int32} : uS (uS S f x) f y = uS S f y := by funext g; unfold uS; split <;> simp_all
theorem ni21 (p : Nat) : nI (29 + 8 * p + 2) + 1 = nI (29 + 8 * p + 3) := nI_add (29 + 8 * p + 2) 1
theorem ni41 (p : Nat) : nI (29 + 8 * p + 4) + 1 = nI (29 + 8 * p + 5) := nI_add (29 + 8 * p + 4) 1
theorem C236 (h : zH) (x : Int32) (M : zM) (G : zG) : zd X d 236 [vI x] (hh M G) = some (some (vI (iabs x)), hh M G) := D236 X d M G x
theorem C237 (x y : Int32) (M : zM) (G : zG) : zd X d 237 [vI x, vI y] (hh M G) = some (some (vI (imax x y)), hh M G) := D237 X d M G x y
theorem C238 (x y : Int32) (M : zM) (G : zG) : zd X d 238 [vI x, vI y] (hh M G) = some (some (vI (imin x y)), hh M G) := D238 X d M G x y
theorem C134 (v : Int32) (h : zH) : zd X d 134 [vI v] h = some (some (vI (4 + 5 * v)), h) := by
  simp only [E134, e134_0, e134_1, e134_2, e134_3, e134_4, e134_5]
theorem C135 (v : Int32) (h : zH) : zd X d 135 [vI v] h = some (some (vI (29 + 8 * v)), h) := by
  simp only [E135, e135_0, e135_2, e135_4, e135_5, e135_6, e135_7]
theorem C137 (j : Nat) (hj : j < 5) : zd X (d + 1) 137 [vR (7, 0, 0), vI (nI j)] (hh (mm M S V P R) G) = some (some (vI (sHt V j)), hh (mm M S V P R) G) := by
  simp only [E137, e137_0, e137_1, e137_4, e137_5, e137_8, e137_9, e137_10, e137_11, e137_12, e137_15, e137_16, e137_19, e137_20, e137_21, e137_22, e137_23, e137_24, e137_27, e137_28, e137_31, e137_32, e137_33, e137_34, e137_35, zt0, zt1, zn3, not_false_eq_true, toListS, toListN, zk_some, zpi, true_or, or_true, mm_R, mm_0, mm_1, mm_2, mm_3, mm_V, mm_V0, mm_P, mm_P0, mm_uR, mm_uV, mm_uP, mi0, mi2, mi3, mi4, mi5, mi6, mi7, ni0, ni2, ni3, ni4, ni5, ni6, ni7, niV, niP, cV, cV0, cP, cP0, wV, wV0, wP, wP0, w0, w1, w2, w3, t0, t1, t2, t3, Nat.reduceLT, ni1, mi1, hj, C134, sHt]
theorem C138 (j : Nat) (m : Int32) (hj : j < 5) : zd X (d + 2) 138 [vR (7, 0, 0), vI (nI j), vI m] (hh (mm M S V P R) G) = some (some (vI (imax 0 (sHt V j - m * V j 0))), hh (mm M S V P R) G) := by
  simp only [E138, e138_0, e138_1, e138_2, e138_3, e138_6, e138_7, e138_8, e138_11, e138_12, e138_15, e138_16, e138_17, e138_18, e138_19, e138_20, e138_23, zt0, zt1, zn3, not_false_eq_true, toListS, toListN, zk_some, zpi, true_or, or_true, mm_R, mm_0, mm_1, mm_2, mm_3, mm_V, mm_V0, mm_P, mm_P0, mm_uR, mm_uV, mm_uP, mi0, mi2, mi3, mi4, mi5, mi6, mi7, ni0, ni2, ni3, ni4, ni5, ni6, ni7, niV, niP, cV, cV0, cP, cP0, wV, wV0, wP, wP0, w0, w1, w2, w3, t0, t1, t2, t3, Nat.reduceLT, ni1, mi1, hj, C134, C137, C237]
theorem C139 (j : Nat) (m : Int32) (hj : j < 5) : zd X (d + 2) 139 [vR (7, 0, 0), vI (nI j), vI m] (hh (mm M S V P R) G) = some (some (vI (imax (sHt V j) (m * V j 0))), hh (mm M S V P R) G) := by
  simp only [E139, e139_0, e139_1, e139_2, e139_5, e139_6, e139_7, e139_10, e139_11, e139_14, e139_15, e139_16, e139_17, e139_18, e139_21, zt0, zt1, zn3, not_false_eq_true, toListS, toListN, zk_some, zpi, true_or, or_true, mm_R, mm_0, mm_1, mm_2, mm_3, mm_V, mm_V0, mm_P, mm_P0, mm_uR, mm_uV, mm_uP, mi0, mi2, mi3, mi4, mi5, mi6, mi7, ni0, ni2, ni3, ni4, ni5, ni6, ni7, niV, niP, cV, cV0, cP, cP0, wV, wV0, wP, wP0, w0, w1, w2, w3, t0, t1, t2, t3, Nat.reduceLT, ni1, mi1, hj, C134, C137, C237]
def nUn (V P : tV) (p a c : Nat) : Int32 := imax (sHt V a) (P p 2 * V a 0) * V c 0 - imax (sHt V c) (P p 3 * V c 0) * V a 0
theorem C140 (p a c : Nat) (hp : p < 8) (ha : P p 0 = nI a) (hc : P p 1 = nI c) (ha5 : a < 5) (hc5 : c < 5) : zd X (d + 3) 140 [vR (7, 0, 0), vI (nI p)] (hh (mm M S V P R) G) = some (some (vI (nUn V P p a c)), hh (mm M S V P R) G) := by
  simp only [E140, e140_0, e140_1, e140_4, e140_5, e140_6, e140_9, e140_10, e140_11, e140_12, e140_13, e140_14, e140_15, e140_18, e140_19, e140_20, e140_21, e140_22, e140_24, e140_25, e140_26, e140_27, e140_30, e140_31, e140_32, e140_33, e140_34, e140_37, e140_38, e140_41, e140_43, e140_46, e140_47, e140_48, e140_49, e140_50, e140_51, e140_53, e140_54, e140_57, e140_58, e140_59, e140_60, e140_61, e140_62, e140_63, e140_66, e140_67, e140_70, e140_71, e140_74, e140_75, e140_76, e140_77, e140_78, e140_79, zt0, zt1, zn3, not_false_eq_true, toListS, toListN, zk_some, zpi, true_or, or_true, mm_R, mm_0, mm_1, mm_2, mm_3, mm_V, mm_V0, mm_P, mm_P0, mm_uR, mm_uV, mm_uP, mi0, mi2, mi3, mi4, mi5, mi6, mi7, ni0, ni2, ni3, ni4, ni5, ni6, ni7, niV, niP, cV, cV0, cP, cP0, wV, wV0, wP, wP0, w0, w1, w2, w3, t0, t1, t2, t3, Nat.reduceLT, ni21, ni41, hp, ha, hc, ha5, hc5, C134, C135, C139, nUn]
def nGo (V P : tV) (p a c e : Nat) (m most : Int32) : Int32 := imin most (imin (iabs (nUn V P p a c) / (V a 0 + V c 0)) (imax 0 (sHt V e - m * V e 0)))
theorem C141a (p a c : Nat) (most : Int32) (hp : p < 8) (ha : P p 0 = nI a) (hc : P p 1 = nI c) (ha5 : a < 5) (hc5 : c < 5) (hA : ¬ V a 0 + V c 0 = 0) : zd X (d + 4) 141 [vR (7, 0, 0), vI (nI p), vI 0, vI most] (hh (mm M S V P R) G) = some (some (vI (nGo V P p a c a (P p 2) most)), hh (mm M S V P R) G) := by
  simp only [E141, e141_0, e141_1, e141_4, e141_6, e141_7, e141_10, e141_11, e141_14, e141_16, e141_17, e141_18, e141_19, e141_22, e141_23, e141_24, e141_25, e141_26, e141_29, e141_30, e141_33, e141_35, e141_36, e141_37, e141_38, e141_41, e141_42, e141_43, e141_44, e141_45, e141_47, e141_48, e141_49, e141_52, e141_55, e141_57, e141_58, e141_60, e141_61, e141_63, e141_64, e141_65, e141_68, e141_70, e141_71, e141_72, e141_73, e141_74, e141_75, e141_76, e141_79, e141_81, e141_82, e141_83, e141_84, e141_85, e141_86, e141_89, e141_92, e141_95, zt0, zt1, zn3, not_false_eq_true, toListS, toListN, zk_some, zpi, true_or, or_true, mm_R, mm_0, mm_1, mm_2, mm_3, mm_V, mm_V0, mm_P, mm_P0, mm_uR, mm_uV, mm_uP, mi0, mi2, mi3, mi4, mi5, mi6, mi7, ni0, ni2, ni3, ni4, ni5, ni6, ni7, niV, niP, cV, cV0, cP, cP0, wV, wV0, wP, wP0, w0, w1, w2, w3, t0, t1, t2, t3, Nat.reduceLT, ni21, ni41, hp, ha, hc, ha5, hc5, hA, C134, C135, C140 X _ M G S V P R p a c hp ha hc ha5 hc5, C138, C236 X _ (hh M G), C238, nGo]
theorem C141b (p a c : Nat) (most : Int32) (hp : p < 8) (ha : P p 0 = nI a) (hc : P p 1 = nI c) (ha5 : a < 5) (hc5 : c < 5) (hA : ¬ V a 0 + V c 0 = 0) : zd X (d + 4) 141 [vR (7, 0, 0), vI (nI p), vI 1, vI most] (hh (mm M S V P R) G) = some (some (vI (nGo V P p a c c (P p 3) most)), hh (mm M S V P R) G) := by
  simp only [E141, e141_0, e141_1, e141_4, e141_6, e141_7, e141_10, e141_11, e141_14, e141_16, e141_17, e141_18, e141_19, e141_22, e141_23, e141_24, e141_25, e141_26, e141_29, e141_30, e141_33, e141_35, e141_36, e141_37, e141_38, e141_41, e141_42, e141_43, e141_44, e141_45, e141_47, e141_48, e141_49, e141_52, e141_55, e141_57, e141_58, e141_60, e141_61, e141_63, e141_64, e141_65, e141_68, e141_70, e141_71, e141_72, e141_73, e141_74, e141_75, e141_76, e141_79, e141_81, e141_82, e141_83, e141_84, e141_85, e141_86, e141_89, e141_92, e141_95, zt0, zt1, zn3, not_false_eq_true, toListS, toListN, zk_some, zpi, true_or, or_true, mm_R, mm_0, mm_1, mm_2, mm_3, mm_V, mm_V0, mm_P, mm_P0, mm_uR, mm_uV, mm_uP, mi0, mi2, mi3, mi4, mi5, mi6, mi7, ni0, ni2, ni3, ni4, ni5, ni6, ni7, niV, niP, cV, cV0, cP, cP0, wV, wV0, wP, wP0, w0, w1, w2, w3, t0, t1, t2, t3, Nat.reduceLT, ni21, ni41, hp, ha, hc, ha5, hc5, hA, C134, C135, C140 X _ M G S V P R p a c hp ha hc ha5 hc5, C138, C236 X _ (hh M G), C238, nGo]
theorem C142 (x : Int32) (h : zH) : zd X d 142 [vI x] h = some (some (vI (if x = 1 then 1 else if x = 3 then 1 else 0)), h) := by
  simp only [E142, e142_0, e142_1, e142_2, e142_5, e142_6, e142_7, e142_10, e142_11, e142_14, e142_15, zt0, zt1, zn3, not_false_eq_true, toListS, toListN, zk_some, zpi, true_or, or_true, mm_R, mm_0, mm_1, mm_2, mm_3, mm_V, mm_V0, mm_P, mm_P0, mm_uR, mm_uV, mm_uP, mi0, mi2, mi3, mi4, mi5, mi6, mi7, ni0, ni2, ni3, ni4, ni5, ni6, ni7, niV, niP, cV, cV0, cP, cP0, wV, wV0, wP, wP0, w0, w1, w2, w3, t0, t1, t2, t3, Nat.reduceLT, ni1, mi1]
def nCr (V P : tV) (p a : Nat) : Int32 := if P p 5 = 1 then P p 2 + P p 6 + 1 else imax (P p 2) (V a 1 + V a 2 - P p 6)
theorem C143 (p a : Nat) (hp : p < 8) (ha : P p 0 = nI a) (ha5 : a < 5) : zd X (d + 1) 143 [vR (7, 0, 0), vI (nI p)] (hh (mm M S V P R) G) = some (some (vI (nCr V P p a)), hh (mm M S V P R) G) := by
  simp only [E143, e143_0, e143_1, e143_4, e143_5, e143_6, e143_9, e143_10, e143_11, e143_12, e143_13, e143_14, e143_17, e143_18, e143_21, e143_22, e143_23, e143_24, e143_25, e143_26, e143_29, e143_30, e143_31, e143_32, e143_33, e143_34, e143_35, e143_36, e143_37, e143_38, e143_41, e143_42, e143_43, e143_44, e143_45, e143_48, e143_49, e143_50, e143_53, e143_54, e143_55, e143_56, e143_57, e143_58, e143_61, e143_62, e143_63, e143_64, e143_65, e143_66, e143_69, e143_70, e143_71, e143_72, e143_73, e143_74, e143_75, e143_78, e143_79, e143_80, e143_81, e143_82, e143_83, e143_86, zt0, zt1, zn3, not_false_eq_true, toListS, toListN, zk_some, zpi, true_or, or_true, mm_R, mm_0, mm_1, mm_2, mm_3, mm_V, mm_V0, mm_P, mm_P0, mm_uR, mm_uV, mm_uP, mi0, mi2, mi3, mi4, mi5, mi6, mi7, ni0, ni2, ni3, ni4, ni5, ni6, ni7, niV, niP, cV, cV0, cP, cP0, wV, wV0, wP, wP0, w0, w1, w2, w3, t0, t1, t2, t3, Nat.reduceLT, ni1, mi1, hp, ha, ha5, C134, C135, C237, nCr]
def nRn (V P : tV) (p a : Nat) : Int32 := if P p 7 = 1 then 1 else if sHt V a < nCr V P p a * V a 0 then 0 else 1
theorem C144 (p a : Nat) (hp : p < 8) (ha : P p 0 = nI a) (ha5 : a < 5) : zd X (d + 2) 144 [vR (7, 0, 0), vI (nI p)] (hh (mm M S V P R) G) = some (some (vI (nRn V P p a)), hh (mm M S V P R) G) := by
  simp only [E144, e144_0, e144_1, e144_4, e144_5, e144_6, e144_9, e144_10, e144_11, e144_12, e144_13, e144_14, e144_15, e144_18, e144_19, e144_21, e144_22, e144_23, e144_24, e144_27, e144_28, e144_29, e144_32, e144_33, e144_34, e144_37, e144_38, e144_41, e144_42, e144_45, e144_46, e144_47, e144_48, e144_49, e144_52, e144_53, e144_56, e144_57, zt0, zt1, zn3, not_false_eq_true, toListS, toListN, zk_some, zpi, true_or, or_true, mm_R, mm_0, mm_1, mm_2, mm_3, mm_V, mm_V0, mm_P, mm_P0, mm_uR, mm_uV, mm_uP, mi0, mi2, mi3, mi4, mi5, mi6, mi7, ni0, ni2, ni3, ni4, ni5, ni6, ni7, niV, niP, cV, cV0, cP, cP0, wV, wV0, wP, wP0, w0, w1, w2, w3, t0, t1, t2, t3, Nat.reduceLT, ni1, mi1, hp, ha, ha5, C134, C135, C137, C143 X _ M G S V P R p a hp ha ha5, nRn]
def nRa (stp : Int32) (V P : tV) (p a : Nat) : Int32 := if P p 5 = 1 then (if nRn V P p a = 0 then 0 else P p 4) else if P p 5 = 3 then (if nRn V P p a = 0 then 0 else 2 * P p 4) else if P p 5 = 4 then 2147483647 else if P p 5 = 5 then (if stp - stp / 3 * 3 = P p 6 - P p 6 / 3 * 3 then P p 4 else 0) else P p 4
theorem C145 (p a : Nat) (hp : p < 8) (ha : P p 0 = nI a) (ha5 : a < 5) : zd X (d + 3) 145 [vR (7, 0, 0), vI (nI p)] (hh (mm M S V P R) G) = some (some (vI (nRa (S 5) V P p a)), hh (mm M S V P R) G) := by
  simp only [E145, e145_0, e145_1, e145_4, e145_5, e145_6, e145_9, e145_10, e145_12, e145_13, e145_14, e145_15, e145_16, e145_19, e145_20, e145_21, e145_22, e145_23, e145_56, e145_57, e145_58, e145_61, e145_64, e145_65, e145_68, e145_69, e145_70, e145_71, e145_72, e145_75, e145_78, e145_79, e145_80, e145_81, e145_84, e145_85, e145_86, e145_88, e145_89, e145_90, e145_93, e145_94, e145_95, e145_96, e145_97, e145_98, e145_101, e145_102, e145_103, e145_104, e145_105, e145_106, e145_107, e145_110, e145_111, e145_114, e145_115, e145_116, e145_117, zt0, zt1, zn3, not_false_eq_true, toListS, toListN, zk_some, zpi, true_or, or_true, mm_R, mm_0, mm_1, mm_2, mm_3, mm_V, mm_V0, mm_P, mm_P0, mm_uR, mm_uV, mm_uP, mi0, mi2, mi3, mi4, mi5, mi6, mi7, ni0, ni2, ni3, ni4, ni5, ni6, ni7, niV, niP, cV, cV0, cP, cP0, wV, wV0, wP, wP0, w0, w1, w2, w3, t0, t1, t2, t3, Nat.reduceLT, ni1, mi1, hp, ha, ha5, C134, C135, C144 X _ M G S V P R p a hp ha ha5, nRa]
def nAm (stp : Int32) (V P : tV) (p a c : Nat) : Int32 := if nUn V P p a c ≤ 0 then (if 0 ≤ nUn V P p a c then 0 else if P p 5 = 0 then -nGo V P p a c c (P p 3) (nRa stp V P p a) else 0) else nGo V P p a c a (P p 2) (nRa stp V P p a)
theorem C146 (p a c : Nat) (hp : p < 8) (ha : P p 0 = nI a) (hc : P p 1 = nI c) (ha5 : a < 5) (hc5 : c < 5) (hA : ¬ V a 0 + V c 0 = 0) : zd X (d + 5) 146 [vR (7, 0, 0), vI (nI p)] (hh (mm M S V P R) G) = some (some (vI (nAm (S 5) V P p a c)), hh (mm M S V P R) G) := by
  simp only [E146, e146_0, e146_1, e146_2, e146_5, e146_6, e146_7, e146_10, e146_11, e146_12, e146_13, e146_14, e146_15, e146_18, e146_21, e146_22, e146_23, e146_26, e146_27, e146_30, e146_31, e146_34, e146_35, e146_36, e146_37, e146_40, e146_41, e146_42, e146_43, e146_44, e146_45, e146_48, e146_51, e146_52, e146_55, e146_56, zt0, zt1, zn3, not_false_eq_true, toListS, toListN, zk_some, zpi, true_or, or_true, mm_R, mm_0, mm_1, mm_2, mm_3, mm_V, mm_V0, mm_P, mm_P0, mm_uR, mm_uV, mm_uP, mi0, mi2, mi3, mi4, mi5, mi6, mi7, ni0, ni2, ni3, ni4, ni5, ni6, ni7, niV, niP, cV, cV0, cP, cP0, wV, wV0, wP, wP0, w0, w1, w2, w3, t0, t1, t2, t3, Nat.reduceLT, ni1, mi1, hp, ha, hc, ha5, hc5, hA, C135, C140 X _ M G S V P R p a c hp ha hc ha5 hc5, C141a X _ M G S V P R p a c _ hp ha hc ha5 hc5 hA, C141b X _ M G S V P R p a c _ hp ha hc ha5 hc5 hA, C145 X _ M G S V P R p a hp ha ha5, nAm]
def nSi (P : tV) (p : Nat) : Int32 := if P p 5 = 1 then 1 else if P p 5 = 3 then 1 else 0
def nTw (si stp : Int32) (V P : tV) (p a c : Nat) : tV × tV :=
  let V1 := uV V a 3 (V a 3 - nAm stp V P p a c)
  let V2 := uV V1 c 3 (V1 c 3 + nAm stp V P p a c)
  (V2, if si = 0 then P else if nAm stp V P p a c = 0 then uV P p 7 0 else if imax 0 (sHt V2 a - P p 2 * V2 a 0) = 0 then uV P p 7 0 else P)
def nTn (stp : Int32) (V P : tV) (p a c : Nat) : tV × tV := nTw (nSi P p) stp V (if nSi P p = 0 then P else if nRn V P p a = 0 then P else uV P p 7 1) p a c
theorem C147w (p a c : Nat) (si : Int32) (hp : p < 8) (ha : P p 0 = nI a) (hc : P p 1 = nI c) (ha5 : a < 5) (hc5 : c < 5) (hA : ¬ V a 0 + V c 0 = 0) : zx X (d + 6) 147 39 [vR (7, 0, 0), vI (nI p), vI (nI (29 + 8 * p)), vI si, vN] [] (hh (mm M S V P R) G) = some (none, hh (mm M S (nTw si (S 5) V P p a c).1 (nTw si (S 5) V P p a c).2 R) G) := by
  simp only [e147_0, e147_1, e147_4, e147_5, e147_6, e147_9, e147_10, e147_11, e147_12, e147_13, e147_16, e147_17, e147_18, e147_21, e147_22, e147_23, e147_26, e147_29, e147_30, e147_33, e147_34, e147_36, e147_37, e147_38, e147_39, e147_40, e147_41, e147_44, e147_46, e147_47, e147_50, e147_51, e147_54, e147_55, e147_56, e147_57, e147_58, e147_61, e147_62, e147_63, e147_64, e147_65, e147_67, e147_68, e147_69, e147_70, e147_73, e147_74, e147_77, e147_78, e147_79, e147_80, e147_81, e147_84, e147_85, e147_86, e147_87, e147_88, e147_90, e147_91, e147_92, e147_93, e147_96, e147_98, e147_101, e147_102, e147_103, e147_106, e147_107, e147_108, e147_109, e147_110, e147_111, e147_114, e147_115, e147_116, e147_117, e147_118, e147_121, e147_124, e147_125, e147_128, e147_129, e147_131, e147_132, e147_133, e147_134, zt0, zt1, zn3, not_false_eq_true, toListS, toListN, zk_some, zpi, true_or, or_true, mm_R, mm_0, mm_1, mm_2, mm_3, mm_V, mm_V0, mm_P, mm_P0, mm_uR, mm_uV, mm_uP, mi0, mi2, mi3, mi4, mi5, mi6, mi7, ni0, ni2, ni3, ni4, ni5, ni6, ni7, niV, niP, cV, cV0, cP, cP0, wV, wV0, wP, wP0, w0, w1, w2, w3, t0, t1, t2, t3, Nat.reduceLT, ni1, mi1, hp, ha, hc, ha5, hc5, C134, C135, C138, C146 X _ M G S V P R p a c hp ha hc ha5 hc5 hA]
  simp only [nTw]
  by_cases q1 : si = 0
  · simp only [if_pos q1]
  · simp only [if_neg q1]
    by_cases q2 : nAm (S 5) V P p a c = 0
    · simp only [if_pos q2]
    · simp only [if_neg q2]
      split <;> rfl
theorem C147 (p a c : Nat) (hp : p < 8) (ha : P p 0 = nI a) (hc : P p 1 = nI c) (ha5 : a < 5) (hc5 : c < 5) (hA : ¬ V a 0 + V c 0 = 0) : zd X (d + 6) 147 [vR (7, 0, 0), vI (nI p)] (hh (mm M S V P R) G) = some (none, hh (mm M S (nTn (S 5) V P p a c).1 (nTn (S 5) V P p a c).2 R) G) := by
  simp only [E147, e147_0, e147_1, e147_4, e147_5, e147_6, e147_9, e147_10, e147_11, e147_12, e147_13, e147_16, e147_17, e147_18, e147_21, e147_22, e147_23, e147_26, e147_29, e147_30, e147_33, e147_34, e147_36, e147_37, e147_38, zt0, zt1, zn3, not_false_eq_true, toListS, toListN, zk_some, zpi, true_or, or_true, mm_R, mm_0, mm_1, mm_2, mm_3, mm_V, mm_V0, mm_P, mm_P0, mm_uR, mm_uV, mm_uP, mi0, mi2, mi3, mi4, mi5, mi6, mi7, ni0, ni2, ni3, ni4, ni5, ni6, ni7, niV, niP, cV, cV0, cP, cP0, wV, wV0, wP, wP0, w0, w1, w2, w3, t0, t1, t2, t3, Nat.reduceLT, ni1, mi1, hp, ha, hc, ha5, hc5, C134, C135, C142, C144 X _ M G S V P R p a hp ha ha5]
  have e1 := C147w X d M G S V P R p a c (nSi P p) hp ha hc ha5 hc5 hA
  have e2 := C147w X d M G S V (uV P p 7 1) R p a c (nSi P p) hp ((uV_f (by decide)).trans ha) ((uV_f (by decide)).trans hc) ha5 hc5 hA
  show (if nSi P p = 0 then _ else _) = _
  by_cases q1 : nSi P p = 0
  · rw [if_pos q1]
    refine Eq.trans e1 ?_
    simp only [nTn, if_pos q1]
  · rw [if_neg q1]
    by_cases q2 : nRn V P p a = 0
    · rw [if_pos q2]
      refine Eq.trans e1 ?_
      simp only [nTn, if_neg q1, if_pos q2]
    · rw [if_neg q2]
      refine Eq.trans e2 ?_
      simp only [nTn, if_neg q1, if_neg q2]
theorem M11a (nv : Nat) (hS : S 2 = nI nv) (h5 : nv ≤ 5) : ∀ (m i : Nat), i + m = nv → zx X (d + 1) 148 2 [vR (7, 0, 0), vI (nI i), vN, vN] [] (hh (mm M S (tpV V i) P R) G) = zx X (d + 1) 148 43 [vR (7, 0, 0), vI (nI nv), vN, vN] [] (hh (mm M S (tpV V nv) P R) G) := by
  intro m
  induction m with
  | zero =>
    intro i hi
    have : i = nv := by omega
    subst this
    simp only [e148_2, e148_3, e148_4, e148_7, e148_8, e148_9, mm_R, mm_0, mm_1, mm_2, mm_3, mm_V, mm_V0, mm_P, mm_P0, mm_uR, mm_uV, mm_uP, mi0, mi2, mi3, mi4, mi5, mi6, mi7, ni0, ni2, ni3, ni4, ni5, ni6, ni7, niV, niP, cV, cV0, cP, cP0, wV, wV0, wP, wP0, w0, w1, w2, w3, t0, t1, t2, t3, Nat.reduceLT, hS]
    rw [if_pos (nI_le (Nat.le_refl _) (by omega))]
  | succ m ih =>
    intro i hi
    have hi5 : i < 5 := by omega
    have hlt : ¬ nI nv ≤ nI i := nI_ge (by omega) (by omega)
    simp only [e148_2, e148_3, e148_4, e148_7, e148_8, e148_9, mm_R, mm_0, mm_1, mm_2, mm_3, mm_V, mm_V0, mm_P, mm_P0, mm_uR, mm_uV, mm_uP, mi0, mi2, mi3, mi4, mi5, mi6, mi7, ni0, ni2, ni3, ni4, ni5, ni6, ni7, niV, niP, cV, cV0, cP, cP0, wV, wV0, wP, wP0, w0, w1, w2, w3, t0, t1, t2, t3, Nat.reduceLT, hS]
    rw [if_neg hlt]
    simp only [e148_12, e148_13, e148_16, e148_17, e148_20, e148_21, e148_22, e148_23, e148_24, e148_25, e148_28, e148_29, e148_32, e148_33, e148_34, e148_35, e148_36, e148_37, e148_40, zt0, zt1, zn3, not_false_eq_true, toListS, toListN, zk_some, zpi, true_or, or_true, mm_R, mm_0, mm_1, mm_2, mm_3, mm_V, mm_V0, mm_P, mm_P0, mm_uR, mm_uV, mm_uP, mi0, mi2, mi3, mi4, mi5, mi6, mi7, ni0, ni2, ni3, ni4, ni5, ni6, ni7, niV, niP, cV, cV0, cP, cP0, wV, wV0, wP, wP0, w0, w1, w2, w3, t0, t1, t2, t3, Nat.reduceLT, C134, hi5, tpV_s, ni1]
    exact ih (i + 1) (by omega)
def nPs (o stp : Int32) (V P : tV) : Nat → tV × tV
  | 0 => (V, P)
  | i + 1 => if (o >>> (nI i &&& 31)) &&& 1 = 0 then nTn stp (nPs o stp V P i).1 (nPs o stp V P i).2 i (P i 0).toNatClampNeg (P i 1).toNatClampNeg else nPs o stp V P i
theorem nTw_k (si stp : Int32) (V P : tV) (p a c : Nat) : (∀ j f, f ≠ 3 → (nTw si stp V P p a c).1 j f = V j f) ∧ (∀ q g, g ≠ 7 → (nTw si stp V P p a c).2 q g = P q g) := by
  refine ⟨fun j f hf => ?_, fun q g hg => ?_⟩
  · simp only [nTw, uV_f hf]
  · simp only [nTw]
    split
    · rfl
    · split
      · exact uV_f hg
      · split
        · exact uV_f hg
        · rfl
theorem nTn_k (stp : Int32) (V P : tV) (p a c : Nat) : (∀ j f, f ≠ 3 → (nTn stp V P p a c).1 j f = V j f) ∧ (∀ q g, g ≠ 7 → (nTn stp V P p a c).2 q g = P q g) := by
  refine ⟨(nTw_k ..).1, fun q g hg => ((nTw_k ..).2 q g hg).trans ?_⟩
  split
  · rfl
  · split
    · rfl
    · exact uV_f hg
theorem nPs_k (o stp : Int32) (V P : tV) (n : Nat) : (∀ j f, f ≠ 3 → (nPs o stp V P n).1 j f = V j f) ∧ (∀ q g, g ≠ 7 → (nPs o stp V P n).2 q g = P q g) := by
  induction n with
  | zero => exact ⟨fun _ _ _ => rfl, fun _ _ _ => rfl⟩
  | succ n ih =>
    unfold nPs
    split
    · exact ⟨fun j f hf => ((nTn_k ..).1 j f hf).trans (ih.1 j f hf), fun q g hg => ((nTn_k ..).2 q g hg).trans (ih.2 q g hg)⟩
    · exact ih
theorem M11b (nv np : Nat) (hE : sEnd S V P nv np) : ∀ (m i : Nat), i + m = np → zx X (d + 7) 148 45 [vR (7, 0, 0), vI (nI i), vN, vN] [] (hh (mm M S (nPs (R 5) (S 5) V P i).1 (nPs (R 5) (S 5) V P i).2 R) G) = zx X (d + 7) 148 77 [vR (7, 0, 0), vI (nI np), vN, vN] [] (hh (mm M S (nPs (R 5) (S 5) V P np).1 (nPs (R 5) (S 5) V P np).2 R) G) := by
  obtain ⟨hS, hS3, h5, h8, hp⟩ := hE
  intro m
  induction m with
  | zero =>
    intro i hi
    have : i = np := by omega
    subst this
    simp only [e148_45, e148_46, e148_47, e148_50, e148_51, e148_52, mm_R, mm_0, mm_1, mm_2, mm_3, mm_V, mm_V0, mm_P, mm_P0, mm_uR, mm_uV, mm_uP, mi0, mi2, mi3, mi4, mi5, mi6, mi7, ni0, ni2, ni3, ni4, ni5, ni6, ni7, niV, niP, cV, cV0, cP, cP0, wV, wV0, wP, wP0, w0, w1, w2, w3, t0, t1, t2, t3, Nat.reduceLT, hS3]
    rw [if_pos (nI_le (Nat.le_refl _) (by omega))]
  | succ m ih =>
    intro i hi
    have hi8 : i < 8 := by omega
    have hlt : ¬ nI np ≤ nI i := nI_ge (by omega) (by omega)
    obtain ⟨a, c, ha, hcc, ha1, hc1, hA⟩ := hp i (by omega)
    have hk := nPs_k (R 5) (S 5) V P i
    have ca : (nI a).toNatClampNeg = a := nI_clamp (by omega)
    have cc : (nI c).toNatClampNeg = c := nI_clamp (by omega)
    have ih' := ih (i + 1) (by omega)
    have hT := C147 X d M G S (nPs (R 5) (S 5) V P i).1 (nPs (R 5) (S 5) V P i).2 R i a c hi8 ((hk.2 i 0 (by decide)).trans ha) ((hk.2 i 1 (by decide)).trans hcc) (by omega) (by omega) (by rw [hk.1 a 0 (by decide), hk.1 c 0 (by decide)]; exact hA)
    simp only [e148_45, e148_46, e148_47, e148_50, e148_51, e148_52, mm_R, mm_0, mm_1, mm_2, mm_3, mm_V, mm_V0, mm_P, mm_P0, mm_uR, mm_uV, mm_uP, mi0, mi2, mi3, mi4, mi5, mi6, mi7, ni0, ni2, ni3, ni4, ni5, ni6, ni7, niV, niP, cV, cV0, cP, cP0, wV, wV0, wP, wP0, w0, w1, w2, w3, t0, t1, t2, t3, Nat.reduceLT, hS3]
    rw [if_neg hlt]
    simp only [e148_55, e148_56, e148_59, e148_60, e148_61, e148_62, e148_63, mm_R, mm_0, mm_1, mm_2, mm_3, mm_V, mm_V0, mm_P, mm_P0, mm_uR, mm_uV, mm_uP, mi0, mi2, mi3, mi4, mi5, mi6, mi7, ni0, ni2, ni3, ni4, ni5, ni6, ni7, niV, niP, cV, cV0, cP, cP0, wV, wV0, wP, wP0, w0, w1, w2, w3, t0, t1, t2, t3, Nat.reduceLT]
    by_cases ho : (R 5) >>> (nI i &&& 31) &&& 1 = 0
    · rw [if_pos ho]
      simp only [e148_66, e148_67, e148_68, e148_71, e148_74, zt0, zt1, zn3, not_false_eq_true, toListS, toListN, zk_some, zpi, true_or, or_true, hT, ni1]
      rw [← ih']
      simp only [nPs, if_pos ho, ha, hcc, ca, cc]
    · rw [if_neg ho]
      simp only [e148_71, e148_74, ni1]
      rw [← ih']
      simp only [nPs, if_neg ho]
def nMo (V : tV) (j : Nat) : Int32 := imax 0 (V j 3 - V j 0 * V j 2)
/-- over the rims: S, V, the bits -/
def nSs (S : Nat → Int32) (V : tV) (r : Int32) : Nat → (Nat → Int32) × tV × Int32
  | 0 => (S, V, r)
  | i + 1 =>
    let Z := nSs S V r i
    let mo := nMo Z.2.1 i
    (uS Z.1 4 (if Z.1 4 ≤ 2000000000 - mo then Z.1 4 + mo else 2000000000), uV Z.2.1 i 3 (Z.2.1 i 3 - mo), Z.2.2 ||| (if mo ≤ 0 then (0 : Int32) else 1 <<< (nI i &&& 31)))
theorem nSs_k (S : Nat → Int32) (V : tV) (r : Int32) (n f : Nat) (h4 : f ≠ 4) : (nSs S V r n).1 f = S f := by
  induction n with
  | zero => rfl
  | succ n ih => exact (uS_n h4).trans ih
theorem M11c (nv : Nat) (hS : S 2 = nI nv) (h5 : nv ≤ 5) (r : Int32) : ∀ (m i : Nat) (l2 l3 : zV), i + m = nv → ∃ l2' l3', zx X (d + 1) 148 84 [vR (7, 0, 0), vI (nI i), l2, l3] [] (hh (mm M (nSs S V r i).1 (nSs S V r i).2.1 P (uS R 6 (nSs S V r i).2.2)) G) = zx X (d + 1) 148 200 [vR (7, 0, 0), vI (nI nv), l2', l3'] [] (hh (mm M (nSs S V r nv).1 (nSs S V r nv).2.1 P (uS R 6 (nSs S V r nv).2.2)) G) := by
  intro m
  induction m with
  | zero =>
    intro i l2 l3 hi
    have : i = nv := by omega
    subst this
    have e := (nSs_k S V r i 2 (by decide)).trans hS
    refine ⟨l2, l3, ?_⟩
    simp only [e148_84, e148_85, e148_86, e148_89, e148_90, e148_91, mm_R, mm_0, mm_1, mm_2, mm_3, mm_V, mm_V0, mm_P, mm_P0, mm_uR, mm_uV, mm_uP, mi0, mi2, mi3, mi4, mi5, mi6, mi7, ni0, ni2, ni3, ni4, ni5, ni6, ni7, niV, niP, cV, cV0, cP, cP0, wV, wV0, wP, wP0, w0, w1, w2, w3, t0, t1, t2, t3, Nat.reduceLT, e]
    rw [if_pos (nI_le (Nat.le_refl _) (by omega))]
  | succ m ih =>
    intro i l2 l3 hi
    have hi5 : i < 5 := by omega
    have hlt : ¬ nI nv ≤ nI i := nI_ge (by omega) (by omega)
    have e := (nSs_k S V r i 2 (by decide)).trans hS
    obtain ⟨l2', l3', ih'⟩ := ih (i + 1) (vI (nI (4 + 5 * i))) (vI (nMo (nSs S V r i).2.1 i)) (by omega)
    refine ⟨l2', l3', ?_⟩
    simp only [e148_84, e148_85, e148_86, e148_89, e148_90, e148_91, mm_R, mm_0, mm_1, mm_2, mm_3, mm_V, mm_V0, mm_P, mm_P0, mm_uR, mm_uV, mm_uP, mi0, mi2, mi3, mi4, mi5, mi6, mi7, ni0, ni2, ni3, ni4, ni5, ni6, ni7, niV, niP, cV, cV0, cP, cP0, wV, wV0, wP, wP0, w0, w1, w2, w3, t0, t1, t2, t3, Nat.reduceLT, e]
    rw [if_neg hlt]
    simp only [e148_94, e148_95, e148_98, e148_99, e148_100, e148_101, e148_104, e148_105, e148_106, e148_107, e148_108, e148_109, e148_112, e148_113, e148_114, e148_115, e148_116, e148_117, e148_120, e148_121, e148_122, e148_123, e148_124, e148_125, e148_126, e148_129, e148_130, e148_131, e148_132, e148_135, e148_136, e148_139, e148_140, e148_141, e148_142, e148_145, e148_146, e148_147, e148_150, e148_151, e148_154, e148_155, e148_156, e148_157, e148_158, e148_159, e148_160, e148_161, e148_162, e148_163, e148_166, e148_167, e148_168, e148_171, e148_172, e148_173, e148_175, e148_176, e148_177, e148_180, e148_182, e148_185, e148_186, e148_189, e148_190, e148_191, e148_192, e148_193, e148_194, e148_197, zt0, zt1, zn3, not_false_eq_true, toListS, toListN, zk_some, zpi, true_or, or_true, mm_R, mm_0, mm_1, mm_2, mm_3, mm_V, mm_V0, mm_P, mm_P0, mm_uR, mm_uV, mm_uP, mi0, mi2, mi3, mi4, mi5, mi6, mi7, ni0, ni2, ni3, ni4, ni5, ni6, ni7, niV, niP, cV, cV0, cP, cP0, wV, wV0, wP, wP0, w0, w1, w2, w3, t0, t1, t2, t3, Nat.reduceLT, C134, C237, hi5, ni1, uS_s, uS_uS, mm_uS (q := 3) (s := 4) (Or.inr (Or.inr (Or.inr ⟨rfl, rfl⟩)))]
    refine Eq.trans ?_ ih'
    have em : imax 0 ((nSs S V r i).2.1 i 3 - (nSs S V r i).2.1 i 0 * (nSs S V r i).2.1 i 2) = nMo (nSs S V r i).2.1 i := rfl
    rw [em]
    by_cases q1 : nMo (nSs S V r i).2.1 i ≤ 0
    · rw [if_pos q1]
      by_cases q2 : (nSs S V r i).1 4 ≤ 2000000000 - nMo (nSs S V r i).2.1 i
      · rw [if_pos q2]
        simp only [nSs, if_pos q1, if_pos q2]
      · rw [if_neg q2]
        simp only [nSs, if_pos q1, if_neg q2]
    · rw [if_neg q1]
      by_cases q2 : (nSs S V r i).1 4 ≤ 2000000000 - nMo (nSs S V r i).2.1 i
      · rw [if_pos q2]
        simp only [nSs, if_neg q1, if_pos q2]
      · rw [if_neg q2]
        simp only [nSs, if_neg q1, if_neg q2]
/-- the model's STEP -/
def nStp (S : Nat → Int32) (V P : tV) (o : Int32) (nv np : Nat) : (Nat → Int32) × tV × tV × Int32 :=
  let W := nPs o (S 5) (tpV V nv) P np
  let Z := nSs S W.1 0 nv
  (uS Z.1 5 (imin 9999 (Z.1 5 + 1)), Z.2.1, W.2, Z.2.2)
theorem C148 (nv np : Nat) (hE : sEnd S V P nv np) : zd X (d + 7) 148 [vR (7, 0, 0)] (hh (mm M S V P R) G) = some (none, hh (mm M (nStp S V P (R 5) nv np).1 (nStp S V P (R 5) nv np).2.1 (nStp S V P (R 5) nv np).2.2.1 (uS R 6 (nStp S V P (R 5) nv np).2.2.2)) G) := by
  have hE1 : sEnd S (tpV V nv) P nv np := by
    obtain ⟨h1, h2, h3, h4, h5⟩ := hE
    refine ⟨h1, h2, h3, h4, fun p hp => ?_⟩
    obtain ⟨a, c, q1, q2, q3, q4, q5⟩ := h5 p hp
    exact ⟨a, c, q1, q2, q3, q4, by simpa [tpV] using q5⟩
  have a1 := M11a X (d + 6) M G S V P R nv hE.1 hE.2.2.1 nv 0 (by omega)
  have a2 := M11b X d M G S (tpV V nv) P R nv np hE1 np 0 (by omega)
  obtain ⟨l2, l3, a3⟩ := M11c X (d + 6) M G S (nPs (R 5) (S 5) (tpV V nv) P np).1 (nPs (R 5) (S 5) (tpV V nv) P np).2 R nv hE.1 hE.2.2.1 0 nv 0 vN vN (by omega)
  rw [tpV_0] at a1
  rw [nI_0] at a1 a2 a3
  simp only [E148, e148_0, e148_1]
  rw [a1]
  simp only [e148_43, e148_44]
  refine Eq.trans a2 ?_
  simp only [e148_77, e148_78, e148_79, e148_82, e148_83, mm_uR]
  refine Eq.trans a3 ?_
  simp only [e148_200, e148_201, e148_204, e148_205, e148_208, e148_209, e148_212, e148_213, e148_214, e148_215, e148_216, e148_219, e148_220, zt0, zt1, zn3, not_false_eq_true, toListS, toListN, zk_some, zpi, true_or, or_true, mm_R, mm_0, mm_1, mm_2, mm_3, mm_V, mm_V0, mm_P, mm_P0, mm_uR, mm_uV, mm_uP, mi0, mi2, mi3, mi4, mi5, mi6, mi7, ni0, ni2, ni3, ni4, ni5, ni6, ni7, niV, niP, cV, cV0, cP, cP0, wV, wV0, wP, wP0, w0, w1, w2, w3, t0, t1, t2, t3, Nat.reduceLT, C238, mm_uS (q := 2) (s := 5) (Or.inr (Or.inr (Or.inl ⟨rfl, rfl⟩)))]
  rfl
end MD
