/-! THE CLASS: all steps of the check -/
theorem st_conn {d k a b : Nat} {v : Int} {s s' : Mem} (hk2 : k < 200) (hk : s 125 k = 3) (hl : s 127 k = a) (hr : s 128 k = b) (e : Zc d 87 [aR 133, aI a, aI b] s = rI v s') (hv : v = 0 ∨ v = 1) : Zc (d + 1) 78 [aR 133, aI k] s = rI v s' := by
  simp (disch := first | exact obC_124 | exact obC_133 | omega | (simp only [aN1_125, aN1_127, aN1_128]; omega) | (simp only [List.length_cons, List.length_nil]; omega)) only [en78, x78_0, x78_1, x78_4, x78_7, x78_8, x78_9, x78_60, x78_61, x78_62, x78_65, x78_68, x78_69, x78_70, x78_71, x78_74, x78_77, x78_78, x78_79, x78_82, x78_83, x78_84, x78_85, x78_88, x78_91, x78_92, x78_93, x78_96, x78_97, x78_98, x78_99, x78_100, x78_101, x78_104, x78_105, x78_106, x78_107, x78_110, fcn_124_0, fcn_124_2, fcn_124_3, fcn_133_1, if_true, if_false, eq_self, Int.reduceEq, Int.reduceLT, Int.reduceLE, Int.reduceAdd, Int.reduceSub, Int.reduceMul, Int.reduceToNat, Nat.reduceAdd, Nat.reduceMul, Nat.reduceEqDiff, Int.toNat_natCast, wrap_id, hk, selZ, hl, hr, e, zcI_r]
theorem st_ask {d k a : Nat} {v : Int} {s s' : Mem} (hk2 : k < 200) (hk : s 125 k = 63) (hl : s 127 k = a) (e : Zc d 85 [aR 133, aI a] s = rI v s') (hv : v = 0 ∨ v = 1) : Zc (d + 1) 78 [aR 133, aI k] s = rI v s' := by
  simp (disch := first | exact obC_124 | exact obC_133 | omega | (simp only [aN1_125, aN1_127, aN1_128]; omega) | (simp only [List.length_cons, List.length_nil]; omega)) only [en78, x78_0, x78_1, x78_4, x78_7, x78_8, x78_9, x78_60, x78_61, x78_62, x78_65, x78_68, x78_69, x78_70, x78_71, x78_74, x78_77, x78_78, x78_79, x78_82, x78_83, x78_84, x78_85, x78_88, x78_91, x78_92, x78_93, x78_96, x78_97, x78_98, x78_99, x78_100, x78_101, x78_104, x78_105, x78_106, x78_107, x78_110, fcn_124_0, fcn_124_2, fcn_124_3, fcn_133_1, if_true, if_false, eq_self, Int.reduceEq, Int.reduceLT, Int.reduceLE, Int.reduceAdd, Int.reduceSub, Int.reduceMul, Int.reduceToNat, Nat.reduceAdd, Nat.reduceMul, Nat.reduceEqDiff, Int.toNat_natCast, wrap_id, hk, selZ, hl, e, zcI_r]
theorem st_turn {d k : Nat} {s : Mem} (hk2 : k < 200) (hk : s 125 k = 58) : Zc (d + 1) 78 [aR 133, aI k] s = rI 1 s := by
  simp (disch := first | exact obC_124 | exact obC_133 | omega | (simp only [aN1_125, aN1_127, aN1_128]; omega) | (simp only [List.length_cons, List.length_nil]; omega)) only [en78, x78_0, x78_1, x78_4, x78_7, x78_8, x78_9, x78_60, x78_61, x78_62, x78_65, x78_68, x78_69, x78_70, x78_71, x78_74, x78_77, x78_78, x78_79, x78_82, x78_83, x78_84, x78_85, x78_88, x78_91, x78_92, x78_93, x78_96, x78_97, x78_98, x78_99, x78_100, x78_101, x78_104, x78_105, x78_106, x78_107, x78_110, fcn_124_0, fcn_124_2, fcn_124_3, fcn_133_1, if_true, if_false, eq_self, Int.reduceEq, Int.reduceLT, Int.reduceLE, Int.reduceAdd, Int.reduceSub, Int.reduceMul, Int.reduceToNat, Nat.reduceAdd, Nat.reduceMul, Nat.reduceEqDiff, Int.toNat_natCast, wrap_id, hk, selZ]
theorem st_close {d k : Nat} {s : Mem} (hk2 : k < 200) (hk : s 125 k = 125) : Zc (d + 1) 78 [aR 133, aI k] s = rI 1 s := by
  simp (disch := first | exact obC_124 | exact obC_133 | omega | (simp only [aN1_125, aN1_127, aN1_128]; omega) | (simp only [List.length_cons, List.length_nil]; omega)) only [en78, x78_0, x78_1, x78_4, x78_7, x78_8, x78_9, x78_60, x78_61, x78_62, x78_65, x78_68, x78_69, x78_70, x78_71, x78_74, x78_77, x78_78, x78_79, x78_82, x78_83, x78_84, x78_85, x78_88, x78_91, x78_92, x78_93, x78_96, x78_97, x78_98, x78_99, x78_100, x78_101, x78_104, x78_105, x78_106, x78_107, x78_110, fcn_124_0, fcn_124_2, fcn_124_3, fcn_133_1, if_true, if_false, eq_self, Int.reduceEq, Int.reduceLT, Int.reduceLE, Int.reduceAdd, Int.reduceSub, Int.reduceMul, Int.reduceToNat, Nat.reduceAdd, Nat.reduceMul, Nat.reduceEqDiff, Int.toNat_natCast, wrap_id, hk, selZ]
theorem st_node {d k : Nat} {v : Int} {s s' : Mem} (hk2 : k < 200) (hk : s 125 k = 78) (e : Zc d 80 [aR 133, aI k] s = rI v s') (hv : v = 0 ∨ v = 1) : Zc (d + 1) 78 [aR 133, aI k] s = rI v s' := by
  simp (disch := first | exact obC_124 | exact obC_133 | omega | (simp only [aN1_125, aN1_127, aN1_128]; omega) | (simp only [List.length_cons, List.length_nil]; omega)) only [en78, x78_0, x78_1, x78_4, x78_7, x78_8, x78_9, x78_60, x78_61, x78_62, x78_65, x78_68, x78_69, x78_70, x78_71, x78_74, x78_77, x78_78, x78_79, x78_82, x78_83, x78_84, x78_85, x78_88, x78_91, x78_92, x78_93, x78_96, x78_97, x78_98, x78_99, x78_100, x78_101, x78_104, x78_105, x78_106, x78_107, x78_110, fcn_124_0, fcn_124_2, fcn_124_3, fcn_133_1, if_true, if_false, eq_self, Int.reduceEq, Int.reduceLT, Int.reduceLE, Int.reduceAdd, Int.reduceSub, Int.reduceMul, Int.reduceToNat, Nat.reduceAdd, Nat.reduceMul, Nat.reduceEqDiff, Int.toNat_natCast, wrap_id, hk, selZ, e, zcI_r]
theorem st_decl {d k kd : Nat} {v : Int} {s s' : Mem} (hk2 : k < 200) (hk : s 125 k = kLt kd) (hkd : kd < 4) (e : Zc d 79 [aR 133, aI k] s = rI v s') (hv : v = 0 ∨ v = 1) : Zc (d + 1) 78 [aR 133, aI k] s = rI v s' := by
  rcases (by omega : kd = 0 ∨ kd = 1 ∨ kd = 2 ∨ kd = 3) with rfl | rfl | rfl | rfl
  · have hk' : s 125 k = 73 := hk
    simp (disch := first | exact obC_124 | exact obC_133 | omega | (simp only [aN1_125, aN1_127, aN1_128]; omega) | (simp only [List.length_cons, List.length_nil]; omega)) only [en78, x78_0, x78_1, x78_4, x78_7, x78_8, x78_9, x78_60, x78_61, x78_62, x78_65, x78_68, x78_69, x78_70, x78_71, x78_74, x78_77, x78_78, x78_79, x78_82, x78_83, x78_84, x78_85, x78_88, x78_91, x78_92, x78_93, x78_96, x78_97, x78_98, x78_99, x78_100, x78_101, x78_104, x78_105, x78_106, x78_107, x78_110, fcn_124_0, fcn_124_2, fcn_124_3, fcn_133_1, if_true, if_false, eq_self, Int.reduceEq, Int.reduceLT, Int.reduceLE, Int.reduceAdd, Int.reduceSub, Int.reduceMul, Int.reduceToNat, Nat.reduceAdd, Nat.reduceMul, Nat.reduceEqDiff, Int.toNat_natCast, wrap_id, hk', selZ, e, zcI_r]
  · have hk' : s 125 k = 79 := hk
    simp (disch := first | exact obC_124 | exact obC_133 | omega | (simp only [aN1_125, aN1_127, aN1_128]; omega) | (simp only [List.length_cons, List.length_nil]; omega)) only [en78, x78_0, x78_1, x78_4, x78_7, x78_8, x78_9, x78_60, x78_61, x78_62, x78_65, x78_68, x78_69, x78_70, x78_71, x78_74, x78_77, x78_78, x78_79, x78_82, x78_83, x78_84, x78_85, x78_88, x78_91, x78_92, x78_93, x78_96, x78_97, x78_98, x78_99, x78_100, x78_101, x78_104, x78_105, x78_106, x78_107, x78_110, fcn_124_0, fcn_124_2, fcn_124_3, fcn_133_1, if_true, if_false, eq_self, Int.reduceEq, Int.reduceLT, Int.reduceLE, Int.reduceAdd, Int.reduceSub, Int.reduceMul, Int.reduceToNat, Nat.reduceAdd, Nat.reduceMul, Nat.reduceEqDiff, Int.toNat_natCast, wrap_id, hk', selZ, e, zcI_r]
  · have hk' : s 125 k = 87 := hk
    simp (disch := first | exact obC_124 | exact obC_133 | omega | (simp only [aN1_125, aN1_127, aN1_128]; omega) | (simp only [List.length_cons, List.length_nil]; omega)) only [en78, x78_0, x78_1, x78_4, x78_7, x78_8, x78_9, x78_60, x78_61, x78_62, x78_65, x78_68, x78_69, x78_70, x78_71, x78_74, x78_77, x78_78, x78_79, x78_82, x78_83, x78_84, x78_85, x78_88, x78_91, x78_92, x78_93, x78_96, x78_97, x78_98, x78_99, x78_100, x78_101, x78_104, x78_105, x78_106, x78_107, x78_110, fcn_124_0, fcn_124_2, fcn_124_3, fcn_133_1, if_true, if_false, eq_self, Int.reduceEq, Int.reduceLT, Int.reduceLE, Int.reduceAdd, Int.reduceSub, Int.reduceMul, Int.reduceToNat, Nat.reduceAdd, Nat.reduceMul, Nat.reduceEqDiff, Int.toNat_natCast, wrap_id, hk', selZ, e, zcI_r]
  · have hk' : s 125 k = 82 := hk
    simp (disch := first | exact obC_124 | exact obC_133 | omega | (simp only [aN1_125, aN1_127, aN1_128]; omega) | (simp only [List.length_cons, List.length_nil]; omega)) only [en78, x78_0, x78_1, x78_4, x78_7, x78_8, x78_9, x78_60, x78_61, x78_62, x78_65, x78_68, x78_69, x78_70, x78_71, x78_74, x78_77, x78_78, x78_79, x78_82, x78_83, x78_84, x78_85, x78_88, x78_91, x78_92, x78_93, x78_96, x78_97, x78_98, x78_99, x78_100, x78_101, x78_104, x78_105, x78_106, x78_107, x78_110, fcn_124_0, fcn_124_2, fcn_124_3, fcn_133_1, if_true, if_false, eq_self, Int.reduceEq, Int.reduceLT, Int.reduceLE, Int.reduceAdd, Int.reduceSub, Int.reduceMul, Int.reduceToNat, Nat.reduceAdd, Nat.reduceMul, Nat.reduceEqDiff, Int.toNat_natCast, wrap_id, hk', selZ, e, zcI_r]
theorem te_bad {d o k K p : Nat} {s s' : Mem} (hK : s 124 4 = K) (hk : k < K) (hK2 : K ≤ 200) (e : Zc d 78 [aR 133, aI k] s = rI 0 s') (hp : s' 126 k = p) : Ze d 77 39 [aR 133, aR (58 + o), aI k] [] s = rI p s' := by
  rw [x77_39]
  simp (disch := first | exact obC_124 | exact obC_130 | exact obC_133 | exact (obCO_58 ho) | exact (obCO_59 ho) | exact (obCO_66 ho) | omega | (simp only [aN1_125, aN1_126, aN1_134]; omega) | (simp only [List.length_cons, List.length_nil]; omega)) only [en77, x77_0, x77_1, x77_2, x77_5, x77_8, x77_9, x77_10, x77_13, x77_16, x77_17, x77_20, x77_21, x77_24, x77_25, x77_26, x77_29, x77_30, x77_33, x77_34, x77_37, x77_38, x77_40, x77_41, x77_44, x77_47, x77_50, x77_51, x77_52, x77_55, x77_58, x77_59, x77_62, x77_65, x77_66, x77_67, x77_68, x77_69, x77_72, x77_75, x77_76, x77_77, x77_78, x77_81, x77_82, x77_83, x77_84, x77_87, x77_90, x77_91, x77_94, x77_97, x77_98, x77_99, x77_100, x77_101, x77_101i, x77_102, x77_105, x77_106, x77_109, x77_110, x77_111, x77_114, x77_115, x77_118, x77_121, x77_124, x77_125, fcn_124_0, fcn_124_1, fcn_133_1, fcn_133_2, fcn_133_3, fcn_58_0, fcn_58_1, fcn_84_0, fcn_84_1, if_true, if_false, eq_self, Int.reduceEq, Int.reduceLT, Int.reduceLE, Int.reduceAdd, Int.reduceSub, Int.reduceMul, Int.reduceToNat, Nat.reduceAdd, Nat.reduceMul, Nat.reduceEqDiff, Int.toNat_natCast, wrap_id, hK, if_pos (show (k : Int) < K by omega), e, zcI_r, hp]
theorem te_ok {d o k K : Nat} {v : Int} {s s' : Mem} (hK : s 124 4 = K) (hk : k < K) (hK2 : K ≤ 200) (e : Zc d 78 [aR 133, aI k] s = rI 1 s') (hp : s' 125 k = v) (hv : ¬ v = 3) : Ze d 77 39 [aR 133, aR (58 + o), aI k] [] s = Ze d 77 39 [aR 133, aR (58 + o), aI ((k + 1 : Nat) : Int)] [] s' := by
  rw [x77_39, show ((k + 1 : Nat) : Int) = (k : Int) + 1 from rfl]
  simp (disch := first | exact obC_124 | exact obC_130 | exact obC_133 | exact (obCO_58 ho) | exact (obCO_59 ho) | exact (obCO_66 ho) | omega | (simp only [aN1_125, aN1_126, aN1_134]; omega) | (simp only [List.length_cons, List.length_nil]; omega)) only [en77, x77_0, x77_1, x77_2, x77_5, x77_8, x77_9, x77_10, x77_13, x77_16, x77_17, x77_20, x77_21, x77_24, x77_25, x77_26, x77_29, x77_30, x77_33, x77_34, x77_37, x77_38, x77_40, x77_41, x77_44, x77_47, x77_50, x77_51, x77_52, x77_55, x77_58, x77_59, x77_62, x77_65, x77_66, x77_67, x77_68, x77_69, x77_72, x77_75, x77_76, x77_77, x77_78, x77_81, x77_82, x77_83, x77_84, x77_87, x77_90, x77_91, x77_94, x77_97, x77_98, x77_99, x77_100, x77_101, x77_101i, x77_102, x77_105, x77_106, x77_109, x77_110, x77_111, x77_114, x77_115, x77_118, x77_121, x77_124, x77_125, fcn_124_0, fcn_124_1, fcn_133_1, fcn_133_2, fcn_133_3, fcn_58_0, fcn_58_1, fcn_84_0, fcn_84_1, if_true, if_false, eq_self, Int.reduceEq, Int.reduceLT, Int.reduceLE, Int.reduceAdd, Int.reduceSub, Int.reduceMul, Int.reduceToNat, Nat.reduceAdd, Nat.reduceMul, Nat.reduceEqDiff, Int.toNat_natCast, wrap_id, hK, if_pos (show (k : Int) < K by omega), e, zcI_r, hp, if_neg hv, if_neg (show ¬ (1 : Int) = 0 by decide)]
theorem te_conn {d o k K n c : Nat} {s s' : Mem} (ho : o = 0 ∨ o = 26) (hK : s 124 4 = K) (hk : k < K) (hK2 : K ≤ 200) (e : Zc d 78 [aR 133, aI k] s = rI 1 s') (hp : s' 125 k = 3) (e2 : Zc d 88 [aR 133, aR (58 + o), aI k] s' = rI 1 s') (e3 : Zc d 98 [aR 130, aR (58 + o), aI k] s' = rI n s') (hn : n ≤ 24) (hc : s' (58 + o) 2 = c) (hc2 : c ≤ 10000) : Ze d 77 39 [aR 133, aR (58 + o), aI k] [] s = Ze d 77 39 [aR 133, aR (58 + o), aI ((k + 1 : Nat) : Int)] [] (mu s' (58 + o) 2 ((c + n : Nat) : Int)) := by
  rw [x77_39, show ((k + 1 : Nat) : Int) = (k : Int) + 1 from rfl, show ((c + n : Nat) : Int) = (c : Int) + n from rfl]
  simp (disch := first | exact obC_124 | exact obC_130 | exact obC_133 | exact (obCO_58 ho) | exact (obCO_59 ho) | exact (obCO_66 ho) | omega | (simp only [aN1_125, aN1_126, aN1_134]; omega) | (simp only [List.length_cons, List.length_nil]; omega)) only [en77, x77_0, x77_1, x77_2, x77_5, x77_8, x77_9, x77_10, x77_13, x77_16, x77_17, x77_20, x77_21, x77_24, x77_25, x77_26, x77_29, x77_30, x77_33, x77_34, x77_37, x77_38, x77_40, x77_41, x77_44, x77_47, x77_50, x77_51, x77_52, x77_55, x77_58, x77_59, x77_62, x77_65, x77_66, x77_67, x77_68, x77_69, x77_72, x77_75, x77_76, x77_77, x77_78, x77_81, x77_82, x77_83, x77_84, x77_87, x77_90, x77_91, x77_94, x77_97, x77_98, x77_99, x77_100, x77_101, x77_101i, x77_102, x77_105, x77_106, x77_109, x77_110, x77_111, x77_114, x77_115, x77_118, x77_121, x77_124, x77_125, fcn_124_0, fcn_124_1, fcn_133_1, fcn_133_2, fcn_133_3, (fcnO_58_0 ho), (fcnO_58_1 ho), if_true, if_false, eq_self, Int.reduceEq, Int.reduceLT, Int.reduceLE, Int.reduceAdd, Int.reduceSub, Int.reduceMul, Int.reduceToNat, Nat.reduceAdd, Nat.reduceMul, Nat.reduceEqDiff, Int.toNat_natCast, wrap_id, hK, if_pos (show (k : Int) < K by omega), e, zcI_r, hp, e2, e3, hc, if_neg (show ¬ (1 : Int) = 0 by decide)]
theorem te_connF {d o k K p : Nat} {s s' : Mem} (ho : o = 0 ∨ o = 26) (hK : s 124 4 = K) (hk : k < K) (hK2 : K ≤ 200) (e : Zc d 78 [aR 133, aI k] s = rI 1 s') (hp : s' 125 k = 3) (e2 : Zc d 88 [aR 133, aR (58 + o), aI k] s' = rI 0 s') (ha : s' 126 k = p) : Ze d 77 39 [aR 133, aR (58 + o), aI k] [] s = rI p s' := by
  rw [x77_39]
  simp (disch := first | exact obC_124 | exact obC_130 | exact obC_133 | exact (obCO_58 ho) | exact (obCO_59 ho) | exact (obCO_66 ho) | omega | (simp only [aN1_125, aN1_126, aN1_134]; omega) | (simp only [List.length_cons, List.length_nil]; omega)) only [en77, x77_0, x77_1, x77_2, x77_5, x77_8, x77_9, x77_10, x77_13, x77_16, x77_17, x77_20, x77_21, x77_24, x77_25, x77_26, x77_29, x77_30, x77_33, x77_34, x77_37, x77_38, x77_40, x77_41, x77_44, x77_47, x77_50, x77_51, x77_52, x77_55, x77_58, x77_59, x77_62, x77_65, x77_66, x77_67, x77_68, x77_69, x77_72, x77_75, x77_76, x77_77, x77_78, x77_81, x77_82, x77_83, x77_84, x77_87, x77_90, x77_91, x77_94, x77_97, x77_98, x77_99, x77_100, x77_101, x77_101i, x77_102, x77_105, x77_106, x77_109, x77_110, x77_111, x77_114, x77_115, x77_118, x77_121, x77_124, x77_125, fcn_124_0, fcn_124_1, fcn_133_1, fcn_133_2, fcn_133_3, (fcnO_58_0 ho), (fcnO_58_1 ho), if_true, if_false, eq_self, Int.reduceEq, Int.reduceLT, Int.reduceLE, Int.reduceAdd, Int.reduceSub, Int.reduceMul, Int.reduceToNat, Nat.reduceAdd, Nat.reduceMul, Nat.reduceEqDiff, Int.toNat_natCast, wrap_id, hK, if_pos (show (k : Int) < K by omega), e, zcI_r, hp, e2, ha, if_neg (show ¬ (1 : Int) = 0 by decide)]
theorem te_end {d o K : Nat} {s : Mem} (hK : s 124 4 = K) : Ze d 77 39 [aR 133, aR (58 + o), aI K] [] s = rI (-1) s := by
  rw [x77_39]
  simp (disch := first | exact obC_124 | exact obC_130 | exact obC_133 | exact (obCO_58 ho) | exact (obCO_59 ho) | exact (obCO_66 ho) | omega | (simp only [aN1_125, aN1_126, aN1_134]; omega) | (simp only [List.length_cons, List.length_nil]; omega)) only [en77, x77_0, x77_1, x77_2, x77_5, x77_8, x77_9, x77_10, x77_13, x77_16, x77_17, x77_20, x77_21, x77_24, x77_25, x77_26, x77_29, x77_30, x77_33, x77_34, x77_37, x77_38, x77_40, x77_41, x77_44, x77_47, x77_50, x77_51, x77_52, x77_55, x77_58, x77_59, x77_62, x77_65, x77_66, x77_67, x77_68, x77_69, x77_72, x77_75, x77_76, x77_77, x77_78, x77_81, x77_82, x77_83, x77_84, x77_87, x77_90, x77_91, x77_94, x77_97, x77_98, x77_99, x77_100, x77_101, x77_101i, x77_102, x77_105, x77_106, x77_109, x77_110, x77_111, x77_114, x77_115, x77_118, x77_121, x77_124, x77_125, fcn_124_0, fcn_124_1, fcn_133_1, fcn_133_2, fcn_133_3, fcn_58_0, fcn_58_1, fcn_84_0, fcn_84_1, if_true, if_false, eq_self, Int.reduceEq, Int.reduceLT, Int.reduceLE, Int.reduceAdd, Int.reduceSub, Int.reduceMul, Int.reduceToNat, Nat.reduceAdd, Nat.reduceMul, Nat.reduceEqDiff, Int.toNat_natCast, wrap_id, hK, if_neg (show ¬ (K : Int) < K by omega)]
/-- a step after the check: what it is, a node's signal, what it gives -/
def XS (s : Mem) (o N : Nat) (sg : List Sg) (k : Nat) (x : Nat × Nat × List Lo) : Prop :=
  (x.1 = 0 ∧ s 125 k = 3 ∧ PRS s o k N sg.length x.2.2) ∨
  (x.1 = 1 ∧ s 125 k = 63 ∧ ∃ (e' : Jvm.Term) (m : Nat), x.2.2 = [(1, 0, e')] ∧ CR s o e' m ∧ s 127 k = ((m + esz e' - 1 : Nat) : Int) ∧ 25 ≤ m ∧ m + esz e' ≤ N) ∨
  (x.1 = 2 ∧ s 125 k = 58 ∧ x.2.2 = [(2, 0, .null)]) ∨
  (x.1 = 3 ∧ s 125 k = 125 ∧ x.2.2 = [(3, 0, .null)]) ∨
  (x.1 = 4 ∧ (∃ kd, kd < 4 ∧ s 125 k = kLt kd) ∧ x.2.2 = []) ∨
  (x.1 = 5 ∧ s 125 k = 78 ∧ x.2.2 = [] ∧ s 127 k = x.2.1 ∧ ∃ (e' : Jvm.Term) (m nm : Nat), sg[x.2.1]? = some (4, nm, 0, 0, e') ∧ CR s o e' m ∧ s 128 k = ((m + esz e' - 1 : Nat) : Int) ∧ 25 ≤ m ∧ m + esz e' ≤ N)
theorem XS_put {s s' : Mem} {o N N' k : Nat} {sg sg2 : List Sg} {x : Nat × Nat × List Lo} (h : XS s o N sg k x) (hN : N ≤ N') (g1 : ∀ q, 125 ≤ q → q ≤ 128 → s' q k = s q k) (g2 : AN o s s' 25 N) (g3 : ∀ j, j < sg.length → s' (63 + o) j = s (63 + o) j) (g4 : ∀ j, s' 118 j = s 118 j) : XS s' o N' (sg ++ sg2) k x := by
  rcases h with ⟨h1, h2, h3⟩ | ⟨h1, h2, e', m, h3, h4, h5, h6, h7⟩ | ⟨h1, h2, h3⟩ | ⟨h1, h2, h3⟩ | ⟨h1, ⟨kd, h2, h2'⟩, h3⟩ | ⟨h1, h2, h3, h4, e', m, nm, h5, h6, h7, h8, h9⟩
  · exact Or.inl ⟨h1, by rw [g1 _ (by decide) (by decide), h2], PRS_put h3 hN (by rw [List.length_append]; omega) ⟨g1 _ (by decide) (by decide), g1 _ (by decide) (by decide)⟩ g2 g3 g4⟩
  · exact Or.inr (Or.inl ⟨h1, by rw [g1 _ (by decide) (by decide), h2], e', m, h3, CR_put h4 (g2.sub h6 h7), by rw [g1 _ (by decide) (by decide), h5], h6, by omega⟩)
  · exact Or.inr (Or.inr (Or.inl ⟨h1, by rw [g1 _ (by decide) (by decide), h2], h3⟩))
  · exact Or.inr (Or.inr (Or.inr (Or.inl ⟨h1, by rw [g1 _ (by decide) (by decide), h2], h3⟩)))
  · exact Or.inr (Or.inr (Or.inr (Or.inr (Or.inl ⟨h1, ⟨kd, h2, by rw [g1 _ (by decide) (by decide), h2']⟩, h3⟩))))
  · exact Or.inr (Or.inr (Or.inr (Or.inr (Or.inr ⟨h1, by rw [g1 _ (by decide) (by decide), h2], h3, by rw [g1 _ (by decide) (by decide), h4], e', m, nm, by rw [List.getElem?_append_left (List.getElem?_eq_some_iff.mp h5).1]; exact h5, CR_put h6 (g2.sub h8 h9), by rw [g1 _ (by decide) (by decide), h7], h8, by omega⟩))))
theorem CKF_no {o k n n' L c j : Nat} (ho : o = 0 ∨ o = 26) (h : (c ≠ 127 ∧ 114 ≤ c ∧ c ≤ 132) ∨ (c = 127 ∧ j ≠ k)) : ¬ CKF o k n n' L c j := by
  unfold CKF LUF SGF
  omega
theorem LUF_CKF {o k n n' L c j : Nat} (h : LUF o n n' c j) : CKF o k n n' L c j := Or.inl h
theorem DNF_CKF {o k n n' L c j : Nat} (h : DNF o n n' L k c j) : CKF o k n n' L c j := by
  rcases h with h | h | h | h | h
  · exact Or.inl h
  · exact Or.inr (Or.inl h)
  · exact Or.inr (Or.inr (Or.inl h))
  · exact Or.inr (Or.inr (Or.inr (Or.inl h)))
  · exact Or.inr (Or.inr (Or.inr (Or.inr (Or.inl h))))
theorem KCc_conn {s : Mem} {o U C : Nat} {v : Int} {env : EnvT} {sg : List Sg} (h : KCc s o U C env sg) : KCc (mu s (58 + o) 2 v) o U C env sg := by
  obtain ⟨h1, h2, h3, h4, h5, h6, ⟨c1, c2, ho⟩, h8, h9, h10, h11⟩ := h
  exact ⟨EC_put h1 (fun k j hk => mu_c (by omega)), h2, h3, by rw [mu_c (by omega), h4], h5, fun i x hx => SGc_put (h6 i x hx) (fun k _ hk => mu_c (by omega)), ⟨by rw [mu_c (by omega), c1], by rw [mu_c (by omega), c2], ho⟩, by rw [mu_c (by omega), h8], by rw [mu_c (by omega), h9], h10, h11⟩
/-- what can be read, of an item, as the class needs it -/
def iC (i : It) : Prop := i.1 = 4 → dpt i.2.2.2.2.2 ≤ 2
theorem ckc_one {d o P U C k K n c : Nat} {env : EnvT} {sg : List Sg} {i : It} {s : Mem} (hd : 9 ≤ d) (hK : KCc s o U C env sg) (hU : 1 ≤ U) (hP : P ≤ 200) (hI : CIt s o k n P U C i) (hi : iC i) (hu : s 124 4 = K) (hk : k < K) (hK2 : K ≤ 200) (hn : 25 ≤ n) (hn2 : n + nsz i ≤ 225) (hc : s (58 + o) 2 = c) (hc2 : c ≤ 10000) (ht0 : s 115 0 = 0 ∧ s 116 0 = 0 ∧ s 118 0 = 1) :
    match ck1 env sg i with
    | some (env', sg', lo') => ∃ s', Ze d 77 39 [aR 133, aR (58 + o), aI k] [] s = Ze d 77 39 [aR 133, aR (58 + o), aI ((k + 1 : Nat) : Int)] [] s' ∧ KCc s' o U C env' sg' ∧ XS s' o (n + nsz i) sg' k (i.1, sg.length, lo') ∧ CVc s' o sg.length n (cv1 env i) (n + nsz i) ∧ s' (58 + o) 2 = ((c + (lo'.filter (fun x => x.1 == 0)).length : Nat) : Int) ∧ (∃ sg2, sg' = sg ++ sg2) ∧ (lo'.filter (fun x => x.1 == 0)).length ≤ 24 ∧ Fr (CKF o k n (n + nsz i) sg.length) s s'
    | none => ∃ s', Ze d 77 39 [aR 133, aR (58 + o), aI k] [] s = rI i.2.1 s' ∧ Fr (CKF o k n (n + nsz i) sg.length) s s' := by
  have hK' := hK
  obtain ⟨h1, h2, h3, h4, h5, h6, h7, h8, h9, h10, h11⟩ := hK
  have ho := h7.2.2
  obtain ⟨d, rfl⟩ : ∃ e, d = e + 1 := ⟨d - 1, by omega⟩
  obtain ⟨a0, hI⟩ := hI
  have hk200 : k < 200 := by omega
  have rl : CKF o k n (n + nsz i) sg.length 126 k → False := fun z => CKF_no ho (Or.inl ⟨by decide, by decide, by decide⟩) z
  rcases hI with ⟨i1, i2, i3, i4, i5, i6, i7⟩ | ⟨i1, i2, i3, i4⟩ | ⟨i1, i2⟩ | ⟨i1, i2⟩ | ⟨i1, i2, i3, i4, i5, t, i6, i7⟩ | ⟨i1, i2, i3, i4, i5, i6, i7⟩
  · have hnz : nsz i = 1 + esz i.2.2.2.2.2 := by unfold nsz; rw [if_pos i1]
    have hck : ck1 env sg i = match cn env sg i.2.2.2.2.1 i.2.2.2.2.2 with
        | some lo => some (env, sg, lo)
        | none => none := by unfold ck1; rw [if_neg (by omega), if_neg (by omega), if_pos i1]; rfl
    rw [hck, cn_mtc]
    have hm := k_matches (d := d) (k := k) (by omega) hK' hP i3 i4 i5 i6 i7 hn (by omega)
    have hnn : n + 1 + esz i.2.2.2.2.2 = n + nsz i := by omega
    rw [hnn] at hm
    cases hx : mtc env i.2.2.2.2.1 i.2.2.2.2.2 with
    | none =>
      rw [hx] at hm
      obtain ⟨s', e1, e2⟩ := hm
      exact ⟨s', te_bad hu hk hK2 (st_conn hk200 i2 i3 i4 e1 (Or.inl rfl)) (by rw [e2 _ _ (fun z => rl (LUF_CKF z)), a0]), e2.mono (fun _ _ h => LUF_CKF h)⟩
    | some lo =>
      rw [hx] at hm
      obtain ⟨s', e1, e2, e3, e4⟩ := hm
      dsimp only
      have hK1 := KCc_LUF hK' e4
      have hlen : lo.length ≤ 24 := by
        obtain ⟨a, b, to, q, fl, -, -, -, -, -, -, -, -, -, p10, -⟩ := e2
        omega
      have hf0 : lo.filter (fun x => x.1 == 0) = lo := by
        apply List.filter_eq_self.mpr
        intro x hx
        obtain ⟨j, hj⟩ := List.getElem?_of_mem hx
        rw [(PRS_lt e2 hj).1]
        rfl
      have hcs := k_connectsSinks (d := d + 1) (by omega) hK1 hk200 hn2 e2 hlen
      have hpo := k_pairsOf (d := d + 1) (by omega) ho hk200 hn2 e2
      have hst := st_conn (d := d) hk200 i2 i3 i4 e1 (Or.inr rfl)
      have hkd : s' 125 k = 3 := by rw [e4 _ _ (fun z => CKF_no (k := k) (n := n) (n' := n + nsz i) (L := 0) ho (Or.inl ⟨by decide, by decide, by decide⟩) (LUF_CKF z)), i2]
      have hcc : s' (58 + o) 2 = c := by rw [e4 _ _ (by unfold LUF; omega), hc]
      by_cases hs : ∀ x, x ∈ lo → skA sg x.2.1
      · rw [if_pos hs] at hcs ⊢
        refine ⟨_, te_conn ho hu hk hK2 hst hkd hcs hpo hlen hcc hc2, KCc_conn hK1, Or.inl ⟨i1, by rw [mu_c (by omega), hkd], PRS_put e2 (Nat.le_refl _) (Nat.le_refl _) ⟨mu_c (by omega), mu_c (by omega)⟩ (fun k j hk _ _ => mu_c (by omega)) (fun j _ => mu_c (by omega)) (fun j => mu_c (by omega))⟩, ?_, by rw [mu_s, hf0], ⟨[], by rw [List.append_nil]⟩, by rw [hf0]; exact hlen, (e4.mono (fun _ _ h => LUF_CKF h)).mu (Or.inr (Or.inr (Or.inr (Or.inr (Or.inr ⟨rfl, rfl⟩)))))⟩
        have hcv : cv1 env i = [none, cvR env i.2.2.2.2.1 i.2.2.2.2.2] := by unfold cv1; rw [if_neg (by omega), if_pos i1]
        rw [hcv]
        exact CVc_put _ _ _ (fun k j hk _ _ => mu_c (by omega)) e3
      · rw [if_neg hs] at hcs ⊢
        exact ⟨s', te_connF ho hu hk hK2 hst hkd hcs (by rw [e4 _ _ (fun z => rl (LUF_CKF z)), a0]), e4.mono (fun _ _ h => LUF_CKF h)⟩
  · have hnz : nsz i = esz i.2.2.2.2.2 := by unfold nsz; rw [if_neg (by omega), if_pos (Or.inl i1)]
    have hck : ck1 env sg i = match rE env i.2.2.2.2.2 with
        | some e' => some (env, sg, [(1, 0, e')])
        | none => none := by unfold ck1; rw [if_neg (by omega), if_neg (by omega), if_neg (by omega), if_pos i1]; rfl
    rw [hck]
    rw [hnz] at hn2 rl ⊢
    have hge := k_groundExpr (d := d) (by omega) h10 h11 hP h5 h2 h1 h7 h9 i4 hn2
    cases hx : rE env i.2.2.2.2.2 with
    | none =>
      rw [hx] at hge
      obtain ⟨s', e1, e2⟩ := hge
      exact ⟨s', te_bad hu hk hK2 (st_ask hk200 i2 i3 e1 (Or.inl rfl)) (by rw [e2 _ _ (fun z => rl (LUF_CKF z)), a0]), e2.mono (fun _ _ h => LUF_CKF h)⟩
    | some e' =>
      rw [hx] at hge
      obtain ⟨s', e1, e2, e3⟩ := hge
      have hes := rE_esz hx
      have hkd : s' 125 k = 63 := by rw [e3 _ _ (fun z => CKF_no (k := k) (n := n) (n' := n + esz i.2.2.2.2.2) (L := 0) ho (Or.inl ⟨by decide, by decide, by decide⟩) (LUF_CKF z)), i2]
      have hle : s' 127 k = ((n + esz i.2.2.2.2.2 - 1 : Nat) : Int) := by rw [e3 _ _ (by unfold LUF; omega), i3]
      refine ⟨s', te_ok hu hk hK2 (st_ask hk200 i2 i3 e1 (Or.inr rfl)) hkd (by decide), KCc_LUF hK' e3, Or.inr (Or.inl ⟨i1, hkd, e', n, rfl, e2, by rw [hes]; exact hle, hn, by rw [hes]; exact Nat.le_refl _⟩), ?_, by rw [e3 _ _ (by unfold LUF; omega), hc]; rfl, ⟨[], by rw [List.append_nil]⟩, by show 0 ≤ 24; omega, e3.mono (fun _ _ h => LUF_CKF h)⟩
      have hcv : cv1 env i = [some e'] := by unfold cv1; rw [if_pos (Or.inr i1), hx]
      rw [hcv]
      exact ⟨e2, by rw [hes]; rfl⟩
  · have hnz : nsz i = 0 := by unfold nsz; rw [if_neg (by omega), if_neg (by omega)]
    have hck : ck1 env sg i = some (env, sg, [(i.1, 0, .null)]) := by unfold ck1; rw [if_neg (by omega), if_neg (by omega), if_neg (by omega), if_neg (by omega)]
    have hcv : cv1 env i = [] := by unfold cv1; rw [if_neg (by omega), if_neg (by omega)]
    rw [hck, hcv, hnz, i1]
    exact ⟨s, te_ok hu hk hK2 (st_turn hk200 i2) i2 (by decide), hK', Or.inr (Or.inr (Or.inl ⟨rfl, i2, rfl⟩)), rfl, by rw [hc]; rfl, ⟨[], by rw [List.append_nil]⟩, by show 0 ≤ 24; omega, Fr.rf s⟩
  · have hnz : nsz i = 0 := by unfold nsz; rw [if_neg (by omega), if_neg (by omega)]
    have hck : ck1 env sg i = some (env, sg, [(i.1, 0, .null)]) := by unfold ck1; rw [if_neg (by omega), if_neg (by omega), if_neg (by omega), if_neg (by omega)]
    have hcv : cv1 env i = [] := by unfold cv1; rw [if_neg (by omega), if_neg (by omega)]
    rw [hck, hcv, hnz, i1]
    exact ⟨s, te_ok hu hk hK2 (st_close hk200 i2) i2 (by decide), hK', Or.inr (Or.inr (Or.inr (Or.inl ⟨rfl, i2, rfl⟩))), rfl, by rw [hc]; rfl, ⟨[], by rw [List.append_nil]⟩, by show 0 ≤ 24; omega, Fr.rf s⟩
  · have hnz : nsz i = 0 := by unfold nsz; rw [if_neg (by omega), if_neg (by omega)]
    have hck : ck1 env sg i = if env i.2.2.1 = none ∧ sg.length + tsz i.2.2.2.2.2 ≤ 24 then some (eUp env i.2.2.1 (i.2.2.2.2.2, sg.length), sg ++ sgOf i.2.2.2.1 i.2.2.1 i.2.2.2.2.2, []) else none := by unfold ck1; rw [if_pos i1]
    have hcv : cv1 env i = [] := by unfold cv1; rw [if_neg (by omega), if_neg (by omega)]
    have hdl := k_declares (d := d) (k := k) (by omega) hK' hk200 i2 i3 i4 i5 i6 i7 (hi i1)
    rw [hck, hcv]
    by_cases hc' : env i.2.2.1 = none ∧ sg.length + tsz i.2.2.2.2.2 ≤ 24
    · rw [if_pos hc'] at hdl ⊢
      obtain ⟨s', e1, e2, e3⟩ := hdl
      have hq : ∀ c j, c ≠ 134 → c ≠ 135 → ¬ SGF o sg.length 24 c j → s' c j = s c j := fun c j a b z => e3 _ _ (fun y => y.elim z (fun y => y.elim a b))
      have hkd : s' 125 k = kLt i.2.2.2.1 := by rw [hq _ _ (by decide) (by decide) (by unfold SGF; omega), i2]
      refine ⟨s', te_ok hu hk hK2 (st_decl hk200 i2 i3 e1 (Or.inr rfl)) hkd ?_, e2, Or.inr (Or.inr (Or.inr (Or.inr (Or.inl ⟨i1, ⟨_, i3, hkd⟩, rfl⟩)))), by rw [hnz]; rfl, by rw [hq _ _ (by omega) (by omega) (by unfold SGF; omega), hc]; rfl, ⟨_, rfl⟩, by show 0 ≤ 24; omega, e3.mono (fun _ _ h => h.elim (fun h => Or.inr (Or.inl h)) (fun h => h.elim (fun h => Or.inr (Or.inr (Or.inl h))) (fun h => Or.inr (Or.inr (Or.inr (Or.inl h))))))⟩
      rcases (by omega : i.2.2.2.1 = 0 ∨ i.2.2.2.1 = 1 ∨ i.2.2.2.1 = 2 ∨ i.2.2.2.1 = 3) with z | z | z | z <;> rw [z] <;> decide
    · rw [if_neg hc'] at hdl ⊢
      exact ⟨s, te_bad hu hk hK2 (st_decl hk200 i2 i3 hdl (Or.inl rfl)) a0, Fr.rf s⟩
  · have hnz : nsz i = esz i.2.2.2.2.2 := by unfold nsz; rw [if_neg (by omega), if_pos (Or.inr i1)]
    have hck : ck1 env sg i = if env i.2.2.1 = none ∧ sg.length + 1 ≤ 24 then
      match rE env i.2.2.2.2.2 with
      | some e' => some (eUp env i.2.2.1 (tU 0, sg.length), sg ++ [(4, i.2.2.1, 0, 0, e')], [])
      | none => none
    else none := by unfold ck1; rw [if_neg (by omega), if_pos i1]; rfl
    rw [hck]
    rw [hnz] at hn2 rl ⊢
    have hdn := k_declaresNode (d := d) (k := k) (by omega) hK' hP hk200 i4 i5 i6 i7 hn2 ht0 hU
    by_cases hc' : env i.2.2.1 = none ∧ sg.length + 1 ≤ 24
    · rw [if_pos hc'] at hdn ⊢
      cases hx : rE env i.2.2.2.2.2 with
      | none =>
        rw [hx] at hdn
        obtain ⟨s', e1, e2⟩ := hdn
        exact ⟨s', te_bad hu hk hK2 (st_node hk200 i2 e1 (Or.inl rfl)) (by rw [e2 _ _ (fun z => rl (LUF_CKF z)), a0]), e2.mono (fun _ _ h => LUF_CKF h)⟩
      | some e' =>
        rw [hx] at hdn
        obtain ⟨s', e1, e2, e3, e4, e5⟩ := hdn
        have hes := rE_esz hx
        have F := e5.mono (fun _ _ h => DNF_CKF h)
        have hkd : s' 125 k = 78 := by rw [F _ _ (CKF_no ho (Or.inl ⟨by decide, by decide, by decide⟩)), i2]
        refine ⟨s', te_ok hu hk hK2 (st_node hk200 i2 e1 (Or.inr rfl)) hkd (by decide), e2, Or.inr (Or.inr (Or.inr (Or.inr (Or.inr ⟨i1, hkd, rfl, e4, e', n, i.2.2.1, ?_, e3, ?_, hn, by rw [hes]; exact Nat.le_refl _⟩)))), ?_, ?_, ⟨_, rfl⟩, by show 0 ≤ 24; omega, F⟩
        · rw [List.getElem?_append_right (by show sg.length ≤ sg.length; omega)]
          simp
        · rw [hes, F _ _ (CKF_no ho (Or.inl ⟨by decide, by decide, by decide⟩)), i6]
        · have hcv : cv1 env i = [some e'] := by unfold cv1; rw [if_pos (Or.inl i1), hx]
          rw [hcv]
          exact ⟨e3, by rw [hes]; rfl⟩
        · rw [e5 _ _ (by unfold DNF LUF SGF; omega), hc]
          rfl
    · rw [if_neg hc'] at hdn ⊢
      exact ⟨s, te_bad hu hk hK2 (st_node hk200 i2 hdn (Or.inl rfl)) a0, Fr.rf s⟩
