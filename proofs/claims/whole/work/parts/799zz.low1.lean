/-! THE CLASS: the steps of the lowering, machine -/
theorem rcnB {e : Nat} (he : e < 3) : rcn 140 e = 141 + e := by
  rcases (by omega : e = 0 ∨ e = 1 ∨ e = 2) with rfl | rfl | rfl <;> rfl
theorem rcnF {e : Nat} (he : e < 3) : rcn 144 e = 145 + e := by
  rcases (by omega : e = 0 ∨ e = 1 ∨ e = 2) with rfl | rfl | rfl <;> rfl
theorem aNB {e : Nat} (he : e < 3) : aN1 (141 + e) = 24 := by
  rcases (by omega : e = 0 ∨ e = 1 ∨ e = 2) with rfl | rfl | rfl <;> rfl
theorem aNF {e : Nat} (he : e < 3) : aN1 (145 + e) = 24 := by
  rcases (by omega : e = 0 ∨ e = 1 ∨ e = 2) with rfl | rfl | rfl <;> rfl
def opS (s : Mem) (e : Nat) (root t : Int) : Mem := mu (mu (mu (cpM (mu s 148 e root) 139 0 (141 + e) 0 24) 149 e t) 137 10 0) 137 9 ((e : Int) + 1)
theorem cp_o {s : Mem} {a sp b dp n k j : Nat} (h : k ≠ b ∨ j < dp ∨ dp + n ≤ j) : cpM s a sp b dp n k j = s k j := by
  unfold cpM
  rw [if_neg (by omega)]
theorem cp_i {s : Mem} {a b n j : Nat} (h : j < n) : cpM s a 0 b 0 n b j = s a j := by
  unfold cpM
  rw [if_pos ⟨rfl, Nat.zero_le _, by omega⟩, Nat.zero_add, Nat.sub_zero]
theorem k_open {d e : Nat} {root t : Int} {s : Mem} (hd : 1 ≤ d) (he : e < 3) (hdp : s 137 9 = e) (ht : s 137 10 = t) : Zc d 106 [aR 137, aI root] s = rV (opS s e root t) := by
  obtain ⟨d, rfl⟩ : ∃ e, d = e + 1 := ⟨d - 1, by omega⟩
  have hB := aNB he
  have h4 : (0 : Int) + 24 ≤ aN1 139 := by decide
  have hR : aN4 140 = 3 := rfl
  have z24 : Int.toNat 24 = 24 := rfl
  have c1 : ∀ s : Mem, cpM s 139 0 (141 + e) 0 24 137 9 = s 137 9 := fun s => cp_o (by omega)
  have c2 : ∀ s : Mem, cpM s 139 0 (141 + e) 0 24 137 10 = s 137 10 := fun s => cp_o (by omega)
  unfold opS
  simp (disch := first | exact obC_137 | omega | (simp only [aN1_139, aN1_141, aN1_142, aN1_143, aN1_148, aN1_149, aN4_140]; omega) | (simp only [List.length_cons, List.length_nil]; omega)) only [en106, x106_0, x106_1, x106_4, x106_5, x106_8, x106_9, x106_10, x106_11, x106_14, x106_15, x106_16, x106_19, x106_20, x106_23, x106_24, x106_25, x106_27, x106_30, x106_31, x106_34, x106_35, x106_38, x106_39, x106_42, x106_43, x106_44, x106_45, x106_48, x106_49, x106_49i, x106_50, x106_53, x106_54, x106_55, x106_58, fcn_137_3, fcn_137_4, fcn_137_6, fcn_137_7, rcn_140_0, rcn_140_1, rcn_140_2, if_true, if_false, eq_self, Int.reduceEq, Int.reduceLT, Int.reduceLE, Int.reduceAdd, Int.reduceSub, Int.reduceMul, Int.reduceToNat, Nat.reduceAdd, Nat.reduceMul, Nat.reduceEqDiff, Int.toNat_natCast, wrap_id, hdp, ht, mu_c, mu_i, mu_s, rcnB he, c1, c2, Int.toNat_zero, z24]
def tnS (s : Mem) (i : Nat) : Mem := cpM (cpM s 139 0 (145 + i) 0 24) (141 + i) 0 139 0 24
theorem k_turn {d i : Nat} {s : Mem} (hd : 1 ≤ d) (he : i < 3) (hdp : s 137 9 = ((i + 1 : Nat) : Int)) : Zc d 107 [aR 137] s = rV (tnS s i) := by
  obtain ⟨d, rfl⟩ : ∃ e, d = e + 1 := ⟨d - 1, by omega⟩
  have hB := aNB he
  have hF := aNF he
  have h4 : aN1 139 = 24 := rfl
  have hR : aN4 140 = 3 := rfl
  have hR2 : aN4 144 = 3 := rfl
  have z24 : Int.toNat 24 = 24 := rfl
  have z1 : ((i + 1 : Nat) : Int) - 1 = i := by omega
  have c1 : ∀ s : Mem, cpM s 139 0 (145 + i) 0 24 137 9 = s 137 9 := fun s => cp_o (by omega)
  unfold tnS
  simp (disch := first | exact obC_137 | omega | (simp only [aN1_139, aN1_141, aN1_142, aN1_143, aN1_145, aN1_146, aN1_147, aN4_140, aN4_144]; omega) | (simp only [List.length_cons, List.length_nil]; omega)) only [en107, x107_0, x107_1, x107_4, x107_5, x107_6, x107_9, x107_10, x107_13, x107_14, x107_15, x107_16, x107_17, x107_19, x107_22, x107_23, x107_26, x107_27, x107_30, x107_31, x107_32, x107_33, x107_34, x107_35, x107_38, x107_39, x107_41, x107_44, fcn_137_3, fcn_137_4, fcn_137_5, rcn_140_0, rcn_140_1, rcn_140_2, rcn_144_0, rcn_144_1, rcn_144_2, if_true, if_false, eq_self, Int.reduceEq, Int.reduceLT, Int.reduceLE, Int.reduceAdd, Int.reduceSub, Int.reduceMul, Int.reduceToNat, Nat.reduceAdd, Nat.reduceMul, Nat.reduceEqDiff, Int.toNat_natCast, wrap_id, hdp, z1, rcnB he, rcnF he, c1, Int.toNat_zero, z24]
def chS (s : Mem) (o K : Nat) (a b c : Int) : Mem := mu (mu (mu (mu s (74 + o) K a) (75 + o) K b) (76 + o) K c) (58 + o) 6 ((K : Int) + 1)
theorem k_addChoice {d o K : Nat} {a b c : Int} {s : Mem} (hd : 1 ≤ d) (ho : o = 0 ∨ o = 26) (hK : s (58 + o) 6 = K) (hK2 : K < 840) : Zc d 91 [aR (58 + o), aI a, aI b, aI c] s = rI ((225 + K : Nat) : Int) (chS s o K a b c) := by
  obtain ⟨d, rfl⟩ : ∃ e, d = e + 1 := ⟨d - 1, by omega⟩
  have z : ((225 + K : Nat) : Int) = 225 + (K : Int) := rfl
  unfold chS
  simp (disch := first | exact (obCO_58 ho) | omega | (simp only [(aN1O_74 ho), (aN1O_75 ho), (aN1O_76 ho)]; omega) | (simp only [List.length_cons, List.length_nil]; omega)) only [en91, x91_0, x91_1, x91_4, x91_6, x91_7, x91_10, x91_12, x91_13, x91_14, x91_15, x91_18, x91_20, x91_21, x91_22, x91_23, x91_26, x91_28, x91_29, x91_30, x91_31, x91_31i, x91_32, x91_35, x91_36, x91_37, x91_40, x91_43, x91_45, x91_46, (fcnO_58_3 ho), (fcnO_58_4 ho), (fcnO_58_5 ho), if_true, if_false, eq_self, Int.reduceEq, Int.reduceLT, Int.reduceLE, Int.reduceAdd, Int.reduceSub, Int.reduceMul, Int.reduceToNat, Nat.reduceAdd, Nat.reduceMul, Nat.reduceEqDiff, Int.toNat_natCast, wrap_id, hK, mu_c, mu_i, mu_s, z]
/-- one signal is closed -/
def clS (s : Mem) (o K k : Nat) (rt x y n : Int) : Mem := mu (mu (chS s o K rt x y) 138 (225 + K) n) 139 k ((225 + K : Nat) : Int)
theorem cl_hit {d o i k K t x y rt : Nat} {l3 l4 : AV} {s : Mem} (hd : 1 ≤ d) (ho : o = 0 ∨ o = 26) (hi : i < 3) (hk : k < 24) (hdp : s 137 9 = i) (ht : s 137 10 = t) (ht2 : t < 2 ^ 24) (hb : t.testBit k = true) (hx : s (145 + i) k = x) (hy : s 139 k = y) (ha : s 148 i = rt) (hx2 : x < 1065) (hy2 : y < 1065) (ha2 : rt < 1065) (hK : s (58 + o) 6 = K) (hK2 : K < 840) :
    Ze d 108 12 [aR 137, aR (58 + o), aI k, l3, l4] [] s = Ze d 108 12 [aR 137, aR (58 + o), aI ((k + 1 : Nat) : Int), aI x, aI ((225 + K : Nat) : Int)] [] (clS s o K k rt x y (ior (ior (s 138 rt) (s 138 x)) (s 138 y))) := by
  have hF := aNF hi
  have hR2 : aN4 144 = 3 := rfl
  have hbit := b_bit (n := t) (h := k) ht2 hk
  rw [hb] at hbit
  have hbit' : iand (ishr t k) 1 = 1 := hbit
  have hch := fun (a b c : Int) => k_addChoice (d := d) (a := a) (b := b) (c := c) hd ho hK hK2
  have c1 : ∀ (a b c : Int) (q j : Nat), q < 58 ∨ 83 + 26 < q → chS s o K a b c q j = s q j := fun a b c q j h => by
    unfold chS
    rw [mu_c (by omega), mu_c (by omega), mu_c (by omega), mu_c (by omega)]
  have e1 := fun (a b c : Int) (j : Nat) => c1 a b c 138 j (by omega)
  have e2 := fun (a b c : Int) (j : Nat) => c1 a b c 148 j (by omega)
  have e3 := fun (a b c : Int) (j : Nat) => c1 a b c 139 j (by omega)
  have e4 := fun (a b c : Int) (j : Nat) => c1 a b c 137 j (by omega)
  rw [x108_12, show ((k + 1 : Nat) : Int) = (k : Int) + 1 from rfl]
  unfold clS
  simp (disch := first | exact obC_137 | exact (obCO_58 ho) | omega | (simp only [aN1_138, aN1_139, aN1_145, aN1_146, aN1_147, aN1_148, aN1_149, aN4_144]; omega) | (simp only [List.length_cons, List.length_nil]; omega)) only [en108, x108_0, x108_1, x108_1i, x108_2, x108_5, x108_6, x108_7, x108_10, x108_11, x108_13, x108_15, x108_18, x108_19, x108_22, x108_23, x108_24, x108_25, x108_26, x108_27, x108_30, x108_31, x108_34, x108_35, x108_38, x108_39, x108_40, x108_41, x108_42, x108_43, x108_44, x108_47, x108_48, x108_51, x108_52, x108_53, x108_54, x108_57, x108_58, x108_59, x108_62, x108_64, x108_65, x108_68, x108_70, x108_71, x108_74, x108_75, x108_78, x108_79, x108_82, x108_83, x108_84, x108_85, x108_88, x108_89, x108_90, x108_91, x108_92, x108_95, x108_96, x108_99, x108_100, x108_101, x108_102, x108_103, x108_104, x108_105, x108_108, x108_109, x108_111, x108_112, x108_115, x108_118, x108_119, x108_119i, x108_120, x108_123, x108_124, x108_127, x108_128, x108_131, x108_132, x108_133, x108_136, fcn_137_2, fcn_137_3, fcn_137_5, fcn_137_6, fcn_137_7, rcn_144_0, rcn_144_1, rcn_144_2, if_true, if_false, eq_self, Int.reduceEq, Int.reduceLT, Int.reduceLE, Int.reduceAdd, Int.reduceSub, Int.reduceMul, Int.reduceToNat, Nat.reduceAdd, Nat.reduceMul, Nat.reduceEqDiff, Int.toNat_natCast, wrap_id, if_pos (show (k : Int) < 24 by omega), ht, hbit', hdp, rcnF hi, hx, ha, hy, hch, zcI_r, e1, e2, e3, e4]
theorem cl_miss {d o k t : Nat} {l3 l4 : AV} {s : Mem} (ho : o = 0 ∨ o = 26) (hk : k < 24) (ht : s 137 10 = t) (ht2 : t < 2 ^ 24) (hb : t.testBit k = false) :
    Ze d 108 12 [aR 137, aR (58 + o), aI k, l3, l4] [] s = Ze d 108 12 [aR 137, aR (58 + o), aI ((k + 1 : Nat) : Int), l3, l4] [] s := by
  have hbit := b_bit (n := t) (h := k) ht2 hk
  rw [hb] at hbit
  have hbit' : iand (ishr t k) 1 = 0 := hbit
  rw [x108_12, show ((k + 1 : Nat) : Int) = (k : Int) + 1 from rfl]
  simp (disch := first | exact obC_137 | exact (obCO_58 ho) | omega | (simp only [aN1_138, aN1_139, aN1_145, aN1_146, aN1_147, aN1_148, aN1_149, aN4_144]; omega) | (simp only [List.length_cons, List.length_nil]; omega)) only [en108, x108_0, x108_1, x108_1i, x108_2, x108_5, x108_6, x108_7, x108_10, x108_11, x108_13, x108_15, x108_18, x108_19, x108_22, x108_23, x108_24, x108_25, x108_26, x108_27, x108_30, x108_31, x108_34, x108_35, x108_38, x108_39, x108_40, x108_41, x108_42, x108_43, x108_44, x108_47, x108_48, x108_51, x108_52, x108_53, x108_54, x108_57, x108_58, x108_59, x108_62, x108_64, x108_65, x108_68, x108_70, x108_71, x108_74, x108_75, x108_78, x108_79, x108_82, x108_83, x108_84, x108_85, x108_88, x108_89, x108_90, x108_91, x108_92, x108_95, x108_96, x108_99, x108_100, x108_101, x108_102, x108_103, x108_104, x108_105, x108_108, x108_109, x108_111, x108_112, x108_115, x108_118, x108_119, x108_119i, x108_120, x108_123, x108_124, x108_127, x108_128, x108_131, x108_132, x108_133, x108_136, fcn_137_2, fcn_137_3, fcn_137_5, fcn_137_6, fcn_137_7, rcn_144_0, rcn_144_1, rcn_144_2, if_true, if_false, eq_self, Int.reduceEq, Int.reduceLT, Int.reduceLE, Int.reduceAdd, Int.reduceSub, Int.reduceMul, Int.reduceToNat, Nat.reduceAdd, Nat.reduceMul, Nat.reduceEqDiff, Int.toNat_natCast, wrap_id, if_pos (show (k : Int) < 24 by omega), ht, hbit', if_neg (show ¬ (0 : Int) = 1 by decide)]
theorem cl_end {d o i : Nat} {t u : Int} {l3 l4 : AV} {s : Mem} (ho : o = 0 ∨ o = 26) (hi : i < 3) (hdp : s 137 9 = i) (ht : s 137 10 = t) (hu : s 149 i = u) :
    Ze d 108 12 [aR 137, aR (58 + o), aI ((24 : Nat) : Int), l3, l4] [] s = rV (mu s 137 10 (ior t u)) := by
  rw [x108_12]
  simp (disch := first | exact obC_137 | exact (obCO_58 ho) | omega | (simp only [aN1_138, aN1_139, aN1_145, aN1_146, aN1_147, aN1_148, aN1_149, aN4_144]; omega) | (simp only [List.length_cons, List.length_nil]; omega)) only [en108, x108_0, x108_1, x108_1i, x108_2, x108_5, x108_6, x108_7, x108_10, x108_11, x108_13, x108_15, x108_18, x108_19, x108_22, x108_23, x108_24, x108_25, x108_26, x108_27, x108_30, x108_31, x108_34, x108_35, x108_38, x108_39, x108_40, x108_41, x108_42, x108_43, x108_44, x108_47, x108_48, x108_51, x108_52, x108_53, x108_54, x108_57, x108_58, x108_59, x108_62, x108_64, x108_65, x108_68, x108_70, x108_71, x108_74, x108_75, x108_78, x108_79, x108_82, x108_83, x108_84, x108_85, x108_88, x108_89, x108_90, x108_91, x108_92, x108_95, x108_96, x108_99, x108_100, x108_101, x108_102, x108_103, x108_104, x108_105, x108_108, x108_109, x108_111, x108_112, x108_115, x108_118, x108_119, x108_119i, x108_120, x108_123, x108_124, x108_127, x108_128, x108_131, x108_132, x108_133, x108_136, fcn_137_2, fcn_137_3, fcn_137_5, fcn_137_6, fcn_137_7, rcn_144_0, rcn_144_1, rcn_144_2, if_true, if_false, eq_self, Int.reduceEq, Int.reduceLT, Int.reduceLE, Int.reduceAdd, Int.reduceSub, Int.reduceMul, Int.reduceToNat, Nat.reduceAdd, Nat.reduceMul, Nat.reduceEqDiff, Int.toNat_natCast, wrap_id, if_neg (show ¬ ((24 : Nat) : Int) < 24 by decide), hdp, ht, hu]
theorem cl_start {d o i : Nat} {s : Mem} (hi : i < 3) (hdp : s 137 9 = ((i + 1 : Nat) : Int)) : Zc (d + 1) 108 [aR 137, aR (58 + o)] s = Ze d 108 12 [aR 137, aR (58 + o), aI ((0 : Nat) : Int), aU, aU] [] (mu s 137 9 i) := by
  have z1 : ((i + 1 : Nat) : Int) - 1 = i := by omega
  have z0 : ((0 : Nat) : Int) = 0 := rfl
  simp (disch := first | exact obC_137 | omega | (simp only [aN1_138, aN1_139, aN1_145, aN1_146, aN1_147, aN1_148, aN1_149, aN4_144]; omega) | (simp only [List.length_cons, List.length_nil]; omega)) only [en108, x108_0, x108_1, x108_1i, x108_2, x108_5, x108_6, x108_7, x108_10, x108_11, x108_13, x108_15, x108_18, x108_19, x108_22, x108_23, x108_24, x108_25, x108_26, x108_27, x108_30, x108_31, x108_34, x108_35, x108_38, x108_39, x108_40, x108_41, x108_42, x108_43, x108_44, x108_47, x108_48, x108_51, x108_52, x108_53, x108_54, x108_57, x108_58, x108_59, x108_62, x108_64, x108_65, x108_68, x108_70, x108_71, x108_74, x108_75, x108_78, x108_79, x108_82, x108_83, x108_84, x108_85, x108_88, x108_89, x108_90, x108_91, x108_92, x108_95, x108_96, x108_99, x108_100, x108_101, x108_102, x108_103, x108_104, x108_105, x108_108, x108_109, x108_111, x108_112, x108_115, x108_118, x108_119, x108_119i, x108_120, x108_123, x108_124, x108_127, x108_128, x108_131, x108_132, x108_133, x108_136, fcn_137_2, fcn_137_3, fcn_137_5, fcn_137_6, fcn_137_7, rcn_144_0, rcn_144_1, rcn_144_2, if_true, if_false, eq_self, Int.reduceEq, Int.reduceLT, Int.reduceLE, Int.reduceAdd, Int.reduceSub, Int.reduceMul, Int.reduceToNat, Nat.reduceAdd, Nat.reduceMul, Nat.reduceEqDiff, Int.toNat_natCast, wrap_id, hdp, z1, z0]
theorem cc_one {d o k n i g v t : Nat} {l5 : AV} {s : Mem} (ho : o = 0 ∨ o = 26) (hi : i < n) (hn : n ≤ 24) (e1 : Zc d 99 [aR 130, aR (58 + o), aI k, aI i] s = rI g s) (hg : g < 24) (e2 : Zc d 100 [aR 130, aR (58 + o), aI k, aI i] s = rI v s) (ht : s 137 10 = t) :
    Ze d 105 13 [aR 137, aR (58 + o), aI k, aI n, aI i, l5] [] s = Ze d 105 13 [aR 137, aR (58 + o), aI k, aI n, aI ((i + 1 : Nat) : Int), aI g] [] (mu (mu s 139 g v) 137 10 (ior t (ishl 1 g))) := by
  rw [x105_13, show ((i + 1 : Nat) : Int) = (i : Int) + 1 from rfl]
  simp (disch := first | exact obC_130 | exact obC_137 | omega | (simp only [aN1_139]; omega) | (simp only [List.length_cons, List.length_nil]; omega)) only [en105, x105_0, x105_1, x105_4, x105_5, x105_6, x105_9, x105_10, x105_11, x105_15, x105_16, x105_19, x105_20, x105_23, x105_24, x105_25, x105_27, x105_30, x105_32, x105_33, x105_36, x105_38, x105_39, x105_42, x105_43, x105_44, x105_46, x105_49, x105_50, x105_51, x105_51i, x105_52, x105_55, x105_56, x105_58, x105_59, x105_60, x105_63, x105_66, x105_69, fcn_137_1, fcn_137_3, if_true, if_false, eq_self, Int.reduceEq, Int.reduceLT, Int.reduceLE, Int.reduceAdd, Int.reduceSub, Int.reduceMul, Int.reduceToNat, Nat.reduceAdd, Nat.reduceMul, Nat.reduceEqDiff, Int.toNat_natCast, wrap_id, if_pos (show (i : Int) < n by omega), e1, e2, zcI_r, ht, mu_c]
theorem cc_end {d o k n : Nat} {l5 : AV} {s : Mem} : Ze d 105 13 [aR 137, aR (58 + o), aI k, aI n, aI n, l5] [] s = rV s := by
  rw [x105_13]
  simp (disch := first | exact obC_130 | exact obC_137 | omega | (simp only [aN1_139]; omega) | (simp only [List.length_cons, List.length_nil]; omega)) only [en105, x105_0, x105_1, x105_4, x105_5, x105_6, x105_9, x105_10, x105_11, x105_15, x105_16, x105_19, x105_20, x105_23, x105_24, x105_25, x105_27, x105_30, x105_32, x105_33, x105_36, x105_38, x105_39, x105_42, x105_43, x105_44, x105_46, x105_49, x105_50, x105_51, x105_51i, x105_52, x105_55, x105_56, x105_58, x105_59, x105_60, x105_63, x105_66, x105_69, fcn_137_1, fcn_137_3, if_true, if_false, eq_self, Int.reduceEq, Int.reduceLT, Int.reduceLE, Int.reduceAdd, Int.reduceSub, Int.reduceMul, Int.reduceToNat, Nat.reduceAdd, Nat.reduceMul, Nat.reduceEqDiff, Int.toNat_natCast, wrap_id, if_neg (show ¬ (n : Int) < n by omega)]
theorem cc_start {d o k n : Nat} {s : Mem} (e1 : Zc d 98 [aR 130, aR (58 + o), aI k] s = rI n s) : Zc (d + 1) 105 [aR 137, aR (58 + o), aI k] s = Ze d 105 13 [aR 137, aR (58 + o), aI k, aI n, aI ((0 : Nat) : Int), aU] [] s := by
  have z0 : ((0 : Nat) : Int) = 0 := rfl
  simp (disch := first | exact obC_130 | exact obC_137 | omega | (simp only [aN1_139]; omega) | (simp only [List.length_cons, List.length_nil]; omega)) only [en105, x105_0, x105_1, x105_4, x105_5, x105_6, x105_9, x105_10, x105_11, x105_15, x105_16, x105_19, x105_20, x105_23, x105_24, x105_25, x105_27, x105_30, x105_32, x105_33, x105_36, x105_38, x105_39, x105_42, x105_43, x105_44, x105_46, x105_49, x105_50, x105_51, x105_51i, x105_52, x105_55, x105_56, x105_58, x105_59, x105_60, x105_63, x105_66, x105_69, fcn_137_1, fcn_137_3, if_true, if_false, eq_self, Int.reduceEq, Int.reduceLT, Int.reduceLE, Int.reduceAdd, Int.reduceSub, Int.reduceMul, Int.reduceToNat, Nat.reduceAdd, Nat.reduceMul, Nat.reduceEqDiff, Int.toNat_natCast, wrap_id, e1, zcI_r, z0]
