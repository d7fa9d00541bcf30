theorem fi_q {d k u o i r1 : Nat} {T : Tx} {s s' : Mem}  (hd : 1 ≤ d) (h : KS s T u o k) (hi : i ≤ 200) (hf : s 131 5 = -1) (hk : s 111 k = 63) (e : Zc d 128 [aR 131] s = rV s') : Ze d 123 7 [aR 131, aR r1, aI i] [] s = Ze d 123 7 [aR 131, aR r1, aI ((i + 1 : Nat) : Int)] [] s' := by
  rw [show ((i + 1 : Nat) : Int) = (i : Int) + 1 from rfl, x123_7]
  have hkd := kt_kind (d := d) hd h
  by_cases hdp : 0 < s 131 6
  · simp (disch := first | exact obC_131 | omega | (simp only [List.length_cons, List.length_nil]; omega)) only [en123, x123_0, x123_1, x123_2, x123_5, x123_6, x123_8, x123_11, x123_14, x123_15, x123_18, x123_19, x123_22, x123_23, x123_26, x123_29, x123_30, x123_33, x123_36, x123_37, x123_40, x123_108, x123_109, x123_112, x123_115, x123_116, x123_119, x123_122, x123_123, x123_126, x123_129, x123_130, x123_133, x123_136, x123_137, x123_140, x123_143, x123_146, x123_147, x123_150, if_true, if_false, eq_self, Int.reduceEq, Int.reduceLT, Int.reduceLE, Int.reduceAdd, Int.reduceSub, Int.reduceMul, Int.reduceToNat, Nat.reduceAdd, Nat.reduceMul, Nat.reduceEqDiff, Int.toNat_natCast, wrap_id, if_neg (show ¬ 200 < (i : Int) by omega), hf, hkd, zcI_r, zcV_r, selZ, e, hk, if_pos hdp]
  · simp (disch := first | exact obC_131 | omega | (simp only [List.length_cons, List.length_nil]; omega)) only [en123, x123_0, x123_1, x123_2, x123_5, x123_6, x123_8, x123_11, x123_14, x123_15, x123_18, x123_19, x123_22, x123_23, x123_26, x123_29, x123_30, x123_33, x123_36, x123_37, x123_40, x123_108, x123_109, x123_112, x123_115, x123_116, x123_119, x123_122, x123_123, x123_126, x123_129, x123_130, x123_133, x123_136, x123_137, x123_140, x123_143, x123_146, x123_147, x123_150, if_true, if_false, eq_self, Int.reduceEq, Int.reduceLT, Int.reduceLE, Int.reduceAdd, Int.reduceSub, Int.reduceMul, Int.reduceToNat, Nat.reduceAdd, Nat.reduceMul, Nat.reduceEqDiff, Int.toNat_natCast, wrap_id, if_neg (show ¬ 200 < (i : Int) by omega), hf, hkd, zcI_r, zcV_r, selZ, e, hk, if_neg hdp]

theorem fi_c {d k u o i r1 : Nat} {T : Tx} {s s' : Mem}  (hd : 1 ≤ d) (h : KS s T u o k) (hi : i ≤ 200) (hf : s 131 5 = -1) (hk : s 111 k = 125) (e : Zc d 129 [aR 131] s = rV s') : Ze d 123 7 [aR 131, aR r1, aI i] [] s = Ze d 123 7 [aR 131, aR r1, aI ((i + 1 : Nat) : Int)] [] s' := by
  rw [show ((i + 1 : Nat) : Int) = (i : Int) + 1 from rfl, x123_7]
  have hkd := kt_kind (d := d) hd h
  by_cases hdp : 0 < s 131 6
  · simp (disch := first | exact obC_131 | omega | (simp only [List.length_cons, List.length_nil]; omega)) only [en123, x123_0, x123_1, x123_2, x123_5, x123_6, x123_8, x123_11, x123_14, x123_15, x123_18, x123_19, x123_22, x123_23, x123_26, x123_29, x123_30, x123_33, x123_36, x123_37, x123_40, x123_108, x123_109, x123_112, x123_115, x123_116, x123_119, x123_122, x123_123, x123_126, x123_129, x123_130, x123_133, x123_136, x123_137, x123_140, x123_143, x123_146, x123_147, x123_150, if_true, if_false, eq_self, Int.reduceEq, Int.reduceLT, Int.reduceLE, Int.reduceAdd, Int.reduceSub, Int.reduceMul, Int.reduceToNat, Nat.reduceAdd, Nat.reduceMul, Nat.reduceEqDiff, Int.toNat_natCast, wrap_id, if_neg (show ¬ 200 < (i : Int) by omega), hf, hkd, zcI_r, zcV_r, selZ, e, hk, if_pos hdp]
  · simp (disch := first | exact obC_131 | omega | (simp only [List.length_cons, List.length_nil]; omega)) only [en123, x123_0, x123_1, x123_2, x123_5, x123_6, x123_8, x123_11, x123_14, x123_15, x123_18, x123_19, x123_22, x123_23, x123_26, x123_29, x123_30, x123_33, x123_36, x123_37, x123_40, x123_108, x123_109, x123_112, x123_115, x123_116, x123_119, x123_122, x123_123, x123_126, x123_129, x123_130, x123_133, x123_136, x123_137, x123_140, x123_143, x123_146, x123_147, x123_150, if_true, if_false, eq_self, Int.reduceEq, Int.reduceLT, Int.reduceLE, Int.reduceAdd, Int.reduceSub, Int.reduceMul, Int.reduceToNat, Nat.reduceAdd, Nat.reduceMul, Nat.reduceEqDiff, Int.toNat_natCast, wrap_id, if_neg (show ¬ 200 < (i : Int) by omega), hf, hkd, zcI_r, zcV_r, selZ, e, hk, if_neg hdp]

theorem fi_n {d k u o i r1 : Nat} {T : Tx} {s s' : Mem}  (hd : 1 ≤ d) (h : KS s T u o k) (hi : i ≤ 200) (hf : s 131 5 = -1) (hk : s 111 k = 78) (e : Zc d 126 [aR 131] s = rV s') : Ze d 123 7 [aR 131, aR r1, aI i] [] s = Ze d 123 7 [aR 131, aR r1, aI ((i + 1 : Nat) : Int)] [] s' := by
  rw [show ((i + 1 : Nat) : Int) = (i : Int) + 1 from rfl, x123_7]
  have hkd := kt_kind (d := d) hd h
  by_cases hdp : 0 < s 131 6
  · simp (disch := first | exact obC_131 | omega | (simp only [List.length_cons, List.length_nil]; omega)) only [en123, x123_0, x123_1, x123_2, x123_5, x123_6, x123_8, x123_11, x123_14, x123_15, x123_18, x123_19, x123_22, x123_23, x123_26, x123_29, x123_30, x123_33, x123_36, x123_37, x123_40, x123_108, x123_109, x123_112, x123_115, x123_116, x123_119, x123_122, x123_123, x123_126, x123_129, x123_130, x123_133, x123_136, x123_137, x123_140, x123_143, x123_146, x123_147, x123_150, if_true, if_false, eq_self, Int.reduceEq, Int.reduceLT, Int.reduceLE, Int.reduceAdd, Int.reduceSub, Int.reduceMul, Int.reduceToNat, Nat.reduceAdd, Nat.reduceMul, Nat.reduceEqDiff, Int.toNat_natCast, wrap_id, if_neg (show ¬ 200 < (i : Int) by omega), hf, hkd, zcI_r, zcV_r, selZ, e, hk, if_pos hdp]
  · simp (disch := first | exact obC_131 | omega | (simp only [List.length_cons, List.length_nil]; omega)) only [en123, x123_0, x123_1, x123_2, x123_5, x123_6, x123_8, x123_11, x123_14, x123_15, x123_18, x123_19, x123_22, x123_23, x123_26, x123_29, x123_30, x123_33, x123_36, x123_37, x123_40, x123_108, x123_109, x123_112, x123_115, x123_116, x123_119, x123_122, x123_123, x123_126, x123_129, x123_130, x123_133, x123_136, x123_137, x123_140, x123_143, x123_146, x123_147, x123_150, if_true, if_false, eq_self, Int.reduceEq, Int.reduceLT, Int.reduceLE, Int.reduceAdd, Int.reduceSub, Int.reduceMul, Int.reduceToNat, Nat.reduceAdd, Nat.reduceMul, Nat.reduceEqDiff, Int.toNat_natCast, wrap_id, if_neg (show ¬ 200 < (i : Int) by omega), hf, hkd, zcI_r, zcV_r, selZ, e, hk, if_neg hdp]

theorem fi_d73 {d k u o i r1 : Nat} {T : Tx} {s s' : Mem}  (hd : 1 ≤ d) (h : KS s T u o k) (hi : i ≤ 200) (hf : s 131 5 = -1) (hk : s 111 k = 73) (e : Zc d 125 [aR 131] s = rV s') : Ze d 123 7 [aR 131, aR r1, aI i] [] s = Ze d 123 7 [aR 131, aR r1, aI ((i + 1 : Nat) : Int)] [] s' := by
  rw [show ((i + 1 : Nat) : Int) = (i : Int) + 1 from rfl, x123_7]
  have hkd := kt_kind (d := d) hd h
  by_cases hdp : 0 < s 131 6
  · simp (disch := first | exact obC_131 | omega | (simp only [List.length_cons, List.length_nil]; omega)) only [en123, x123_0, x123_1, x123_2, x123_5, x123_6, x123_8, x123_11, x123_14, x123_15, x123_18, x123_19, x123_22, x123_23, x123_26, x123_29, x123_30, x123_33, x123_36, x123_37, x123_40, x123_108, x123_109, x123_112, x123_115, x123_116, x123_119, x123_122, x123_123, x123_126, x123_129, x123_130, x123_133, x123_136, x123_137, x123_140, x123_143, x123_146, x123_147, x123_150, if_true, if_false, eq_self, Int.reduceEq, Int.reduceLT, Int.reduceLE, Int.reduceAdd, Int.reduceSub, Int.reduceMul, Int.reduceToNat, Nat.reduceAdd, Nat.reduceMul, Nat.reduceEqDiff, Int.toNat_natCast, wrap_id, if_neg (show ¬ 200 < (i : Int) by omega), hf, hkd, zcI_r, zcV_r, selZ, e, hk, if_pos hdp]
  · simp (disch := first | exact obC_131 | omega | (simp only [List.length_cons, List.length_nil]; omega)) only [en123, x123_0, x123_1, x123_2, x123_5, x123_6, x123_8, x123_11, x123_14, x123_15, x123_18, x123_19, x123_22, x123_23, x123_26, x123_29, x123_30, x123_33, x123_36, x123_37, x123_40, x123_108, x123_109, x123_112, x123_115, x123_116, x123_119, x123_122, x123_123, x123_126, x123_129, x123_130, x123_133, x123_136, x123_137, x123_140, x123_143, x123_146, x123_147, x123_150, if_true, if_false, eq_self, Int.reduceEq, Int.reduceLT, Int.reduceLE, Int.reduceAdd, Int.reduceSub, Int.reduceMul, Int.reduceToNat, Nat.reduceAdd, Nat.reduceMul, Nat.reduceEqDiff, Int.toNat_natCast, wrap_id, if_neg (show ¬ 200 < (i : Int) by omega), hf, hkd, zcI_r, zcV_r, selZ, e, hk, if_neg hdp]

theorem fi_d79 {d k u o i r1 : Nat} {T : Tx} {s s' : Mem}  (hd : 1 ≤ d) (h : KS s T u o k) (hi : i ≤ 200) (hf : s 131 5 = -1) (hk : s 111 k = 79) (e : Zc d 125 [aR 131] s = rV s') : Ze d 123 7 [aR 131, aR r1, aI i] [] s = Ze d 123 7 [aR 131, aR r1, aI ((i + 1 : Nat) : Int)] [] s' := by
  rw [show ((i + 1 : Nat) : Int) = (i : Int) + 1 from rfl, x123_7]
  have hkd := kt_kind (d := d) hd h
  by_cases hdp : 0 < s 131 6
  · simp (disch := first | exact obC_131 | omega | (simp only [List.length_cons, List.length_nil]; omega)) only [en123, x123_0, x123_1, x123_2, x123_5, x123_6, x123_8, x123_11, x123_14, x123_15, x123_18, x123_19, x123_22, x123_23, x123_26, x123_29, x123_30, x123_33, x123_36, x123_37, x123_40, x123_108, x123_109, x123_112, x123_115, x123_116, x123_119, x123_122, x123_123, x123_126, x123_129, x123_130, x123_133, x123_136, x123_137, x123_140, x123_143, x123_146, x123_147, x123_150, if_true, if_false, eq_self, Int.reduceEq, Int.reduceLT, Int.reduceLE, Int.reduceAdd, Int.reduceSub, Int.reduceMul, Int.reduceToNat, Nat.reduceAdd, Nat.reduceMul, Nat.reduceEqDiff, Int.toNat_natCast, wrap_id, if_neg (show ¬ 200 < (i : Int) by omega), hf, hkd, zcI_r, zcV_r, selZ, e, hk, if_pos hdp]
  · simp (disch := first | exact obC_131 | omega | (simp only [List.length_cons, List.length_nil]; omega)) only [en123, x123_0, x123_1, x123_2, x123_5, x123_6, x123_8, x123_11, x123_14, x123_15, x123_18, x123_19, x123_22, x123_23, x123_26, x123_29, x123_30, x123_33, x123_36, x123_37, x123_40, x123_108, x123_109, x123_112, x123_115, x123_116, x123_119, x123_122, x123_123, x123_126, x123_129, x123_130, x123_133, x123_136, x123_137, x123_140, x123_143, x123_146, x123_147, x123_150, if_true, if_false, eq_self, Int.reduceEq, Int.reduceLT, Int.reduceLE, Int.reduceAdd, Int.reduceSub, Int.reduceMul, Int.reduceToNat, Nat.reduceAdd, Nat.reduceMul, Nat.reduceEqDiff, Int.toNat_natCast, wrap_id, if_neg (show ¬ 200 < (i : Int) by omega), hf, hkd, zcI_r, zcV_r, selZ, e, hk, if_neg hdp]

theorem fi_d87 {d k u o i r1 : Nat} {T : Tx} {s s' : Mem}  (hd : 1 ≤ d) (h : KS s T u o k) (hi : i ≤ 200) (hf : s 131 5 = -1) (hk : s 111 k = 87) (e : Zc d 125 [aR 131] s = rV s') : Ze d 123 7 [aR 131, aR r1, aI i] [] s = Ze d 123 7 [aR 131, aR r1, aI ((i + 1 : Nat) : Int)] [] s' := by
  rw [show ((i + 1 : Nat) : Int) = (i : Int) + 1 from rfl, x123_7]
  have hkd := kt_kind (d := d) hd h
  by_cases hdp : 0 < s 131 6
  · simp (disch := first | exact obC_131 | omega | (simp only [List.length_cons, List.length_nil]; omega)) only [en123, x123_0, x123_1, x123_2, x123_5, x123_6, x123_8, x123_11, x123_14, x123_15, x123_18, x123_19, x123_22, x123_23, x123_26, x123_29, x123_30, x123_33, x123_36, x123_37, x123_40, x123_108, x123_109, x123_112, x123_115, x123_116, x123_119, x123_122, x123_123, x123_126, x123_129, x123_130, x123_133, x123_136, x123_137, x123_140, x123_143, x123_146, x123_147, x123_150, if_true, if_false, eq_self, Int.reduceEq, Int.reduceLT, Int.reduceLE, Int.reduceAdd, Int.reduceSub, Int.reduceMul, Int.reduceToNat, Nat.reduceAdd, Nat.reduceMul, Nat.reduceEqDiff, Int.toNat_natCast, wrap_id, if_neg (show ¬ 200 < (i : Int) by omega), hf, hkd, zcI_r, zcV_r, selZ, e, hk, if_pos hdp]
  · simp (disch := first | exact obC_131 | omega | (simp only [List.length_cons, List.length_nil]; omega)) only [en123, x123_0, x123_1, x123_2, x123_5, x123_6, x123_8, x123_11, x123_14, x123_15, x123_18, x123_19, x123_22, x123_23, x123_26, x123_29, x123_30, x123_33, x123_36, x123_37, x123_40, x123_108, x123_109, x123_112, x123_115, x123_116, x123_119, x123_122, x123_123, x123_126, x123_129, x123_130, x123_133, x123_136, x123_137, x123_140, x123_143, x123_146, x123_147, x123_150, if_true, if_false, eq_self, Int.reduceEq, Int.reduceLT, Int.reduceLE, Int.reduceAdd, Int.reduceSub, Int.reduceMul, Int.reduceToNat, Nat.reduceAdd, Nat.reduceMul, Nat.reduceEqDiff, Int.toNat_natCast, wrap_id, if_neg (show ¬ 200 < (i : Int) by omega), hf, hkd, zcI_r, zcV_r, selZ, e, hk, if_neg hdp]

theorem fi_d82 {d k u o i r1 : Nat} {T : Tx} {s s' : Mem}  (hd : 1 ≤ d) (h : KS s T u o k) (hi : i ≤ 200) (hf : s 131 5 = -1) (hk : s 111 k = 82) (e : Zc d 125 [aR 131] s = rV s') : Ze d 123 7 [aR 131, aR r1, aI i] [] s = Ze d 123 7 [aR 131, aR r1, aI ((i + 1 : Nat) : Int)] [] s' := by
  rw [show ((i + 1 : Nat) : Int) = (i : Int) + 1 from rfl, x123_7]
  have hkd := kt_kind (d := d) hd h
  by_cases hdp : 0 < s 131 6
  · simp (disch := first | exact obC_131 | omega | (simp only [List.length_cons, List.length_nil]; omega)) only [en123, x123_0, x123_1, x123_2, x123_5, x123_6, x123_8, x123_11, x123_14, x123_15, x123_18, x123_19, x123_22, x123_23, x123_26, x123_29, x123_30, x123_33, x123_36, x123_37, x123_40, x123_108, x123_109, x123_112, x123_115, x123_116, x123_119, x123_122, x123_123, x123_126, x123_129, x123_130, x123_133, x123_136, x123_137, x123_140, x123_143, x123_146, x123_147, x123_150, if_true, if_false, eq_self, Int.reduceEq, Int.reduceLT, Int.reduceLE, Int.reduceAdd, Int.reduceSub, Int.reduceMul, Int.reduceToNat, Nat.reduceAdd, Nat.reduceMul, Nat.reduceEqDiff, Int.toNat_natCast, wrap_id, if_neg (show ¬ 200 < (i : Int) by omega), hf, hkd, zcI_r, zcV_r, selZ, e, hk, if_pos hdp]
  · simp (disch := first | exact obC_131 | omega | (simp only [List.length_cons, List.length_nil]; omega)) only [en123, x123_0, x123_1, x123_2, x123_5, x123_6, x123_8, x123_11, x123_14, x123_15, x123_18, x123_19, x123_22, x123_23, x123_26, x123_29, x123_30, x123_33, x123_36, x123_37, x123_40, x123_108, x123_109, x123_112, x123_115, x123_116, x123_119, x123_122, x123_123, x123_126, x123_129, x123_130, x123_133, x123_136, x123_137, x123_140, x123_143, x123_146, x123_147, x123_150, if_true, if_false, eq_self, Int.reduceEq, Int.reduceLT, Int.reduceLE, Int.reduceAdd, Int.reduceSub, Int.reduceMul, Int.reduceToNat, Nat.reduceAdd, Nat.reduceMul, Nat.reduceEqDiff, Int.toNat_natCast, wrap_id, if_neg (show ¬ 200 < (i : Int) by omega), hf, hkd, zcI_r, zcV_r, selZ, e, hk, if_neg hdp]

theorem fi_o {d k u o i r1 : Nat} {T : Tx} {s s' : Mem} {c : Int} (hd : 1 ≤ d) (h : KS s T u o k) (hi : i ≤ 200) (hf : s 131 5 = -1) (hk : s 111 k = c) (hc : ¬ c = 63 ∧ ¬ c = 125 ∧ ¬ c = 78 ∧ ¬ c = 73 ∧ ¬ c = 79 ∧ ¬ c = 87 ∧ ¬ c = 82) (hz : 0 < s 131 6 ∨ ¬ c = 0) (e : Zc d 127 [aR 131] s = rV s') : Ze d 123 7 [aR 131, aR r1, aI i] [] s = Ze d 123 7 [aR 131, aR r1, aI ((i + 1 : Nat) : Int)] [] s' := by
  rw [show ((i + 1 : Nat) : Int) = (i : Int) + 1 from rfl, x123_7]
  have hkd := kt_kind (d := d) hd h
  obtain ⟨c1, c2, c3, c4, c5, c6, c7⟩ := hc
  by_cases hdp : 0 < s 131 6
  · simp (disch := first | exact obC_131 | omega | (simp only [List.length_cons, List.length_nil]; omega)) only [en123, x123_0, x123_1, x123_2, x123_5, x123_6, x123_8, x123_11, x123_14, x123_15, x123_18, x123_19, x123_22, x123_23, x123_26, x123_29, x123_30, x123_33, x123_36, x123_37, x123_40, x123_108, x123_109, x123_112, x123_115, x123_116, x123_119, x123_122, x123_123, x123_126, x123_129, x123_130, x123_133, x123_136, x123_137, x123_140, x123_143, x123_146, x123_147, x123_150, if_true, if_false, eq_self, Int.reduceEq, Int.reduceLT, Int.reduceLE, Int.reduceAdd, Int.reduceSub, Int.reduceMul, Int.reduceToNat, Nat.reduceAdd, Nat.reduceMul, Nat.reduceEqDiff, Int.toNat_natCast, wrap_id, if_neg (show ¬ 200 < (i : Int) by omega), hf, hkd, zcI_r, zcV_r, selZ, e, hk, if_pos hdp, if_neg c1, if_neg c2, if_neg c3, if_neg c4, if_neg c5, if_neg c6, if_neg c7]
  · have hz' : ¬ c = 0 := hz.resolve_left hdp
    simp (disch := first | exact obC_131 | omega | (simp only [List.length_cons, List.length_nil]; omega)) only [en123, x123_0, x123_1, x123_2, x123_5, x123_6, x123_8, x123_11, x123_14, x123_15, x123_18, x123_19, x123_22, x123_23, x123_26, x123_29, x123_30, x123_33, x123_36, x123_37, x123_40, x123_108, x123_109, x123_112, x123_115, x123_116, x123_119, x123_122, x123_123, x123_126, x123_129, x123_130, x123_133, x123_136, x123_137, x123_140, x123_143, x123_146, x123_147, x123_150, if_true, if_false, eq_self, Int.reduceEq, Int.reduceLT, Int.reduceLE, Int.reduceAdd, Int.reduceSub, Int.reduceMul, Int.reduceToNat, Nat.reduceAdd, Nat.reduceMul, Nat.reduceEqDiff, Int.toNat_natCast, wrap_id, if_neg (show ¬ 200 < (i : Int) by omega), hf, hkd, zcI_r, zcV_r, selZ, e, hk, if_neg hdp, if_neg hz', if_neg c1, if_neg c2, if_neg c3, if_neg c4, if_neg c5, if_neg c6, if_neg c7]

theorem fi_end {d k u o i r1 : Nat} {T : Tx} {s : Mem} (hd : 1 ≤ d) (h : KS s T u o k) (hi : i ≤ 200) (hf : s 131 5 = -1) (hdp : ¬ 0 < s 131 6) (hk : s 111 k = 0) : Ze d 123 7 [aR 131, aR r1, aI i] [] s = rI (-1) s := by
  rw [x123_7]
  have hkd := kt_kind (d := d) hd h
  simp (disch := first | exact obC_131 | omega | (simp only [List.length_cons, List.length_nil]; omega)) only [en123, x123_0, x123_1, x123_2, x123_5, x123_6, x123_8, x123_11, x123_14, x123_15, x123_18, x123_19, x123_22, x123_23, x123_26, x123_29, x123_30, x123_33, x123_36, x123_37, x123_40, x123_108, x123_109, x123_112, x123_115, x123_116, x123_119, x123_122, x123_123, x123_126, x123_129, x123_130, x123_133, x123_136, x123_137, x123_140, x123_143, x123_146, x123_147, x123_150, if_true, if_false, eq_self, Int.reduceEq, Int.reduceLT, Int.reduceLE, Int.reduceAdd, Int.reduceSub, Int.reduceMul, Int.reduceToNat, Nat.reduceAdd, Nat.reduceMul, Nat.reduceEqDiff, Int.toNat_natCast, wrap_id, if_neg (show ¬ 200 < (i : Int) by omega), hf, hkd, zcI_r, hk, if_neg hdp]
theorem fi_bad {d i r1 f : Nat} {s : Mem} (hf : s 131 5 = f) : Ze d 123 7 [aR 131, aR r1, aI i] [] s = rI f s := by
  rw [x123_7]
  by_cases hi : 200 < (i : Int)
  · simp (disch := first | exact obC_131 | omega | (simp only [List.length_cons, List.length_nil]; omega)) only [en123, x123_0, x123_1, x123_2, x123_5, x123_6, x123_8, x123_11, x123_14, x123_15, x123_18, x123_19, x123_22, x123_23, x123_26, x123_29, x123_30, x123_33, x123_36, x123_37, x123_40, x123_108, x123_109, x123_112, x123_115, x123_116, x123_119, x123_122, x123_123, x123_126, x123_129, x123_130, x123_133, x123_136, x123_137, x123_140, x123_143, x123_146, x123_147, x123_150, if_true, if_false, eq_self, Int.reduceEq, Int.reduceLT, Int.reduceLE, Int.reduceAdd, Int.reduceSub, Int.reduceMul, Int.reduceToNat, Nat.reduceAdd, Nat.reduceMul, Nat.reduceEqDiff, Int.toNat_natCast, wrap_id, if_pos hi, hf]
  · simp (disch := first | exact obC_131 | omega | (simp only [List.length_cons, List.length_nil]; omega)) only [en123, x123_0, x123_1, x123_2, x123_5, x123_6, x123_8, x123_11, x123_14, x123_15, x123_18, x123_19, x123_22, x123_23, x123_26, x123_29, x123_30, x123_33, x123_36, x123_37, x123_40, x123_108, x123_109, x123_112, x123_115, x123_116, x123_119, x123_122, x123_123, x123_126, x123_129, x123_130, x123_133, x123_136, x123_137, x123_140, x123_143, x123_146, x123_147, x123_150, if_true, if_false, eq_self, Int.reduceEq, Int.reduceLT, Int.reduceLE, Int.reduceAdd, Int.reduceSub, Int.reduceMul, Int.reduceToNat, Nat.reduceAdd, Nat.reduceMul, Nat.reduceEqDiff, Int.toNat_natCast, wrap_id, if_neg hi, hf, if_neg (show ¬ ((f : Nat) : Int) = -1 by omega)]
/-- the steps as the class has them: each ? has two ends -/
def nrm : List Nat → List It → List It
  | _, [] => []
  | st, i :: r => if i.1 = 3 then (if st.head? = some 1 then (2, i.2.1, 0, 0, tNil, tNil) :: i :: nrm st.tail r else i :: nrm st.tail r) else if i.1 = 1 then i :: nrm (1 :: st) r else if i.1 = 2 then i :: nrm (2 :: st.tail) r else i :: nrm st r
def nszs : List It → Nat
  | [] => 0
  | i :: r => nsz i + nszs r
/-- the items as the class's steps have them from k on, their nodes from n on -/
def CIs (s : Mem) (o P M C : Nat) : Nat → Nat → List It → Prop
  | _, _, [] => True
  | k, n, i :: r => CIt s o k n P M C i ∧ CIs s o P M C (k + 1) (n + nsz i) r
/-- what reading all the rest comes to -/
def QO (st : List Nat) (o K N P M C : Nat) (s : Mem) (Z : Option Res) (x : Except Nat (List It)) : Prop := match x with
  | .ok its => ∃ (s' : Mem) (P' M' C' : Nat), Z = rI (-1) s' ∧ CIs s' o P' M' C' K N (nrm st its) ∧ CN s' o (K + (nrm st its).length) (N + nszs (nrm st its)) P' M' C' ∧ (P ≤ P' ∧ M ≤ M' ∧ C ≤ C') ∧ (K + (nrm st its).length ≤ 200 ∧ N + nszs (nrm st its) ≤ 225 ∧ P' ≤ 200 ∧ M' ≤ 201 ∧ C' ≤ 200) ∧ Fr (PG o K N P M C) s s'
  | .error f => ∃ s', Z = rI f s' ∧ Fr (PGX o K N P M C) s s'
theorem CIt_put {s s' : Mem} {o k n P M C P' M' C' : Nat} {i : It} (ho : o = 0 ∨ o = 26) (h : CIt s o k n P M C i) (hP : P ≤ P') (hM : M ≤ M') (hC : C ≤ C') (f : Fr (PG o (k + 1) (n + nsz i) P M C) s s') : CIt s' o k n P' M' C' i := by
  have hst : ∀ q, 125 ≤ q → q ≤ 128 → s' q k = s q k := fun q h1 h2 => f _ _ (by unfold PG PC XF YF; omega)
  have hA : ∀ a b, b ≤ n + nsz i → AC o P s s' a b := fun a b hb => ⟨fun q j hq _ hj => f _ _ (by unfold PG PC XF YF; omega), fun j hj => f _ _ (by unfold PG PC XF YF; omega)⟩
  have hT : AY s s' M 0 C := fun q j hq => f _ _ (by unfold PG PC XF YF; omega)
  obtain ⟨h0, h⟩ := h
  refine ⟨by rw [hst _ (by decide) (by decide), h0], ?_⟩
  rcases h with ⟨h1, h2, h3, h4, h5, h6, h7⟩ | ⟨h1, h2, h3, h4⟩ | ⟨h1, h2⟩ | ⟨h1, h2⟩ | ⟨h1, h2, h3, h4, h5, t, h6, h7⟩ | ⟨h1, h2, h3, h4, h5, h6, h7⟩
  · have hn : nsz i = 1 + esz i.2.2.2.2.2 := by unfold nsz; rw [if_pos h1]
    obtain ⟨x, r, hx⟩ := h5
    exact Or.inl ⟨h1, by rw [hst _ (by decide) (by decide), h2], by rw [hst _ (by decide) (by decide), h3], by rw [hst _ (by decide) (by decide), h4], ⟨x, r, hx⟩, CE_P hP (CE_put h6 (hA _ _ (by rw [hx]; show n + 1 ≤ _; omega))), CE_P hP (CE_put h7 (hA _ _ (by omega)))⟩
  · have hn : nsz i = esz i.2.2.2.2.2 := by unfold nsz; rw [if_neg (by omega), if_pos (Or.inl h1)]
    exact Or.inr (Or.inl ⟨h1, by rw [hst _ (by decide) (by decide), h2], by rw [hst _ (by decide) (by decide), h3], CE_P hP (CE_put h4 (hA _ _ (by omega)))⟩)
  · exact Or.inr (Or.inr (Or.inl ⟨h1, by rw [hst _ (by decide) (by decide), h2]⟩))
  · exact Or.inr (Or.inr (Or.inr (Or.inl ⟨h1, by rw [hst _ (by decide) (by decide), h2]⟩)))
  · exact Or.inr (Or.inr (Or.inr (Or.inr (Or.inl ⟨h1, by rw [hst _ (by decide) (by decide), h2], h3, by rw [hst _ (by decide) (by decide), h4], h5, t, by rw [hst _ (by decide) (by decide), h6], CT_wide (CT_put h7 hT) hM (Nat.le_refl _) hC⟩))))
  · have hn : nsz i = esz i.2.2.2.2.2 := by unfold nsz; rw [if_neg (by omega), if_pos (Or.inr h1)]
    exact Or.inr (Or.inr (Or.inr (Or.inr (Or.inr ⟨h1, by rw [hst _ (by decide) (by decide), h2], h3, by rw [hst _ (by decide) (by decide), h4], h5, by rw [hst _ (by decide) (by decide), h6], CE_P hP (CE_put h7 (hA _ _ (by omega)))⟩))))
/-- an item more in front -/
theorem QO_cons {st st' : List Nat} {o K N P M C P1 M1 C1 : Nat} {s s1 : Mem} {Z : Option Res} {x : Except Nat (List It)} {i : It} (ho : o = 0 ∨ o = 26) (F : Fr (PG o K N P M C) s s1) (R : CIt s1 o K N P1 M1 C1 i) (hP : P ≤ P1 ∧ M ≤ M1 ∧ C ≤ C1) (hn : ∀ r, nrm st (i :: r) = i :: nrm st' r) (h : QO st' o (K + 1) (N + nsz i) P1 M1 C1 s1 Z x) : QO st o K N P M C s Z (bi x fun r => .ok (i :: r)) := by
  cases x with
  | error e =>
    obtain ⟨s', h1, h2⟩ := h
    exact ⟨s', h1, (F.mono (fun _ _ h => PG_X h)).tr (h2.mono (fun _ _ h => PGX_le (by omega) (by omega) hP.1 hP.2.1 hP.2.2 h))⟩
  | ok r =>
    obtain ⟨s', P', M', C', h1, h2, h3, ⟨h4, h5, h6⟩, h7, h8⟩ := h
    rw [bi_ok]
    refine ⟨s', P', M', C', h1, ?_, ?_, ⟨by omega, by omega, by omega⟩, ?_, F.tr (h8.mono (fun _ _ h => PG_le (by omega) (by omega) hP.1 hP.2.1 hP.2.2 h))⟩
    · rw [hn]
      exact ⟨CIt_put ho R h4 h5 h6 h8, h2⟩
    · rw [hn, List.length_cons]
      simp only [nszs]
      rw [show K + ((nrm st' r).length + 1) = K + 1 + (nrm st' r).length by omega, show N + (nsz i + nszs (nrm st' r)) = N + nsz i + nszs (nrm st' r) by omega]
      exact h3
    · rw [hn, List.length_cons]
      simp only [nszs]
      omega
