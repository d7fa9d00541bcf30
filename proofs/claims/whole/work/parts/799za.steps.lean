/-! THE CLASS: choices, and all of it -/
/-- of each open ? whether its second steps are read -/
def BC (s : Mem) : List Nat → Prop
  | [] => True
  | b :: r => s 132 r.length = (if b = 2 then 1 else 0) ∧ BC s r
theorem BC_put {s s' : Mem} {l : List Nat} (h : ∀ j, j < l.length → s' 132 j = s 132 j) (b : BC s l) : BC s' l := by
  induction l with
  | nil => trivial
  | cons x r ih =>
    exact ⟨by rw [h _ (by simp)]; exact b.1, ih (fun j hj => h j (by simp only [List.length_cons]; omega)) b.2⟩
def PG (o K N P M C k j : Nat) : Prop := PC o K N P M C k j ∨ (k = 131 ∧ j = 6) ∨ k = 132
def PGX (o K N P M C k j : Nat) : Prop := PG o K N P M C k j ∨ (k = 131 ∧ j = 5)
theorem PG_X {o K N P M C k j : Nat} (h : PG o K N P M C k j) : PGX o K N P M C k j := Or.inl h
theorem PC_G {o K N P M C k j : Nat} (h : PC o K N P M C k j) : PG o K N P M C k j := Or.inl h
theorem PCX_G {o K N P M C k j : Nat} (h : PCX o K N P M C k j) : PGX o K N P M C k j := h.elim (fun h => Or.inl (Or.inl h)) Or.inr
theorem PG_le {o K N P M C K' N' P' M' C' k j : Nat} (h1 : K ≤ K') (h2 : N ≤ N') (h3 : P ≤ P') (h4 : M ≤ M') (h5 : C ≤ C') (h : PG o K' N' P' M' C' k j) : PG o K N P M C k j := h.elim (fun h => Or.inl (PC_le h1 h2 h3 h4 h5 h)) Or.inr
theorem PGX_le {o K N P M C K' N' P' M' C' k j : Nat} (h1 : K ≤ K') (h2 : N ≤ N') (h3 : P ≤ P') (h4 : M ≤ M') (h5 : C ≤ C') (h : PGX o K' N' P' M' C' k j) : PGX o K N P M C k j := h.elim (fun h => Or.inl (PG_le h1 h2 h3 h4 h5 h)) Or.inr
theorem PGX_no {o K N P M C : Nat} (ho : o = 0 ∨ o = 26) : (∀ q j, q = 112 ∨ q = 111 ∨ q = 113 → ¬ PGX o K N P M C q j) ∧ ¬ PGX o K N P M C 131 3 := by
  obtain ⟨a, b⟩ := PCX_no (K := K) (N := N) (P := P) (M := M) (C := C) ho
  refine ⟨fun q j hq h => ?_, fun h => ?_⟩
  · rcases h with (h | h | h) | h
    · exact a q j hq (Or.inl h)
    · omega
    · omega
    · omega
  · rcases h with (h | h | h) | h
    · exact b (Or.inl h)
    · omega
    · omega
    · omega
theorem KS_G {s s' : Mem} {T : Tx} {u o k k' K N P M C : Nat} (h : KS s T u o k) (f : Fr (PGX o K N P M C) s s') (h3 : s' 131 4 = k') (h4 : k' ≤ u) : KS s' T u o k' :=
  KS_put h f (PGX_no h.2.2.2.2.2.2).1 (PGX_no h.2.2.2.2.2.2).2 h3 h4
theorem PC_pa {o K N P M C j : Nat} (ho : o = 0 ∨ o = 26) (h : j ≠ 4) : ¬ PC o K N P M C 131 j := by
  rintro (h | h | h | h)
  · unfold XF at h; omega
  · unfold YF at h; omega
  · omega
  · omega
theorem PC_in {o K N P M C j : Nat} (ho : o = 0 ∨ o = 26) : ¬ PC o K N P M C 132 j := by
  rintro (h | h | h | h)
  · unfold XF at h; omega
  · unfold YF at h; omega
  · omega
  · omega
theorem oc_ok {d k u o K e : Nat} {T : Tx} {s s1 s2 : Mem} {n : Nat} (hd : 1 ≤ d) (h : KS s T u o k) (hdp : s 131 6 = e) (he : e < 3) (e1 : Zc d 135 [aR 131, aI 1] (mu s 131 4 ((k : Int) + 1)) = rI n s1) (e2 : Zc d 141 [aR 131, aI 123] s1 = rI 1 s2) (hK : s2 124 4 = K) (hK2 : K < 200) (hdp2 : s2 131 6 = e) :
    Zc (d + 1) 128 [aR 131] s = rV (mu (mu (sAdd s2 K 63 (tP T k) n 0) 132 e 0) 131 6 ((e : Int) + 1)) := by
  have hn : s 131 4 = k := h.2.2.2.1
  have hk2 := KS_le h
  have a6 : sAdd s2 K 63 (tP T k) n 0 131 6 = e := by rw [sAdd_at.2.2.2.2.2 _ _ (by omega), hdp2]
  simp (disch := first | exact obC_110 | exact obC_124 | exact obC_131 | omega | (simp only [aN1_112, aN2_132]; omega) | (simp only [List.length_cons, List.length_nil]; omega)) only [en128, x128_0, x128_1, x128_4, x128_5, x128_8, x128_9, x128_12, x128_13, x128_14, x128_15, x128_18, x128_21, x128_22, x128_25, x128_26, x128_27, x128_28, x128_28i, x128_29, x128_32, x128_33, x128_34, x128_37, x128_38, x128_39, x128_42, x128_43, x128_44, x128_45, x128_48, x128_49, x128_51, x128_54, x128_57, x128_58, x128_61, x128_63, x128_64, x128_65, x128_66, x128_69, x128_70, x128_73, x128_74, x128_77, x128_78, x128_79, x128_80, x128_80i, x128_81, x128_84, x128_85, x128_86, x128_89, fcn_110_1, fcn_131_0, fcn_131_2, fcn_131_7, if_true, if_false, eq_self, Int.reduceEq, Int.reduceLT, Int.reduceLE, Int.reduceAdd, Int.reduceSub, Int.reduceMul, Int.reduceToNat, Nat.reduceAdd, Nat.reduceMul, Nat.reduceEqDiff, Int.toNat_natCast, wrap_id, hdp, if_neg (show ¬ (e : Int) = 3 by omega), zcI_r, zcV_r, hn, k_at h, e1, e2, if_neg (show ¬ ((n : Nat) : Int) = -1 by omega), k_sAdd (d := d) hd hK hK2, a6, mu_c]
theorem oc_F {d k u o e : Nat} {T : Tx} {s s1 s2 : Mem} {n : Nat} (h : KS s T u o k) (hdp : s 131 6 = e) (he : e < 3) (H : Zc d 135 [aR 131, aI 1] (mu s 131 4 ((k : Int) + 1)) = rI (-1) s2 ∨ (Zc d 135 [aR 131, aI 1] (mu s 131 4 ((k : Int) + 1)) = rI n s1 ∧ Zc d 141 [aR 131, aI 123] s1 = rI 0 s2)) :
    Zc (d + 1) 128 [aR 131] s = rV s2 := by
  have hn : s 131 4 = k := h.2.2.2.1
  have hk2 := KS_le h
  rcases H with e1 | ⟨e1, e2⟩
  · simp (disch := first | exact obC_110 | exact obC_124 | exact obC_131 | omega | (simp only [aN1_112, aN2_132]; omega) | (simp only [List.length_cons, List.length_nil]; omega)) only [en128, x128_0, x128_1, x128_4, x128_5, x128_8, x128_9, x128_12, x128_13, x128_14, x128_15, x128_18, x128_21, x128_22, x128_25, x128_26, x128_27, x128_28, x128_28i, x128_29, x128_32, x128_33, x128_34, x128_37, x128_38, x128_39, x128_42, x128_43, x128_44, x128_45, x128_48, x128_49, x128_51, x128_54, x128_57, x128_58, x128_61, x128_63, x128_64, x128_65, x128_66, x128_69, x128_70, x128_73, x128_74, x128_77, x128_78, x128_79, x128_80, x128_80i, x128_81, x128_84, x128_85, x128_86, x128_89, fcn_110_1, fcn_131_0, fcn_131_2, fcn_131_7, if_true, if_false, eq_self, Int.reduceEq, Int.reduceLT, Int.reduceLE, Int.reduceAdd, Int.reduceSub, Int.reduceMul, Int.reduceToNat, Nat.reduceAdd, Nat.reduceMul, Nat.reduceEqDiff, Int.toNat_natCast, wrap_id, hdp, if_neg (show ¬ (e : Int) = 3 by omega), zcI_r, zcV_r, hn, k_at h, e1]
  · simp (disch := first | exact obC_110 | exact obC_124 | exact obC_131 | omega | (simp only [aN1_112, aN2_132]; omega) | (simp only [List.length_cons, List.length_nil]; omega)) only [en128, x128_0, x128_1, x128_4, x128_5, x128_8, x128_9, x128_12, x128_13, x128_14, x128_15, x128_18, x128_21, x128_22, x128_25, x128_26, x128_27, x128_28, x128_28i, x128_29, x128_32, x128_33, x128_34, x128_37, x128_38, x128_39, x128_42, x128_43, x128_44, x128_45, x128_48, x128_49, x128_51, x128_54, x128_57, x128_58, x128_61, x128_63, x128_64, x128_65, x128_66, x128_69, x128_70, x128_73, x128_74, x128_77, x128_78, x128_79, x128_80, x128_80i, x128_81, x128_84, x128_85, x128_86, x128_89, fcn_110_1, fcn_131_0, fcn_131_2, fcn_131_7, if_true, if_false, eq_self, Int.reduceEq, Int.reduceLT, Int.reduceLE, Int.reduceAdd, Int.reduceSub, Int.reduceMul, Int.reduceToNat, Nat.reduceAdd, Nat.reduceMul, Nat.reduceEqDiff, Int.toNat_natCast, wrap_id, hdp, if_neg (show ¬ (e : Int) = 3 by omega), zcI_r, zcV_r, hn, k_at h, e1, e2, if_neg (show ¬ ((n : Nat) : Int) = -1 by omega)]
theorem fl_deep {d k u o : Nat} {T : Tx} {s : Mem} (hd : 1 ≤ d) (h : KS s T u o k) (hdp : s 131 6 = 3) : Zc (d + 1) 128 [aR 131] s = rV (mu s 131 5 (tP T k)) := by
  simp (disch := first | exact obC_110 | exact obC_124 | exact obC_131 | omega | (simp only [aN1_112, aN2_132]; omega) | (simp only [List.length_cons, List.length_nil]; omega)) only [en128, x128_0, x128_1, x128_4, x128_5, x128_8, x128_9, x128_12, x128_13, x128_14, x128_15, x128_18, x128_21, x128_22, x128_25, x128_26, x128_27, x128_28, x128_28i, x128_29, x128_32, x128_33, x128_34, x128_37, x128_38, x128_39, x128_42, x128_43, x128_44, x128_45, x128_48, x128_49, x128_51, x128_54, x128_57, x128_58, x128_61, x128_63, x128_64, x128_65, x128_66, x128_69, x128_70, x128_73, x128_74, x128_77, x128_78, x128_79, x128_80, x128_80i, x128_81, x128_84, x128_85, x128_86, x128_89, fcn_110_1, fcn_131_0, fcn_131_2, fcn_131_7, if_true, if_false, eq_self, Int.reduceEq, Int.reduceLT, Int.reduceLE, Int.reduceAdd, Int.reduceSub, Int.reduceMul, Int.reduceToNat, Nat.reduceAdd, Nat.reduceMul, Nat.reduceEqDiff, Int.toNat_natCast, wrap_id, hdp, zcI_r, kt_fail hd h]
theorem fl_close {d k u o : Nat} {T : Tx} {s : Mem} (hd : 1 ≤ d) (h : KS s T u o k) (hdp : s 131 6 = 0) : Zc (d + 1) 129 [aR 131] s = rV (mu s 131 5 (tP T k)) := by
  simp (disch := first | exact obC_110 | exact obC_124 | exact obC_131 | omega | (simp only [aN1_112, aN2_132]; omega) | (simp only [List.length_cons, List.length_nil]; omega)) only [en129, x129_0, x129_1, x129_4, x129_7, x129_8, x129_11, x129_12, x129_13, x129_14, x129_17, x129_20, x129_21, x129_24, x129_25, x129_26, x129_27, x129_27i, x129_28, x129_31, x129_32, x129_33, x129_36, x129_37, x129_40, x129_41, x129_44, x129_45, x129_46, x129_47, x129_50, x129_51, x129_54, x129_56, x129_57, x129_58, x129_59, x129_62, x129_63, x129_66, x129_68, x129_71, x129_72, x129_72i, x129_73, x129_76, x129_77, x129_78, x129_81, x129_82, x129_85, x129_86, x129_89, x129_90, x129_91, x129_92, x129_93, x129_94, x129_96, x129_99, x129_100, x129_101, x129_102, x129_105, x129_107, x129_108, x129_109, x129_110, x129_113, x129_114, x129_114i, x129_115, x129_118, x129_119, x129_120, x129_123, fcn_110_1, fcn_131_0, fcn_131_2, fcn_131_7, if_true, if_false, eq_self, Int.reduceEq, Int.reduceLT, Int.reduceLE, Int.reduceAdd, Int.reduceSub, Int.reduceMul, Int.reduceToNat, Nat.reduceAdd, Nat.reduceMul, Nat.reduceEqDiff, Int.toNat_natCast, wrap_id, hdp, zcI_r, kt_fail hd h]
theorem fl_decl {d k u o : Nat} {T : Tx} {s : Mem} (hd : 1 ≤ d) (h : KS s T u o k) (hdp : 0 < s 131 6) : Zc (d + 1) 125 [aR 131] s = rV (mu s 131 5 (tP T k)) := by
  simp (disch := first | exact obC_110 | exact obC_124 | exact obC_131 | omega | (simp only [aN1_112]; omega) | (simp only [List.length_cons, List.length_nil]; omega)) only [en125, x125_0, x125_1, x125_4, x125_7, x125_8, x125_11, x125_12, x125_13, x125_14, x125_17, x125_18, x125_19, x125_22, x125_25, x125_26, x125_29, x125_30, x125_31, x125_32, x125_32i, x125_33, x125_36, x125_37, x125_38, x125_41, x125_42, x125_45, x125_46, x125_47, x125_48, x125_51, x125_52, x125_54, x125_57, x125_60, x125_61, x125_62, x125_65, x125_68, x125_69, x125_71, x125_73, x125_74, x125_77, x125_78, x125_80, x125_83, x125_86, x125_87, x125_90, x125_91, x125_92, x125_93, x125_95, x125_98, fcn_110_1, fcn_131_0, fcn_131_2, if_true, if_false, eq_self, Int.reduceEq, Int.reduceLT, Int.reduceLE, Int.reduceAdd, Int.reduceSub, Int.reduceMul, Int.reduceToNat, Nat.reduceAdd, Nat.reduceMul, Nat.reduceEqDiff, Int.toNat_natCast, wrap_id, if_pos hdp, zcI_r, kt_fail hd h]
theorem fl_node {d k u o : Nat} {T : Tx} {s : Mem} (hd : 1 ≤ d) (h : KS s T u o k) (hdp : 0 < s 131 6) : Zc (d + 1) 126 [aR 131] s = rV (mu s 131 5 (tP T k)) := by
  simp (disch := first | exact obC_110 | exact obC_124 | exact obC_131 | omega | (simp only [aN1_112]; omega) | (simp only [List.length_cons, List.length_nil]; omega)) only [en126, x126_0, x126_1, x126_4, x126_7, x126_8, x126_11, x126_12, x126_13, x126_14, x126_17, x126_20, x126_21, x126_24, x126_25, x126_26, x126_27, x126_27i, x126_28, x126_31, x126_32, x126_33, x126_36, x126_37, x126_40, x126_41, x126_42, x126_43, x126_46, x126_47, x126_49, x126_52, x126_55, x126_56, x126_57, x126_60, x126_63, x126_64, x126_65, x126_66, x126_67, x126_70, x126_71, x126_73, x126_76, x126_79, x126_80, x126_83, x126_85, x126_86, x126_87, x126_88, x126_91, fcn_110_1, fcn_131_0, fcn_131_2, if_true, if_false, eq_self, Int.reduceEq, Int.reduceLT, Int.reduceLE, Int.reduceAdd, Int.reduceSub, Int.reduceMul, Int.reduceToNat, Nat.reduceAdd, Nat.reduceMul, Nat.reduceEqDiff, Int.toNat_natCast, wrap_id, if_pos hdp, zcI_r, kt_fail hd h]
theorem cl_two {d k u o K e : Nat} {T : Tx} {s : Mem} (hd : 1 ≤ d) (h : KS s T u o k) (hdp : s 131 6 = ((e + 1 : Nat) : Int)) (he : e < 3) (hin : s 132 e = 1) (hK : s 124 4 = K) (hK2 : K < 200) :
    Zc (d + 1) 129 [aR 131] s = rV (mu (sAdd (mu s 131 4 ((k : Int) + 1)) K 125 (tP T k) 0 0) 131 6 e) := by
  have hn : s 131 4 = k := h.2.2.2.1
  have hk2 := KS_le h
  have hK' : mu s 131 4 ((k : Int) + 1) 124 4 = K := by rw [mu_c (by decide), hK]
  have a6 : sAdd (mu s 131 4 ((k : Int) + 1)) K 125 (tP T k) 0 0 131 6 = ((e + 1 : Nat) : Int) := by rw [sAdd_at.2.2.2.2.2 _ _ (by omega), mu_i (by decide), hdp]
  have z1 : ((e + 1 : Nat) : Int) - 1 = e := by omega
  simp (disch := first | exact obC_110 | exact obC_124 | exact obC_131 | omega | (simp only [aN1_112, aN2_132]; omega) | (simp only [List.length_cons, List.length_nil]; omega)) only [en129, x129_0, x129_1, x129_4, x129_7, x129_8, x129_11, x129_12, x129_13, x129_14, x129_17, x129_20, x129_21, x129_24, x129_25, x129_26, x129_27, x129_27i, x129_28, x129_31, x129_32, x129_33, x129_36, x129_37, x129_40, x129_41, x129_44, x129_45, x129_46, x129_47, x129_50, x129_51, x129_54, x129_56, x129_57, x129_58, x129_59, x129_62, x129_63, x129_66, x129_68, x129_71, x129_72, x129_72i, x129_73, x129_76, x129_77, x129_78, x129_81, x129_82, x129_85, x129_86, x129_89, x129_90, x129_91, x129_92, x129_93, x129_94, x129_96, x129_99, x129_100, x129_101, x129_102, x129_105, x129_107, x129_108, x129_109, x129_110, x129_113, x129_114, x129_114i, x129_115, x129_118, x129_119, x129_120, x129_123, fcn_110_1, fcn_131_0, fcn_131_2, fcn_131_7, if_true, if_false, eq_self, Int.reduceEq, Int.reduceLT, Int.reduceLE, Int.reduceAdd, Int.reduceSub, Int.reduceMul, Int.reduceToNat, Nat.reduceAdd, Nat.reduceMul, Nat.reduceEqDiff, Int.toNat_natCast, wrap_id, hdp, if_neg (show ¬ ((e + 1 : Nat) : Int) = 0 by omega), zcI_r, zcV_r, hn, k_at h, z1, hin, mu_c, mu_i, k_sAdd (d := d) hd hK' hK2, a6, if_neg (show ¬ (1 : Int) = 0 by decide)]
theorem cl_one {d k u o K e : Nat} {T : Tx} {s : Mem} (hd : 1 ≤ d) (h : KS s T u o k) (hlt : k < u) (hdp : s 131 6 = ((e + 1 : Nat) : Int)) (he : e < 3) (hin : s 132 e = 0) (hK : s 124 4 = K) (hK2 : K + 1 < 200) (hc : ¬ cA T (tP T (k + 1)) = 58) :
    Zc (d + 1) 129 [aR 131] s = rV (mu (sAdd (sAdd (mu s 131 4 ((k : Int) + 1)) K 58 (tP T k) 0 0) (K + 1) 125 (tP T k) 0 0) 131 6 e) := by
  have hn : s 131 4 = k := h.2.2.2.1
  have hk2 := KS_le h
  have ho := h.2.2.2.2.2.2
  have hK' : mu s 131 4 ((k : Int) + 1) 124 4 = K := by rw [mu_c (by decide), hK]
  have h1 := KS_nx h hlt
  have h2 : KS (sAdd (mu s 131 4 ((k : Int) + 1)) K 58 (tP T k) 0 0) T u o (k + 1) := KS_P h1 ((sAdd_fr (o := o) (N := 0) (P := 0) (M := 0) (C := 0) (Nat.le_refl K)).mono (fun _ _ h => PC_X h)) (by rw [sAdd_at.2.2.2.2.2 _ _ (by omega), mu_s]; rfl) hlt
  have hkd := kt_kind (d := d) hd h2
  have hkn : ¬ sAdd (mu s 131 4 ((k : Int) + 1)) K 58 (tP T k) 0 0 111 (k + 1) = 58 := fun z => hc ((KS_ch h2 (by decide)).mp z)
  have hK3 : sAdd (mu s 131 4 ((k : Int) + 1)) K 58 (tP T k) 0 0 124 4 = ((K + 1 : Nat) : Int) := sAdd_at.2.2.2.2.1
  have a6 : sAdd (sAdd (mu s 131 4 ((k : Int) + 1)) K 58 (tP T k) 0 0) (K + 1) 125 (tP T k) 0 0 131 6 = ((e + 1 : Nat) : Int) := by rw [sAdd_at.2.2.2.2.2 _ _ (by omega), sAdd_at.2.2.2.2.2 _ _ (by omega), mu_i (by decide), hdp]
  have z1 : ((e + 1 : Nat) : Int) - 1 = e := by omega
  simp (disch := first | exact obC_110 | exact obC_124 | exact obC_131 | omega | (simp only [aN1_112, aN2_132]; omega) | (simp only [List.length_cons, List.length_nil]; omega)) only [en129, x129_0, x129_1, x129_4, x129_7, x129_8, x129_11, x129_12, x129_13, x129_14, x129_17, x129_20, x129_21, x129_24, x129_25, x129_26, x129_27, x129_27i, x129_28, x129_31, x129_32, x129_33, x129_36, x129_37, x129_40, x129_41, x129_44, x129_45, x129_46, x129_47, x129_50, x129_51, x129_54, x129_56, x129_57, x129_58, x129_59, x129_62, x129_63, x129_66, x129_68, x129_71, x129_72, x129_72i, x129_73, x129_76, x129_77, x129_78, x129_81, x129_82, x129_85, x129_86, x129_89, x129_90, x129_91, x129_92, x129_93, x129_94, x129_96, x129_99, x129_100, x129_101, x129_102, x129_105, x129_107, x129_108, x129_109, x129_110, x129_113, x129_114, x129_114i, x129_115, x129_118, x129_119, x129_120, x129_123, fcn_110_1, fcn_131_0, fcn_131_2, fcn_131_7, if_true, if_false, eq_self, Int.reduceEq, Int.reduceLT, Int.reduceLE, Int.reduceAdd, Int.reduceSub, Int.reduceMul, Int.reduceToNat, Nat.reduceAdd, Nat.reduceMul, Nat.reduceEqDiff, Int.toNat_natCast, wrap_id, hdp, if_neg (show ¬ ((e + 1 : Nat) : Int) = 0 by omega), zcI_r, zcV_r, hn, k_at h, z1, hin, mu_c, mu_i, k_sAdd (d := d) hd hK' (show K < 200 by omega), hkd, if_neg hkn, k_sAdd (d := d) hd hK3 hK2, a6]
theorem cl_more {d k u o K e : Nat} {T : Tx} {s s2 : Mem} {v : Int} (hd : 1 ≤ d) (h : KS s T u o k) (hlt : k < u) (hdp : s 131 6 = ((e + 1 : Nat) : Int)) (he : e < 3) (hin : s 132 e = 0) (hK : s 124 4 = K) (hK2 : K + 1 < 200) (hc : cA T (tP T (k + 1)) = 58)
    (ht : Zc d 141 [aR 131, aI 123] (mu (mu (sAdd (mu s 131 4 ((k : Int) + 1)) K 58 (tP T k) 0 0) 131 4 (((k + 1 : Nat) : Int) + 1)) 132 e 1) = rI v s2) :
    Zc (d + 1) 129 [aR 131] s = rV s2 := by
  have hn : s 131 4 = k := h.2.2.2.1
  have hk2 := KS_le h
  have ho := h.2.2.2.2.2.2
  have hK' : mu s 131 4 ((k : Int) + 1) 124 4 = K := by rw [mu_c (by decide), hK]
  have h1 := KS_nx h hlt
  have h2 : KS (sAdd (mu s 131 4 ((k : Int) + 1)) K 58 (tP T k) 0 0) T u o (k + 1) := KS_P h1 ((sAdd_fr (o := o) (N := 0) (P := 0) (M := 0) (C := 0) (Nat.le_refl K)).mono (fun _ _ h => PC_X h)) (by rw [sAdd_at.2.2.2.2.2 _ _ (by omega), mu_s]; rfl) hlt
  have hkd := kt_kind (d := d) hd h2
  have hkn : sAdd (mu s 131 4 ((k : Int) + 1)) K 58 (tP T k) 0 0 111 (k + 1) = 58 := (KS_ch h2 (by decide)).mpr hc
  have hn2 := h2.2.2.2.1
  have a6 : sAdd (mu s 131 4 ((k : Int) + 1)) K 58 (tP T k) 0 0 131 6 = ((e + 1 : Nat) : Int) := by rw [sAdd_at.2.2.2.2.2 _ _ (by omega), mu_i (by decide), hdp]
  have z1 : ((e + 1 : Nat) : Int) - 1 = e := by omega
  simp (disch := first | exact obC_110 | exact obC_124 | exact obC_131 | omega | (simp only [aN1_112, aN2_132]; omega) | (simp only [List.length_cons, List.length_nil]; omega)) only [en129, x129_0, x129_1, x129_4, x129_7, x129_8, x129_11, x129_12, x129_13, x129_14, x129_17, x129_20, x129_21, x129_24, x129_25, x129_26, x129_27, x129_27i, x129_28, x129_31, x129_32, x129_33, x129_36, x129_37, x129_40, x129_41, x129_44, x129_45, x129_46, x129_47, x129_50, x129_51, x129_54, x129_56, x129_57, x129_58, x129_59, x129_62, x129_63, x129_66, x129_68, x129_71, x129_72, x129_72i, x129_73, x129_76, x129_77, x129_78, x129_81, x129_82, x129_85, x129_86, x129_89, x129_90, x129_91, x129_92, x129_93, x129_94, x129_96, x129_99, x129_100, x129_101, x129_102, x129_105, x129_107, x129_108, x129_109, x129_110, x129_113, x129_114, x129_114i, x129_115, x129_118, x129_119, x129_120, x129_123, fcn_110_1, fcn_131_0, fcn_131_2, fcn_131_7, if_true, if_false, eq_self, Int.reduceEq, Int.reduceLT, Int.reduceLE, Int.reduceAdd, Int.reduceSub, Int.reduceMul, Int.reduceToNat, Nat.reduceAdd, Nat.reduceMul, Nat.reduceEqDiff, Int.toNat_natCast, wrap_id, hdp, if_neg (show ¬ ((e + 1 : Nat) : Int) = 0 by omega), zcI_r, zcV_r, hn, k_at h, z1, hin, mu_c, mu_i, k_sAdd (d := d) hd hK' (show K < 200 by omega), hkd, hkn, hn2, a6, ht]
