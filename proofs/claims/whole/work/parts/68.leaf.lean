/-! THE DOCUMENT: the ground signals of a type, the k-th: width and how many ~ -/
def lf : Jvm.Term → Nat → Nat → Nat × Nat
  | .arg w, _, f => (w, f)
  | .mul (.arg _) t, k, f => lf t (k % tsz t) f
  | .sum fs, k, f => lf fs k f
  | .div (.sub (.arg _) (.arg bk)) (.rem t r), k, f => if k < tsz t then lf t k (f + bk) else lf r (k - tsz t) f
  | _, _, _ => (0, 0)
def dpt : Jvm.Term → Nat
  | .mul _ t => dpt t
  | .sum fs => 1 + dpt fs
  | .div _ (.rem t r) => max (dpt t) (dpt r)
  | _ => 0
def lfA (turned : Bool) (x : Nat × Nat) : Int := if turned = true then ((x.2 % 2 : Nat) : Int) else (x.1 : Int)
theorem lf_run {d M C : Nat} (hM : M ≤ 200) (hC : C ≤ 100) (s : Mem) (ty0 k0 : Int) (tn : Bool) (t : Jvm.Term) (k f : Nat) :
    (∀ (ty : Int) (l7 : AV), RT s 0 M 0 C true t ty → k < tsz t → tsz t ≤ 24 → f + dpt t ≤ 9 → Ze d 30 9 [aR 0, aI ty0, aI k0, aI (if tn = true then 1 else 0), aI ty, aI k, aI f, l7] [] s = rI (lfA tn (lf t k f)) s) ∧
    (∀ (fd : Int) (ty : Int), RT s 0 M 0 C false t fd → k < tsz t → tsz t ≤ 24 → f + dpt t ≤ 8 → Ze d 30 63 [aR 0, aI ty0, aI k0, aI (if tn = true then 1 else 0), aI ty, aI k, aI f, aI fd] [] s = rI (lfA tn (lf t k f)) s) := by
  fun_induction lf t k f with
  | case1 w k f =>
    refine ⟨fun ty l7 h hk hz hf => ?_, fun fd ty h => ?_⟩
    · obtain ⟨r1, r2, r3, r4⟩ := RT_size h
      obtain ⟨tn', rfl⟩ : ∃ a : Nat, ty = a := ⟨ty.toNat, by omega⟩
      obtain ⟨w', e, h1, h2, h3⟩ | ⟨fs, e, -⟩ | ⟨w', w'', e, -⟩ := RT_inv h
      · cases e
        rw [Int.toNat_natCast] at h1 h2
        rw [x30_9]
        unfold lfA
        cases tn
        · simp (disch := first | exact obC_0 | omega | (simp only [aN1_2, aN1_3, aN1_4, aN1_5, aN1_7, aN1_8, aN1_9]; omega) | (simp only [List.length_cons, List.length_nil]; omega)) only [en30, x30_0, x30_1, x30_3, x30_4, x30_6, x30_7, x30_10, x30_13, x30_15, x30_16, x30_19, x30_20, x30_23, x30_25, x30_26, x30_27, x30_30, x30_31, x30_34, x30_36, x30_37, x30_39, x30_41, x30_42, x30_45, x30_47, x30_48, x30_49, x30_51, x30_54, x30_55, x30_58, x30_60, x30_61, x30_65, x30_66, x30_69, x30_70, x30_73, x30_75, x30_76, x30_77, x30_80, x30_82, x30_83, x30_86, x30_87, x30_90, x30_92, x30_93, x30_94, x30_95, x30_97, x30_98, x30_101, x30_103, x30_104, x30_106, x30_109, x30_111, x30_112, x30_115, x30_117, x30_118, x30_119, x30_121, x30_122, x30_125, x30_127, x30_128, x30_130, x30_133, x30_134, x30_137, x30_139, x30_140, x30_141, x30_144, x30_145, x30_148, x30_150, x30_151, fcn_0_11, fcn_0_12, fcn_0_13, fcn_0_6, fcn_0_7, fcn_0_8, fcn_0_9, if_true, if_false, eq_self, Int.reduceEq, Int.reduceLT, Int.reduceLE, Int.reduceAdd, Int.reduceSub, Int.reduceMul, Int.reduceToNat, Nat.reduceAdd, Nat.reduceMul, Nat.reduceEqDiff, Int.toNat_natCast, wrap_id, h1, h2, if_neg (show ¬ (false = true) from nofun)]
        · simp (disch := first | exact obC_0 | omega | (simp only [aN1_2, aN1_3, aN1_4, aN1_5, aN1_7, aN1_8, aN1_9]; omega) | (simp only [List.length_cons, List.length_nil]; omega)) only [en30, x30_0, x30_1, x30_3, x30_4, x30_6, x30_7, x30_10, x30_13, x30_15, x30_16, x30_19, x30_20, x30_23, x30_25, x30_26, x30_27, x30_30, x30_31, x30_34, x30_36, x30_37, x30_39, x30_41, x30_42, x30_45, x30_47, x30_48, x30_49, x30_51, x30_54, x30_55, x30_58, x30_60, x30_61, x30_65, x30_66, x30_69, x30_70, x30_73, x30_75, x30_76, x30_77, x30_80, x30_82, x30_83, x30_86, x30_87, x30_90, x30_92, x30_93, x30_94, x30_95, x30_97, x30_98, x30_101, x30_103, x30_104, x30_106, x30_109, x30_111, x30_112, x30_115, x30_117, x30_118, x30_119, x30_121, x30_122, x30_125, x30_127, x30_128, x30_130, x30_133, x30_134, x30_137, x30_139, x30_140, x30_141, x30_144, x30_145, x30_148, x30_150, x30_151, fcn_0_11, fcn_0_12, fcn_0_13, fcn_0_6, fcn_0_7, fcn_0_8, fcn_0_9, if_true, if_false, eq_self, Int.reduceEq, Int.reduceLT, Int.reduceLE, Int.reduceAdd, Int.reduceSub, Int.reduceMul, Int.reduceToNat, Nat.reduceAdd, Nat.reduceMul, Nat.reduceEqDiff, Int.toNat_natCast, wrap_id, h1, h2, if_true]
          rfl
      · exact (nomatch e)
      · exact (nomatch e)
    · obtain ⟨h0, -⟩ | ⟨_, _, _, _, e, -⟩ := RT_inf h
      · exact (nomatch h0)
      · exact (nomatch e)
  | case2 w t k f ih =>
    refine ⟨fun ty l7 h hk hz hf => ?_, fun fd ty h => ?_⟩
    · obtain ⟨r1, r2, r3, r4⟩ := RT_size h
      obtain ⟨tn', rfl⟩ : ∃ a : Nat, ty = a := ⟨ty.toNat, by omega⟩
      obtain ⟨w', e, -⟩ | ⟨fs, e, -⟩ | ⟨w', w'', e, h1, h2, h3, h4⟩ := RT_inv h
      · exact (nomatch e)
      · exact (nomatch e)
      · cases e
        rw [Int.toNat_natCast] at h1 h2 h4
        obtain ⟨q1, q2, q3, q4⟩ := RT_size h4
        obtain ⟨ey, hey⟩ : ∃ ey : Nat, s 4 tn' = ey := ⟨(s 4 tn').toNat, by omega⟩
        rw [hey] at h4 q1 q2 q3
        rw [Int.toNat_natCast] at q3
        simp only [tsz] at hk hz
        have hb1 : tsz t ≤ w * tsz t := Nat.le_mul_of_pos_left _ (by omega)
        rw [show min 25 (tsz t) = tsz t by omega] at q3
        have hI := ih.1 ey l7 h4 (Nat.mod_lt _ (by omega)) (by omega) (by simp only [dpt] at hf; exact hf)
        rw [← hI]
        rw [x30_9]
        have he : (k : Int) % (tsz t : Int) = ((k % tsz t : Nat) : Int) := (Int.natCast_emod k (tsz t)).symm
        simp (disch := first | exact obC_0 | omega | (simp only [aN1_2, aN1_3, aN1_4, aN1_5, aN1_7, aN1_8, aN1_9]; omega) | (simp only [List.length_cons, List.length_nil]; omega)) only [en30, x30_0, x30_1, x30_3, x30_4, x30_6, x30_7, x30_10, x30_13, x30_15, x30_16, x30_19, x30_20, x30_23, x30_25, x30_26, x30_27, x30_30, x30_31, x30_34, x30_36, x30_37, x30_39, x30_41, x30_42, x30_45, x30_47, x30_48, x30_49, x30_51, x30_54, x30_55, x30_58, x30_60, x30_61, x30_65, x30_66, x30_69, x30_70, x30_73, x30_75, x30_76, x30_77, x30_80, x30_82, x30_83, x30_86, x30_87, x30_90, x30_92, x30_93, x30_94, x30_95, x30_97, x30_98, x30_101, x30_103, x30_104, x30_106, x30_109, x30_111, x30_112, x30_115, x30_117, x30_118, x30_119, x30_121, x30_122, x30_125, x30_127, x30_128, x30_130, x30_133, x30_134, x30_137, x30_139, x30_140, x30_141, x30_144, x30_145, x30_148, x30_150, x30_151, fcn_0_11, fcn_0_12, fcn_0_13, fcn_0_6, fcn_0_7, fcn_0_8, fcn_0_9, if_true, if_false, eq_self, Int.reduceEq, Int.reduceLT, Int.reduceLE, Int.reduceAdd, Int.reduceSub, Int.reduceMul, Int.reduceToNat, Nat.reduceAdd, Nat.reduceMul, Nat.reduceEqDiff, Int.toNat_natCast, wrap_id, h1, hey, q3, he, if_neg (show ¬ ((tsz t : Nat) : Int) = 0 by omega)]
    · obtain ⟨h0, -⟩ | ⟨_, _, _, _, e, -⟩ := RT_inf h
      · exact (nomatch h0)
      · exact (nomatch e)
  | case3 fs k f ih =>
    refine ⟨fun ty l7 h hk hz hf => ?_, fun fd ty h => ?_⟩
    · obtain ⟨r1, r2, r3, r4⟩ := RT_size h
      obtain ⟨tn', rfl⟩ : ∃ a : Nat, ty = a := ⟨ty.toNat, by omega⟩
      obtain ⟨w', e, -⟩ | ⟨fs', e, h1, h2, h3⟩ | ⟨w', w'', e, -⟩ := RT_inv h
      · exact (nomatch e)
      · cases e
        rw [Int.toNat_natCast] at h1 h3
        have hI := ih.2 (s 4 tn') tn' h3 hk hz (by simp only [dpt] at hf; omega)
        rw [← hI]
        rw [x30_9]
        simp (disch := first | exact obC_0 | omega | (simp only [aN1_2, aN1_3, aN1_4, aN1_5, aN1_7, aN1_8, aN1_9]; omega) | (simp only [List.length_cons, List.length_nil]; omega)) only [en30, x30_0, x30_1, x30_3, x30_4, x30_6, x30_7, x30_10, x30_13, x30_15, x30_16, x30_19, x30_20, x30_23, x30_25, x30_26, x30_27, x30_30, x30_31, x30_34, x30_36, x30_37, x30_39, x30_41, x30_42, x30_45, x30_47, x30_48, x30_49, x30_51, x30_54, x30_55, x30_58, x30_60, x30_61, x30_65, x30_66, x30_69, x30_70, x30_73, x30_75, x30_76, x30_77, x30_80, x30_82, x30_83, x30_86, x30_87, x30_90, x30_92, x30_93, x30_94, x30_95, x30_97, x30_98, x30_101, x30_103, x30_104, x30_106, x30_109, x30_111, x30_112, x30_115, x30_117, x30_118, x30_119, x30_121, x30_122, x30_125, x30_127, x30_128, x30_130, x30_133, x30_134, x30_137, x30_139, x30_140, x30_141, x30_144, x30_145, x30_148, x30_150, x30_151, fcn_0_11, fcn_0_12, fcn_0_13, fcn_0_6, fcn_0_7, fcn_0_8, fcn_0_9, if_true, if_false, eq_self, Int.reduceEq, Int.reduceLT, Int.reduceLE, Int.reduceAdd, Int.reduceSub, Int.reduceMul, Int.reduceToNat, Nat.reduceAdd, Nat.reduceMul, Nat.reduceEqDiff, Int.toNat_natCast, wrap_id, h1]
      · exact (nomatch e)
    · obtain ⟨h0, -⟩ | ⟨_, _, _, _, e, -⟩ := RT_inf h
      · exact (nomatch h0)
      · exact (nomatch e)
  | case4 nm bk t r k f hkt ih =>
    refine ⟨fun ty l7 h => ?_, fun fd ty h hk hz hf => ?_⟩
    · obtain ⟨w', e, -⟩ | ⟨fs', e, -⟩ | ⟨w', w'', e, -⟩ := RT_inv h
      all_goals exact (nomatch e)
    · obtain ⟨h0, -⟩ | ⟨nm', bk', ty', r', e, h1, h2, h3, h4, h5, h6, h7⟩ := RT_inf h
      · exact (nomatch h0)
      · cases e
        obtain ⟨fn, rfl⟩ : ∃ fn : Nat, fd = fn := ⟨fd.toNat, by omega⟩
        rw [Int.toNat_natCast] at h3 h4 h6 h7
        obtain ⟨r1, r2, r3, r4⟩ := RT_size h6
        simp only [tsz] at hk hz
        simp only [dpt] at hf
        obtain ⟨tn', htn⟩ : ∃ a : Nat, s 7 fn = a := ⟨(s 7 fn).toNat, by omega⟩
        rw [htn] at r3 h6
        rw [Int.toNat_natCast, show min 25 (tsz t) = tsz t by omega] at r3
        have hI := ih.1 tn' (aI fn) h6 hkt (by omega) (by omega)
        rw [← hI]
        rw [x30_63]
        rw [show ((f + bk : Nat) : Int) = (f : Int) + bk by omega]
        simp (disch := first | exact obC_0 | omega | (simp only [aN1_2, aN1_3, aN1_4, aN1_5, aN1_7, aN1_8, aN1_9]; omega) | (simp only [List.length_cons, List.length_nil]; omega)) only [en30, x30_0, x30_1, x30_3, x30_4, x30_6, x30_7, x30_10, x30_13, x30_15, x30_16, x30_19, x30_20, x30_23, x30_25, x30_26, x30_27, x30_30, x30_31, x30_34, x30_36, x30_37, x30_39, x30_41, x30_42, x30_45, x30_47, x30_48, x30_49, x30_51, x30_54, x30_55, x30_58, x30_60, x30_61, x30_65, x30_66, x30_69, x30_70, x30_73, x30_75, x30_76, x30_77, x30_80, x30_82, x30_83, x30_86, x30_87, x30_90, x30_92, x30_93, x30_94, x30_95, x30_97, x30_98, x30_101, x30_103, x30_104, x30_106, x30_109, x30_111, x30_112, x30_115, x30_117, x30_118, x30_119, x30_121, x30_122, x30_125, x30_127, x30_128, x30_130, x30_133, x30_134, x30_137, x30_139, x30_140, x30_141, x30_144, x30_145, x30_148, x30_150, x30_151, fcn_0_11, fcn_0_12, fcn_0_13, fcn_0_6, fcn_0_7, fcn_0_8, fcn_0_9, if_true, if_false, eq_self, Int.reduceEq, Int.reduceLT, Int.reduceLE, Int.reduceAdd, Int.reduceSub, Int.reduceMul, Int.reduceToNat, Nat.reduceAdd, Nat.reduceMul, Nat.reduceEqDiff, Int.toNat_natCast, wrap_id, htn, r3, h4, if_pos (show (k : Int) < (tsz t : Nat) by omega), if_neg (show ¬ ((tsz t : Nat) : Int) ≤ k by omega)]
  | case5 nm bk t r k f hkt ih =>
    refine ⟨fun ty l7 h => ?_, fun fd ty h hk hz hf => ?_⟩
    · obtain ⟨w', e, -⟩ | ⟨fs', e, -⟩ | ⟨w', w'', e, -⟩ := RT_inv h
      all_goals exact (nomatch e)
    · obtain ⟨h0, -⟩ | ⟨nm', bk', ty', r', e, h1, h2, h3, h4, h5, h6, h7⟩ := RT_inf h
      · exact (nomatch h0)
      · cases e
        obtain ⟨fn, rfl⟩ : ∃ fn : Nat, fd = fn := ⟨fd.toNat, by omega⟩
        rw [Int.toNat_natCast] at h3 h4 h6 h7
        obtain ⟨r1, r2, r3, r4⟩ := RT_size h6
        simp only [tsz] at hk hz
        simp only [dpt] at hf
        obtain ⟨tn', htn⟩ : ∃ a : Nat, s 7 fn = a := ⟨(s 7 fn).toNat, by omega⟩
        rw [htn] at r3 h6
        rw [Int.toNat_natCast, show min 25 (tsz t) = tsz t by omega] at r3
        have hI := ih.2 (s 8 fn) ty h7 (by omega) (by omega) (by omega)
        rw [← hI]
        rw [x30_63]
        rw [show ((k - tsz t : Nat) : Int) = (k : Int) - (tsz t : Nat) by omega]
        simp (disch := first | exact obC_0 | omega | (simp only [aN1_2, aN1_3, aN1_4, aN1_5, aN1_7, aN1_8, aN1_9]; omega) | (simp only [List.length_cons, List.length_nil]; omega)) only [en30, x30_0, x30_1, x30_3, x30_4, x30_6, x30_7, x30_10, x30_13, x30_15, x30_16, x30_19, x30_20, x30_23, x30_25, x30_26, x30_27, x30_30, x30_31, x30_34, x30_36, x30_37, x30_39, x30_41, x30_42, x30_45, x30_47, x30_48, x30_49, x30_51, x30_54, x30_55, x30_58, x30_60, x30_61, x30_65, x30_66, x30_69, x30_70, x30_73, x30_75, x30_76, x30_77, x30_80, x30_82, x30_83, x30_86, x30_87, x30_90, x30_92, x30_93, x30_94, x30_95, x30_97, x30_98, x30_101, x30_103, x30_104, x30_106, x30_109, x30_111, x30_112, x30_115, x30_117, x30_118, x30_119, x30_121, x30_122, x30_125, x30_127, x30_128, x30_130, x30_133, x30_134, x30_137, x30_139, x30_140, x30_141, x30_144, x30_145, x30_148, x30_150, x30_151, fcn_0_11, fcn_0_12, fcn_0_13, fcn_0_6, fcn_0_7, fcn_0_8, fcn_0_9, if_true, if_false, eq_self, Int.reduceEq, Int.reduceLT, Int.reduceLE, Int.reduceAdd, Int.reduceSub, Int.reduceMul, Int.reduceToNat, Nat.reduceAdd, Nat.reduceMul, Nat.reduceEqDiff, Int.toNat_natCast, wrap_id, htn, r3, h4, if_neg (show ¬ (k : Int) < (tsz t : Nat) by omega), if_pos (show ((tsz t : Nat) : Int) ≤ k by omega)]
  | case6 t k f h1 h2 h3 h4 =>
    refine ⟨fun ty l7 h hk => ?_, fun fd ty h hk => ?_⟩
    · obtain ⟨w', e, -⟩ | ⟨fs', e, -⟩ | ⟨w', w'', e, -⟩ := RT_inv h
      · exact absurd e (h1 _)
      · exact absurd e (h3 _)
      · exact absurd e (h2 _ _)
    · obtain ⟨h0, -⟩ | ⟨nm', bk', ty', r', e, -⟩ := RT_inf h
      · subst h0
        simp only [tsz] at hk
        omega
      · exact absurd e (h4 _ _ _ _)
theorem t_leaf {d M C : Nat} (hd : 1 ≤ d) (hM : M ≤ 200) (hC : C ≤ 100) (s : Mem) (tn : Bool) {t : Jvm.Term} {k : Nat} {ty : Int} (h : RT s 0 M 0 C true t ty) (hk : k < tsz t) (hz : tsz t ≤ 24) (hf : dpt t ≤ 9) : Zc d 30 [aR 0, aI ty, aI k, aI (if tn = true then 1 else 0)] s = rI (lfA tn (lf t k 0)) s := by
  obtain ⟨d, rfl⟩ : ∃ e, d = e + 1 := ⟨d - 1, by omega⟩
  rw [← (lf_run (d := d) hM hC s ty k tn t k 0).1 ty aU h hk hz (by omega)]
  have z0 : ((0 : Nat) : Int) = 0 := rfl
  simp (disch := first | exact obC_0 | omega | (simp only [aN1_2, aN1_3, aN1_4, aN1_5, aN1_7, aN1_8, aN1_9]; omega) | (simp only [List.length_cons, List.length_nil]; omega)) only [en30, x30_0, x30_1, x30_3, x30_4, x30_6, x30_7, x30_10, x30_13, x30_15, x30_16, x30_19, x30_20, x30_23, x30_25, x30_26, x30_27, x30_30, x30_31, x30_34, x30_36, x30_37, x30_39, x30_41, x30_42, x30_45, x30_47, x30_48, x30_49, x30_51, x30_54, x30_55, x30_58, x30_60, x30_61, x30_65, x30_66, x30_69, x30_70, x30_73, x30_75, x30_76, x30_77, x30_80, x30_82, x30_83, x30_86, x30_87, x30_90, x30_92, x30_93, x30_94, x30_95, x30_97, x30_98, x30_101, x30_103, x30_104, x30_106, x30_109, x30_111, x30_112, x30_115, x30_117, x30_118, x30_119, x30_121, x30_122, x30_125, x30_127, x30_128, x30_130, x30_133, x30_134, x30_137, x30_139, x30_140, x30_141, x30_144, x30_145, x30_148, x30_150, x30_151, fcn_0_11, fcn_0_12, fcn_0_13, fcn_0_6, fcn_0_7, fcn_0_8, fcn_0_9, if_true, if_false, eq_self, Int.reduceEq, Int.reduceLT, Int.reduceLE, Int.reduceAdd, Int.reduceSub, Int.reduceMul, Int.reduceToNat, Nat.reduceAdd, Nat.reduceMul, Nat.reduceEqDiff, Int.toNat_natCast, wrap_id, z0]
/-- which ground signals are sinks -/
def isSk (k f : Nat) : Prop := k = 2 ∨ k = 3 ∨ (k = 1 ∧ f % 2 = 0) ∨ (k = 0 ∧ f % 2 = 1)
theorem t_isSink {d g k f : Nat} (hd : 1 ≤ d) (s : Mem) (hg : g < 48) (hk : s 35 g = k) (hf : s 37 g = f) : (isSk k f → Zc d 32 [aR 0, aI g] s = rI 1 s) ∧ (¬ isSk k f → Zc d 32 [aR 0, aI g] s = rI 0 s) := by
  obtain ⟨d, rfl⟩ : ∃ e, d = e + 1 := ⟨d - 1, by omega⟩
  have he : (f : Int) % 2 = ((f % 2 : Nat) : Int) := by omega
  have hf2 : f % 2 = 0 ∨ f % 2 = 1 := by omega
  have key : ∀ b : Nat, f % 2 = b → (b = 0 ∨ b = 1) → Zc (d + 1) 32 [aR 0, aI g] s = rI (if k = 2 ∨ k = 3 ∨ (k = 1 ∧ b = 0) ∨ (k = 0 ∧ b = 1) then 1 else 0) s := by
    intro b hb hb2
    rw [hb] at he
    by_cases k2 : k = 2
    · have hk' : s 35 g = 2 := by rw [hk, k2]; rfl
      rw [if_pos (by omega)]
      simp (disch := first | exact obC_0 | omega | (simp only [aN1_35, aN1_37]; omega) | (simp only [List.length_cons, List.length_nil]; omega)) only [en32, x32_0, x32_1, x32_4, x32_5, x32_6, x32_7, x32_10, x32_11, x32_14, x32_15, x32_16, x32_17, x32_20, x32_21, x32_24, x32_25, x32_26, x32_27, x32_30, x32_31, x32_34, x32_35, x32_36, x32_37, x32_38, x32_41, x32_42, x32_45, x32_46, x32_47, x32_50, x32_51, x32_54, x32_55, x32_56, x32_57, x32_58, x32_59, x32_62, x32_63, x32_66, x32_67, fcn_0_44, fcn_0_46, if_true, if_false, eq_self, Int.reduceEq, Int.reduceLT, Int.reduceLE, Int.reduceAdd, Int.reduceSub, Int.reduceMul, Int.reduceToNat, Nat.reduceAdd, Nat.reduceMul, Nat.reduceEqDiff, Int.toNat_natCast, wrap_id, hk']
    by_cases k3 : k = 3
    · have hk' : s 35 g = 3 := by rw [hk, k3]; rfl
      rw [if_pos (by omega)]
      simp (disch := first | exact obC_0 | omega | (simp only [aN1_35, aN1_37]; omega) | (simp only [List.length_cons, List.length_nil]; omega)) only [en32, x32_0, x32_1, x32_4, x32_5, x32_6, x32_7, x32_10, x32_11, x32_14, x32_15, x32_16, x32_17, x32_20, x32_21, x32_24, x32_25, x32_26, x32_27, x32_30, x32_31, x32_34, x32_35, x32_36, x32_37, x32_38, x32_41, x32_42, x32_45, x32_46, x32_47, x32_50, x32_51, x32_54, x32_55, x32_56, x32_57, x32_58, x32_59, x32_62, x32_63, x32_66, x32_67, fcn_0_44, fcn_0_46, if_true, if_false, eq_self, Int.reduceEq, Int.reduceLT, Int.reduceLE, Int.reduceAdd, Int.reduceSub, Int.reduceMul, Int.reduceToNat, Nat.reduceAdd, Nat.reduceMul, Nat.reduceEqDiff, Int.toNat_natCast, wrap_id, hk']
    by_cases k1 : k = 1
    · have hk' : s 35 g = 1 := by rw [hk, k1]; rfl
      rcases hb2 with rfl | rfl
      · rw [if_pos (by omega)]
        have he : (f : Int) % 2 = 0 := he
        simp (disch := first | exact obC_0 | omega | (simp only [aN1_35, aN1_37]; omega) | (simp only [List.length_cons, List.length_nil]; omega)) only [en32, x32_0, x32_1, x32_4, x32_5, x32_6, x32_7, x32_10, x32_11, x32_14, x32_15, x32_16, x32_17, x32_20, x32_21, x32_24, x32_25, x32_26, x32_27, x32_30, x32_31, x32_34, x32_35, x32_36, x32_37, x32_38, x32_41, x32_42, x32_45, x32_46, x32_47, x32_50, x32_51, x32_54, x32_55, x32_56, x32_57, x32_58, x32_59, x32_62, x32_63, x32_66, x32_67, fcn_0_44, fcn_0_46, if_true, if_false, eq_self, Int.reduceEq, Int.reduceLT, Int.reduceLE, Int.reduceAdd, Int.reduceSub, Int.reduceMul, Int.reduceToNat, Nat.reduceAdd, Nat.reduceMul, Nat.reduceEqDiff, Int.toNat_natCast, wrap_id, hk', hf, he]
      · rw [if_neg (by omega)]
        have he : (f : Int) % 2 = 1 := he
        simp (disch := first | exact obC_0 | omega | (simp only [aN1_35, aN1_37]; omega) | (simp only [List.length_cons, List.length_nil]; omega)) only [en32, x32_0, x32_1, x32_4, x32_5, x32_6, x32_7, x32_10, x32_11, x32_14, x32_15, x32_16, x32_17, x32_20, x32_21, x32_24, x32_25, x32_26, x32_27, x32_30, x32_31, x32_34, x32_35, x32_36, x32_37, x32_38, x32_41, x32_42, x32_45, x32_46, x32_47, x32_50, x32_51, x32_54, x32_55, x32_56, x32_57, x32_58, x32_59, x32_62, x32_63, x32_66, x32_67, fcn_0_44, fcn_0_46, if_true, if_false, eq_self, Int.reduceEq, Int.reduceLT, Int.reduceLE, Int.reduceAdd, Int.reduceSub, Int.reduceMul, Int.reduceToNat, Nat.reduceAdd, Nat.reduceMul, Nat.reduceEqDiff, Int.toNat_natCast, wrap_id, hk', hf, he]
    by_cases k0 : k = 0
    · have hk' : s 35 g = 0 := by rw [hk, k0]; rfl
      rcases hb2 with rfl | rfl
      · rw [if_neg (by omega)]
        have he : (f : Int) % 2 = 0 := he
        simp (disch := first | exact obC_0 | omega | (simp only [aN1_35, aN1_37]; omega) | (simp only [List.length_cons, List.length_nil]; omega)) only [en32, x32_0, x32_1, x32_4, x32_5, x32_6, x32_7, x32_10, x32_11, x32_14, x32_15, x32_16, x32_17, x32_20, x32_21, x32_24, x32_25, x32_26, x32_27, x32_30, x32_31, x32_34, x32_35, x32_36, x32_37, x32_38, x32_41, x32_42, x32_45, x32_46, x32_47, x32_50, x32_51, x32_54, x32_55, x32_56, x32_57, x32_58, x32_59, x32_62, x32_63, x32_66, x32_67, fcn_0_44, fcn_0_46, if_true, if_false, eq_self, Int.reduceEq, Int.reduceLT, Int.reduceLE, Int.reduceAdd, Int.reduceSub, Int.reduceMul, Int.reduceToNat, Nat.reduceAdd, Nat.reduceMul, Nat.reduceEqDiff, Int.toNat_natCast, wrap_id, hk', hf, he]
      · rw [if_pos (by omega)]
        have he : (f : Int) % 2 = 1 := he
        simp (disch := first | exact obC_0 | omega | (simp only [aN1_35, aN1_37]; omega) | (simp only [List.length_cons, List.length_nil]; omega)) only [en32, x32_0, x32_1, x32_4, x32_5, x32_6, x32_7, x32_10, x32_11, x32_14, x32_15, x32_16, x32_17, x32_20, x32_21, x32_24, x32_25, x32_26, x32_27, x32_30, x32_31, x32_34, x32_35, x32_36, x32_37, x32_38, x32_41, x32_42, x32_45, x32_46, x32_47, x32_50, x32_51, x32_54, x32_55, x32_56, x32_57, x32_58, x32_59, x32_62, x32_63, x32_66, x32_67, fcn_0_44, fcn_0_46, if_true, if_false, eq_self, Int.reduceEq, Int.reduceLT, Int.reduceLE, Int.reduceAdd, Int.reduceSub, Int.reduceMul, Int.reduceToNat, Nat.reduceAdd, Nat.reduceMul, Nat.reduceEqDiff, Int.toNat_natCast, wrap_id, hk', hf, he]
    rw [if_neg (by omega)]
    simp (disch := first | exact obC_0 | omega | (simp only [aN1_35, aN1_37]; omega) | (simp only [List.length_cons, List.length_nil]; omega)) only [en32, x32_0, x32_1, x32_4, x32_5, x32_6, x32_7, x32_10, x32_11, x32_14, x32_15, x32_16, x32_17, x32_20, x32_21, x32_24, x32_25, x32_26, x32_27, x32_30, x32_31, x32_34, x32_35, x32_36, x32_37, x32_38, x32_41, x32_42, x32_45, x32_46, x32_47, x32_50, x32_51, x32_54, x32_55, x32_56, x32_57, x32_58, x32_59, x32_62, x32_63, x32_66, x32_67, fcn_0_44, fcn_0_46, if_true, if_false, eq_self, Int.reduceEq, Int.reduceLT, Int.reduceLE, Int.reduceAdd, Int.reduceSub, Int.reduceMul, Int.reduceToNat, Nat.reduceAdd, Nat.reduceMul, Nat.reduceEqDiff, Int.toNat_natCast, wrap_id, hk, if_neg (show ¬ (k : Int) = 2 by omega), if_neg (show ¬ (k : Int) = 3 by omega), if_neg (show ¬ (k : Int) = 1 by omega), if_neg (show ¬ (k : Int) = 0 by omega)]
  have := key (f % 2) rfl hf2
  exact ⟨fun h => this.trans (congrArg (fun x => rI x s) (if_pos h)), fun h => this.trans (congrArg (fun x => rI x s) (if_neg h))⟩
def lStep (s : Mem) (n : Nat) (o g e : Int) : Mem := mu (mu (mu (mu s 41 n o) 42 n g) 43 n e) 0 57 ((n : Int) + 1)
theorem t_step {d n : Nat} (hd : 1 ≤ d) (s : Mem) (hn : s 0 57 = n) (hn2 : n < 1100) (o g e : Int) : Zc d 33 [aR 0, aI o, aI g, aI e] s = rV (lStep s n o g e) := by
  obtain ⟨d, rfl⟩ : ∃ e, d = e + 1 := ⟨d - 1, by omega⟩
  unfold lStep
  simp (disch := first | exact obC_0 | omega | (simp only [aN1_41, aN1_42, aN1_43]; omega) | (simp only [List.length_cons, List.length_nil]; omega)) only [en33, x33_0, x33_1, x33_4, x33_5, x33_8, x33_9, x33_10, x33_11, x33_14, x33_15, x33_18, x33_19, x33_20, x33_21, x33_24, x33_25, x33_28, x33_29, x33_30, x33_31, x33_31i, x33_32, x33_35, x33_36, x33_37, x33_40, fcn_0_54, fcn_0_55, fcn_0_56, if_true, if_false, eq_self, Int.reduceEq, Int.reduceLT, Int.reduceLE, Int.reduceAdd, Int.reduceSub, Int.reduceMul, Int.reduceToNat, Nat.reduceAdd, Nat.reduceMul, Nat.reduceEqDiff, Int.toNat_natCast, wrap_id, hn, mu_c]
