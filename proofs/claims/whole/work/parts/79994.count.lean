noncomputable def wSF (W : Nat → Nat) : Nat → Int
  | 0 => 0
  | n + 1 => wrap (wSF W n + W n)
def skp (sg : List Sg) (g : Nat) : Prop := ∃ x, sg[g]? = some x ∧ isSk x.1 x.2.2.1
/-- what count answers -/
noncomputable def cntQ (T : Tx) (lv : Live) (cn what : Int) : Int :=
  if what = 0 then (T.2 : Nat) else if what = 1 then (lv.1.length : Nat) else if what = 2 then (cntP (skp lv.1) lv.1.length : Nat) else if what = 3 then (cntP (rgs lv.1) lv.1.length : Nat) else if what = 4 then cn else wSF lv.2.2 lv.1.length
theorem cn_loop {d : Nat} {what : Int} {sg : List Sg} {lo : List Lo} {W : Nat → Nat} {s : Mem} (hL : LV s sg lo W) : ∀ (m n : Nat), n + m = sg.length → ∃ l5, Ze d 59 31 [aR 0, aI what, aI (cntP (skp sg) n), aI (cntP (rgs sg) n), aI (wSF W n), aI ((24 + n : Nat) : Int)] [] s = Ze d 59 85 [aR 0, aI what, aI (cntP (skp sg) sg.length), aI (cntP (rgs sg) sg.length), aI (wSF W sg.length), l5] [] s := by
  have l1 := hL.1
  have l2 := hL.2.1
  have l9 := hL.2.2.2.2.2.2.2.2
  have e2 : (24 : Int) + (sg.length : Nat) = ((24 + sg.length : Nat) : Int) := rfl
  intro m
  induction m with
  | zero =>
    intro n hn
    refine ⟨aI ((24 + sg.length : Nat) : Int), ?_⟩
    rw [show n = sg.length by omega, x59_31]
    simp (disch := first | exact obC_0 | omega | (simp only [aN1_35, aN1_37, aN1_38]; omega) | (simp only [List.length_cons, List.length_nil]; omega)) only [en59, x59_0, x59_1, x59_2, x59_3, x59_6, x59_9, x59_10, x59_11, x59_14, x59_15, x59_16, x59_17, x59_20, x59_21, x59_22, x59_23, x59_24, x59_25, x59_27, x59_29, x59_33, x59_35, x59_36, x59_39, x59_40, x59_43, x59_44, x59_45, x59_48, x59_50, x59_51, x59_52, x59_53, x59_54, x59_57, x59_59, x59_60, x59_61, x59_64, x59_67, x59_69, x59_70, x59_73, x59_75, x59_76, x59_77, x59_79, x59_82, x59_86, x59_89, x59_90, x59_93, x59_96, x59_97, x59_98, x59_101, x59_102, x59_105, x59_108, x59_109, x59_110, x59_113, x59_114, x59_117, x59_118, x59_119, x59_122, x59_123, x59_126, x59_127, x59_128, x59_131, x59_132, x59_135, x59_138, x59_140, fcn_0_44, fcn_0_46, fcn_0_47, if_true, if_false, eq_self, Int.reduceEq, Int.reduceLT, Int.reduceLE, Int.reduceAdd, Int.reduceSub, Int.reduceMul, Int.reduceToNat, Nat.reduceAdd, Nat.reduceMul, Nat.reduceEqDiff, Int.toNat_natCast, wrap_id, l1, e2, if_neg (show ¬ ((24 + sg.length : Nat) : Int) < ((24 + sg.length : Nat) : Int) by omega)]
  | succ m ih =>
    intro n hn
    obtain ⟨l5, q⟩ := ih (n + 1) (by omega)
    refine ⟨l5, Eq.trans ?_ q⟩
    obtain ⟨x, hx⟩ : ∃ x, sg[n]? = some x := ⟨_, List.getElem?_eq_getElem (by omega)⟩
    obtain ⟨z1, z2, z3, z4, z5, -⟩ := l9 n x hx
    have hlt : ((24 + n : Nat) : Int) < ((24 + sg.length : Nat) : Int) := by omega
    have en : ((24 + (n + 1) : Nat) : Int) = ((24 + n : Nat) : Int) + 1 := by omega
    have c1 := cntP_n (P := skp sg) n
    have c2 := cntP_n (P := rgs sg) n
    have hw : wSF W (n + 1) = wrap (wSF W n + W n) := rfl
    obtain ⟨b1, hb1, hb2⟩ : ∃ b1 : Nat, s 37 (24 + n) = b1 ∧ cntP (skp sg) (n + 1) = cntP (skp sg) n + b1 ∧ b1 ≤ 1 := by
      have hc : cntP (skp sg) (n + 1) = cntP (skp sg) n + @ite _ (skp sg n) (Classical.propDecidable _) 1 0 := rfl
      by_cases hk : isSk x.1 x.2.2.1
      · exact ⟨1, by rw [z3 hk]; rfl, by rw [hc, if_pos ⟨x, hx, hk⟩], by decide⟩
      · exact ⟨0, by rw [z4 hk]; rfl, by rw [hc, if_neg (fun ⟨y, hy, h⟩ => by rw [hx] at hy; cases hy; exact hk h)], by decide⟩
    obtain ⟨hb2, hb3⟩ := hb2
    have hc3 : cntP (rgs sg) (n + 1) = cntP (rgs sg) n + @ite _ (rgs sg n) (Classical.propDecidable _) 1 0 := rfl
    have e1 : ((cntP (skp sg) n + b1 : Nat) : Int) = (cntP (skp sg) n : Int) + b1 := rfl
    rw [hw, hb2, e1, en, x59_31]
    by_cases h3 : x.1 = 3
    · have z1 : s 35 (24 + n) = 3 := by rw [z1, h3]; rfl
      rw [hc3, if_pos ⟨x, hx, h3⟩, show ((cntP (rgs sg) n + 1 : Nat) : Int) = (cntP (rgs sg) n : Int) + 1 from rfl]
      generalize cntP (skp sg) n = q1 at *
      generalize cntP (rgs sg) n = q2 at *
      simp (disch := first | exact obC_0 | omega | (simp only [aN1_35, aN1_37, aN1_38]; omega) | (simp only [List.length_cons, List.length_nil]; omega)) only [en59, x59_0, x59_1, x59_2, x59_3, x59_6, x59_9, x59_10, x59_11, x59_14, x59_15, x59_16, x59_17, x59_20, x59_21, x59_22, x59_23, x59_24, x59_25, x59_27, x59_29, x59_33, x59_35, x59_36, x59_39, x59_40, x59_43, x59_44, x59_45, x59_48, x59_50, x59_51, x59_52, x59_53, x59_54, x59_57, x59_59, x59_60, x59_61, x59_64, x59_67, x59_69, x59_70, x59_73, x59_75, x59_76, x59_77, x59_79, x59_82, x59_85, x59_86, x59_89, x59_90, x59_93, x59_96, x59_97, x59_98, x59_101, x59_102, x59_105, x59_108, x59_109, x59_110, x59_113, x59_114, x59_117, x59_118, x59_119, x59_122, x59_123, x59_126, x59_127, x59_128, x59_131, x59_132, x59_135, x59_138, x59_140, fcn_0_44, fcn_0_46, fcn_0_47, if_true, if_false, eq_self, Int.reduceEq, Int.reduceLT, Int.reduceLE, Int.reduceAdd, Int.reduceSub, Int.reduceMul, Int.reduceToNat, Nat.reduceAdd, Nat.reduceMul, Nat.reduceEqDiff, Int.toNat_natCast, wrap_id, l1, e2, if_pos hlt, hb1, z1, z5]
    · rw [hc3, if_neg (fun ⟨y, hy, h⟩ => by rw [hx] at hy; cases hy; exact h3 h), Nat.add_zero]
      generalize cntP (skp sg) n = q1 at *
      generalize cntP (rgs sg) n = q2 at *
      simp (disch := first | exact obC_0 | omega | (simp only [aN1_35, aN1_37, aN1_38]; omega) | (simp only [List.length_cons, List.length_nil]; omega)) only [en59, x59_0, x59_1, x59_2, x59_3, x59_6, x59_9, x59_10, x59_11, x59_14, x59_15, x59_16, x59_17, x59_20, x59_21, x59_22, x59_23, x59_24, x59_25, x59_27, x59_29, x59_33, x59_35, x59_36, x59_39, x59_40, x59_43, x59_44, x59_45, x59_48, x59_50, x59_51, x59_52, x59_53, x59_54, x59_57, x59_59, x59_60, x59_61, x59_64, x59_67, x59_69, x59_70, x59_73, x59_75, x59_76, x59_77, x59_79, x59_82, x59_85, x59_86, x59_89, x59_90, x59_93, x59_96, x59_97, x59_98, x59_101, x59_102, x59_105, x59_108, x59_109, x59_110, x59_113, x59_114, x59_117, x59_118, x59_119, x59_122, x59_123, x59_126, x59_127, x59_128, x59_131, x59_132, x59_135, x59_138, x59_140, fcn_0_44, fcn_0_46, fcn_0_47, if_true, if_false, eq_self, Int.reduceEq, Int.reduceLT, Int.reduceLE, Int.reduceAdd, Int.reduceSub, Int.reduceMul, Int.reduceToNat, Nat.reduceAdd, Nat.reduceMul, Nat.reduceEqDiff, Int.toNat_natCast, wrap_id, l1, e2, if_pos hlt, hb1, z1, z5, if_neg (show ¬ (x.1 : Int) = 3 by omega)]
theorem t_count {d : Nat} {what : Int} {s : Mem} {T : Tx} {w : Int} {cp : Bool} {lv : Live} {st val bf ch : Nat → Int} {ck cn : Int} (hd : 2 ≤ d) (h : RA s T w cp lv st val bf ch ck cn) :
    ((0 ≤ what ∧ what ≤ 5) → ∃ s', Zc d 59 [aR 0, aI what] s = rI (cntQ T lv cn what) s' ∧ RA s' T w cp lv st val bf ch ck cn ∧ s' 0 4 = 0) ∧
    (¬ (0 ≤ what ∧ what ≤ 5) → ∃ s', Zc d 59 [aR 0, aI what] s = rI 0 s' ∧ RA s' T w cp lv st val bf ch ck cn ∧ s' 0 4 = 1) := by
  obtain ⟨d, rfl⟩ : ∃ e, d = e + 1 := ⟨d - 1, by omega⟩
  refine ⟨fun hw => ?_, fun hw => ?_⟩
  · have e : (if (0 : Int) ≤ what ∧ what ≤ 5 then (1 : Int) else 0) = 1 := if_pos hw
    have h' : RA (mu s 0 4 0) T w cp lv st val bf ch ck cn := RA_put thr_fr h
    have hln : mu s 0 4 0 0 1 = (T.2 : Nat) := by
      obtain ⟨o1, -⟩ := h'.2.1
      rw [← h'.1]
      show _ = ((mu s 0 4 0 0 1).toNat : Int)
      omega
    have hcn := h'.2.2.2.2.2.2.2.2.2.2.2.2.2
    have hls := h'.2.2.1.1
    refine ⟨mu s 0 4 0, ?_, h', mu_s⟩
    generalize hs1 : mu s 0 4 0 = s1 at *
    obtain ⟨l5, q⟩ := cn_loop (d := d) (what := what) h'.2.2.1 lv.1.length 0 (Nat.zero_add _)
    have h0 : Zc (d + 1) 59 [aR 0, aI what] s = Ze d 59 31 [aR 0, aI what, aI (cntP (skp lv.1) 0), aI (cntP (rgs lv.1) 0), aI (wSF lv.2.2 0), aI ((24 + 0 : Nat) : Int)] [] s1 := by
      rw [show ((cntP (skp lv.1) 0 : Nat) : Int) = 0 from rfl, show ((cntP (rgs lv.1) 0 : Nat) : Int) = 0 from rfl, show wSF lv.2.2 0 = 0 from rfl, show ((24 + 0 : Nat) : Int) = 24 from rfl]
      simp (disch := first | exact obC_0 | omega | (simp only [aN1_35, aN1_37, aN1_38]; omega) | (simp only [List.length_cons, List.length_nil]; omega)) only [en59, x59_0, x59_1, x59_2, x59_3, x59_6, x59_9, x59_10, x59_11, x59_14, x59_15, x59_16, x59_17, x59_20, x59_21, x59_22, x59_23, x59_24, x59_25, x59_27, x59_29, x59_33, x59_35, x59_36, x59_39, x59_40, x59_43, x59_44, x59_45, x59_48, x59_50, x59_51, x59_52, x59_53, x59_54, x59_57, x59_59, x59_60, x59_61, x59_64, x59_67, x59_69, x59_70, x59_73, x59_75, x59_76, x59_77, x59_79, x59_82, x59_85, x59_86, x59_89, x59_90, x59_93, x59_96, x59_97, x59_98, x59_101, x59_102, x59_105, x59_108, x59_109, x59_110, x59_113, x59_114, x59_117, x59_118, x59_119, x59_122, x59_123, x59_126, x59_127, x59_128, x59_131, x59_132, x59_135, x59_138, x59_140, fcn_0_44, fcn_0_46, fcn_0_47, if_true, if_false, eq_self, Int.reduceEq, Int.reduceLT, Int.reduceLE, Int.reduceAdd, Int.reduceSub, Int.reduceMul, Int.reduceToNat, Nat.reduceAdd, Nat.reduceMul, Nat.reduceEqDiff, Int.toNat_natCast, wrap_id, t_in (d := d) (by omega), e, zcI_r, hs1]
    rw [h0, q]
    unfold cntQ
    obtain h | h | h | h | h | h : what = 0 ∨ what = 1 ∨ what = 2 ∨ what = 3 ∨ what = 4 ∨ what = 5 := by omega
    · subst h
      rw [if_pos rfl]
      simp (disch := first | exact obC_0 | omega | (simp only [aN1_35, aN1_37, aN1_38]; omega) | (simp only [List.length_cons, List.length_nil]; omega)) only [en59, x59_0, x59_1, x59_2, x59_3, x59_6, x59_9, x59_10, x59_11, x59_14, x59_15, x59_16, x59_17, x59_20, x59_21, x59_22, x59_23, x59_24, x59_25, x59_27, x59_29, x59_33, x59_35, x59_36, x59_39, x59_40, x59_43, x59_44, x59_45, x59_48, x59_50, x59_51, x59_52, x59_53, x59_54, x59_57, x59_59, x59_60, x59_61, x59_64, x59_67, x59_69, x59_70, x59_73, x59_75, x59_76, x59_77, x59_79, x59_82, x59_85, x59_86, x59_89, x59_90, x59_93, x59_96, x59_97, x59_98, x59_101, x59_102, x59_105, x59_108, x59_109, x59_110, x59_113, x59_114, x59_117, x59_118, x59_119, x59_122, x59_123, x59_126, x59_127, x59_128, x59_131, x59_132, x59_135, x59_138, x59_140, fcn_0_44, fcn_0_46, fcn_0_47, if_true, if_false, eq_self, Int.reduceEq, Int.reduceLT, Int.reduceLE, Int.reduceAdd, Int.reduceSub, Int.reduceMul, Int.reduceToNat, Nat.reduceAdd, Nat.reduceMul, Nat.reduceEqDiff, Int.toNat_natCast, wrap_id, hln]
    · subst h
      rw [if_neg (by decide), if_pos rfl]
      simp (disch := first | exact obC_0 | omega | (simp only [aN1_35, aN1_37, aN1_38]; omega) | (simp only [List.length_cons, List.length_nil]; omega)) only [en59, x59_0, x59_1, x59_2, x59_3, x59_6, x59_9, x59_10, x59_11, x59_14, x59_15, x59_16, x59_17, x59_20, x59_21, x59_22, x59_23, x59_24, x59_25, x59_27, x59_29, x59_33, x59_35, x59_36, x59_39, x59_40, x59_43, x59_44, x59_45, x59_48, x59_50, x59_51, x59_52, x59_53, x59_54, x59_57, x59_59, x59_60, x59_61, x59_64, x59_67, x59_69, x59_70, x59_73, x59_75, x59_76, x59_77, x59_79, x59_82, x59_85, x59_86, x59_89, x59_90, x59_93, x59_96, x59_97, x59_98, x59_101, x59_102, x59_105, x59_108, x59_109, x59_110, x59_113, x59_114, x59_117, x59_118, x59_119, x59_122, x59_123, x59_126, x59_127, x59_128, x59_131, x59_132, x59_135, x59_138, x59_140, fcn_0_44, fcn_0_46, fcn_0_47, if_true, if_false, eq_self, Int.reduceEq, Int.reduceLT, Int.reduceLE, Int.reduceAdd, Int.reduceSub, Int.reduceMul, Int.reduceToNat, Nat.reduceAdd, Nat.reduceMul, Nat.reduceEqDiff, Int.toNat_natCast, wrap_id, hls]
    · subst h
      rw [if_neg (by decide), if_neg (by decide), if_pos rfl]
      simp (disch := first | exact obC_0 | omega | (simp only [aN1_35, aN1_37, aN1_38]; omega) | (simp only [List.length_cons, List.length_nil]; omega)) only [en59, x59_0, x59_1, x59_2, x59_3, x59_6, x59_9, x59_10, x59_11, x59_14, x59_15, x59_16, x59_17, x59_20, x59_21, x59_22, x59_23, x59_24, x59_25, x59_27, x59_29, x59_33, x59_35, x59_36, x59_39, x59_40, x59_43, x59_44, x59_45, x59_48, x59_50, x59_51, x59_52, x59_53, x59_54, x59_57, x59_59, x59_60, x59_61, x59_64, x59_67, x59_69, x59_70, x59_73, x59_75, x59_76, x59_77, x59_79, x59_82, x59_85, x59_86, x59_89, x59_90, x59_93, x59_96, x59_97, x59_98, x59_101, x59_102, x59_105, x59_108, x59_109, x59_110, x59_113, x59_114, x59_117, x59_118, x59_119, x59_122, x59_123, x59_126, x59_127, x59_128, x59_131, x59_132, x59_135, x59_138, x59_140, fcn_0_44, fcn_0_46, fcn_0_47, if_true, if_false, eq_self, Int.reduceEq, Int.reduceLT, Int.reduceLE, Int.reduceAdd, Int.reduceSub, Int.reduceMul, Int.reduceToNat, Nat.reduceAdd, Nat.reduceMul, Nat.reduceEqDiff, Int.toNat_natCast, wrap_id]
    · subst h
      rw [if_neg (by decide), if_neg (by decide), if_neg (by decide), if_pos rfl]
      simp (disch := first | exact obC_0 | omega | (simp only [aN1_35, aN1_37, aN1_38]; omega) | (simp only [List.length_cons, List.length_nil]; omega)) only [en59, x59_0, x59_1, x59_2, x59_3, x59_6, x59_9, x59_10, x59_11, x59_14, x59_15, x59_16, x59_17, x59_20, x59_21, x59_22, x59_23, x59_24, x59_25, x59_27, x59_29, x59_33, x59_35, x59_36, x59_39, x59_40, x59_43, x59_44, x59_45, x59_48, x59_50, x59_51, x59_52, x59_53, x59_54, x59_57, x59_59, x59_60, x59_61, x59_64, x59_67, x59_69, x59_70, x59_73, x59_75, x59_76, x59_77, x59_79, x59_82, x59_85, x59_86, x59_89, x59_90, x59_93, x59_96, x59_97, x59_98, x59_101, x59_102, x59_105, x59_108, x59_109, x59_110, x59_113, x59_114, x59_117, x59_118, x59_119, x59_122, x59_123, x59_126, x59_127, x59_128, x59_131, x59_132, x59_135, x59_138, x59_140, fcn_0_44, fcn_0_46, fcn_0_47, if_true, if_false, eq_self, Int.reduceEq, Int.reduceLT, Int.reduceLE, Int.reduceAdd, Int.reduceSub, Int.reduceMul, Int.reduceToNat, Nat.reduceAdd, Nat.reduceMul, Nat.reduceEqDiff, Int.toNat_natCast, wrap_id]
    · subst h
      rw [if_neg (by decide), if_neg (by decide), if_neg (by decide), if_neg (by decide), if_pos rfl]
      simp (disch := first | exact obC_0 | omega | (simp only [aN1_35, aN1_37, aN1_38]; omega) | (simp only [List.length_cons, List.length_nil]; omega)) only [en59, x59_0, x59_1, x59_2, x59_3, x59_6, x59_9, x59_10, x59_11, x59_14, x59_15, x59_16, x59_17, x59_20, x59_21, x59_22, x59_23, x59_24, x59_25, x59_27, x59_29, x59_33, x59_35, x59_36, x59_39, x59_40, x59_43, x59_44, x59_45, x59_48, x59_50, x59_51, x59_52, x59_53, x59_54, x59_57, x59_59, x59_60, x59_61, x59_64, x59_67, x59_69, x59_70, x59_73, x59_75, x59_76, x59_77, x59_79, x59_82, x59_85, x59_86, x59_89, x59_90, x59_93, x59_96, x59_97, x59_98, x59_101, x59_102, x59_105, x59_108, x59_109, x59_110, x59_113, x59_114, x59_117, x59_118, x59_119, x59_122, x59_123, x59_126, x59_127, x59_128, x59_131, x59_132, x59_135, x59_138, x59_140, fcn_0_44, fcn_0_46, fcn_0_47, if_true, if_false, eq_self, Int.reduceEq, Int.reduceLT, Int.reduceLE, Int.reduceAdd, Int.reduceSub, Int.reduceMul, Int.reduceToNat, Nat.reduceAdd, Nat.reduceMul, Nat.reduceEqDiff, Int.toNat_natCast, wrap_id, hcn]
    · subst h
      rw [if_neg (by decide), if_neg (by decide), if_neg (by decide), if_neg (by decide), if_neg (by decide)]
      simp (disch := first | exact obC_0 | omega | (simp only [aN1_35, aN1_37, aN1_38]; omega) | (simp only [List.length_cons, List.length_nil]; omega)) only [en59, x59_0, x59_1, x59_2, x59_3, x59_6, x59_9, x59_10, x59_11, x59_14, x59_15, x59_16, x59_17, x59_20, x59_21, x59_22, x59_23, x59_24, x59_25, x59_27, x59_29, x59_33, x59_35, x59_36, x59_39, x59_40, x59_43, x59_44, x59_45, x59_48, x59_50, x59_51, x59_52, x59_53, x59_54, x59_57, x59_59, x59_60, x59_61, x59_64, x59_67, x59_69, x59_70, x59_73, x59_75, x59_76, x59_77, x59_79, x59_82, x59_85, x59_86, x59_89, x59_90, x59_93, x59_96, x59_97, x59_98, x59_101, x59_102, x59_105, x59_108, x59_109, x59_110, x59_113, x59_114, x59_117, x59_118, x59_119, x59_122, x59_123, x59_126, x59_127, x59_128, x59_131, x59_132, x59_135, x59_138, x59_140, fcn_0_44, fcn_0_46, fcn_0_47, if_true, if_false, eq_self, Int.reduceEq, Int.reduceLT, Int.reduceLE, Int.reduceAdd, Int.reduceSub, Int.reduceMul, Int.reduceToNat, Nat.reduceAdd, Nat.reduceMul, Nat.reduceEqDiff, Int.toNat_natCast, wrap_id]
  · have e : (if (0 : Int) ≤ what ∧ what ≤ 5 then (1 : Int) else 0) = 0 := if_neg hw
    refine ⟨mu s 0 4 1, ?_, RA_put thr_fr h, mu_s⟩
    simp (disch := first | exact obC_0 | omega | (simp only [aN1_35, aN1_37, aN1_38]; omega) | (simp only [List.length_cons, List.length_nil]; omega)) only [en59, x59_0, x59_1, x59_2, x59_3, x59_6, x59_9, x59_10, x59_11, x59_14, x59_15, x59_16, x59_17, x59_20, x59_21, x59_22, x59_23, x59_24, x59_25, x59_27, x59_29, x59_33, x59_35, x59_36, x59_39, x59_40, x59_43, x59_44, x59_45, x59_48, x59_50, x59_51, x59_52, x59_53, x59_54, x59_57, x59_59, x59_60, x59_61, x59_64, x59_67, x59_69, x59_70, x59_73, x59_75, x59_76, x59_77, x59_79, x59_82, x59_85, x59_86, x59_89, x59_90, x59_93, x59_96, x59_97, x59_98, x59_101, x59_102, x59_105, x59_108, x59_109, x59_110, x59_113, x59_114, x59_117, x59_118, x59_119, x59_122, x59_123, x59_126, x59_127, x59_128, x59_131, x59_132, x59_135, x59_138, x59_140, fcn_0_44, fcn_0_46, fcn_0_47, if_true, if_false, eq_self, Int.reduceEq, Int.reduceLT, Int.reduceLE, Int.reduceAdd, Int.reduceSub, Int.reduceMul, Int.reduceToNat, Nat.reduceAdd, Nat.reduceMul, Nat.reduceEqDiff, Int.toNat_natCast, wrap_id, t_in (d := d) (by omega), e, zcI_r, t_fail (d := d) (by omega)]
