/-! THE CLASS: a path and a reference -/
theorem pPath_s {T : Tx} {m p : Nat} : pPath T (m + 1) p =
    if cA T p = 46 then
      bd (pNm T (sk T (p + 1))) fun f p1 =>
      bd (pPath T m p1) fun r p2 =>
      .ok (pPart f r, p2)
    else if cA T p = 91 then
      bd (pNu T 0 65535 (sk T (p + 1))) fun v p1 =>
      bd (pTk T 93 p1) fun _ p2 =>
      bd (pPath T m p2) fun r p3 =>
      .ok (pPart (100 + v) r, p3)
    else .ok (tNil, p) := by rw [pPath]
/-- what a path writes -/
def QF (P k j : Nat) : Prop := (k = 131 ∧ j = 4) ∨ (k = 124 ∧ j = 6) ∨ (k = 129 ∧ P ≤ j)
def QFX (P k j : Nat) : Prop := QF P k j ∨ (k = 131 ∧ j = 5)
theorem QF_le {P P' k j : Nat} (h2 : P ≤ P') (h : QF P' k j) : QF P k j := by
  rcases h with h | h | h
  · exact Or.inl h
  · exact Or.inr (Or.inl h)
  · exact Or.inr (Or.inr ⟨h.1, by omega⟩)
theorem QFX_le {P P' k j : Nat} (h2 : P ≤ P') (h : QFX P' k j) : QFX P k j := h.elim (fun h => Or.inl (QF_le h2 h)) Or.inr
theorem QF_XF {o N P k j : Nat} (h : QF P k j) : XF o N P k j := by
  rcases h with h | h | h
  · exact Or.inl h
  · exact Or.inr (Or.inr (Or.inr (Or.inl h)))
  · exact Or.inr (Or.inr (Or.inr (Or.inr h)))
theorem QFX_XFX {o N P k j : Nat} (h : QFX P k j) : XFX o N P k j := h.elim (fun h => Or.inl (QF_XF h)) Or.inr
/-- what the class's path comes to, from the loop's head up to behind it -/
def RO (d : Nat) (T : Tx) (u o k P : Nat) (st nm : Int) (s : Mem) (Z : Option Res) (x : PR Jvm.Term) : Prop := match x with
  | .ok (r, q) => ∃ (s' : Mem) (k' m : Nat) (l3 l4 l5 : AV), Z = Ze d 137 143 [aR 131, aI st, aI nm, l3, l4, l5] [] s' ∧ KS s' T u o k' ∧ tP T k' = q ∧ m + k ≤ k' ∧ s' 124 6 = ((P + m : Nat) : Int) ∧ CPath s' r P m ∧ Fr (QF P) s s'
  | .error f => (∃ s', Z = rI (-1) s' ∧ s' 131 5 = f ∧ Fr (QFX P) s s') ∨
      (∃ (s' : Mem) (k' m : Nat) (l3 l4 l5 : AV), Z = Ze d 137 143 [aR 131, aI st, aI nm, l3, l4, l5] [] s' ∧ KS s' T u o k' ∧ tP T k' = f ∧ (cA T f = 46 ∨ cA T f = 91) ∧ m + k ≤ k' ∧ s' 124 6 = ((P + m : Nat) : Int) ∧ Fr (QF P) s s')
theorem tPart_fr {P : Nat} {s : Mem} {v : Int} : Fr (QF P) s (tPart s P v) := ((Fr.rf s).mu (Or.inr (Or.inr ⟨rfl, Nat.le_refl _⟩))).mu (Or.inr (Or.inl ⟨rfl, rfl⟩))
theorem tPart_at {P : Nat} {s : Mem} {v : Int} : tPart s P v 129 P = v ∧ tPart s P v 124 6 = ((P + 1 : Nat) : Int) := by
  unfold tPart
  exact ⟨by rw [mu_c (by decide), mu_s], by rw [mu_s]; rfl⟩
/-- one part more in front -/
theorem RO_next {d : Nat} {T : Tx} {u o k k1 P kk : Nat} {st nm v : Int} {s s1 : Mem} {Z : Option Res} {x : PR Jvm.Term} (hk : k + 1 ≤ k1) (hkk : (kk < 26 ∨ 100 ≤ kk) ∧ v = if kk < 100 then -1 - (kk : Int) else (kk : Int) - 100) (f1 : Fr (QF P) s s1) (h : RO d T u o k1 (P + 1) st nm (tPart s1 P v) Z x) : RO d T u o k P st nm s Z (bd x fun r p => .ok (pPart kk r, p)) := by
  have f2 : Fr (QF P) s (tPart s1 P v) := f1.tr tPart_fr
  unfold RO at h
  cases x with
  | ok rq =>
    obtain ⟨r, q⟩ := rq
    obtain ⟨s', k', m, l3, l4, l5, h1, h2, h3, h4, h5, h6, h7⟩ := h
    refine ⟨s', k', m + 1, l3, l4, l5, h1, h2, h3, by omega, by rw [h5]; omega, ⟨by omega, ?_, hkk.1, h6⟩, f2.tr (h7.mono (fun _ _ h => QF_le (by omega) h))⟩
    rw [h7 _ _ (by unfold QF; omega), tPart_at.1]
    exact hkk.2
  | error f =>
    rcases h with ⟨s', h1, h2, h3⟩ | ⟨s', k', m, l3, l4, l5, h1, h2, h3, h4, h5, h6, h7⟩
    · exact Or.inl ⟨s', h1, h2, (f2.mono (fun _ _ h => Or.inl h)).tr (h3.mono (fun _ _ h => QFX_le (by omega) h))⟩
    · exact Or.inr ⟨s', k', m + 1, l3, l4, l5, h1, h2, h3, h4, by omega, by rw [h6]; omega, f2.tr (h7.mono (fun _ _ h => QF_le (by omega) h))⟩
theorem RO_fail {d : Nat} {T : Tx} {u o k P f : Nat} {st nm : Int} {s s1 s2 : Mem} {Z : Option Res} (f1 : Fr (QF P) s s1) (f2 : Fr NF s1 s2) (h1 : Z = rI (-1) s2) (h2 : s2 131 5 = f) : RO d T u o k P st nm s Z (.error f) :=
  Or.inl ⟨s2, h1, h2, (f1.mono (fun _ _ h => Or.inl h)).tr (f2.mono (fun _ _ h => Or.inr h))⟩
theorem rf_stop {d i k u o : Nat} {T : Tx} {s : Mem} {st nm : Int} {l4 l5 : AV} (hd : 1 ≤ d) (h : KS s T u o k) (hi : i ≤ 6) (hc : i < 6 → ¬ cA T (tP T k) = 46 ∧ ¬ cA T (tP T k) = 91) : Ze d 137 22 [aR 131, aI st, aI nm, aI i, l4, l5] [] s = Ze d 137 143 [aR 131, aI st, aI nm, aI i, l4, l5] [] s := by
  rw [x137_22]
  by_cases h6 : (i : Int) < 6
  · obtain ⟨c1, c2⟩ := hc (by omega)
    rw [← KS_ch h (by decide)] at c1 c2
    simp (disch := first | exact obC_124 | exact obC_131 | omega | (simp only [List.length_cons, List.length_nil]; omega)) only [en137, x137_0, x137_1, x137_4, x137_7, x137_8, x137_9, x137_12, x137_13, x137_14, x137_15, x137_18, x137_19, x137_20, x137_21, x137_23, x137_25, x137_28, x137_29, x137_32, x137_34, x137_37, x137_38, x137_41, x137_43, x137_46, x137_47, x137_50, x137_52, x137_55, x137_56, x137_59, x137_60, x137_62, x137_63, x137_63i, x137_64, x137_67, x137_68, x137_69, x137_72, x137_74, x137_77, x137_78, x137_79, x137_81, x137_84, x137_87, x137_88, x137_91, x137_93, x137_95, x137_96, x137_99, x137_101, x137_104, x137_105, x137_107, x137_110, x137_113, x137_114, x137_115, x137_116, x137_119, x137_121, x137_124, x137_126, x137_129, x137_131, x137_134, x137_137, x137_140, x137_144, x137_147, x137_148, x137_149, x137_150, x137_153, x137_156, x137_157, x137_158, x137_159, x137_162, fcn_131_2, if_true, if_false, eq_self, Int.reduceEq, Int.reduceLT, Int.reduceLE, Int.reduceAdd, Int.reduceSub, Int.reduceMul, Int.reduceToNat, Nat.reduceAdd, Nat.reduceMul, Nat.reduceEqDiff, Int.toNat_natCast, wrap_id, if_pos h6, kt_kind hd h, zcI_r, if_neg c1, if_neg c2]
  · simp (disch := first | exact obC_124 | exact obC_131 | omega | (simp only [List.length_cons, List.length_nil]; omega)) only [en137, x137_0, x137_1, x137_4, x137_7, x137_8, x137_9, x137_12, x137_13, x137_14, x137_15, x137_18, x137_19, x137_20, x137_21, x137_23, x137_25, x137_28, x137_29, x137_32, x137_34, x137_37, x137_38, x137_41, x137_43, x137_46, x137_47, x137_50, x137_52, x137_55, x137_56, x137_59, x137_60, x137_62, x137_63, x137_63i, x137_64, x137_67, x137_68, x137_69, x137_72, x137_74, x137_77, x137_78, x137_79, x137_81, x137_84, x137_87, x137_88, x137_91, x137_93, x137_95, x137_96, x137_99, x137_101, x137_104, x137_105, x137_107, x137_110, x137_113, x137_114, x137_115, x137_116, x137_119, x137_121, x137_124, x137_126, x137_129, x137_131, x137_134, x137_137, x137_140, x137_144, x137_147, x137_148, x137_149, x137_150, x137_153, x137_156, x137_157, x137_158, x137_159, x137_162, fcn_131_2, if_true, if_false, eq_self, Int.reduceEq, Int.reduceLT, Int.reduceLE, Int.reduceAdd, Int.reduceSub, Int.reduceMul, Int.reduceToNat, Nat.reduceAdd, Nat.reduceMul, Nat.reduceEqDiff, Int.toNat_natCast, wrap_id, if_neg h6]
theorem rf_dot {d i k P u o : Nat} {T : Tx} {s s1 : Mem} {st nm v : Int} {l4 l5 : AV} (hd : 2 ≤ d) (h : KS s T u o k) (hi : i < 6) (hc : cA T (tP T k) = 46) (hn : Zc d 139 [aR 131] (mu s 131 4 ((k : Int) + 1)) = rI v s1) (hv : 0 ≤ v ∧ v ≤ 100) (hP : s1 124 6 = P) (hP2 : P < 200) :
    Ze d 137 22 [aR 131, aI st, aI nm, aI i, l4, l5] [] s = Ze d 137 22 [aR 131, aI st, aI nm, aI ((i + 1 : Nat) : Int), aI 0, aI v] [] (tPart s1 P (-1 - v)) := by
  rw [show ((i + 1 : Nat) : Int) = (i : Int) + 1 from rfl, x137_22]
  have c1 := (KS_ch h (c := 46) (by decide)).mpr hc
  have hk : s 131 4 = k := h.2.2.2.1
  have hk2 := KS_le h
  have g : 1 ≤ d := by omega
  simp (disch := first | exact obC_124 | exact obC_131 | omega | (simp only [List.length_cons, List.length_nil]; omega)) only [en137, x137_0, x137_1, x137_4, x137_7, x137_8, x137_9, x137_12, x137_13, x137_14, x137_15, x137_18, x137_19, x137_20, x137_21, x137_23, x137_25, x137_28, x137_29, x137_32, x137_34, x137_37, x137_38, x137_41, x137_43, x137_46, x137_47, x137_50, x137_52, x137_55, x137_56, x137_59, x137_60, x137_62, x137_63, x137_63i, x137_64, x137_67, x137_68, x137_69, x137_72, x137_74, x137_77, x137_78, x137_79, x137_81, x137_84, x137_87, x137_88, x137_91, x137_93, x137_95, x137_96, x137_99, x137_101, x137_104, x137_105, x137_107, x137_110, x137_113, x137_114, x137_115, x137_116, x137_119, x137_121, x137_124, x137_126, x137_129, x137_131, x137_134, x137_137, x137_140, x137_143, x137_144, x137_147, x137_148, x137_149, x137_150, x137_153, x137_156, x137_157, x137_158, x137_159, x137_162, fcn_131_2, if_true, if_false, eq_self, Int.reduceEq, Int.reduceLT, Int.reduceLE, Int.reduceAdd, Int.reduceSub, Int.reduceMul, Int.reduceToNat, Nat.reduceAdd, Nat.reduceMul, Nat.reduceEqDiff, Int.toNat_natCast, wrap_id, if_pos (show (i : Int) < 6 by omega), kt_kind g h, zcI_r, zcV_r, c1, hk, hn, if_neg (show ¬ v = -1 by omega), k_fieldPart g hv, k_addPart g hP hP2]
theorem rf_dotF {d i k u o : Nat} {T : Tx} {s s1 : Mem} {st nm : Int} {l4 l5 : AV} (hd : 2 ≤ d) (h : KS s T u o k) (hi : i < 6) (hc : cA T (tP T k) = 46) (hn : Zc d 139 [aR 131] (mu s 131 4 ((k : Int) + 1)) = rI (-1) s1) :
    Ze d 137 22 [aR 131, aI st, aI nm, aI i, l4, l5] [] s = rI (-1) s1 := by
  rw [x137_22]
  have c1 := (KS_ch h (c := 46) (by decide)).mpr hc
  have hk : s 131 4 = k := h.2.2.2.1
  have hk2 := KS_le h
  have g : 1 ≤ d := by omega
  simp (disch := first | exact obC_124 | exact obC_131 | omega | (simp only [List.length_cons, List.length_nil]; omega)) only [en137, x137_0, x137_1, x137_4, x137_7, x137_8, x137_9, x137_12, x137_13, x137_14, x137_15, x137_18, x137_19, x137_20, x137_21, x137_23, x137_25, x137_28, x137_29, x137_32, x137_34, x137_37, x137_38, x137_41, x137_43, x137_46, x137_47, x137_50, x137_52, x137_55, x137_56, x137_59, x137_60, x137_62, x137_63, x137_63i, x137_64, x137_67, x137_68, x137_69, x137_72, x137_74, x137_77, x137_78, x137_79, x137_81, x137_84, x137_87, x137_88, x137_91, x137_93, x137_95, x137_96, x137_99, x137_101, x137_104, x137_105, x137_107, x137_110, x137_113, x137_114, x137_115, x137_116, x137_119, x137_121, x137_124, x137_126, x137_129, x137_131, x137_134, x137_137, x137_140, x137_143, x137_144, x137_147, x137_148, x137_149, x137_150, x137_153, x137_156, x137_157, x137_158, x137_159, x137_162, fcn_131_2, if_true, if_false, eq_self, Int.reduceEq, Int.reduceLT, Int.reduceLE, Int.reduceAdd, Int.reduceSub, Int.reduceMul, Int.reduceToNat, Nat.reduceAdd, Nat.reduceMul, Nat.reduceEqDiff, Int.toNat_natCast, wrap_id, if_pos (show (i : Int) < 6 by omega), kt_kind g h, zcI_r, zcV_r, c1, hk, hn]
theorem rf_plc {d i k P u o : Nat} {T : Tx} {s s1 s2 : Mem} {st nm v : Int} {l4 l5 : AV} (hd : 2 ≤ d) (h : KS s T u o k) (hi : i < 6) (hc : cA T (tP T k) = 91) (hn : Zc d 140 [aR 131, aI 0, aI 65535] (mu s 131 4 ((k : Int) + 1)) = rI v s1) (hv : 0 ≤ v ∧ v ≤ 65535) (ht : Zc d 141 [aR 131, aI 93] s1 = rI 1 s2) (hP : s2 124 6 = P) (hP2 : P < 200) :
    Ze d 137 22 [aR 131, aI st, aI nm, aI i, l4, l5] [] s = Ze d 137 22 [aR 131, aI st, aI nm, aI ((i + 1 : Nat) : Int), aI 1, aI v] [] (tPart s2 P v) := by
  rw [show ((i + 1 : Nat) : Int) = (i : Int) + 1 from rfl, x137_22]
  have c1 := (KS_ch h (c := 91) (by decide)).mpr hc
  have hk : s 131 4 = k := h.2.2.2.1
  have hk2 := KS_le h
  have g : 1 ≤ d := by omega
  simp (disch := first | exact obC_124 | exact obC_131 | omega | (simp only [List.length_cons, List.length_nil]; omega)) only [en137, x137_0, x137_1, x137_4, x137_7, x137_8, x137_9, x137_12, x137_13, x137_14, x137_15, x137_18, x137_19, x137_20, x137_21, x137_23, x137_25, x137_28, x137_29, x137_32, x137_34, x137_37, x137_38, x137_41, x137_43, x137_46, x137_47, x137_50, x137_52, x137_55, x137_56, x137_59, x137_60, x137_62, x137_63, x137_63i, x137_64, x137_67, x137_68, x137_69, x137_72, x137_74, x137_77, x137_78, x137_79, x137_81, x137_84, x137_87, x137_88, x137_91, x137_93, x137_95, x137_96, x137_99, x137_101, x137_104, x137_105, x137_107, x137_110, x137_113, x137_114, x137_115, x137_116, x137_119, x137_121, x137_124, x137_126, x137_129, x137_131, x137_134, x137_137, x137_140, x137_143, x137_144, x137_147, x137_148, x137_149, x137_150, x137_153, x137_156, x137_157, x137_158, x137_159, x137_162, fcn_131_2, if_true, if_false, eq_self, Int.reduceEq, Int.reduceLT, Int.reduceLE, Int.reduceAdd, Int.reduceSub, Int.reduceMul, Int.reduceToNat, Nat.reduceAdd, Nat.reduceMul, Nat.reduceEqDiff, Int.toNat_natCast, wrap_id, if_pos (show (i : Int) < 6 by omega), kt_kind g h, zcI_r, zcV_r, c1, hk, hn, if_neg (show ¬ v = -1 by omega), ht, k_addPart g hP hP2]
theorem rf_plcF {d i k u o : Nat} {T : Tx} {s s1 s2 : Mem} {st nm v : Int} {l4 l5 : AV} (hd : 2 ≤ d) (h : KS s T u o k) (hi : i < 6) (hc : cA T (tP T k) = 91) (hn : Zc d 140 [aR 131, aI 0, aI 65535] (mu s 131 4 ((k : Int) + 1)) = rI v s1) (hv : (v = -1 ∧ s2 = s1) ∨ (¬ v = -1 ∧ Zc d 141 [aR 131, aI 93] s1 = rI 0 s2)) :
    Ze d 137 22 [aR 131, aI st, aI nm, aI i, l4, l5] [] s = rI (-1) s2 := by
  rw [x137_22]
  have c1 := (KS_ch h (c := 91) (by decide)).mpr hc
  have hk : s 131 4 = k := h.2.2.2.1
  have hk2 := KS_le h
  have g : 1 ≤ d := by omega
  rcases hv with ⟨rfl, rfl⟩ | ⟨hv, ht⟩
  · simp (disch := first | exact obC_124 | exact obC_131 | omega | (simp only [List.length_cons, List.length_nil]; omega)) only [en137, x137_0, x137_1, x137_4, x137_7, x137_8, x137_9, x137_12, x137_13, x137_14, x137_15, x137_18, x137_19, x137_20, x137_21, x137_23, x137_25, x137_28, x137_29, x137_32, x137_34, x137_37, x137_38, x137_41, x137_43, x137_46, x137_47, x137_50, x137_52, x137_55, x137_56, x137_59, x137_60, x137_62, x137_63, x137_63i, x137_64, x137_67, x137_68, x137_69, x137_72, x137_74, x137_77, x137_78, x137_79, x137_81, x137_84, x137_87, x137_88, x137_91, x137_93, x137_95, x137_96, x137_99, x137_101, x137_104, x137_105, x137_107, x137_110, x137_113, x137_114, x137_115, x137_116, x137_119, x137_121, x137_124, x137_126, x137_129, x137_131, x137_134, x137_137, x137_140, x137_143, x137_144, x137_147, x137_148, x137_149, x137_150, x137_153, x137_156, x137_157, x137_158, x137_159, x137_162, fcn_131_2, if_true, if_false, eq_self, Int.reduceEq, Int.reduceLT, Int.reduceLE, Int.reduceAdd, Int.reduceSub, Int.reduceMul, Int.reduceToNat, Nat.reduceAdd, Nat.reduceMul, Nat.reduceEqDiff, Int.toNat_natCast, wrap_id, if_pos (show (i : Int) < 6 by omega), kt_kind g h, zcI_r, zcV_r, c1, hk, hn]
  · simp (disch := first | exact obC_124 | exact obC_131 | omega | (simp only [List.length_cons, List.length_nil]; omega)) only [en137, x137_0, x137_1, x137_4, x137_7, x137_8, x137_9, x137_12, x137_13, x137_14, x137_15, x137_18, x137_19, x137_20, x137_21, x137_23, x137_25, x137_28, x137_29, x137_32, x137_34, x137_37, x137_38, x137_41, x137_43, x137_46, x137_47, x137_50, x137_52, x137_55, x137_56, x137_59, x137_60, x137_62, x137_63, x137_63i, x137_64, x137_67, x137_68, x137_69, x137_72, x137_74, x137_77, x137_78, x137_79, x137_81, x137_84, x137_87, x137_88, x137_91, x137_93, x137_95, x137_96, x137_99, x137_101, x137_104, x137_105, x137_107, x137_110, x137_113, x137_114, x137_115, x137_116, x137_119, x137_121, x137_124, x137_126, x137_129, x137_131, x137_134, x137_137, x137_140, x137_143, x137_144, x137_147, x137_148, x137_149, x137_150, x137_153, x137_156, x137_157, x137_158, x137_159, x137_162, fcn_131_2, if_true, if_false, eq_self, Int.reduceEq, Int.reduceLT, Int.reduceLE, Int.reduceAdd, Int.reduceSub, Int.reduceMul, Int.reduceToNat, Nat.reduceAdd, Nat.reduceMul, Nat.reduceEqDiff, Int.toNat_natCast, wrap_id, if_pos (show (i : Int) < 6 by omega), kt_kind g h, zcI_r, zcV_r, c1, hk, hn, if_neg hv, ht]
theorem rf_loop {d u o : Nat} {T : Tx} {st nm : Int} (hd : 2 ≤ d) : ∀ (m i k P : Nat) (s : Mem) (l4 l5 : AV), i + m = 6 → KS s T u o k → s 124 6 = P → P < k →
    RO d T u o k P st nm s (Ze d 137 22 [aR 131, aI st, aI nm, aI i, l4, l5] [] s) (pPath T m (tP T k)) := by
  intro m
  induction m with
  | zero =>
    intro i k P s l4 l5 hi h hP hPk
    rw [rf_stop (by omega) h (by omega) (fun z => by omega), show pPath T 0 (tP T k) = if cA T (tP T k) = 46 ∨ cA T (tP T k) = 91 then .error (tP T k) else .ok (tNil, tP T k) by rw [pPath]]
    split
    next hc => exact Or.inr ⟨s, k, 0, _, _, _, rfl, h, rfl, hc, by omega, hP, Fr.rf s⟩
    next hc => exact ⟨s, k, 0, _, _, _, rfl, h, rfl, by omega, hP, rfl, Fr.rf s⟩
  | succ m ih =>
    intro i k P s l4 l5 hi h hP hPk
    have hle := KS_le h
    rw [pPath_s]
    by_cases h46 : cA T (tP T k) = 46
    · rw [if_pos h46]
      have hlt := KS_lt h (by omega)
      have hp1 : tP T (k + 1) = sk T (tP T k + 1) := tP_one ⟨by omega, by omega⟩
      have h1 := KS_nx h hlt
      have f1 : Fr (QF P) s (mu s 131 4 ((k : Int) + 1)) := (Fr.rf s).mu (Or.inl ⟨rfl, rfl⟩)
      rw [← hp1]
      unfold pNm
      by_cases hN : isN (cA T (tP T (k + 1)))
      · rw [if_pos hN, bd_ok]
        obtain ⟨s1, e1, e2, e3, e4⟩ := kt_name (d := d) (by omega) h1 hN
        have hP1 : s1 124 6 = P := by rw [e4 _ _ (by unfold NX; omega), mu_c (by decide), hP]
        rw [rf_dot hd h (by omega) h46 e1 (by omega) hP1 (by omega), ← e3]
        have f2 : Fr (QF P) s s1 := f1.tr (e4.mono (fun _ _ h => Or.inl h))
        have f3 := f2.tr (tPart_fr (v := -1 - (cA T (tP T (k + 1)) - 97)))
        exact RO_next (kk := (cA T (tP T (k + 1)) - 97).toNat) (by omega) ⟨by omega, by rw [if_pos (by omega)]; omega⟩ f2 (ih (i + 1) (k + 1 + 1) (P + 1) _ _ _ (by omega) (KS_X e2 ((tPart_fr).mono (fun _ _ h => QFX_XFX (o := o) (N := 0) (Or.inl h))) (by unfold tPart; rw [mu_c (by decide), mu_c (by decide)]; exact e2.2.2.2.1) (KS_le e2).2.2) tPart_at.2 (by omega))
      · rw [if_neg hN, bd_er]
        obtain ⟨s1, e1, e2, e3⟩ := kt_nameF (d := d) (by omega) h1 hN
        rw [rf_dotF hd h (by omega) h46 e1]
        exact RO_fail f1 e3 rfl e2
    · rw [if_neg h46]
      by_cases h91 : cA T (tP T k) = 91
      · rw [if_pos h91]
        have hlt := KS_lt h (by omega)
        have hp1 : tP T (k + 1) = sk T (tP T k + 1) := tP_one ⟨by omega, by omega⟩
        have h1 := KS_nx h hlt
        have f1 : Fr (QF P) s (mu s 131 4 ((k : Int) + 1)) := (Fr.rf s).mu (Or.inl ⟨rfl, rfl⟩)
        rw [← hp1]
        unfold pNu
        by_cases hN : okNu T 0 65535 (tP T (k + 1))
        · rw [if_pos hN, bd_ok]
          obtain ⟨s1, e1, e2, e3, e4⟩ := kt_num (d := d) (by omega) h1 (by decide) hN
          have hv : 0 ≤ nV T (tP T (k + 1)) (nE T (tP T (k + 1)) - tP T (k + 1)) ∧ nV T (tP T (k + 1)) (nE T (tP T (k + 1)) - tP T (k + 1)) ≤ 65535 := ⟨hN.2.2.2.1, hN.2.2.2.2⟩
          generalize nV T (tP T (k + 1)) (nE T (tP T (k + 1)) - tP T (k + 1)) = v at e1 hv ⊢
          have f2 : Fr (QF P) s s1 := f1.tr (e4.mono (fun _ _ h => Or.inl h))
          rw [← e3]
          unfold pTk
          by_cases h93 : cA T (tP T (k + 1 + 1)) = 93
          · rw [if_pos h93, bd_ok]
            obtain ⟨s2, g1, g2, g3, g4⟩ := kt_take (d := d) (c := 93) (by omega) e2 (by decide) h93
            have f3 : Fr (QF P) s s2 := f2.tr (g4.mono (fun _ _ h => Or.inl h))
            have hP1 : s2 124 6 = P := by rw [g4 _ _ (by unfold NX; omega), e4 _ _ (by unfold NX; omega), mu_c (by decide), hP]
            rw [rf_plc hd h (by omega) h91 e1 hv g1 hP1 (by omega), ← g3]
            exact RO_next (kk := 100 + v.toNat) (by omega) ⟨by omega, by rw [if_neg (by omega)]; omega⟩ f3 (ih (i + 1) (k + 1 + 1 + 1) (P + 1) _ _ _ (by omega) (KS_X g2 ((tPart_fr).mono (fun _ _ h => QFX_XFX (o := o) (N := 0) (Or.inl h))) (by unfold tPart; rw [mu_c (by decide), mu_c (by decide)]; exact g2.2.2.2.1) (KS_le g2).2.2) tPart_at.2 (by omega))
          · rw [if_neg h93, bd_er]
            obtain ⟨s2, g1, g2, g3⟩ := kt_takeF (d := d) (c := 93) (by omega) e2 (by decide) h93
            rw [rf_plcF hd h (by omega) h91 e1 (Or.inr ⟨by omega, g1⟩)]
            exact RO_fail f2 g3 rfl g2
        · rw [if_neg hN, bd_er]
          obtain ⟨s1, e1, e2, e3⟩ := kt_numF (d := d) (by omega) h1 (by decide) hN
          rw [rf_plcF hd h (by omega) h91 e1 (Or.inl ⟨rfl, rfl⟩)]
          exact RO_fail f1 e3 rfl e2
      · rw [if_neg h91, rf_stop (by omega) h (by omega) (fun _ => ⟨h46, h91⟩)]
        exact ⟨s, k, 0, _, _, _, rfl, h, rfl, by omega, hP, rfl, Fr.rf s⟩
/-- what reading an expression comes to -/
def XO (T : Tx) (u o k N P : Nat) (s : Mem) (Z : Option Res) (x : PR Jvm.Term) : Prop := match x with
  | .ok (e, q) => ∃ (s' : Mem) (k' P' : Nat), Z = rI ((N + esz e - 1 : Nat) : Int) s' ∧ KS s' T u o k' ∧ tP T k' = q ∧ k + esz e ≤ k' ∧ P' + k ≤ P + k' ∧ P ≤ P' ∧ s' 124 6 = P' ∧ s' (66 + o) 7 = ((N + esz e : Nat) : Int) ∧ CE s' o P' e N ∧ Fr (XF o N P) s s'
  | .error f => (∃ s', Z = rI (-1) s' ∧ s' 131 5 = f ∧ Fr (XFX o N P) s s') ∨
      (∃ (s' : Mem) (k' v : Nat), Z = rI v s' ∧ KS s' T u o k' ∧ tP T k' = f ∧ (cA T f = 46 ∨ cA T f = 91) ∧ Fr (XF o N P) s s')
theorem nLeaf_fr {s : Mem} {o N P : Nat} {a b c e : Int} : Fr (XF o N P) s (nLeaf s o N a b c e) := by
  unfold nLeaf nAdd
  exact ((((((Fr.rf s).mu (Or.inr (Or.inr (Or.inl ⟨by omega, by omega, Nat.le_refl _⟩)))).mu (Or.inr (Or.inr (Or.inl ⟨by omega, by omega, Nat.le_refl _⟩)))).mu (Or.inr (Or.inr (Or.inl ⟨by omega, by omega, Nat.le_refl _⟩)))).mu (Or.inr (Or.inr (Or.inl ⟨by omega, by omega, Nat.le_refl _⟩)))).mu (Or.inr (Or.inl ⟨rfl, rfl⟩))).mu (Or.inr (Or.inr (Or.inl ⟨by omega, by omega, Nat.le_refl _⟩)))
theorem nLeaf_at {s : Mem} {o N : Nat} {a b c e : Int} : nLeaf s o N a b c e (67 + o) N = a ∧ nLeaf s o N a b c e (68 + o) N = b ∧ nLeaf s o N a b c e (69 + o) N = c ∧ nLeaf s o N a b c e (70 + o) N = e ∧ nLeaf s o N a b c e (71 + o) N = N ∧ nLeaf s o N a b c e (66 + o) 7 = ((N + 1 : Nat) : Int) := by
  unfold nLeaf nAdd
  refine ⟨?_, ?_, ?_, ?_, ?_, ?_⟩
  · rw [mu_c (by omega), mu_c (by omega), mu_c (by omega), mu_c (by omega), mu_c (by omega), mu_s]
  · rw [mu_c (by omega), mu_c (by omega), mu_c (by omega), mu_c (by omega), mu_s]
  · rw [mu_c (by omega), mu_c (by omega), mu_c (by omega), mu_s]
  · rw [mu_c (by omega), mu_c (by omega), mu_s]
  · rw [mu_s]
  · rw [mu_c (by omega), mu_s]
    rfl
theorem nLeaf_o {s : Mem} {o N k j : Nat} {a b c e : Int} (h : k ≤ 59 ∨ 83 + 26 < k) (ho : o = 0 ∨ o = 26) : nLeaf s o N a b c e k j = s k j := by
  unfold nLeaf nAdd
  rw [mu_c (by omega), mu_c (by omega), mu_c (by omega), mu_c (by omega), mu_c (by omega), mu_c (by omega)]
theorem k_reference {d u o k N P : Nat} {T : Tx} {s : Mem} (hd : 3 ≤ d) (h : KS s T u o k) (hP : s 124 6 = P) (hPk : P ≤ k) (hN : s (66 + o) 7 = N) (hNk : N ≤ 24 + k + 1) :
    XO T u o k N P s (Zc d 137 [aR 131] s) (pRf T (tP T k)) := by
  obtain ⟨d, rfl⟩ : ∃ e, d = e + 1 := ⟨d - 1, by omega⟩
  have hle := KS_le h
  have ho : o = 0 ∨ o = 26 := h.2.2.2.2.2.2
  unfold pRf pNm
  by_cases hc : isN (cA T (tP T k))
  · rw [if_pos hc, bd_ok]
    obtain ⟨s1, e1, e2, e3, e4⟩ := kt_name (d := d) (by omega) h hc
    have hle2 := KS_le e2
    generalize hnm : cA T (tP T k) - 97 = nm at e1 ⊢
    have f1 : Fr (XF o N P) s s1 := e4.mono (fun _ _ h => NX_XF h)
    have hP1 : s1 124 6 = P := by rw [e4 _ _ (by unfold NX; omega), hP]
    have e0 : Zc (d + 1) 137 [aR 131] s = Ze d 137 22 [aR 131, aI P, aI nm, aI ((0 : Nat) : Int), aU, aU] [] s1 := by
      have z0 : ((0 : Nat) : Int) = 0 := rfl
      simp (disch := first | exact obC_124 | exact obC_131 | omega | (simp only [List.length_cons, List.length_nil]; omega)) only [en137, x137_0, x137_1, x137_4, x137_7, x137_8, x137_9, x137_12, x137_13, x137_14, x137_15, x137_18, x137_19, x137_20, x137_21, x137_23, x137_25, x137_28, x137_29, x137_32, x137_34, x137_37, x137_38, x137_41, x137_43, x137_46, x137_47, x137_50, x137_52, x137_55, x137_56, x137_59, x137_60, x137_62, x137_63, x137_63i, x137_64, x137_67, x137_68, x137_69, x137_72, x137_74, x137_77, x137_78, x137_79, x137_81, x137_84, x137_87, x137_88, x137_91, x137_93, x137_95, x137_96, x137_99, x137_101, x137_104, x137_105, x137_107, x137_110, x137_113, x137_114, x137_115, x137_116, x137_119, x137_121, x137_124, x137_126, x137_129, x137_131, x137_134, x137_137, x137_140, x137_143, x137_144, x137_147, x137_148, x137_149, x137_150, x137_153, x137_156, x137_157, x137_158, x137_159, x137_162, fcn_131_2, if_true, if_false, eq_self, Int.reduceEq, Int.reduceLT, Int.reduceLE, Int.reduceAdd, Int.reduceSub, Int.reduceMul, Int.reduceToNat, Nat.reduceAdd, Nat.reduceMul, Nat.reduceEqDiff, Int.toNat_natCast, wrap_id, hP, e1, zcI_r, if_neg (show ¬ nm = -1 by omega), z0]
    rw [e0, ← e3]
    have hl := rf_loop (d := d) (u := u) (o := o) (T := T) (st := P) (nm := nm) (by omega) 6 0 (k + 1) P s1 aU aU rfl e2 hP1 (by omega)
    have fin : ∀ (s' : Mem) (k' m : Nat) (l3 l4 l5 : AV), m ≤ 200 → KS s' T u o k' → s' 124 6 = ((P + m : Nat) : Int) → s' (66 + o) 7 = N → Ze d 137 143 [aR 131, aI P, aI nm, l3, l4, l5] [] s' = rI N (nLeaf s' o N 4 P m nm) := by
      intro s' k' m l3 l4 l5 q0 q1 q2 q3
      have q4 : s' 131 3 = ((66 + o : Nat) : Int) := q1.2.2.2.2.2.1
      have q5 : ((P + m : Nat) : Int) - P = m := by omega
      have q6 : (0 : Int) ≤ ((66 + o : Nat) : Int) := by omega
      simp (disch := first | exact obC_124 | exact obC_131 | exact (obCO_66 ho) | omega | (simp only [List.length_cons, List.length_nil]; omega)) only [en137, x137_0, x137_1, x137_4, x137_7, x137_8, x137_9, x137_12, x137_13, x137_14, x137_15, x137_18, x137_19, x137_20, x137_21, x137_23, x137_25, x137_28, x137_29, x137_32, x137_34, x137_37, x137_38, x137_41, x137_43, x137_46, x137_47, x137_50, x137_52, x137_55, x137_56, x137_59, x137_60, x137_62, x137_63, x137_63i, x137_64, x137_67, x137_68, x137_69, x137_72, x137_74, x137_77, x137_78, x137_79, x137_81, x137_84, x137_87, x137_88, x137_91, x137_93, x137_95, x137_96, x137_99, x137_101, x137_104, x137_105, x137_107, x137_110, x137_113, x137_114, x137_115, x137_116, x137_119, x137_121, x137_124, x137_126, x137_129, x137_131, x137_134, x137_137, x137_140, x137_143, x137_144, x137_147, x137_148, x137_149, x137_150, x137_153, x137_156, x137_157, x137_158, x137_159, x137_162, fcn_131_2, if_true, if_false, eq_self, Int.reduceEq, Int.reduceLT, Int.reduceLE, Int.reduceAdd, Int.reduceSub, Int.reduceMul, Int.reduceToNat, Nat.reduceAdd, Nat.reduceMul, Nat.reduceEqDiff, Int.toNat_natCast, wrap_id, q2, q4, q5, q6, zcI_r, k_nLeaf (d := d) (by omega) ho q3 (by omega)]
    cases hx : pPath T 6 (tP T (k + 1)) with
    | ok rq =>
      obtain ⟨r, q⟩ := rq
      rw [hx] at hl
      obtain ⟨s', k', m, l3, l4, l5, h1, h2, h3, h4, h5, h6, h7⟩ := hl
      have hN' : s' (66 + o) 7 = N := by rw [h7 _ _ (by unfold QF; omega), e4 _ _ (by unfold NX; omega), hN]
      rw [bd_ok, h1, fin s' k' m l3 l4 l5 (by have := KS_le h2; omega) h2 h5 hN']
      obtain ⟨a1, a2, a3, a4, a5, a6⟩ := nLeaf_at (s := s') (o := o) (N := N) (a := 4) (b := P) (c := m) (e := nm)
      have f2 := f1.tr (h7.mono (fun _ _ h => QF_XF h))
      refine ⟨_, k', P + m, by rw [show N + esz (eRef nm.toNat r) - 1 = N from rfl], KS_X h2 ((nLeaf_fr (P := P)).mono (fun _ _ h => XF_X h)) (by rw [nLeaf_o (by decide) ho]; exact h2.2.2.2.1) (KS_le h2).2.2, h3, by show k + 1 ≤ k'; omega, by omega, by omega, by rw [nLeaf_o (by decide) ho]; exact h5, a6, ⟨a1, by rw [a4]; omega, by omega, a5, P, m, a2, a3, Nat.le_refl _, CPath_put (fun j _ _ => nLeaf_o (by decide) ho) h6⟩, f2.tr nLeaf_fr⟩
    | error f =>
      rw [hx] at hl
      rw [bd_er]
      rcases hl with ⟨s', h1, h2, h3⟩ | ⟨s', k', m, l3, l4, l5, h1, h2, h3, h4, h5, h6, h7⟩
      · exact Or.inl ⟨s', h1, h2, (f1.mono (fun _ _ h => XF_X h)).tr (h3.mono (fun _ _ h => QFX_XFX h))⟩
      · have hN' : s' (66 + o) 7 = N := by rw [h7 _ _ (by unfold QF; omega), e4 _ _ (by unfold NX; omega), hN]
        rw [h1, fin s' k' m l3 l4 l5 (by have := KS_le h2; omega) h2 h6 hN']
        exact Or.inr ⟨_, k', N, rfl, KS_X h2 ((nLeaf_fr (P := P)).mono (fun _ _ h => XF_X h)) (by rw [nLeaf_o (by decide) ho]; exact h2.2.2.2.1) (KS_le h2).2.2, h3, h4, (f1.tr (h7.mono (fun _ _ h => QF_XF h))).tr nLeaf_fr⟩
  · rw [if_neg hc, bd_er]
    obtain ⟨s1, e1, e2, e3⟩ := kt_nameF (d := d) (by omega) h hc
    refine Or.inl ⟨s1, ?_, e2, e3.mono (fun _ _ h => NF_XFX h)⟩
    simp (disch := first | exact obC_124 | exact obC_131 | omega | (simp only [List.length_cons, List.length_nil]; omega)) only [en137, x137_0, x137_1, x137_4, x137_7, x137_8, x137_9, x137_12, x137_13, x137_14, x137_15, x137_18, x137_19, x137_20, x137_21, x137_23, x137_25, x137_28, x137_29, x137_32, x137_34, x137_37, x137_38, x137_41, x137_43, x137_46, x137_47, x137_50, x137_52, x137_55, x137_56, x137_59, x137_60, x137_62, x137_63, x137_63i, x137_64, x137_67, x137_68, x137_69, x137_72, x137_74, x137_77, x137_78, x137_79, x137_81, x137_84, x137_87, x137_88, x137_91, x137_93, x137_95, x137_96, x137_99, x137_101, x137_104, x137_105, x137_107, x137_110, x137_113, x137_114, x137_115, x137_116, x137_119, x137_121, x137_124, x137_126, x137_129, x137_131, x137_134, x137_137, x137_140, x137_143, x137_144, x137_147, x137_148, x137_149, x137_150, x137_153, x137_156, x137_157, x137_158, x137_159, x137_162, fcn_131_2, if_true, if_false, eq_self, Int.reduceEq, Int.reduceLT, Int.reduceLE, Int.reduceAdd, Int.reduceSub, Int.reduceMul, Int.reduceToNat, Nat.reduceAdd, Nat.reduceMul, Nat.reduceEqDiff, Int.toNat_natCast, wrap_id, hP, e1, zcI_r]
