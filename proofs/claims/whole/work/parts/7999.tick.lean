def TK1 (n L k j : Nat) : Prop := (k = 47 ∨ k = 46) ∧ n ≤ j ∧ j < L
theorem tk_one {d L : Nat} {val bf ch : Nat → Int} (hL : L ≤ 24) : ∀ (m n : Nat) (s : Mem), n + m = L → s 0 71 = L → (∀ j, j < 24 → s 44 j = val j) → (∀ j, j < L → n ≤ j → s 46 j = bf j ∧ s 47 j = ch j) →
    ∃ s', Ze d 56 2 [aR 0, aI n] [] s = Ze d 56 55 [aR 0, aI ((0 : Nat) : Int)] [] s' ∧ (∀ j, n ≤ j → j < L → s' 46 j = val j ∧ s' 47 j = if val j = bf j then ch j else wrap (ch j + 1)) ∧ Fr (TK1 n L) s s' := by
  intro m
  induction m with
  | zero =>
    intro n s hn hs hv hb
    refine ⟨s, ?_, fun j h1 h2 => by omega, Fr.rf s⟩
    rw [show ((0 : Nat) : Int) = 0 from rfl, x56_2]
    simp (disch := first | exact obC_0 | omega | (simp only [aN1_35, aN1_44, aN1_45, aN1_46, aN1_47, aN1_48]; omega) | (simp only [List.length_cons, List.length_nil]; omega)) only [en56, x56_0, x56_1, x56_3, x56_4, x56_7, x56_10, x56_11, x56_14, x56_15, x56_16, x56_17, x56_20, x56_21, x56_22, x56_25, x56_26, x56_29, x56_30, x56_31, x56_32, x56_33, x56_34, x56_35, x56_36, x56_39, x56_40, x56_41, x56_44, x56_45, x56_46, x56_47, x56_50, x56_53, x56_54, x56_56, x56_57, x56_60, x56_63, x56_64, x56_67, x56_68, x56_69, x56_72, x56_74, x56_75, x56_76, x56_77, x56_78, x56_81, x56_82, x56_83, x56_86, x56_89, x56_90, x56_91, x56_94, x56_97, x56_98, x56_100, x56_101, x56_104, x56_107, x56_108, x56_111, x56_113, x56_114, x56_115, x56_116, x56_117, x56_120, x56_121, x56_124, x56_125, x56_126, x56_129, x56_130, x56_131, x56_132, x56_135, x56_138, x56_139, x56_139i, x56_140, x56_143, x56_144, x56_145, x56_148, x56_149, x56_152, fcn_0_44, fcn_0_59, fcn_0_60, fcn_0_61, fcn_0_62, fcn_0_63, if_true, if_false, eq_self, Int.reduceEq, Int.reduceLT, Int.reduceLE, Int.reduceAdd, Int.reduceSub, Int.reduceMul, Int.reduceToNat, Nat.reduceAdd, Nat.reduceMul, Nat.reduceEqDiff, Int.toNat_natCast, wrap_id, hs, if_neg (show ¬ (n : Int) < L by omega)]
  | succ m ih =>
    intro n s hn hs hv hb
    have hlt : (n : Int) < L := by omega
    have en : ((n + 1 : Nat) : Int) = (n : Int) + 1 := by omega
    obtain ⟨b1, b2⟩ := hb n (by omega) (Nat.le_refl _)
    have hvn := hv n (by omega)
    obtain ⟨s1, hz, h1, h2, hf⟩ : ∃ s1, Ze d 56 2 [aR 0, aI n] [] s = Ze d 56 2 [aR 0, aI ((n + 1 : Nat) : Int)] [] s1 ∧ s1 46 n = val n ∧ (s1 47 n = if val n = bf n then ch n else wrap (ch n + 1)) ∧ Fr (TK1 n (n + 1)) s s1 := by
      by_cases he : val n = bf n
      · refine ⟨mu s 46 n (val n), ?_, mu_s, by rw [if_pos he, mu_c (by decide), b2], (Fr.rf s).mu ⟨Or.inr rfl, Nat.le_refl _, Nat.lt_succ_self _⟩⟩
        rw [en, x56_2]
        simp (disch := first | exact obC_0 | omega | (simp only [aN1_35, aN1_44, aN1_45, aN1_46, aN1_47, aN1_48]; omega) | (simp only [List.length_cons, List.length_nil]; omega)) only [en56, x56_0, x56_1, x56_3, x56_4, x56_7, x56_10, x56_11, x56_14, x56_15, x56_16, x56_17, x56_20, x56_21, x56_22, x56_25, x56_26, x56_29, x56_30, x56_31, x56_32, x56_33, x56_34, x56_35, x56_36, x56_39, x56_40, x56_41, x56_44, x56_45, x56_46, x56_47, x56_50, x56_53, x56_54, x56_56, x56_57, x56_60, x56_63, x56_64, x56_67, x56_68, x56_69, x56_72, x56_74, x56_75, x56_76, x56_77, x56_78, x56_81, x56_82, x56_83, x56_86, x56_89, x56_90, x56_91, x56_94, x56_97, x56_98, x56_100, x56_101, x56_104, x56_107, x56_108, x56_111, x56_113, x56_114, x56_115, x56_116, x56_117, x56_120, x56_121, x56_124, x56_125, x56_126, x56_129, x56_130, x56_131, x56_132, x56_135, x56_138, x56_139, x56_139i, x56_140, x56_143, x56_144, x56_145, x56_148, x56_149, x56_152, fcn_0_44, fcn_0_59, fcn_0_60, fcn_0_61, fcn_0_62, fcn_0_63, if_true, if_false, eq_self, Int.reduceEq, Int.reduceLT, Int.reduceLE, Int.reduceAdd, Int.reduceSub, Int.reduceMul, Int.reduceToNat, Nat.reduceAdd, Nat.reduceMul, Nat.reduceEqDiff, Int.toNat_natCast, wrap_id, hs, if_pos hlt, hvn, b1, if_pos he]
      · refine ⟨mu (mu s 47 n (wrap (ch n + 1))) 46 n (val n), ?_, mu_s, by rw [if_neg he, mu_c (by decide), mu_s], ((Fr.rf s).mu ⟨Or.inl rfl, Nat.le_refl _, Nat.lt_succ_self _⟩).mu ⟨Or.inr rfl, Nat.le_refl _, Nat.lt_succ_self _⟩⟩
        rw [en, x56_2]
        simp (disch := first | exact obC_0 | omega | (simp only [aN1_35, aN1_44, aN1_45, aN1_46, aN1_47, aN1_48]; omega) | (simp only [List.length_cons, List.length_nil]; omega)) only [en56, x56_0, x56_1, x56_3, x56_4, x56_7, x56_10, x56_11, x56_14, x56_15, x56_16, x56_17, x56_20, x56_21, x56_22, x56_25, x56_26, x56_29, x56_30, x56_31, x56_32, x56_33, x56_34, x56_35, x56_36, x56_39, x56_40, x56_41, x56_44, x56_45, x56_46, x56_47, x56_50, x56_53, x56_54, x56_56, x56_57, x56_60, x56_63, x56_64, x56_67, x56_68, x56_69, x56_72, x56_74, x56_75, x56_76, x56_77, x56_78, x56_81, x56_82, x56_83, x56_86, x56_89, x56_90, x56_91, x56_94, x56_97, x56_98, x56_100, x56_101, x56_104, x56_107, x56_108, x56_111, x56_113, x56_114, x56_115, x56_116, x56_117, x56_120, x56_121, x56_124, x56_125, x56_126, x56_129, x56_130, x56_131, x56_132, x56_135, x56_138, x56_139, x56_139i, x56_140, x56_143, x56_144, x56_145, x56_148, x56_149, x56_152, fcn_0_44, fcn_0_59, fcn_0_60, fcn_0_61, fcn_0_62, fcn_0_63, if_true, if_false, eq_self, Int.reduceEq, Int.reduceLT, Int.reduceLE, Int.reduceAdd, Int.reduceSub, Int.reduceMul, Int.reduceToNat, Nat.reduceAdd, Nat.reduceMul, Nat.reduceEqDiff, Int.toNat_natCast, wrap_id, hs, if_pos hlt, hvn, b1, b2, if_neg he, mu_c]
    obtain ⟨s', q1, q2, q3⟩ := ih (n + 1) s1 (by omega) (by rw [hf _ _ (by unfold TK1; omega), hs]) (fun j hj => by rw [hf _ _ (by unfold TK1; omega), hv j hj]) (fun j hj h1 => by rw [hf _ _ (by unfold TK1; omega), hf _ _ (by unfold TK1; omega)]; exact hb j hj (by omega))
    refine ⟨s', hz.trans q1, fun j hj1 hj2 => ?_, (hf.mono (fun k j z => ⟨z.1, z.2.1, by have := z.2.2; omega⟩)).tr (q3.mono (fun k j z => ⟨z.1, by have := z.2.1; omega, z.2.2⟩))⟩
    by_cases hjn : j = n
    · subst hjn
      rw [q3 _ _ (by unfold TK1; omega), q3 _ _ (by unfold TK1; omega)]
      exact ⟨h1, h2⟩
    · exact q2 j (by omega) hj2
/-- what a signal is after a clock -/
noncomputable def stN (sg : List Sg) (lo : List Lo) (W : Nat → Nat) (st val : Nat → Int) (g : Nat) : Int :=
  match sg[g]? with
  | some x => if x.1 = 3 then iand (vF val W (st g) (lwF g lo (.index g) [])) (msk (W g)) else st g
  | none => st g
def TK2 (k j : Nat) : Prop := FBc k j ∨ (k = 48 ∧ j < 24)
theorem tk_two {d : Nat} {sg : List Sg} {lo : List Lo} {W : Nat → Nat} {st val : Nat → Int} (hd : 4 ≤ d) (hE : EV sg lo W st val) (hvm : ∀ h, h < sg.length → iand (val h) (msk (W h)) = val h) : ∀ (m n : Nat) (s : Mem), n + m = sg.length → LV s sg lo W → (∀ j, j < 24 → s 44 j = val j) → (∀ j, j < 24 → s 45 j = st j) →
    ∃ s', Ze d 56 55 [aR 0, aI n] [] s = Ze d 56 99 [aR 0, aI ((0 : Nat) : Int)] [] s' ∧ (∀ (j : Nat) (x : Sg), n ≤ j → sg[j]? = some x → x.1 = 3 → s' 48 j = stN sg lo W st val j) ∧ (∀ j, j < n → s' 48 j = s 48 j) ∧ Fr TK2 s s' := by
  intro m
  induction m with
  | zero =>
    intro n s hn hL hv hst
    refine ⟨s, ?_, fun j x h1 h2 => ?_, fun _ _ => rfl, Fr.rf s⟩
    · rw [show ((0 : Nat) : Int) = 0 from rfl, x56_55]
      simp (disch := first | exact obC_0 | omega | (simp only [aN1_35, aN1_44, aN1_45, aN1_46, aN1_47, aN1_48]; omega) | (simp only [List.length_cons, List.length_nil]; omega)) only [en56, x56_0, x56_1, x56_3, x56_4, x56_7, x56_10, x56_11, x56_14, x56_15, x56_16, x56_17, x56_20, x56_21, x56_22, x56_25, x56_26, x56_29, x56_30, x56_31, x56_32, x56_33, x56_34, x56_35, x56_36, x56_39, x56_40, x56_41, x56_44, x56_45, x56_46, x56_47, x56_50, x56_53, x56_54, x56_56, x56_57, x56_60, x56_63, x56_64, x56_67, x56_68, x56_69, x56_72, x56_74, x56_75, x56_76, x56_77, x56_78, x56_81, x56_82, x56_83, x56_86, x56_89, x56_90, x56_91, x56_94, x56_97, x56_98, x56_100, x56_101, x56_104, x56_107, x56_108, x56_111, x56_113, x56_114, x56_115, x56_116, x56_117, x56_120, x56_121, x56_124, x56_125, x56_126, x56_129, x56_130, x56_131, x56_132, x56_135, x56_138, x56_139, x56_139i, x56_140, x56_143, x56_144, x56_145, x56_148, x56_149, x56_152, fcn_0_44, fcn_0_59, fcn_0_60, fcn_0_61, fcn_0_62, fcn_0_63, if_true, if_false, eq_self, Int.reduceEq, Int.reduceLT, Int.reduceLE, Int.reduceAdd, Int.reduceSub, Int.reduceMul, Int.reduceToNat, Nat.reduceAdd, Nat.reduceMul, Nat.reduceEqDiff, Int.toNat_natCast, wrap_id, hL.1, if_neg (show ¬ (n : Int) < sg.length by omega)]
    · have := (List.getElem?_eq_some_iff.mp h2).1
      omega
  | succ m ih =>
    intro n s hn hL hv hst
    have hgl : n < sg.length := by omega
    have hlt : (n : Int) < sg.length := by omega
    have en : ((n + 1 : Nat) : Int) = (n : Int) + 1 := by omega
    obtain ⟨x, hx⟩ : ∃ x, sg[n]? = some x := ⟨_, List.getElem?_eq_getElem hgl⟩
    have hL' := hL
    obtain ⟨l1, l2, l3, l4, l5, l6, l7, l8, l9⟩ := hL
    obtain ⟨z1, z2, z3, z4, z5, z6, z7⟩ := l9 n x hx
    have e1 : (24 : Int) + n = ((24 + n : Nat) : Int) := rfl
    obtain ⟨s1, hz, hval, hold, hf⟩ : ∃ s1, Ze d 56 55 [aR 0, aI n] [] s = Ze d 56 55 [aR 0, aI ((n + 1 : Nat) : Int)] [] s1 ∧ (x.1 = 3 → s1 48 n = stN sg lo W st val n) ∧ (∀ j, j ≠ n → s1 48 j = s 48 j) ∧ Fr TK2 s s1 := by
      by_cases h3 : x.1 = 3
      · have hb : bas x := Or.inl h3
        have hvs := (hE n x hx).1 hb
        obtain ⟨s1, q1, q2⟩ := t_become (d := d) (g := n) (val := val) (W := W) (v0 := st n) (now := .index n) hd (by omega) l4 l7 l2 hvm l3 l5 hv l6 (hst n (by omega)) (by unfold vF vE; rw [hvm n hgl, hvs]) z5
        have hs : stN sg lo W st val n = iand (vF val W (st n) (lwF n lo (.index n) [])) (msk (W n)) := by
          unfold stN
          rw [hx]
          exact if_pos h3
        have z1 : s 35 (24 + n) = 3 := by rw [z1, h3]; rfl
        refine ⟨mu s1 48 n (stN sg lo W st val n), ?_, fun _ => mu_s, fun j hj => by rw [mu_i hj, q2 _ _ (by unfold FBc; decide)], Fr.mu (S := TK2) (q2.mono (fun _ _ z => Or.inl z)) (Or.inr ⟨rfl, by omega⟩)⟩
        rw [hs, en, x56_55]
        simp (disch := first | exact obC_0 | omega | (simp only [aN1_35, aN1_44, aN1_45, aN1_46, aN1_47, aN1_48]; omega) | (simp only [List.length_cons, List.length_nil]; omega)) only [en56, x56_0, x56_1, x56_3, x56_4, x56_7, x56_10, x56_11, x56_14, x56_15, x56_16, x56_17, x56_20, x56_21, x56_22, x56_25, x56_26, x56_29, x56_30, x56_31, x56_32, x56_33, x56_34, x56_35, x56_36, x56_39, x56_40, x56_41, x56_44, x56_45, x56_46, x56_47, x56_50, x56_53, x56_54, x56_56, x56_57, x56_60, x56_63, x56_64, x56_67, x56_68, x56_69, x56_72, x56_74, x56_75, x56_76, x56_77, x56_78, x56_81, x56_82, x56_83, x56_86, x56_89, x56_90, x56_91, x56_94, x56_97, x56_98, x56_100, x56_101, x56_104, x56_107, x56_108, x56_111, x56_113, x56_114, x56_115, x56_116, x56_117, x56_120, x56_121, x56_124, x56_125, x56_126, x56_129, x56_130, x56_131, x56_132, x56_135, x56_138, x56_139, x56_139i, x56_140, x56_143, x56_144, x56_145, x56_148, x56_149, x56_152, fcn_0_44, fcn_0_59, fcn_0_60, fcn_0_61, fcn_0_62, fcn_0_63, if_true, if_false, eq_self, Int.reduceEq, Int.reduceLT, Int.reduceLE, Int.reduceAdd, Int.reduceSub, Int.reduceMul, Int.reduceToNat, Nat.reduceAdd, Nat.reduceMul, Nat.reduceEqDiff, Int.toNat_natCast, wrap_id, l1, if_pos hlt, e1, z1, q1, zcI_r]
      · refine ⟨mu s 48 n 0, ?_, fun z => absurd z h3, fun j hj => mu_i hj, Fr.mu (S := TK2) (Fr.rf s) (Or.inr ⟨rfl, by omega⟩)⟩
        rw [en, x56_55]
        simp (disch := first | exact obC_0 | omega | (simp only [aN1_35, aN1_44, aN1_45, aN1_46, aN1_47, aN1_48]; omega) | (simp only [List.length_cons, List.length_nil]; omega)) only [en56, x56_0, x56_1, x56_3, x56_4, x56_7, x56_10, x56_11, x56_14, x56_15, x56_16, x56_17, x56_20, x56_21, x56_22, x56_25, x56_26, x56_29, x56_30, x56_31, x56_32, x56_33, x56_34, x56_35, x56_36, x56_39, x56_40, x56_41, x56_44, x56_45, x56_46, x56_47, x56_50, x56_53, x56_54, x56_56, x56_57, x56_60, x56_63, x56_64, x56_67, x56_68, x56_69, x56_72, x56_74, x56_75, x56_76, x56_77, x56_78, x56_81, x56_82, x56_83, x56_86, x56_89, x56_90, x56_91, x56_94, x56_97, x56_98, x56_100, x56_101, x56_104, x56_107, x56_108, x56_111, x56_113, x56_114, x56_115, x56_116, x56_117, x56_120, x56_121, x56_124, x56_125, x56_126, x56_129, x56_130, x56_131, x56_132, x56_135, x56_138, x56_139, x56_139i, x56_140, x56_143, x56_144, x56_145, x56_148, x56_149, x56_152, fcn_0_44, fcn_0_59, fcn_0_60, fcn_0_61, fcn_0_62, fcn_0_63, if_true, if_false, eq_self, Int.reduceEq, Int.reduceLT, Int.reduceLE, Int.reduceAdd, Int.reduceSub, Int.reduceMul, Int.reduceToNat, Nat.reduceAdd, Nat.reduceMul, Nat.reduceEqDiff, Int.toNat_natCast, wrap_id, l1, if_pos hlt, e1, z1, if_neg (show ¬ (x.1 : Int) = 3 by omega)]
    have fk : ∀ k j, k ≤ 47 → k ≠ 22 → s1 k j = s k j := fun k j h1 h2 => hf _ _ (by unfold TK2 FBc; omega)
    obtain ⟨s', q1, q2, q3, q4⟩ := ih (n + 1) s1 (by omega) (LV_put (fun k j hk => fk k j (by omega) (by omega)) hL') (fun j hj => by rw [fk _ _ (by decide) (by decide), hv j hj]) (fun j hj => by rw [fk _ _ (by decide) (by decide), hst j hj])
    refine ⟨s', hz.trans q1, fun j y h1 h2 h3 => ?_, fun j hj => ?_, hf.tr q4⟩
    · by_cases hjn : j = n
      · subst hjn
        rw [hx] at h2
        cases h2
        rw [q3 j (Nat.lt_succ_self _)]
        exact hval h3
      · exact q2 j y (by omega) h2 h3
    · rw [q3 j (by omega), hold j (by omega)]
def TK3 (k j : Nat) : Prop := k = 45 ∧ j < 24
theorem tk_three {d : Nat} {sg : List Sg} {lo : List Lo} {W : Nat → Nat} {st val : Nat → Int} : ∀ (m n : Nat) (s : Mem), n + m = sg.length → LV s sg lo W → (∀ j, n ≤ j → j < 24 → s 45 j = st j) → (∀ (j : Nat) (x : Sg), n ≤ j → sg[j]? = some x → x.1 = 3 → s 48 j = stN sg lo W st val j) →
    ∃ s', Ze d 56 99 [aR 0, aI n] [] s = Ze d 56 138 [aR 0, aI sg.length] [] s' ∧ (∀ j, n ≤ j → j < 24 → s' 45 j = stN sg lo W st val j) ∧ (∀ j, j < n → s' 45 j = s 45 j) ∧ Fr TK3 s s' := by
  intro m
  induction m with
  | zero =>
    intro n s hn hL hst hnx
    refine ⟨s, ?_, fun j h1 h2 => ?_, fun _ _ => rfl, Fr.rf s⟩
    · rw [show n = sg.length by omega, x56_99]
      simp (disch := first | exact obC_0 | omega | (simp only [aN1_35, aN1_44, aN1_45, aN1_46, aN1_47, aN1_48]; omega) | (simp only [List.length_cons, List.length_nil]; omega)) only [en56, x56_0, x56_1, x56_3, x56_4, x56_7, x56_10, x56_11, x56_14, x56_15, x56_16, x56_17, x56_20, x56_21, x56_22, x56_25, x56_26, x56_29, x56_30, x56_31, x56_32, x56_33, x56_34, x56_35, x56_36, x56_39, x56_40, x56_41, x56_44, x56_45, x56_46, x56_47, x56_50, x56_53, x56_54, x56_56, x56_57, x56_60, x56_63, x56_64, x56_67, x56_68, x56_69, x56_72, x56_74, x56_75, x56_76, x56_77, x56_78, x56_81, x56_82, x56_83, x56_86, x56_89, x56_90, x56_91, x56_94, x56_97, x56_98, x56_100, x56_101, x56_104, x56_107, x56_108, x56_111, x56_113, x56_114, x56_115, x56_116, x56_117, x56_120, x56_121, x56_124, x56_125, x56_126, x56_129, x56_130, x56_131, x56_132, x56_135, x56_139, x56_139i, x56_140, x56_143, x56_144, x56_145, x56_148, x56_149, x56_152, fcn_0_44, fcn_0_59, fcn_0_60, fcn_0_61, fcn_0_62, fcn_0_63, if_true, if_false, eq_self, Int.reduceEq, Int.reduceLT, Int.reduceLE, Int.reduceAdd, Int.reduceSub, Int.reduceMul, Int.reduceToNat, Nat.reduceAdd, Nat.reduceMul, Nat.reduceEqDiff, Int.toNat_natCast, wrap_id, hL.1, if_neg (show ¬ (sg.length : Int) < sg.length by omega)]
    · rw [hst j h1 h2]
      unfold stN
      rw [List.getElem?_eq_none (by omega)]
  | succ m ih =>
    intro n s hn hL hst hnx
    have hgl : n < sg.length := by omega
    have hl24 := hL.2.1
    have hlt : (n : Int) < sg.length := by omega
    have en : ((n + 1 : Nat) : Int) = (n : Int) + 1 := by omega
    obtain ⟨x, hx⟩ : ∃ x, sg[n]? = some x := ⟨_, List.getElem?_eq_getElem hgl⟩
    obtain ⟨z1, -⟩ := hL.2.2.2.2.2.2.2.2 n x hx
    have e1 : (24 : Int) + n = ((24 + n : Nat) : Int) := rfl
    obtain ⟨s1, hz, hval, hold, hf⟩ : ∃ s1, Ze d 56 99 [aR 0, aI n] [] s = Ze d 56 99 [aR 0, aI ((n + 1 : Nat) : Int)] [] s1 ∧ s1 45 n = stN sg lo W st val n ∧ (∀ j, j ≠ n → s1 45 j = s 45 j) ∧ Fr TK3 s s1 := by
      by_cases h3 : x.1 = 3
      · have z1 : s 35 (24 + n) = 3 := by rw [z1, h3]; rfl
        have hnn := hnx n x (Nat.le_refl _) hx h3
        refine ⟨mu s 45 n (stN sg lo W st val n), ?_, mu_s, fun j hj => mu_i hj, Fr.mu (S := TK3) (Fr.rf s) ⟨rfl, by omega⟩⟩
        rw [en, x56_99]
        simp (disch := first | exact obC_0 | omega | (simp only [aN1_35, aN1_44, aN1_45, aN1_46, aN1_47, aN1_48]; omega) | (simp only [List.length_cons, List.length_nil]; omega)) only [en56, x56_0, x56_1, x56_3, x56_4, x56_7, x56_10, x56_11, x56_14, x56_15, x56_16, x56_17, x56_20, x56_21, x56_22, x56_25, x56_26, x56_29, x56_30, x56_31, x56_32, x56_33, x56_34, x56_35, x56_36, x56_39, x56_40, x56_41, x56_44, x56_45, x56_46, x56_47, x56_50, x56_53, x56_54, x56_56, x56_57, x56_60, x56_63, x56_64, x56_67, x56_68, x56_69, x56_72, x56_74, x56_75, x56_76, x56_77, x56_78, x56_81, x56_82, x56_83, x56_86, x56_89, x56_90, x56_91, x56_94, x56_97, x56_98, x56_100, x56_101, x56_104, x56_107, x56_108, x56_111, x56_113, x56_114, x56_115, x56_116, x56_117, x56_120, x56_121, x56_124, x56_125, x56_126, x56_129, x56_130, x56_131, x56_132, x56_135, x56_138, x56_139, x56_139i, x56_140, x56_143, x56_144, x56_145, x56_148, x56_149, x56_152, fcn_0_44, fcn_0_59, fcn_0_60, fcn_0_61, fcn_0_62, fcn_0_63, if_true, if_false, eq_self, Int.reduceEq, Int.reduceLT, Int.reduceLE, Int.reduceAdd, Int.reduceSub, Int.reduceMul, Int.reduceToNat, Nat.reduceAdd, Nat.reduceMul, Nat.reduceEqDiff, Int.toNat_natCast, wrap_id, hL.1, if_pos hlt, e1, z1, hnn]
      · refine ⟨s, ?_, ?_, fun j _ => rfl, Fr.rf s⟩
        · rw [en, x56_99]
          simp (disch := first | exact obC_0 | omega | (simp only [aN1_35, aN1_44, aN1_45, aN1_46, aN1_47, aN1_48]; omega) | (simp only [List.length_cons, List.length_nil]; omega)) only [en56, x56_0, x56_1, x56_3, x56_4, x56_7, x56_10, x56_11, x56_14, x56_15, x56_16, x56_17, x56_20, x56_21, x56_22, x56_25, x56_26, x56_29, x56_30, x56_31, x56_32, x56_33, x56_34, x56_35, x56_36, x56_39, x56_40, x56_41, x56_44, x56_45, x56_46, x56_47, x56_50, x56_53, x56_54, x56_56, x56_57, x56_60, x56_63, x56_64, x56_67, x56_68, x56_69, x56_72, x56_74, x56_75, x56_76, x56_77, x56_78, x56_81, x56_82, x56_83, x56_86, x56_89, x56_90, x56_91, x56_94, x56_97, x56_98, x56_100, x56_101, x56_104, x56_107, x56_108, x56_111, x56_113, x56_114, x56_115, x56_116, x56_117, x56_120, x56_121, x56_124, x56_125, x56_126, x56_129, x56_130, x56_131, x56_132, x56_135, x56_138, x56_139, x56_139i, x56_140, x56_143, x56_144, x56_145, x56_148, x56_149, x56_152, fcn_0_44, fcn_0_59, fcn_0_60, fcn_0_61, fcn_0_62, fcn_0_63, if_true, if_false, eq_self, Int.reduceEq, Int.reduceLT, Int.reduceLE, Int.reduceAdd, Int.reduceSub, Int.reduceMul, Int.reduceToNat, Nat.reduceAdd, Nat.reduceMul, Nat.reduceEqDiff, Int.toNat_natCast, wrap_id, hL.1, if_pos hlt, e1, z1, if_neg (show ¬ (x.1 : Int) = 3 by omega)]
        · rw [hst n (Nat.le_refl _) (by omega)]
          unfold stN
          rw [hx]
          exact (if_neg h3).symm
    obtain ⟨s', q1, q2, q3, q4⟩ := ih (n + 1) s1 (by omega) (LV_put (fun k j hk => hf _ _ (by unfold TK3; omega)) hL) (fun j h1 h2 => by rw [hold j (by omega), hst j (by omega) h2]) (fun j y h1 h2 h3 => by rw [hf _ _ (by unfold TK3; omega)]; exact hnx j y (by omega) h2 h3)
    refine ⟨s', hz.trans q1, fun j h1 h2 => ?_, fun j hj => ?_, hf.tr q4⟩
    · by_cases hjn : j = n
      · subst hjn
        rw [q3 j (Nat.lt_succ_self _), hval]
      · exact q2 j (by omega) h2
    · rw [q3 j (by omega), hold j (by omega)]
