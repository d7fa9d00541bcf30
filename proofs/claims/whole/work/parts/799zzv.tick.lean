/-! THE CLASS: a tick -/
theorem tkA {d o i L : Nat} {a b c : Int} {s : Mem} (ho : o = 0 ∨ o = 26) (hu : s (59 + o) 6 = L) (hi : i < L) (hL : L ≤ 24) (ha : s (80 + o) i = a) (hb : s (82 + o) i = b) (hc : s (81 + o) i = c) : Ze d 97 2 [aR (58 + o), aI i] [] s = Ze d 97 2 [aR (58 + o), aI ((i + 1 : Nat) : Int)] [] (if a = b then mu s (82 + o) i a else mu (mu s (81 + o) i (wrap (c + 1))) (82 + o) i a) := by
  rw [x97_2, show ((i + 1 : Nat) : Int) = (i : Int) + 1 from rfl]
  by_cases h : a = b
  · rw [if_pos h]
    simp (disch := first | exact (obCO_58 ho) | exact (obCO_59 ho) | omega | (simp only [(aN1O_60 ho), (aN1O_80 ho), (aN1O_81 ho), (aN1O_82 ho), (aN1O_83 ho)]; omega) | (simp only [List.length_cons, List.length_nil]; omega)) only [en97, x97_0, x97_1, x97_3, x97_4, x97_7, x97_10, x97_13, x97_14, x97_17, x97_18, x97_19, x97_20, x97_23, x97_24, x97_25, x97_28, x97_29, x97_32, x97_33, x97_34, x97_35, x97_36, x97_37, x97_38, x97_39, x97_42, x97_43, x97_44, x97_47, x97_48, x97_49, x97_50, x97_53, x97_56, x97_57, x97_59, x97_60, x97_63, x97_66, x97_69, x97_70, x97_73, x97_74, x97_75, x97_78, x97_81, x97_82, x97_83, x97_84, x97_87, x97_88, x97_89, x97_92, x97_95, x97_96, x97_99, x97_100, x97_101, x97_102, x97_105, x97_108, x97_109, x97_112, x97_113, x97_114, x97_117, x97_118, x97_119, x97_122, x97_125, x97_128, x97_129, x97_132, x97_133, x97_133i, x97_134, x97_137, x97_138, x97_139, x97_142, (fcnO_58_0 ho), (fcnO_58_11 ho), (fcnO_58_12 ho), (fcnO_58_13 ho), (fcnO_58_14 ho), (fcnO_59_0 ho), if_true, if_false, eq_self, Int.reduceEq, Int.reduceLT, Int.reduceLE, Int.reduceAdd, Int.reduceSub, Int.reduceMul, Int.reduceToNat, Nat.reduceAdd, Nat.reduceMul, Nat.reduceEqDiff, Int.toNat_natCast, wrap_id, hu, if_pos (show (i : Int) < L by omega), ha, hb, if_pos h]
  · rw [if_neg h]
    have hch : ∀ v, mu s (81 + o) i v (80 + o) i = a := fun v => by rw [mu_c (by omega), ha]
    simp (disch := first | exact (obCO_58 ho) | exact (obCO_59 ho) | omega | (simp only [(aN1O_60 ho), (aN1O_80 ho), (aN1O_81 ho), (aN1O_82 ho), (aN1O_83 ho)]; omega) | (simp only [List.length_cons, List.length_nil]; omega)) only [en97, x97_0, x97_1, x97_3, x97_4, x97_7, x97_10, x97_13, x97_14, x97_17, x97_18, x97_19, x97_20, x97_23, x97_24, x97_25, x97_28, x97_29, x97_32, x97_33, x97_34, x97_35, x97_36, x97_37, x97_38, x97_39, x97_42, x97_43, x97_44, x97_47, x97_48, x97_49, x97_50, x97_53, x97_56, x97_57, x97_59, x97_60, x97_63, x97_66, x97_69, x97_70, x97_73, x97_74, x97_75, x97_78, x97_81, x97_82, x97_83, x97_84, x97_87, x97_88, x97_89, x97_92, x97_95, x97_96, x97_99, x97_100, x97_101, x97_102, x97_105, x97_108, x97_109, x97_112, x97_113, x97_114, x97_117, x97_118, x97_119, x97_122, x97_125, x97_128, x97_129, x97_132, x97_133, x97_133i, x97_134, x97_137, x97_138, x97_139, x97_142, (fcnO_58_0 ho), (fcnO_58_11 ho), (fcnO_58_12 ho), (fcnO_58_13 ho), (fcnO_58_14 ho), (fcnO_59_0 ho), if_true, if_false, eq_self, Int.reduceEq, Int.reduceLT, Int.reduceLE, Int.reduceAdd, Int.reduceSub, Int.reduceMul, Int.reduceToNat, Nat.reduceAdd, Nat.reduceMul, Nat.reduceEqDiff, Int.toNat_natCast, wrap_id, hu, if_pos (show (i : Int) < L by omega), ha, hb, hc, if_neg h, hch]
theorem tkA_end {d o L : Nat} {s : Mem} (ho : o = 0 ∨ o = 26) (hu : s (59 + o) 6 = L) : Ze d 97 2 [aR (58 + o), aI L] [] s = Ze d 97 58 [aR (58 + o), aI ((0 : Nat) : Int)] [] s := by
  have z0 : ((0 : Nat) : Int) = 0 := rfl
  rw [x97_2]
  simp (disch := first | exact (obCO_58 ho) | exact (obCO_59 ho) | omega | (simp only [(aN1O_60 ho), (aN1O_80 ho), (aN1O_81 ho), (aN1O_82 ho), (aN1O_83 ho)]; omega) | (simp only [List.length_cons, List.length_nil]; omega)) only [en97, x97_0, x97_1, x97_3, x97_4, x97_7, x97_10, x97_13, x97_14, x97_17, x97_18, x97_19, x97_20, x97_23, x97_24, x97_25, x97_28, x97_29, x97_32, x97_33, x97_34, x97_35, x97_36, x97_37, x97_38, x97_39, x97_42, x97_43, x97_44, x97_47, x97_48, x97_49, x97_50, x97_53, x97_56, x97_57, x97_59, x97_60, x97_63, x97_66, x97_69, x97_70, x97_73, x97_74, x97_75, x97_78, x97_81, x97_82, x97_83, x97_84, x97_87, x97_88, x97_89, x97_92, x97_95, x97_96, x97_99, x97_100, x97_101, x97_102, x97_105, x97_108, x97_109, x97_112, x97_113, x97_114, x97_117, x97_118, x97_119, x97_122, x97_125, x97_128, x97_129, x97_132, x97_133, x97_133i, x97_134, x97_137, x97_138, x97_139, x97_142, (fcnO_58_0 ho), (fcnO_58_11 ho), (fcnO_58_12 ho), (fcnO_58_13 ho), (fcnO_58_14 ho), (fcnO_59_0 ho), if_true, if_false, eq_self, Int.reduceEq, Int.reduceLT, Int.reduceLE, Int.reduceAdd, Int.reduceSub, Int.reduceMul, Int.reduceToNat, Nat.reduceAdd, Nat.reduceMul, Nat.reduceEqDiff, Int.toNat_natCast, wrap_id, hu, if_neg (show ¬ (L : Int) < L by omega), z0]
theorem tkB_reg {d o i L : Nat} {c : Int} {s s1 : Mem} (ho : o = 0 ∨ o = 26) (hu : s (59 + o) 6 = L) (hi : i < L) (hL : L ≤ 24) (hk : s (60 + o) i = 3) (e : Zc d 95 [aR (58 + o), aI i] s = rI c s1) : Ze d 97 58 [aR (58 + o), aI i] [] s = Ze d 97 58 [aR (58 + o), aI ((i + 1 : Nat) : Int)] [] (mu s1 (83 + o) i c) := by
  rw [x97_58, show ((i + 1 : Nat) : Int) = (i : Int) + 1 from rfl]
  simp (disch := first | exact (obCO_58 ho) | exact (obCO_59 ho) | omega | (simp only [(aN1O_60 ho), (aN1O_80 ho), (aN1O_81 ho), (aN1O_82 ho), (aN1O_83 ho)]; omega) | (simp only [List.length_cons, List.length_nil]; omega)) only [en97, x97_0, x97_1, x97_3, x97_4, x97_7, x97_10, x97_13, x97_14, x97_17, x97_18, x97_19, x97_20, x97_23, x97_24, x97_25, x97_28, x97_29, x97_32, x97_33, x97_34, x97_35, x97_36, x97_37, x97_38, x97_39, x97_42, x97_43, x97_44, x97_47, x97_48, x97_49, x97_50, x97_53, x97_56, x97_57, x97_59, x97_60, x97_63, x97_66, x97_69, x97_70, x97_73, x97_74, x97_75, x97_78, x97_81, x97_82, x97_83, x97_84, x97_87, x97_88, x97_89, x97_92, x97_95, x97_96, x97_99, x97_100, x97_101, x97_102, x97_105, x97_108, x97_109, x97_112, x97_113, x97_114, x97_117, x97_118, x97_119, x97_122, x97_125, x97_128, x97_129, x97_132, x97_133, x97_133i, x97_134, x97_137, x97_138, x97_139, x97_142, (fcnO_58_0 ho), (fcnO_58_11 ho), (fcnO_58_12 ho), (fcnO_58_13 ho), (fcnO_58_14 ho), (fcnO_59_0 ho), if_true, if_false, eq_self, Int.reduceEq, Int.reduceLT, Int.reduceLE, Int.reduceAdd, Int.reduceSub, Int.reduceMul, Int.reduceToNat, Nat.reduceAdd, Nat.reduceMul, Nat.reduceEqDiff, Int.toNat_natCast, wrap_id, hu, if_pos (show (i : Int) < L by omega), hk, e, zcI_r]
theorem tkB_no {d o i L k : Nat} {s : Mem} (ho : o = 0 ∨ o = 26) (hu : s (59 + o) 6 = L) (hi : i < L) (hL : L ≤ 24) (hk : s (60 + o) i = k) (h3 : ¬ k = 3) : Ze d 97 58 [aR (58 + o), aI i] [] s = Ze d 97 58 [aR (58 + o), aI ((i + 1 : Nat) : Int)] [] (mu s (83 + o) i (s (80 + o) i)) := by
  rw [x97_58, show ((i + 1 : Nat) : Int) = (i : Int) + 1 from rfl]
  simp (disch := first | exact (obCO_58 ho) | exact (obCO_59 ho) | omega | (simp only [(aN1O_60 ho), (aN1O_80 ho), (aN1O_81 ho), (aN1O_82 ho), (aN1O_83 ho)]; omega) | (simp only [List.length_cons, List.length_nil]; omega)) only [en97, x97_0, x97_1, x97_3, x97_4, x97_7, x97_10, x97_13, x97_14, x97_17, x97_18, x97_19, x97_20, x97_23, x97_24, x97_25, x97_28, x97_29, x97_32, x97_33, x97_34, x97_35, x97_36, x97_37, x97_38, x97_39, x97_42, x97_43, x97_44, x97_47, x97_48, x97_49, x97_50, x97_53, x97_56, x97_57, x97_59, x97_60, x97_63, x97_66, x97_69, x97_70, x97_73, x97_74, x97_75, x97_78, x97_81, x97_82, x97_83, x97_84, x97_87, x97_88, x97_89, x97_92, x97_95, x97_96, x97_99, x97_100, x97_101, x97_102, x97_105, x97_108, x97_109, x97_112, x97_113, x97_114, x97_117, x97_118, x97_119, x97_122, x97_125, x97_128, x97_129, x97_132, x97_133, x97_133i, x97_134, x97_137, x97_138, x97_139, x97_142, (fcnO_58_0 ho), (fcnO_58_11 ho), (fcnO_58_12 ho), (fcnO_58_13 ho), (fcnO_58_14 ho), (fcnO_59_0 ho), if_true, if_false, eq_self, Int.reduceEq, Int.reduceLT, Int.reduceLE, Int.reduceAdd, Int.reduceSub, Int.reduceMul, Int.reduceToNat, Nat.reduceAdd, Nat.reduceMul, Nat.reduceEqDiff, Int.toNat_natCast, wrap_id, hu, if_pos (show (i : Int) < L by omega), hk, if_neg (show ¬ (k : Int) = 3 by omega)]
theorem tkB_end {d o L : Nat} {c : Int} {s s1 : Mem} (ho : o = 0 ∨ o = 26) (hu : s (59 + o) 6 = L) (hL : L ≤ 24) (e : Zc d 94 [aR (58 + o)] (cpM s (83 + o) 0 (80 + o) 0 L) = rV s1) (hc : s1 (58 + o) 15 = c) : Ze d 97 58 [aR (58 + o), aI L] [] s = rV (mu s1 (58 + o) 15 (wrap (c + 1))) := by
  have hA : aN1 (83 + o) = 24 := aN1O_83 ho
  have hB : aN1 (80 + o) = 24 := aN1O_80 ho
  rw [x97_58]
  simp (disch := first | exact (obCO_58 ho) | exact (obCO_59 ho) | omega | (simp only [(aN1O_60 ho), (aN1O_80 ho), (aN1O_81 ho), (aN1O_82 ho), (aN1O_83 ho)]; omega) | (simp only [List.length_cons, List.length_nil]; omega)) only [en97, x97_0, x97_1, x97_3, x97_4, x97_7, x97_10, x97_13, x97_14, x97_17, x97_18, x97_19, x97_20, x97_23, x97_24, x97_25, x97_28, x97_29, x97_32, x97_33, x97_34, x97_35, x97_36, x97_37, x97_38, x97_39, x97_42, x97_43, x97_44, x97_47, x97_48, x97_49, x97_50, x97_53, x97_56, x97_57, x97_59, x97_60, x97_63, x97_66, x97_69, x97_70, x97_73, x97_74, x97_75, x97_78, x97_81, x97_82, x97_83, x97_84, x97_87, x97_88, x97_89, x97_92, x97_95, x97_96, x97_99, x97_100, x97_101, x97_102, x97_105, x97_108, x97_109, x97_112, x97_113, x97_114, x97_117, x97_118, x97_119, x97_122, x97_125, x97_128, x97_129, x97_132, x97_133, x97_133i, x97_134, x97_137, x97_138, x97_139, x97_142, (fcnO_58_0 ho), (fcnO_58_11 ho), (fcnO_58_12 ho), (fcnO_58_13 ho), (fcnO_58_14 ho), (fcnO_59_0 ho), if_true, if_false, eq_self, Int.reduceEq, Int.reduceLT, Int.reduceLE, Int.reduceAdd, Int.reduceSub, Int.reduceMul, Int.reduceToNat, Nat.reduceAdd, Nat.reduceMul, Nat.reduceEqDiff, Int.toNat_natCast, wrap_id, hu, if_neg (show ¬ (L : Int) < L by omega), Int.toNat_zero, e, zcV_r, hc]
def TKA (o k _j : Nat) : Prop := k = 82 + o ∨ k = 81 + o
theorem tkA_loop {d o : Nat} {sg : List Sg} {val bf ch : Nat → Int} (ho : o = 0 ∨ o = 26) (hL : sg.length ≤ 24) : ∀ (m i : Nat) (s : Mem), i + m = sg.length → s (59 + o) 6 = sg.length → (∀ g, g < 24 → s (80 + o) g = val g) → (∀ j, j < sg.length → s (82 + o) j = (if j < i then val j else bf j) ∧ s (81 + o) j = (if j < i then (if val j = bf j then ch j else wrap (ch j + 1)) else ch j)) →
    ∃ s', Ze d 97 2 [aR (58 + o), aI i] [] s = Ze d 97 58 [aR (58 + o), aI ((0 : Nat) : Int)] [] s' ∧ (∀ j, j < sg.length → s' (82 + o) j = val j ∧ s' (81 + o) j = (if val j = bf j then ch j else wrap (ch j + 1))) ∧ Fr (TKA o) s s' := by
  intro m
  induction m with
  | zero =>
    intro i s hi hu hv h
    have : i = sg.length := by omega
    subst this
    refine ⟨s, tkA_end ho hu, fun j hj => ?_, Fr.rf s⟩
    have := h j hj
    rw [if_pos hj, if_pos hj] at this
    exact this
  | succ m ih =>
    intro i s hi hu hv h
    have hil : i < sg.length := by omega
    obtain ⟨b1, b2⟩ := h i hil
    rw [if_neg (by omega)] at b1 b2
    have e1 := tkA (d := d) ho hu hil hL (hv i (by omega)) b1 b2
    have F : Fr (TKA o) s (if val i = bf i then mu s (82 + o) i (val i) else mu (mu s (81 + o) i (wrap (ch i + 1))) (82 + o) i (val i)) := by
      split
      · exact (Fr.rf s).mu (Or.inl rfl)
      · exact ((Fr.rf s).mu (Or.inr rfl)).mu (Or.inl rfl)
    obtain ⟨s', c1, c2, c3⟩ := ih (i + 1) (if val i = bf i then mu s (82 + o) i (val i) else mu (mu s (81 + o) i (wrap (ch i + 1))) (82 + o) i (val i)) (by omega) (by rw [F _ _ (by unfold TKA; omega), hu]) (fun g hg => by rw [F _ _ (by unfold TKA; omega)]; exact hv g hg) (fun j hj => by
      obtain ⟨d1, d2⟩ := h j hj
      by_cases hji : j = i
      · subst hji
        rw [if_pos (Nat.lt_succ_self _), if_pos (Nat.lt_succ_self _)]
        by_cases hq : val j = bf j
        · rw [if_pos hq, if_pos hq]
          exact ⟨mu_s, by rw [mu_c (by omega)]; exact b2⟩
        · rw [if_neg hq, if_neg hq]
          exact ⟨mu_s, by rw [mu_c (by omega), mu_s]⟩
      · have h1 : (if val i = bf i then mu s (82 + o) i (val i) else mu (mu s (81 + o) i (wrap (ch i + 1))) (82 + o) i (val i)) (82 + o) j = s (82 + o) j := by
          split
          · exact mu_i hji
          · rw [mu_i hji, mu_c (by omega)]
        have h2 : (if val i = bf i then mu s (82 + o) i (val i) else mu (mu s (81 + o) i (wrap (ch i + 1))) (82 + o) i (val i)) (81 + o) j = s (81 + o) j := by
          split
          · exact mu_c (by omega)
          · rw [mu_c (by omega), mu_i hji]
        rw [h1, h2, d1, d2]
        by_cases hjl : j < i
        · rw [if_pos hjl, if_pos hjl, if_pos (show j < i + 1 by omega), if_pos (show j < i + 1 by omega)]
          exact ⟨rfl, rfl⟩
        · rw [if_neg hjl, if_neg hjl, if_neg (show ¬ j < i + 1 by omega), if_neg (show ¬ j < i + 1 by omega)]
          exact ⟨rfl, rfl⟩)
    exact ⟨s', by rw [e1, c1], c2, F.tr c3⟩
def TKB (o k _j : Nat) : Prop := k = 83 + o ∨ k = 73 + o
/-- what comes with a clock -/
noncomputable def nxt (sg : List Sg) (lo : List Lo) (W : Nat → Nat) (val : Nat → Int) (g : Nat) : Int := @ite _ (rgs sg g) (Classical.propDecidable _) (rhC sg lo W val g) (val g)
theorem tkB_loop {d o N K : Nat} {sg : List Sg} {lo : List Lo} {W : Nat → Nat} {val : Nat → Int} (hd : 4 ≤ d) (ho : o = 0 ∨ o = 26) (hP : SPC sg lo W) (hm : ∀ g, g < sg.length → iand (val g) (msk (W g)) = val g) : ∀ (m i : Nat) (s : Mem), i + m = sg.length → CIR s o N K sg lo W → (∀ g, g < 24 → s (80 + o) g = val g) → (∀ j, j < i → s (83 + o) j = nxt sg lo W val j) →
    ∃ s', Ze d 97 58 [aR (58 + o), aI i] [] s = Ze d 97 58 [aR (58 + o), aI sg.length] [] s' ∧ (∀ j, j < sg.length → s' (83 + o) j = nxt sg lo W val j) ∧ Fr (TKB o) s s' := by
  intro m
  induction m with
  | zero =>
    intro i s hi hC hv h
    have : i = sg.length := by omega
    subst this
    exact ⟨s, rfl, h, Fr.rf s⟩
  | succ m ih =>
    intro i s hi hC hv h
    have hil : i < sg.length := by omega
    have hC' := hC
    obtain ⟨c1, c2, c3, c4, c5, c6, c7, c8⟩ := hC
    have hL := c1.2.1
    have hx := List.getElem?_eq_getElem hil
    obtain ⟨q1, q2⟩ := c1.2.2 i _ hx
    generalize sg[i] = x at hx q1 q2
    have go : ∀ (s1 : Mem) (c : Int), Ze d 97 58 [aR (58 + o), aI i] [] s = Ze d 97 58 [aR (58 + o), aI ((i + 1 : Nat) : Int)] [] (mu s1 (83 + o) i c) → Fr (HX o) s s1 → c = nxt sg lo W val i → ∃ s', Ze d 97 58 [aR (58 + o), aI i] [] s = Ze d 97 58 [aR (58 + o), aI sg.length] [] s' ∧ (∀ j, j < sg.length → s' (83 + o) j = nxt sg lo W val j) ∧ Fr (TKB o) s s' := by
      intro s1 c r1 r2 r3
      have F : Fr (TKB o) s (mu s1 (83 + o) i c) := Fr.mu (r2.mono (fun _ _ h => Or.inr h)) (Or.inl rfl)
      obtain ⟨s', a1, a2, a3⟩ := ih (i + 1) (mu s1 (83 + o) i c) (by omega) (CIR_put ho hC' (F.mono (fun _ _ h => by unfold TKB at h; unfold RUNF; omega))) (fun g hg => by rw [F _ _ (by unfold TKB; omega)]; exact hv g hg) (fun j hj => by
        by_cases hji : j = i
        · rw [hji, mu_s, r3]
        · rw [mu_i hji, r2 _ _ (by unfold HX; omega)]
          exact h j (by omega))
      exact ⟨s', by rw [r1, a1], a2, F.tr a3⟩
    by_cases h3 : x.1 = 3
    · have hs : isSk x.1 x.2.2.1 ∨ x.1 = 4 := Or.inl (by unfold isSk; omega)
      obtain ⟨v, v1, v2⟩ := c7 i x hx hs
      obtain ⟨s1, a1, a2⟩ := k_resultOf (d := d) (k := i) (val := val) (W := W) (w := W i) 0 hd ho c4 hL (by omega) c6 hm (hP.1 i x hx hs) v1 v2 c3 hv c5 (c2 i hil).1
      refine go s1 _ (tkB_reg (d := d) ho c1.1 hil hL (by rw [q1, h3]; rfl) a1) a2 ?_
      unfold nxt
      rw [if_pos ⟨x, hx, h3⟩]
      rfl
    · refine go s _ (tkB_no (d := d) ho c1.1 hil hL q1 h3) (Fr.rf s) ?_
      unfold nxt
      rw [if_neg (fun ⟨y, hy, hy3⟩ => by
        rw [hx] at hy
        injection hy with hy
        subst hy
        exact h3 hy3)]
      exact hv i (by omega)
theorem nxt_st {sg : List Sg} {lo : List Lo} {W : Nat → Nat} {st val : Nat → Int} {g : Nat} (hP : SPC sg lo W) (hE : EV sg lo W st val) (hb : basg sg g) : nxt sg lo W val g = stN sg lo W st val g := by
  obtain ⟨x, hx, hbx⟩ := hb
  unfold nxt stN
  rw [hx]
  dsimp only
  by_cases h3 : x.1 = 3
  · rw [if_pos ⟨x, hx, h3⟩, if_pos h3]
    have hs : isSk x.1 x.2.2.1 ∨ x.1 = 4 := Or.inl (by unfold isSk; omega)
    have hi := hP.1 g x hx hs
    unfold rhC
    have hf : form sg lo g = lwF g lo (.index g) [] := by
      unfold form
      rw [hx]
      dsimp only
      rw [if_neg (by omega), if_pos h3]
    rw [hf] at hi ⊢
    rw [vF_ini hi]
  · rw [if_neg (fun ⟨y, hy, hy3⟩ => by
        rw [hx] at hy
        injection hy with hy
        subst hy
        exact h3 hy3), if_neg h3]
    exact (hE g x hx).1 hbx
theorem k_tick {d o N K : Nat} {sg : List Sg} {lo : List Lo} {W : Nat → Nat} {l : List Nat} {st val bf ch : Nat → Int} {ck : Int} {s : Mem} (hd : 6 ≤ d) (ho : o = 0 ∨ o = 26) (h : RUK s o N K sg lo W l st val bf ch ck) : ∃ s' val', Zc d 97 [aR (58 + o)] s = rV s' ∧ RUK s' o N K sg lo W l (stN sg lo W st val) val' val (fun j => if val j = bf j then ch j else wrap (ch j + 1)) (wrap (ck + 1)) ∧ Fr (RUNF o) s s' := by
  obtain ⟨d, rfl⟩ : ∃ e, d = e + 1 := ⟨d - 1, by omega⟩
  obtain ⟨h1, h2, h3, h4, h5, h6, h7, h8, h9, h10⟩ := h
  have hL := h1.1.2.1
  have e0 : Zc (d + 1) 97 [aR (58 + o)] s = Ze d 97 2 [aR (58 + o), aI ((0 : Nat) : Int)] [] s := by
    have z0 : ((0 : Nat) : Int) = 0 := rfl
    simp (disch := first | exact obC_58 | exact obC_59 | exact obC_84 | exact obC_85 | omega | (simp only [aN1_106, aN1_107, aN1_108, aN1_109, aN1_60, aN1_80, aN1_81, aN1_82, aN1_83, aN1_86]; omega) | (simp only [List.length_cons, List.length_nil]; omega)) only [en97, x97_0, x97_1, x97_3, x97_4, x97_7, x97_10, x97_13, x97_14, x97_17, x97_18, x97_19, x97_20, x97_23, x97_24, x97_25, x97_28, x97_29, x97_32, x97_33, x97_34, x97_35, x97_36, x97_37, x97_38, x97_39, x97_42, x97_43, x97_44, x97_47, x97_48, x97_49, x97_50, x97_53, x97_56, x97_57, x97_59, x97_60, x97_63, x97_66, x97_69, x97_70, x97_73, x97_74, x97_75, x97_78, x97_81, x97_82, x97_83, x97_84, x97_87, x97_88, x97_89, x97_92, x97_95, x97_96, x97_99, x97_100, x97_101, x97_102, x97_105, x97_108, x97_109, x97_112, x97_113, x97_114, x97_117, x97_118, x97_119, x97_122, x97_125, x97_128, x97_129, x97_132, x97_133, x97_133i, x97_134, x97_137, x97_138, x97_139, x97_142, fcn_58_0, fcn_58_11, fcn_58_12, fcn_58_13, fcn_58_14, fcn_59_0, fcn_84_0, fcn_84_11, fcn_84_12, fcn_84_13, fcn_84_14, fcn_85_0, if_true, if_false, eq_self, Int.reduceEq, Int.reduceLT, Int.reduceLE, Int.reduceAdd, Int.reduceSub, Int.reduceMul, Int.reduceToNat, Nat.reduceAdd, Nat.reduceMul, Nat.reduceEqDiff, Int.toNat_natCast, wrap_id, z0]
  obtain ⟨s1, a1, a2, a3⟩ := tkA_loop (d := d) (bf := bf) (ch := ch) ho hL sg.length 0 s (Nat.zero_add _) h1.1.1 h6 (fun j hj => by rw [if_neg (by omega), if_neg (by omega)]; exact h9 j hj)
  have F1 : Fr (RUNF o) s s1 := a3.mono (fun _ _ h => by unfold TKA at h; unfold RUNF; omega)
  have v1 : ∀ g, g < 24 → s1 (80 + o) g = val g := fun g hg => by rw [a3 _ _ (by unfold TKA; omega)]; exact h6 g hg
  obtain ⟨s2, b1, b2, b3⟩ := tkB_loop (d := d) (by omega) ho h2 h7 sg.length 0 s1 (Nat.zero_add _) (CIR_put ho h1 F1) v1 (fun j hj => by omega)
  have F2 : Fr (RUNF o) s s2 := F1.tr (b3.mono (fun _ _ h => by unfold TKB at h; unfold RUNF; omega))
  have FC : Fr (SEF o) s2 (cpM s2 (83 + o) 0 (80 + o) 0 sg.length) := fun k j hn => cp_o (Or.inl (fun z => hn (Or.inr z)))
  have F3 : Fr (RUNF o) s (cpM s2 (83 + o) 0 (80 + o) 0 sg.length) := F2.tr (SEF_R FC)
  have v3 : ∀ g, g < 24 → cpM s2 (83 + o) 0 (80 + o) 0 sg.length (80 + o) g = if g < sg.length then nxt sg lo W val g else val g := fun g hg => by
    by_cases hgl : g < sg.length
    · rw [if_pos hgl, cp_i hgl, b2 g hgl]
    · rw [if_neg hgl, cp_o (by omega), b3 _ _ (by unfold TKB; omega), v1 g hg]
  obtain ⟨s3, val', c1, c2, c3, c4, -, c6⟩ := k_settle (d := d) (st := stN sg lo W st val) (val := fun g => if g < sg.length then nxt sg lo W val g else val g) (by omega) ho h2 h3 h4 (CIR_put ho h1 F3) ⟨by rw [FC _ _ (by unfold SEF; omega), b3 _ _ (by unfold TKB; omega), a3 _ _ (by unfold TKA; omega)]; exact h5.1, fun i x hx => by rw [FC _ _ (by unfold SEF; omega), b3 _ _ (by unfold TKB; omega), a3 _ _ (by unfold TKA; omega)]; exact h5.2 i x hx⟩ v3 (fun g hg => by
    rw [if_pos hg]
    unfold nxt
    split
    · exact iand_idem _ _
    · exact h7 g hg) (fun g hg hb => by
    rw [if_pos hg]
    exact nxt_st h2 h8 hb)
  have F4 : Fr (RUNF o) s s3 := F3.tr (SEF_R c6)
  have hck : s3 (58 + o) 15 = ck := by rw [c6 _ _ (by unfold SEF; omega), FC _ _ (by unfold SEF; omega), b3 _ _ (by unfold TKB; omega), a3 _ _ (by unfold TKA; omega), h10]
  have e4 := tkB_end (d := d) ho (CIR_put ho h1 F2).1.1 hL c1 hck
  have F5 : Fr (RUNF o) s (mu s3 (58 + o) 15 (wrap (ck + 1))) := F4.mu (Or.inr (Or.inr ⟨rfl, Or.inr rfl⟩))
  have n5 : ∀ k j, k ≠ 58 + o → mu s3 (58 + o) 15 (wrap (ck + 1)) k j = s3 k j := fun k j hk => mu_c hk
  refine ⟨_, val', by rw [e0, a1, b1, e4], ⟨CIR_put ho h1 F5, h2, h3, h4, ⟨?_, fun i x hx => ?_⟩, fun g hg => by rw [n5 _ _ (by omega)]; exact c2 g hg, c3, c4, fun j hj => ?_, mu_s⟩, F5⟩
  · rw [mu_i (by decide), c6 _ _ (by unfold SEF; omega), FC _ _ (by unfold SEF; omega), b3 _ _ (by unfold TKB; omega), a3 _ _ (by unfold TKA; omega)]
    exact h5.1
  · rw [n5 _ _ (by omega), c6 _ _ (by unfold SEF; omega), FC _ _ (by unfold SEF; omega), b3 _ _ (by unfold TKB; omega), a3 _ _ (by unfold TKA; omega)]
    exact h5.2 i x hx
  · rw [n5 _ _ (by omega), n5 _ _ (by omega), c6 _ _ (by unfold SEF; omega), c6 _ _ (by unfold SEF; omega), FC _ _ (by unfold SEF; omega), FC _ _ (by unfold SEF; omega), b3 _ _ (by unfold TKB; omega), b3 _ _ (by unfold TKB; omega)]
    exact a2 j hj
