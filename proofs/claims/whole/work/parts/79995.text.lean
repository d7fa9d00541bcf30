/-! THE DOCUMENT: the letters of a long, the first byte first -/
noncomputable def yb (w : Int) (m : Nat) : Int := iand (l2iZ (lshrZ w ((8 * m : Nat) : Int))) 255
noncomputable def btl (w : Int) : Nat → List Int
  | 0 => []
  | m + 1 => if yb w m = 0 then btl w m else yb w m :: btl w m
def okc (v : Int) : Bool := decide (32 ≤ v ∧ v ≤ 126)
theorem btl_len (w : Int) : ∀ m, (btl w m).length ≤ m
  | 0 => Nat.le_refl _
  | m + 1 => by
    have := btl_len w m
    unfold btl
    split
    · omega
    · rw [List.length_cons]; omega
theorem tt_one {d : Nat} {w : Int} {s : Mem} (hd : 1 ≤ d) : ∀ (m K : Nat) (G : Bool) (l2 l6 : AV), K + m ≤ 8 → ∃ l6', Ze d 3 9 [aR 0, aL w, l2, aI K, aI (b2i G), aI (8 * (m : Int) - 8), l6] [] s = Ze d 3 57 [aR 0, aL w, l2, aI ((K + (btl w m).length : Nat) : Int), aI (b2i (G && (btl w m).all okc)), aI (-8), l6'] [] s := by
  intro m
  induction m with
  | zero =>
    intro K G l2 l6 hK
    refine ⟨l6, ?_⟩
    rw [show btl w 0 = [] from rfl, show (8 * ((0 : Nat) : Int) - 8) = -8 from rfl, List.all_nil, Bool.and_true, List.length_nil, Nat.add_zero, x3_9]
    simp (disch := first | exact obC_0 | omega | (simp only [aN1_1]; omega) | (simp only [List.length_cons, List.length_nil]; omega)) only [en3, x3_0, x3_1, x3_2, x3_3, x3_5, x3_7, x3_11, x3_14, x3_15, x3_17, x3_18, x3_19, x3_22, x3_23, x3_25, x3_27, x3_30, x3_33, x3_35, x3_37, x3_39, x3_42, x3_45, x3_46, x3_48, x3_51, x3_54, x3_59, x3_62, x3_63, x3_64, x3_67, x3_68, x3_69, x3_72, x3_73, x3_74, x3_77, x3_80, x3_81, x3_82, x3_85, x3_86, x3_87, x3_88, x3_91, x3_93, x3_97, x3_100, x3_101, x3_103, x3_104, x3_105, x3_108, x3_109, x3_111, x3_113, x3_116, x3_119, x3_120, x3_123, x3_124, x3_127, x3_129, x3_130, x3_131, x3_131i, x3_132, x3_135, x3_136, x3_137, x3_140, x3_143, x3_146, x3_147, x3_150, fcn_0_0, if_true, if_false, eq_self, Int.reduceEq, Int.reduceLT, Int.reduceLE, Int.reduceAdd, Int.reduceSub, Int.reduceMul, Int.reduceToNat, Nat.reduceAdd, Nat.reduceMul, Nat.reduceEqDiff, Int.toNat_natCast, wrap_id]
  | succ m ih =>
    intro K G l2 l6 hK
    have e1 : 8 * ((m + 1 : Nat) : Int) - 8 = ((8 * m : Nat) : Int) := by omega
    have e2 : ((8 * m : Nat) : Int) + -8 = 8 * (m : Int) - 8 := by omega
    have hy : iand (l2iZ (lshrZ w ((8 * m : Nat) : Int))) 255 = yb w m := rfl
    by_cases h0 : yb w m = 0
    · obtain ⟨l6', q⟩ := ih K G l2 (aI 0) (by omega)
      refine ⟨l6', Eq.trans ?_ (q.trans ?_)⟩
      · rw [e1, ← e2, x3_9]
        rw [h0] at hy
        simp (disch := first | exact obC_0 | omega | (simp only [aN1_1]; omega) | (simp only [List.length_cons, List.length_nil]; omega)) only [en3, x3_0, x3_1, x3_2, x3_3, x3_5, x3_7, x3_11, x3_14, x3_15, x3_17, x3_18, x3_19, x3_22, x3_23, x3_25, x3_27, x3_30, x3_33, x3_35, x3_37, x3_39, x3_42, x3_45, x3_46, x3_48, x3_51, x3_54, x3_57, x3_59, x3_62, x3_63, x3_64, x3_67, x3_68, x3_69, x3_72, x3_73, x3_74, x3_77, x3_80, x3_81, x3_82, x3_85, x3_86, x3_87, x3_88, x3_91, x3_93, x3_97, x3_100, x3_101, x3_103, x3_104, x3_105, x3_108, x3_109, x3_111, x3_113, x3_116, x3_119, x3_120, x3_123, x3_124, x3_127, x3_129, x3_130, x3_131, x3_131i, x3_132, x3_135, x3_136, x3_137, x3_140, x3_143, x3_146, x3_147, x3_150, fcn_0_0, if_true, if_false, eq_self, Int.reduceEq, Int.reduceLT, Int.reduceLE, Int.reduceAdd, Int.reduceSub, Int.reduceMul, Int.reduceToNat, Nat.reduceAdd, Nat.reduceMul, Nat.reduceEqDiff, Int.toNat_natCast, wrap_id, hy, if_neg (show ¬ ((8 * m : Nat) : Int) < 0 by omega)]
      · rw [show btl w (m + 1) = btl w m by unfold btl; rw [if_pos h0]; cases m <;> rfl]
    · have hb : btl w (m + 1) = yb w m :: btl w m := by
        show (if yb w m = 0 then btl w m else yb w m :: btl w m) = _
        rw [if_neg h0]
      rw [hb, List.length_cons, List.all_cons]
      generalize yb w m = v at *
      by_cases hg : 32 ≤ v ∧ v ≤ 126
      · have ein : (if 32 ≤ v ∧ v ≤ 126 then (1 : Int) else 0) = 1 := if_pos hg
        obtain ⟨l6', q⟩ := ih (K + 1) G l2 (aI v) (by omega)
        refine ⟨l6', Eq.trans ?_ (q.trans ?_)⟩
        · rw [e1, ← e2, show ((K + 1 : Nat) : Int) = (K : Int) + 1 from rfl, x3_9]
          simp (disch := first | exact obC_0 | omega | (simp only [aN1_1]; omega) | (simp only [List.length_cons, List.length_nil]; omega)) only [en3, x3_0, x3_1, x3_2, x3_3, x3_5, x3_7, x3_11, x3_14, x3_15, x3_17, x3_18, x3_19, x3_22, x3_23, x3_25, x3_27, x3_30, x3_33, x3_35, x3_37, x3_39, x3_42, x3_45, x3_46, x3_48, x3_51, x3_54, x3_57, x3_59, x3_62, x3_63, x3_64, x3_67, x3_68, x3_69, x3_72, x3_73, x3_74, x3_77, x3_80, x3_81, x3_82, x3_85, x3_86, x3_87, x3_88, x3_91, x3_93, x3_97, x3_100, x3_101, x3_103, x3_104, x3_105, x3_108, x3_109, x3_111, x3_113, x3_116, x3_119, x3_120, x3_123, x3_124, x3_127, x3_129, x3_130, x3_131, x3_131i, x3_132, x3_135, x3_136, x3_137, x3_140, x3_143, x3_146, x3_147, x3_150, fcn_0_0, if_true, if_false, eq_self, Int.reduceEq, Int.reduceLT, Int.reduceLE, Int.reduceAdd, Int.reduceSub, Int.reduceMul, Int.reduceToNat, Nat.reduceAdd, Nat.reduceMul, Nat.reduceEqDiff, Int.toNat_natCast, wrap_id, hy, if_neg h0, t_in (d := d) hd, ein, zcI_r, if_neg (show ¬ ((8 * m : Nat) : Int) < 0 by omega)]
        · rw [show okc v = true from decide_eq_true hg, Bool.true_and, show K + 1 + (btl w m).length = K + ((btl w m).length + 1) by omega]
      · have ein : (if 32 ≤ v ∧ v ≤ 126 then (1 : Int) else 0) = 0 := if_neg hg
        obtain ⟨l6', q⟩ := ih (K + 1) false l2 (aI v) (by omega)
        refine ⟨l6', Eq.trans ?_ (q.trans ?_)⟩
        · rw [e1, ← e2, show ((K + 1 : Nat) : Int) = (K : Int) + 1 from rfl, show b2i false = 0 from rfl, x3_9]
          simp (disch := first | exact obC_0 | omega | (simp only [aN1_1]; omega) | (simp only [List.length_cons, List.length_nil]; omega)) only [en3, x3_0, x3_1, x3_2, x3_3, x3_5, x3_7, x3_11, x3_14, x3_15, x3_17, x3_18, x3_19, x3_22, x3_23, x3_25, x3_27, x3_30, x3_33, x3_35, x3_37, x3_39, x3_42, x3_45, x3_46, x3_48, x3_51, x3_54, x3_57, x3_59, x3_62, x3_63, x3_64, x3_67, x3_68, x3_69, x3_72, x3_73, x3_74, x3_77, x3_80, x3_81, x3_82, x3_85, x3_86, x3_87, x3_88, x3_91, x3_93, x3_97, x3_100, x3_101, x3_103, x3_104, x3_105, x3_108, x3_109, x3_111, x3_113, x3_116, x3_119, x3_120, x3_123, x3_124, x3_127, x3_129, x3_130, x3_131, x3_131i, x3_132, x3_135, x3_136, x3_137, x3_140, x3_143, x3_146, x3_147, x3_150, fcn_0_0, if_true, if_false, eq_self, Int.reduceEq, Int.reduceLT, Int.reduceLE, Int.reduceAdd, Int.reduceSub, Int.reduceMul, Int.reduceToNat, Nat.reduceAdd, Nat.reduceMul, Nat.reduceEqDiff, Int.toNat_natCast, wrap_id, hy, if_neg h0, t_in (d := d) hd, ein, zcI_r, if_neg (show ¬ ((8 * m : Nat) : Int) < 0 by omega)]
        · rw [show okc v = false from decide_eq_false hg, Bool.false_and, Bool.and_false, show K + 1 + (btl w m).length = K + ((btl w m).length + 1) by omega]
def TXF (k j : Nat) : Prop := k = 1 ∨ (k = 0 ∧ j = 1)
theorem tt_two {d : Nat} {w : Int} (l2 l3 l4 : AV) : ∀ (m n : Nat) (s : Mem) (l6 : AV), m ≤ 8 → n + (btl w m).length ≤ 200 → s 0 1 = n → ∃ s' l6', Ze d 3 95 [aR 0, aL w, l2, l3, l4, aI (8 * (m : Int) - 8), l6] [] s = Ze d 3 146 [aR 0, aL w, l2, l3, l4, aI (-8), l6'] [] s' ∧ s' 0 1 = ((n + (btl w m).length : Nat) : Int) ∧ (∀ (i : Nat) (v : Int), (btl w m)[i]? = some v → s' 1 (n + i) = v) ∧ (∀ j, j < n → s' 1 j = s 1 j) ∧ Fr TXF s s' := by
  intro m
  induction m with
  | zero =>
    intro n s l6 hm8 hn hs
    refine ⟨s, l6, ?_, by rw [hs]; rfl, fun i v h => (nomatch h), fun _ _ => rfl, Fr.rf s⟩
    rw [show (8 * ((0 : Nat) : Int) - 8) = -8 from rfl, x3_95]
    simp (disch := first | exact obC_0 | omega | (simp only [aN1_1]; omega) | (simp only [List.length_cons, List.length_nil]; omega)) only [en3, x3_0, x3_1, x3_2, x3_3, x3_5, x3_7, x3_11, x3_14, x3_15, x3_17, x3_18, x3_19, x3_22, x3_23, x3_25, x3_27, x3_30, x3_33, x3_35, x3_37, x3_39, x3_42, x3_45, x3_46, x3_48, x3_51, x3_54, x3_57, x3_59, x3_62, x3_63, x3_64, x3_67, x3_68, x3_69, x3_72, x3_73, x3_74, x3_77, x3_80, x3_81, x3_82, x3_85, x3_86, x3_87, x3_88, x3_91, x3_93, x3_97, x3_100, x3_101, x3_103, x3_104, x3_105, x3_108, x3_109, x3_111, x3_113, x3_116, x3_119, x3_120, x3_123, x3_124, x3_127, x3_129, x3_130, x3_131, x3_131i, x3_132, x3_135, x3_136, x3_137, x3_140, x3_143, x3_147, x3_150, fcn_0_0, if_true, if_false, eq_self, Int.reduceEq, Int.reduceLT, Int.reduceLE, Int.reduceAdd, Int.reduceSub, Int.reduceMul, Int.reduceToNat, Nat.reduceAdd, Nat.reduceMul, Nat.reduceEqDiff, Int.toNat_natCast, wrap_id]
  | succ m ih =>
    intro n s l6 hm8 hn hs
    have e1 : 8 * ((m + 1 : Nat) : Int) - 8 = ((8 * m : Nat) : Int) := by omega
    have e2 : ((8 * m : Nat) : Int) + -8 = 8 * (m : Int) - 8 := by omega
    have hy : iand (l2iZ (lshrZ w ((8 * m : Nat) : Int))) 255 = yb w m := rfl
    have hbe : btl w (m + 1) = if yb w m = 0 then btl w m else yb w m :: btl w m := rfl
    by_cases h0 : yb w m = 0
    · rw [hbe, if_pos h0] at hn ⊢
      obtain ⟨s', l6', q, q2⟩ := ih n s (aI 0) (by omega) hn hs
      refine ⟨s', l6', Eq.trans ?_ q, q2⟩
      rw [e1, ← e2, x3_95]
      rw [h0] at hy
      simp (disch := first | exact obC_0 | omega | (simp only [aN1_1]; omega) | (simp only [List.length_cons, List.length_nil]; omega)) only [en3, x3_0, x3_1, x3_2, x3_3, x3_5, x3_7, x3_11, x3_14, x3_15, x3_17, x3_18, x3_19, x3_22, x3_23, x3_25, x3_27, x3_30, x3_33, x3_35, x3_37, x3_39, x3_42, x3_45, x3_46, x3_48, x3_51, x3_54, x3_57, x3_59, x3_62, x3_63, x3_64, x3_67, x3_68, x3_69, x3_72, x3_73, x3_74, x3_77, x3_80, x3_81, x3_82, x3_85, x3_86, x3_87, x3_88, x3_91, x3_93, x3_97, x3_100, x3_101, x3_103, x3_104, x3_105, x3_108, x3_109, x3_111, x3_113, x3_116, x3_119, x3_120, x3_123, x3_124, x3_127, x3_129, x3_130, x3_131, x3_131i, x3_132, x3_135, x3_136, x3_137, x3_140, x3_143, x3_146, x3_147, x3_150, fcn_0_0, if_true, if_false, eq_self, Int.reduceEq, Int.reduceLT, Int.reduceLE, Int.reduceAdd, Int.reduceSub, Int.reduceMul, Int.reduceToNat, Nat.reduceAdd, Nat.reduceMul, Nat.reduceEqDiff, Int.toNat_natCast, wrap_id, hy, if_neg (show ¬ ((8 * m : Nat) : Int) < 0 by omega)]
    · rw [hbe, if_neg h0] at hn ⊢
      rw [List.length_cons] at hn
      generalize yb w m = v at *
      generalize hs1 : mu (mu s 1 n v) 0 1 ((n : Int) + 1) = s1
      have F1 : Fr TXF s s1 := by rw [← hs1]; exact ((Fr.rf s).mu (Or.inl rfl)).mu (Or.inr ⟨rfl, rfl⟩)
      obtain ⟨s', l6', q1, q2, q3, q4, q5⟩ := ih (n + 1) s1 (aI v) (by omega) (by omega) (by rw [← hs1, mu_s]; rfl)
      refine ⟨s', l6', Eq.trans ?_ q1, by rw [q2, List.length_cons]; congr 1; omega, fun i u hi => ?_, fun j hj => ?_, F1.tr q5⟩
      · rw [e1, ← e2, x3_95]
        simp (disch := first | exact obC_0 | omega | (simp only [aN1_1]; omega) | (simp only [List.length_cons, List.length_nil]; omega)) only [en3, x3_0, x3_1, x3_2, x3_3, x3_5, x3_7, x3_11, x3_14, x3_15, x3_17, x3_18, x3_19, x3_22, x3_23, x3_25, x3_27, x3_30, x3_33, x3_35, x3_37, x3_39, x3_42, x3_45, x3_46, x3_48, x3_51, x3_54, x3_57, x3_59, x3_62, x3_63, x3_64, x3_67, x3_68, x3_69, x3_72, x3_73, x3_74, x3_77, x3_80, x3_81, x3_82, x3_85, x3_86, x3_87, x3_88, x3_91, x3_93, x3_97, x3_100, x3_101, x3_103, x3_104, x3_105, x3_108, x3_109, x3_111, x3_113, x3_116, x3_119, x3_120, x3_123, x3_124, x3_127, x3_129, x3_130, x3_131, x3_131i, x3_132, x3_135, x3_136, x3_137, x3_140, x3_143, x3_146, x3_147, x3_150, fcn_0_0, if_true, if_false, eq_self, Int.reduceEq, Int.reduceLT, Int.reduceLE, Int.reduceAdd, Int.reduceSub, Int.reduceMul, Int.reduceToNat, Nat.reduceAdd, Nat.reduceMul, Nat.reduceEqDiff, Int.toNat_natCast, wrap_id, hy, if_neg h0, hs, mu_c, hs1, if_neg (show ¬ ((8 * m : Nat) : Int) < 0 by omega)]
      · cases i with
        | zero =>
          rw [List.getElem?_cons_zero] at hi
          cases hi
          rw [Nat.add_zero, q4 n (Nat.lt_succ_self _), ← hs1, mu_c (by decide), mu_s]
        | succ i =>
          rw [List.getElem?_cons_succ] at hi
          have := q3 i u hi
          rw [show n + 1 + i = n + (i + 1) by omega] at this
          exact this
      · rw [q4 j (by omega), ← hs1, mu_c (by decide), mu_i (by omega)]
/-- the text with more letters -/
def TXA (T T' : Tx) (l : List Int) : Prop := T'.2 = T.2 + l.length ∧ (∀ j, j < T.2 → T'.1 j = T.1 j) ∧ ∀ (i : Nat) (v : Int), l[i]? = some v → T'.1 (T.2 + i) = v
theorem t_textK {d : Nat} {x : Int} {s : Mem} {T : Tx} {w : Int} {cp : Bool} {lv : Live} {st val bf ch : Nat → Int} {ck cn : Int} (hd : 2 ≤ d) (h : RA s T w cp lv st val bf ch ck cn) :
    ((btl x 8).all okc = false → ∃ s', Zc d 3 [aR 0, aL x] s = rI 0 s' ∧ RA s' T w cp lv st val bf ch ck cn ∧ s' 0 4 = 1) ∧
    ((btl x 8).all okc = true → 200 < T.2 + (btl x 8).length → ∃ s', Zc d 3 [aR 0, aL x] s = rI 0 s' ∧ RA s' T w cp lv st val bf ch ck cn ∧ s' 0 4 = 2) ∧
    ((btl x 8).all okc = true → T.2 + (btl x 8).length ≤ 200 → ∃ s' T', Zc d 3 [aR 0, aL x] s = rI (T'.2 : Nat) s' ∧ TXA T T' (btl x 8) ∧ RA s' T' w cp lv st val bf ch ck cn ∧ s' 0 4 = 0) := by
  obtain ⟨d, rfl⟩ : ∃ e, d = e + 1 := ⟨d - 1, by omega⟩
  have hln : s 0 1 = (T.2 : Nat) := by
    obtain ⟨o1, -⟩ := h.2.1
    rw [← h.1]
    show s 0 1 = ((s 0 1).toNat : Int)
    omega
  have hT := tx_le h.2.1
  rw [h.1] at hT
  have hl8 := btl_len x 8
  obtain ⟨l6, q⟩ := tt_one (d := d) (w := x) (s := s) (by omega) 8 0 true aU aU (by decide)
  have h0 : Zc (d + 1) 3 [aR 0, aL x] s = Ze d 3 9 [aR 0, aL x, aU, aI ((0 : Nat) : Int), aI (b2i true), aI (8 * ((8 : Nat) : Int) - 8), aU] [] s := by
    rw [show ((0 : Nat) : Int) = 0 from rfl, show b2i true = 1 from rfl, show 8 * ((8 : Nat) : Int) - 8 = 56 from rfl]
    simp (disch := first | exact obC_0 | omega | (simp only [aN1_1]; omega) | (simp only [List.length_cons, List.length_nil]; omega)) only [en3, x3_0, x3_1, x3_2, x3_3, x3_5, x3_7, x3_11, x3_14, x3_15, x3_17, x3_18, x3_19, x3_22, x3_23, x3_25, x3_27, x3_30, x3_33, x3_35, x3_37, x3_39, x3_42, x3_45, x3_46, x3_48, x3_51, x3_54, x3_57, x3_59, x3_62, x3_63, x3_64, x3_67, x3_68, x3_69, x3_72, x3_73, x3_74, x3_77, x3_80, x3_81, x3_82, x3_85, x3_86, x3_87, x3_88, x3_91, x3_93, x3_97, x3_100, x3_101, x3_103, x3_104, x3_105, x3_108, x3_109, x3_111, x3_113, x3_116, x3_119, x3_120, x3_123, x3_124, x3_127, x3_129, x3_130, x3_131, x3_131i, x3_132, x3_135, x3_136, x3_137, x3_140, x3_143, x3_146, x3_147, x3_150, fcn_0_0, if_true, if_false, eq_self, Int.reduceEq, Int.reduceLT, Int.reduceLE, Int.reduceAdd, Int.reduceSub, Int.reduceMul, Int.reduceToNat, Nat.reduceAdd, Nat.reduceMul, Nat.reduceEqDiff, Int.toNat_natCast, wrap_id]
  rw [Nat.zero_add, Bool.true_and] at q
  refine ⟨fun ha => ?_, fun ha hn => ?_, fun ha hn => ?_⟩
  · refine ⟨mu s 0 4 1, ?_, RA_put thr_fr h, mu_s⟩
    rw [h0, q, ha, show b2i false = 0 from rfl]
    simp (disch := first | exact obC_0 | omega | (simp only [aN1_1]; omega) | (simp only [List.length_cons, List.length_nil]; omega)) only [en3, x3_0, x3_1, x3_2, x3_3, x3_5, x3_7, x3_11, x3_14, x3_15, x3_17, x3_18, x3_19, x3_22, x3_23, x3_25, x3_27, x3_30, x3_33, x3_35, x3_37, x3_39, x3_42, x3_45, x3_46, x3_48, x3_51, x3_54, x3_57, x3_59, x3_62, x3_63, x3_64, x3_67, x3_68, x3_69, x3_72, x3_73, x3_74, x3_77, x3_80, x3_81, x3_82, x3_85, x3_86, x3_87, x3_88, x3_91, x3_93, x3_97, x3_100, x3_101, x3_103, x3_104, x3_105, x3_108, x3_109, x3_111, x3_113, x3_116, x3_119, x3_120, x3_123, x3_124, x3_127, x3_129, x3_130, x3_131, x3_131i, x3_132, x3_135, x3_136, x3_137, x3_140, x3_143, x3_146, x3_147, x3_150, fcn_0_0, if_true, if_false, eq_self, Int.reduceEq, Int.reduceLT, Int.reduceLE, Int.reduceAdd, Int.reduceSub, Int.reduceMul, Int.reduceToNat, Nat.reduceAdd, Nat.reduceMul, Nat.reduceEqDiff, Int.toNat_natCast, wrap_id, t_fail (d := d) (by omega), zcI_r]
  · refine ⟨mu s 0 4 2, ?_, RA_put thr_fr h, mu_s⟩
    rw [h0, q, ha, show b2i true = 1 from rfl]
    generalize (btl x 8).length = n at *
    simp (disch := first | exact obC_0 | omega | (simp only [aN1_1]; omega) | (simp only [List.length_cons, List.length_nil]; omega)) only [en3, x3_0, x3_1, x3_2, x3_3, x3_5, x3_7, x3_11, x3_14, x3_15, x3_17, x3_18, x3_19, x3_22, x3_23, x3_25, x3_27, x3_30, x3_33, x3_35, x3_37, x3_39, x3_42, x3_45, x3_46, x3_48, x3_51, x3_54, x3_57, x3_59, x3_62, x3_63, x3_64, x3_67, x3_68, x3_69, x3_72, x3_73, x3_74, x3_77, x3_80, x3_81, x3_82, x3_85, x3_86, x3_87, x3_88, x3_91, x3_93, x3_97, x3_100, x3_101, x3_103, x3_104, x3_105, x3_108, x3_109, x3_111, x3_113, x3_116, x3_119, x3_120, x3_123, x3_124, x3_127, x3_129, x3_130, x3_131, x3_131i, x3_132, x3_135, x3_136, x3_137, x3_140, x3_143, x3_146, x3_147, x3_150, fcn_0_0, if_true, if_false, eq_self, Int.reduceEq, Int.reduceLT, Int.reduceLE, Int.reduceAdd, Int.reduceSub, Int.reduceMul, Int.reduceToNat, Nat.reduceAdd, Nat.reduceMul, Nat.reduceEqDiff, Int.toNat_natCast, wrap_id, hln, t_fail (d := d) (by omega), zcI_r, if_pos (show (200 : Int) < (T.2 : Nat) + (n : Nat) by omega)]
  · have h' : RA (mu s 0 4 0) T w cp lv st val bf ch ck cn := RA_put thr_fr h
    generalize hs1 : mu s 0 4 0 = s1 at h'
    have hln1 : s1 0 1 = (T.2 : Nat) := by rw [← hs1, mu_i (by decide), hln]
    obtain ⟨s2, l6', p1, p2, p3, p4, p5⟩ := tt_two (d := d) (w := x) aU (aI ((btl x 8).length : Nat)) (aI 1) 8 T.2 s1 l6 (by decide) hn hln1
    have F2 : ∀ k j, ¬ TXF k j → s2 k j = s1 k j := p5
    obtain ⟨h1, h2, h3, h4, h5, h6, h7, h8, h9, h10, h11, h12, h13, h14⟩ := h'
    have ht2 : (tx s2).2 = T.2 + (btl x 8).length := by
      show (s2 0 1).toNat = _
      rw [p2]
      omega
    refine ⟨s2, tx s2, ?_, ⟨ht2, fun j hj => ?_, fun i v hi => p3 i v hi⟩, ⟨rfl, ?_, LV_put (fun k j hk => F2 _ _ (by unfold TXF; omega)) h3, by rw [F2 _ _ (by unfold TXF; omega), h4], by rw [F2 _ _ (by unfold TXF; omega), h5], fun j hj => by rw [F2 _ _ (by unfold TXF; omega), h6 j hj], fun j hj => by rw [F2 _ _ (by unfold TXF; omega), h7 j hj], h8, h9, h10, h11, fun j hj => by rw [F2 _ _ (by unfold TXF; omega), F2 _ _ (by unfold TXF; omega)]; exact h12 j hj, by rw [F2 _ _ (by unfold TXF; omega), h13], by rw [F2 _ _ (by unfold TXF; omega), h14]⟩, by rw [F2 _ _ (by unfold TXF; omega), ← hs1, mu_s]⟩
    · have hz : Ze d 3 57 [aR 0, aL x, aU, aI ((btl x 8).length : Nat), aI 1, aI (-8), l6] [] s = Ze d 3 95 [aR 0, aL x, aU, aI ((btl x 8).length : Nat), aI 1, aI 56, l6] [] s1 := by
        generalize (btl x 8).length = n at *
        simp (disch := first | exact obC_0 | omega | (simp only [aN1_1]; omega) | (simp only [List.length_cons, List.length_nil]; omega)) only [en3, x3_0, x3_1, x3_2, x3_3, x3_5, x3_7, x3_11, x3_14, x3_15, x3_17, x3_18, x3_19, x3_22, x3_23, x3_25, x3_27, x3_30, x3_33, x3_35, x3_37, x3_39, x3_42, x3_45, x3_46, x3_48, x3_51, x3_54, x3_57, x3_59, x3_62, x3_63, x3_64, x3_67, x3_68, x3_69, x3_72, x3_73, x3_74, x3_77, x3_80, x3_81, x3_82, x3_85, x3_86, x3_87, x3_88, x3_91, x3_93, x3_97, x3_100, x3_101, x3_103, x3_104, x3_105, x3_108, x3_109, x3_111, x3_113, x3_116, x3_119, x3_120, x3_123, x3_124, x3_127, x3_129, x3_130, x3_131, x3_131i, x3_132, x3_135, x3_136, x3_137, x3_140, x3_143, x3_146, x3_147, x3_150, fcn_0_0, if_true, if_false, eq_self, Int.reduceEq, Int.reduceLT, Int.reduceLE, Int.reduceAdd, Int.reduceSub, Int.reduceMul, Int.reduceToNat, Nat.reduceAdd, Nat.reduceMul, Nat.reduceEqDiff, Int.toNat_natCast, wrap_id, hln, hs1, if_neg (show ¬ (200 : Int) < (T.2 : Nat) + (n : Nat) by omega)]
      rw [h0, q, ha, show b2i true = 1 from rfl, hz, show (56 : Int) = 8 * ((8 : Nat) : Int) - 8 from rfl, p1, ht2]
      simp (disch := first | exact obC_0 | omega | (simp only [aN1_1]; omega) | (simp only [List.length_cons, List.length_nil]; omega)) only [en3, x3_0, x3_1, x3_2, x3_3, x3_5, x3_7, x3_11, x3_14, x3_15, x3_17, x3_18, x3_19, x3_22, x3_23, x3_25, x3_27, x3_30, x3_33, x3_35, x3_37, x3_39, x3_42, x3_45, x3_46, x3_48, x3_51, x3_54, x3_57, x3_59, x3_62, x3_63, x3_64, x3_67, x3_68, x3_69, x3_72, x3_73, x3_74, x3_77, x3_80, x3_81, x3_82, x3_85, x3_86, x3_87, x3_88, x3_91, x3_93, x3_97, x3_100, x3_101, x3_103, x3_104, x3_105, x3_108, x3_109, x3_111, x3_113, x3_116, x3_119, x3_120, x3_123, x3_124, x3_127, x3_129, x3_130, x3_131, x3_131i, x3_132, x3_135, x3_136, x3_137, x3_140, x3_143, x3_146, x3_147, x3_150, fcn_0_0, if_true, if_false, eq_self, Int.reduceEq, Int.reduceLT, Int.reduceLE, Int.reduceAdd, Int.reduceSub, Int.reduceMul, Int.reduceToNat, Nat.reduceAdd, Nat.reduceMul, Nat.reduceEqDiff, Int.toNat_natCast, wrap_id, p2]
    · show s2 1 j = T.1 j
      rw [p4 j hj, ← h1]
      rfl
    · obtain ⟨o1, o2, o3⟩ := h2
      unfold okT
      rw [p2]
      refine ⟨by omega, by omega, fun j hj => ?_⟩
      by_cases hjT : j < T.2
      · rw [p4 j hjT]
        exact o3 j (by rw [hln1]; omega)
      · obtain ⟨v, hv⟩ : ∃ v, (btl x 8)[j - T.2]? = some v := ⟨_, List.getElem?_eq_getElem (by omega)⟩
        have := p3 _ v hv
        rw [show T.2 + (j - T.2) = j by omega] at this
        rw [this]
        have hmem := List.mem_of_getElem? hv
        have hok := List.all_eq_true.mp ha v hmem
        exact of_decide_eq_true hok
