/-! THE CLASS: what a step connects -/
theorem fnd_lf {k : Nat} {fs : Jvm.Term} {o b : Nat} {t : Jvm.Term} (h : fnd k fs = some (o, b, t)) : ∀ j f, j < tsz t → lf fs (o + j) f = lf t j (f + b) := by
  revert h o b t
  fun_induction fnd k fs with
  | case1 bk t r =>
    intro o b t h j f hj
    injection h with h
    injection h with h1 h2
    injection h2 with h2 h3
    subst h1 h2 h3
    simp only [lf, Nat.zero_add]
    rw [if_pos hj]
  | case2 nm bk t r hn o' b' t' hx ih =>
    intro o b t2 h j f hj
    injection h with h
    injection h with h1 h2
    injection h2 with h2 h3
    subst h1 h2 h3
    simp only [lf]
    rw [if_neg (by omega), show tsz t + o' + j - tsz t = o' + j by omega]
    exact ih hx j f hj
  | case3 => intro o b t2 h; cases h
  | case4 => intro o b t2 h; cases h
theorem rsv_lf {r t t' : Jvm.Term} {a f g f' : Nat} (h : rsv r a t f = some (g, t', f')) : a ≤ g ∧ f ≤ f' ∧ ∀ j h, j < tsz t' → lf t (g - a + j) h = lf t' j (h + (f' - f)) := by
  revert h
  fun_induction rsv r a t f with
  | case1 k r i fs f hk o b t'' hx ih =>
    intro h
    obtain ⟨h1, h2, h3⟩ := ih h
    refine ⟨by omega, by omega, fun j h hj => ?_⟩
    have hle := (rsv_ok (a := i + o) ‹_›).1
    have := fnd_lf hx (g - (i + o) + j) h (by omega)
    rw [show g - i + j = o + (g - (i + o) + j) by omega]
    show lf fs _ h = _
    rw [this, h3 j (h + b) hj, show h + b + (f' - (f + b)) = h + (f' - f) by omega]
  | case2 => intro h; cases h
  | case3 => intro h; cases h
  | case4 => intro h; cases h
  | case5 k r i n t'' f hk hlt ih =>
    intro h
    obtain ⟨h1, h2, h3⟩ := ih h
    refine ⟨by omega, by omega, fun j hh hj => ?_⟩
    have hle := (rsv_ok (a := i + (k - 100) * tsz t'') h).1
    simp only [lf]
    rw [show g - i + j = (g - (i + (k - 100) * tsz t'') + j) + (k - 100) * tsz t'' by omega, Nat.add_mul_mod_self_right, Nat.mod_eq_of_lt (by omega)]
    exact h3 j hh hj
  | case6 => intro h; cases h
  | case7 => intro h; cases h
  | case8 =>
    intro h
    injection h with h
    injection h with h1 h2
    injection h2 with h2 h3
    subst h1 h2 h3
    exact ⟨Nat.le_refl _, Nat.le_refl _, fun j h _ => by rw [Nat.sub_self, Nat.zero_add, Nat.sub_self, Nat.add_zero]⟩
theorem lf_sh {s : Mem} {y : Bool} {t : Jvm.Term} {n : Int} {b c e off : Nat} : CT s y t n b c e off → ∀ i, i < tsz t → ∀ f g, (lf t i (f + g)).2 = (lf t i f).2 + g := by
  fun_induction CT s y t n b c e off with
  | case1 w n b c e off => intro _ i _ f g; rfl
  | case2 k t n b c e off ih =>
    rintro ⟨h1, h2, h3, h4, h5, h6, h7⟩ i hi f g
    have hz := (CT_size h7 rfl).2.2.2
    simp only [lf]
    exact ih h7 _ (Nat.mod_lt _ hz) f g
  | case3 fs n b c e off ih =>
    rintro ⟨h1, h2, h3, h5, h6, h7⟩ i hi f g
    exact ih h7 i hi f g
  | case4 nm bk t r f b c e off ih1 ih2 =>
    rintro ⟨h1, h2, h3, h4, h5, h6, h7, h8⟩ i hi f g
    simp only [tsz] at hi
    simp only [lf]
    by_cases h : i < tsz t
    · rw [if_pos h, if_pos h, show f + g + bk = f + bk + g by omega]
      exact ih1 h7 i h _ g
    · rw [if_neg h, if_neg h]
      exact ih2 h8 _ (by omega) f g
  | case5 => intro _ i hi; simp only [tsz] at hi; omega
  | case6 => exact fun h => h.elim
/-- what the step k connects: nodes below N, signals below L -/
def PRS (s : Mem) (o k N L : Nat) (lo : List Lo) : Prop := ∃ a b to q fl : Nat, s 127 k = a ∧ s 128 k = b ∧ (25 ≤ a ∧ a < N ∧ 25 ≤ b ∧ b < N) ∧ s (68 + o) a = to ∧ s (69 + o) a = q ∧ q < 201 ∧ s 118 q = lo.length ∧ s (70 + o) a = fl ∧ fl ≤ 1 ∧ to + lo.length ≤ L ∧ 1 ≤ lo.length ∧ s (67 + o) a = 5 ∧
  ((∃ fr : Nat, s (67 + o) b = 5 ∧ s (68 + o) b = fr ∧ fr + lo.length ≤ L ∧ ∀ i x, lo[i]? = some x → x.1 = 0 ∧ ((s (63 + o) (to + i) = fl ∧ x.2.1 = to + i ∧ x.2.2 = .index (fr + i)) ∨ (s (63 + o) (to + i) = 1 - fl ∧ x.2.1 = fr + i ∧ x.2.2 = .index (to + i)))) ∨
   (¬ s (67 + o) b = 5 ∧ ∃ (e' : Jvm.Term) (m : Nat), lo = [(0, to, e')] ∧ s (63 + o) to = fl ∧ CR s o e' m ∧ b = m + esz e' - 1 ∧ 25 ≤ m))
theorem PRS_put {s s' : Mem} {o k N L N' L' : Nat} {lo : List Lo} (h : PRS s o k N L lo) (hN : N ≤ N') (hL : L ≤ L') (g1 : s' 127 k = s 127 k ∧ s' 128 k = s 128 k) (g2 : AN o s s' 25 N) (g3 : ∀ j, j < L → s' (63 + o) j = s (63 + o) j) (g4 : ∀ j, s' 118 j = s 118 j) : PRS s' o k N' L' lo := by
  obtain ⟨a, b, to, q, fl, h1, h2, h3, h4, h5, h6, h7, h8, h9, h10, h11, h12, h13⟩ := h
  refine ⟨a, b, to, q, fl, by rw [g1.1, h1], by rw [g1.2, h2], by omega, by rw [g2 _ _ (by decide) (by omega) (by omega), h4], by rw [g2 _ _ (by decide) (by omega) (by omega), h5], h6, by rw [g4, h7], by rw [g2 _ _ (by decide) (by omega) (by omega), h8], h9, by omega, h11, by rw [g2 _ _ (by decide) (by omega) (by omega), h12], ?_⟩
  rcases h13 with ⟨fr, i1, i2, i3, i4⟩ | ⟨i1, e', m, i2, i3, i4, i5, i6⟩
  · refine Or.inl ⟨fr, by rw [g2 _ _ (by decide) (by omega) (by omega), i1], by rw [g2 _ _ (by decide) (by omega) (by omega), i2], by omega, fun i x hx => ?_⟩
    have hi := (List.getElem?_eq_some_iff.mp hx).1
    rw [g3 _ (by omega)]
    exact i4 i x hx
  · have := esz_pos e'
    exact Or.inr ⟨by rw [g2 _ _ (by decide) (by omega) (by omega)]; exact i1, e', m, i2, by rw [g3 _ (by omega), i3], CR_put i4 (g2.sub i6 (by omega)), i5, i6⟩
theorem k_pairsOf {d o k N L : Nat} {lo : List Lo} {s : Mem} (hd : 1 ≤ d) (ho : o = 0 ∨ o = 26) (hk : k < 200) (hN : N ≤ 225) (h : PRS s o k N L lo) : Zc d 98 [aR 130, aR (58 + o), aI k] s = rI lo.length s := by
  obtain ⟨d, rfl⟩ : ∃ e, d = e + 1 := ⟨d - 1, by omega⟩
  obtain ⟨a, b, to, q, fl, h1, h2, h3, h4, h5, h6, h7, h8, h9, h10, h11, h12, h13⟩ := h
  simp (disch := first | exact obC_114 | exact obC_124 | exact obC_130 | exact (obCO_58 ho) | exact (obCO_66 ho) | omega | (simp only [aN1_118, aN1_127, (aN1O_69 ho)]; omega) | (simp only [List.length_cons, List.length_nil]; omega)) only [en98, x98_0, x98_1, x98_4, x98_7, x98_8, x98_11, x98_14, x98_15, x98_18, x98_21, x98_22, x98_23, x98_24, x98_25, fcn_114_3, fcn_124_2, fcn_130_0, fcn_130_1, (fcnO_58_1 ho), (fcnO_66_2 ho), if_true, if_false, eq_self, Int.reduceEq, Int.reduceLT, Int.reduceLE, Int.reduceAdd, Int.reduceSub, Int.reduceMul, Int.reduceToNat, Nat.reduceAdd, Nat.reduceMul, Nat.reduceEqDiff, Int.toNat_natCast, wrap_id, h1, h5, h7]
theorem k_goesBack {d o k a to fl i : Nat} {s : Mem} (hd : 1 ≤ d) (ho : o = 0 ∨ o = 26) (hk : k < 200) (h1 : s 127 k = a) (ha : a < 225) (h4 : s (68 + o) a = to) (h8 : s (70 + o) a = fl) (hfl : fl ≤ 1) (hi : to + i < 24) : (s (63 + o) (to + i) = fl → Zc d 101 [aR 130, aR (58 + o), aI k, aI i] s = rI 0 s) ∧ (s (63 + o) (to + i) = 1 - fl → Zc d 101 [aR 130, aR (58 + o), aI k, aI i] s = rI 1 s) := by
  obtain ⟨d, rfl⟩ : ∃ e, d = e + 1 := ⟨d - 1, by omega⟩
  have hti : (to : Int) + i = ((to + i : Nat) : Int) := rfl
  by_cases hf : fl = 1
  · subst hf
    have z1 : ((1 : Nat) : Int) = 1 := rfl
    refine ⟨fun hq => ?_, fun hq => ?_⟩
    · simp (disch := first | exact obC_124 | exact obC_130 | exact (obCO_58 ho) | exact (obCO_59 ho) | exact (obCO_66 ho) | omega | (simp only [aN1_127, (aN1O_68 ho), (aN1O_70 ho), (aN2O_63 ho)]; omega) | (simp only [List.length_cons, List.length_nil]; omega)) only [en101, x101_0, x101_1, x101_4, x101_7, x101_8, x101_9, x101_11, x101_12, x101_15, x101_18, x101_20, x101_21, x101_22, x101_25, x101_26, x101_29, x101_30, x101_32, x101_33, x101_36, x101_39, x101_40, x101_43, x101_46, x101_48, x101_49, x101_50, x101_51, x101_52, x101_54, x101_57, x101_58, x101_61, x101_62, fcn_124_2, fcn_130_1, (fcnO_58_0 ho), (fcnO_58_1 ho), (fcnO_59_3 ho), (fcnO_66_1 ho), (fcnO_66_3 ho), if_true, if_false, eq_self, Int.reduceEq, Int.reduceLT, Int.reduceLE, Int.reduceAdd, Int.reduceSub, Int.reduceMul, Int.reduceToNat, Nat.reduceAdd, Nat.reduceMul, Nat.reduceEqDiff, Int.toNat_natCast, wrap_id, h1, h4, h8, z1, hti, hq]
    · simp (disch := first | exact obC_124 | exact obC_130 | exact (obCO_58 ho) | exact (obCO_59 ho) | exact (obCO_66 ho) | omega | (simp only [aN1_127, (aN1O_68 ho), (aN1O_70 ho), (aN2O_63 ho)]; omega) | (simp only [List.length_cons, List.length_nil]; omega)) only [en101, x101_0, x101_1, x101_4, x101_7, x101_8, x101_9, x101_11, x101_12, x101_15, x101_18, x101_20, x101_21, x101_22, x101_25, x101_26, x101_29, x101_30, x101_32, x101_33, x101_36, x101_39, x101_40, x101_43, x101_46, x101_48, x101_49, x101_50, x101_51, x101_52, x101_54, x101_57, x101_58, x101_61, x101_62, fcn_124_2, fcn_130_1, (fcnO_58_0 ho), (fcnO_58_1 ho), (fcnO_59_3 ho), (fcnO_66_1 ho), (fcnO_66_3 ho), if_true, if_false, eq_self, Int.reduceEq, Int.reduceLT, Int.reduceLE, Int.reduceAdd, Int.reduceSub, Int.reduceMul, Int.reduceToNat, Nat.reduceAdd, Nat.reduceMul, Nat.reduceEqDiff, Int.toNat_natCast, wrap_id, h1, h4, h8, z1, hti, hq, if_neg (show ¬ (0 : Int) = 1 by decide)]
  · have hf' : fl = 0 := by omega
    subst hf'
    have z1 : ((0 : Nat) : Int) = 0 := rfl
    refine ⟨fun hq => ?_, fun hq => ?_⟩
    · simp (disch := first | exact obC_124 | exact obC_130 | exact (obCO_58 ho) | exact (obCO_59 ho) | exact (obCO_66 ho) | omega | (simp only [aN1_127, (aN1O_68 ho), (aN1O_70 ho), (aN2O_63 ho)]; omega) | (simp only [List.length_cons, List.length_nil]; omega)) only [en101, x101_0, x101_1, x101_4, x101_7, x101_8, x101_9, x101_11, x101_12, x101_15, x101_18, x101_20, x101_21, x101_22, x101_25, x101_26, x101_29, x101_30, x101_32, x101_33, x101_36, x101_39, x101_40, x101_43, x101_46, x101_48, x101_49, x101_50, x101_51, x101_52, x101_54, x101_57, x101_58, x101_61, x101_62, fcn_124_2, fcn_130_1, (fcnO_58_0 ho), (fcnO_58_1 ho), (fcnO_59_3 ho), (fcnO_66_1 ho), (fcnO_66_3 ho), if_true, if_false, eq_self, Int.reduceEq, Int.reduceLT, Int.reduceLE, Int.reduceAdd, Int.reduceSub, Int.reduceMul, Int.reduceToNat, Nat.reduceAdd, Nat.reduceMul, Nat.reduceEqDiff, Int.toNat_natCast, wrap_id, h1, h4, h8, z1, hti, hq, if_neg (show ¬ (0 : Int) = 1 by decide)]
    · simp (disch := first | exact obC_124 | exact obC_130 | exact (obCO_58 ho) | exact (obCO_59 ho) | exact (obCO_66 ho) | omega | (simp only [aN1_127, (aN1O_68 ho), (aN1O_70 ho), (aN2O_63 ho)]; omega) | (simp only [List.length_cons, List.length_nil]; omega)) only [en101, x101_0, x101_1, x101_4, x101_7, x101_8, x101_9, x101_11, x101_12, x101_15, x101_18, x101_20, x101_21, x101_22, x101_25, x101_26, x101_29, x101_30, x101_32, x101_33, x101_36, x101_39, x101_40, x101_43, x101_46, x101_48, x101_49, x101_50, x101_51, x101_52, x101_54, x101_57, x101_58, x101_61, x101_62, fcn_124_2, fcn_130_1, (fcnO_58_0 ho), (fcnO_58_1 ho), (fcnO_59_3 ho), (fcnO_66_1 ho), (fcnO_66_3 ho), if_true, if_false, eq_self, Int.reduceEq, Int.reduceLT, Int.reduceLE, Int.reduceAdd, Int.reduceSub, Int.reduceMul, Int.reduceToNat, Nat.reduceAdd, Nat.reduceMul, Nat.reduceEqDiff, Int.toNat_natCast, wrap_id, h1, h4, h8, z1, hti, hq, if_neg (show ¬ (0 : Int) = 1 by decide), if_neg (show ¬ (1 : Int) = 0 by decide)]
theorem k_sinkOf {d o k N L i : Nat} {lo : List Lo} {x : Lo} {s : Mem} (hd : 2 ≤ d) (ho : o = 0 ∨ o = 26) (hk : k < 200) (hN : N ≤ 225) (hL : L ≤ 24) (h : PRS s o k N L lo) (hx : lo[i]? = some x) : Zc d 99 [aR 130, aR (58 + o), aI k, aI i] s = rI x.2.1 s := by
  obtain ⟨d, rfl⟩ : ∃ e, d = e + 1 := ⟨d - 1, by omega⟩
  obtain ⟨a, b, to, q, fl, h1, h2, h3, h4, h5, h6, h7, h8, h9, h10, h11, h12, h13⟩ := h
  have hi := (List.getElem?_eq_some_iff.mp hx).1
  obtain ⟨gb0, gb1⟩ := k_goesBack (d := d) (i := i) (by omega) ho hk h1 (by omega) h4 h8 h9 (by omega)
  rcases h13 with ⟨fr, i1, i2, i3, i4⟩ | ⟨i1, e', m, i2, i3, i4, i5, i6⟩
  · rcases (i4 i x hx).2 with ⟨g1, g2, g3⟩ | ⟨g1, g2, g3⟩
    · have hti : (to : Int) + i = ((to + i : Nat) : Int) := rfl
      simp (disch := first | exact obC_124 | exact obC_130 | exact (obCO_58 ho) | exact (obCO_66 ho) | omega | (simp only [aN1_127, aN1_128, (aN1O_68 ho)]; omega) | (simp only [List.length_cons, List.length_nil]; omega)) only [en99, x99_0, x99_1, x99_2, x99_3, x99_4, x99_7, x99_10, x99_11, x99_14, x99_17, x99_18, x99_19, x99_22, x99_23, x99_26, x99_29, x99_30, x99_31, x99_33, x99_34, x99_37, x99_40, x99_42, x99_43, x99_44, x99_45, fcn_124_2, fcn_124_3, fcn_130_1, (fcnO_58_1 ho), (fcnO_66_1 ho), if_true, if_false, eq_self, Int.reduceEq, Int.reduceLT, Int.reduceLE, Int.reduceAdd, Int.reduceSub, Int.reduceMul, Int.reduceToNat, Nat.reduceAdd, Nat.reduceMul, Nat.reduceEqDiff, Int.toNat_natCast, wrap_id, gb0 g1, zcI_r, h1, h4, hti, g2]
    · have hti : (fr : Int) + i = ((fr + i : Nat) : Int) := rfl
      simp (disch := first | exact obC_124 | exact obC_130 | exact (obCO_58 ho) | exact (obCO_66 ho) | omega | (simp only [aN1_127, aN1_128, (aN1O_68 ho)]; omega) | (simp only [List.length_cons, List.length_nil]; omega)) only [en99, x99_0, x99_1, x99_2, x99_3, x99_4, x99_7, x99_10, x99_11, x99_14, x99_17, x99_18, x99_19, x99_22, x99_23, x99_26, x99_29, x99_30, x99_31, x99_33, x99_34, x99_37, x99_40, x99_42, x99_43, x99_44, x99_45, fcn_124_2, fcn_124_3, fcn_130_1, (fcnO_58_1 ho), (fcnO_66_1 ho), if_true, if_false, eq_self, Int.reduceEq, Int.reduceLT, Int.reduceLE, Int.reduceAdd, Int.reduceSub, Int.reduceMul, Int.reduceToNat, Nat.reduceAdd, Nat.reduceMul, Nat.reduceEqDiff, Int.toNat_natCast, wrap_id, gb1 g1, zcI_r, h2, i2, hti, g2, if_neg (show ¬ (1 : Int) = 0 by decide)]
  · subst i2
    have hi0 : i = 0 := by have : i < 1 := hi; omega
    subst hi0
    injection hx with hx
    subst hx
    have z0 : (to : Int) + ((0 : Nat) : Int) = to := by omega
    simp (disch := first | exact obC_124 | exact obC_130 | exact (obCO_58 ho) | exact (obCO_66 ho) | omega | (simp only [aN1_127, aN1_128, (aN1O_68 ho)]; omega) | (simp only [List.length_cons, List.length_nil]; omega)) only [en99, x99_0, x99_1, x99_2, x99_3, x99_4, x99_7, x99_10, x99_11, x99_14, x99_17, x99_18, x99_19, x99_22, x99_23, x99_26, x99_29, x99_30, x99_31, x99_33, x99_34, x99_37, x99_40, x99_42, x99_43, x99_44, x99_45, fcn_124_2, fcn_124_3, fcn_130_1, (fcnO_58_1 ho), (fcnO_66_1 ho), if_true, if_false, eq_self, Int.reduceEq, Int.reduceLT, Int.reduceLE, Int.reduceAdd, Int.reduceSub, Int.reduceMul, Int.reduceToNat, Nat.reduceAdd, Nat.reduceMul, Nat.reduceEqDiff, Int.toNat_natCast, wrap_id, gb0 i3, zcI_r, h1, h4, z0]
/-- what a signal or an expression is numbered by -/
def SRCc (s : Mem) (o N L : Nat) (e : Jvm.Term) (v : Nat) : Prop := (∃ g : Nat, e = .index g ∧ g < L ∧ v = g) ∨ (∃ m : Nat, CR s o e m ∧ v = m + esz e - 1 ∧ 25 ≤ m ∧ m + esz e ≤ N)
theorem k_sourceOf {d o k N L i : Nat} {lo : List Lo} {x : Lo} {s : Mem} (hd : 2 ≤ d) (ho : o = 0 ∨ o = 26) (hk : k < 200) (hN : N ≤ 225) (hL : L ≤ 24) (h : PRS s o k N L lo) (hx : lo[i]? = some x) : ∃ v : Nat, Zc d 100 [aR 130, aR (58 + o), aI k, aI i] s = rI v s ∧ SRCc s o N L x.2.2 v := by
  obtain ⟨d, rfl⟩ : ∃ e, d = e + 1 := ⟨d - 1, by omega⟩
  obtain ⟨a, b, to, q, fl, h1, h2, h3, h4, h5, h6, h7, h8, h9, h10, h11, h12, h13⟩ := h
  have hi := (List.getElem?_eq_some_iff.mp hx).1
  obtain ⟨gb0, gb1⟩ := k_goesBack (d := d) (i := i) (by omega) ho hk h1 (by omega) h4 h8 h9 (by omega)
  rcases h13 with ⟨fr, i1, i2, i3, i4⟩ | ⟨i1, e', m, i2, i3, i4, i5, i6⟩
  · rcases (i4 i x hx).2 with ⟨g1, g2, g3⟩ | ⟨g1, g2, g3⟩
    · have hti : (fr : Int) + i = ((fr + i : Nat) : Int) := rfl
      refine ⟨fr + i, ?_, Or.inl ⟨fr + i, g3, by omega, rfl⟩⟩
      simp (disch := first | exact obC_124 | exact obC_130 | exact (obCO_58 ho) | exact (obCO_66 ho) | omega | (simp only [aN1_127, aN1_128, (aN1O_67 ho), (aN1O_68 ho)]; omega) | (simp only [List.length_cons, List.length_nil]; omega)) only [en100, x100_0, x100_1, x100_4, x100_7, x100_8, x100_11, x100_14, x100_15, x100_16, x100_17, x100_18, x100_21, x100_22, x100_25, x100_28, x100_29, x100_30, x100_31, x100_32, x100_33, x100_34, x100_35, x100_38, x100_41, x100_42, x100_45, x100_48, x100_49, x100_50, x100_53, x100_54, x100_57, x100_60, x100_61, x100_62, x100_64, x100_65, x100_68, x100_71, x100_73, x100_74, x100_75, x100_76, fcn_124_2, fcn_124_3, fcn_130_1, (fcnO_58_1 ho), (fcnO_66_0 ho), (fcnO_66_1 ho), if_true, if_false, eq_self, Int.reduceEq, Int.reduceLT, Int.reduceLE, Int.reduceAdd, Int.reduceSub, Int.reduceMul, Int.reduceToNat, Nat.reduceAdd, Nat.reduceMul, Nat.reduceEqDiff, Int.toNat_natCast, wrap_id, gb0 g1, zcI_r, h2, i1, i2, hti]
    · have hti : (to : Int) + i = ((to + i : Nat) : Int) := rfl
      refine ⟨to + i, ?_, Or.inl ⟨to + i, g3, by omega, rfl⟩⟩
      simp (disch := first | exact obC_124 | exact obC_130 | exact (obCO_58 ho) | exact (obCO_66 ho) | omega | (simp only [aN1_127, aN1_128, (aN1O_67 ho), (aN1O_68 ho)]; omega) | (simp only [List.length_cons, List.length_nil]; omega)) only [en100, x100_0, x100_1, x100_4, x100_7, x100_8, x100_11, x100_14, x100_15, x100_16, x100_17, x100_18, x100_21, x100_22, x100_25, x100_28, x100_29, x100_30, x100_31, x100_32, x100_33, x100_34, x100_35, x100_38, x100_41, x100_42, x100_45, x100_48, x100_49, x100_50, x100_53, x100_54, x100_57, x100_60, x100_61, x100_62, x100_64, x100_65, x100_68, x100_71, x100_73, x100_74, x100_75, x100_76, fcn_124_2, fcn_124_3, fcn_130_1, (fcnO_58_1 ho), (fcnO_66_0 ho), (fcnO_66_1 ho), if_true, if_false, eq_self, Int.reduceEq, Int.reduceLT, Int.reduceLE, Int.reduceAdd, Int.reduceSub, Int.reduceMul, Int.reduceToNat, Nat.reduceAdd, Nat.reduceMul, Nat.reduceEqDiff, Int.toNat_natCast, wrap_id, gb1 g1, zcI_r, h1, h2, i1, h4, hti, if_neg (show ¬ (1 : Int) = 0 by decide)]
  · subst i2
    have hi0 : i = 0 := by have : i < 1 := hi; omega
    subst hi0
    injection hx with hx
    subst hx
    have := esz_pos e'
    refine ⟨b, ?_, Or.inr ⟨m, i4, i5, i6, by show m + esz e' ≤ N; omega⟩⟩
    simp (disch := first | exact obC_124 | exact obC_130 | exact (obCO_58 ho) | exact (obCO_66 ho) | omega | (simp only [aN1_127, aN1_128, (aN1O_67 ho), (aN1O_68 ho)]; omega) | (simp only [List.length_cons, List.length_nil]; omega)) only [en100, x100_0, x100_1, x100_4, x100_7, x100_8, x100_11, x100_14, x100_15, x100_16, x100_17, x100_18, x100_21, x100_22, x100_25, x100_28, x100_29, x100_30, x100_31, x100_32, x100_33, x100_34, x100_35, x100_38, x100_41, x100_42, x100_45, x100_48, x100_49, x100_50, x100_53, x100_54, x100_57, x100_60, x100_61, x100_62, x100_64, x100_65, x100_68, x100_71, x100_73, x100_74, x100_75, x100_76, fcn_124_2, fcn_124_3, fcn_130_1, (fcnO_58_1 ho), (fcnO_66_0 ho), (fcnO_66_1 ho), if_true, if_false, eq_self, Int.reduceEq, Int.reduceLT, Int.reduceLE, Int.reduceAdd, Int.reduceSub, Int.reduceMul, Int.reduceToNat, Nat.reduceAdd, Nat.reduceMul, Nat.reduceEqDiff, Int.toNat_natCast, wrap_id, h2, if_neg i1]
