theorem BT_uniq {v w : Int} {P : Nat → Prop} (h1 : BT v P) (h2 : BT w P) : v = w := by
  obtain ⟨a, rfl, a2, a3⟩ := h1
  obtain ⟨b, rfl, b2, b3⟩ := h2
  have : a = b := by
    apply Nat.eq_of_testBit_eq
    intro i
    by_cases hi : i < 24
    · have := (a3 i hi).trans (b3 i hi).symm
      cases ha : a.testBit i with
      | true => rw [ha] at this; exact (this.mp rfl).symm
      | false =>
        cases hb : b.testBit i with
        | true => rw [ha, hb] at this; exact absurd (this.mpr rfl) (by decide)
        | false => rfl
    · have hp : 2 ^ 24 ≤ 2 ^ i := Nat.pow_le_pow_right (by decide) (by omega)
      rw [Nat.testBit_lt_two_pow (by omega), Nat.testBit_lt_two_pow (by omega)]
  rw [this]
theorem t_dependsK {d : Nat} {k : Int} {s : Mem} {T : Tx} {w : Int} {cp : Bool} {lv : Live} {st val bf ch : Nat → Int} {ck cn : Int} (hd : 2 ≤ d) (h : RA s T w cp lv st val bf ch ck cn) :
    ((0 ≤ k ∧ k < lv.1.length) → ∃ s' v, Zc d 53 [aR 0, aI k] s = rI v s' ∧ BT v (dpd lv.1 lv.2.1 k.toNat) ∧ RA s' T w cp lv st val bf ch ck cn ∧ s' 0 4 = 0) ∧
    (¬ (0 ≤ k ∧ k < lv.1.length) → ∃ s', Zc d 53 [aR 0, aI k] s = rI 0 s' ∧ RA s' T w cp lv st val bf ch ck cn ∧ s' 0 4 = 1) := by
  obtain ⟨d, rfl⟩ : ∃ e, d = e + 1 := ⟨d - 1, by omega⟩
  have hl := h.2.2.1.1
  have hl2 := h.2.2.1.2.1
  refine ⟨fun hk => ?_, fun hk => ?_⟩
  · obtain ⟨n, rfl⟩ : ∃ n : Nat, k = n := ⟨k.toNat, by omega⟩
    obtain ⟨x, hx⟩ : ∃ x, lv.1[n]? = some x := ⟨_, List.getElem?_eq_getElem (by omega)⟩
    obtain ⟨-, -, -, -, -, z6, -⟩ := h.2.2.1.2.2.2.2.2.2.2.2 n x hx
    have e : (if (0 : Int) ≤ n ∧ (n : Int) ≤ (lv.1.length : Int) - 1 then (1 : Int) else 0) = 1 := if_pos (by omega)
    have e1 : (24 : Int) + n = ((24 + n : Nat) : Int) := rfl
    refine ⟨mu s 0 4 0, _, ?_, z6, RA_put thr_fr h, mu_s⟩
    simp (disch := first | exact obC_0 | omega | (simp only [aN1_40]; omega) | (simp only [List.length_cons, List.length_nil]; omega)) only [en53, x53_0, x53_1, x53_2, x53_3, x53_4, x53_7, x53_8, x53_9, x53_12, x53_15, x53_16, x53_19, x53_20, x53_23, x53_24, x53_27, x53_30, x53_31, x53_34, x53_35, x53_38, x53_40, x53_41, x53_42, x53_43, fcn_0_49, if_true, if_false, eq_self, Int.reduceEq, Int.reduceLT, Int.reduceLE, Int.reduceAdd, Int.reduceSub, Int.reduceMul, Int.reduceToNat, Nat.reduceAdd, Nat.reduceMul, Nat.reduceEqDiff, Int.toNat_natCast, wrap_id, hl, t_in (d := d) (by omega), e, zcI_r, mu_s, mu_c, e1]
  · have e : (if (0 : Int) ≤ k ∧ k ≤ (lv.1.length : Int) - 1 then (1 : Int) else 0) = 0 := if_neg (by omega)
    refine ⟨mu s 0 4 1, ?_, RA_put thr_fr h, mu_s⟩
    simp (disch := first | exact obC_0 | omega | (simp only [aN1_40]; omega) | (simp only [List.length_cons, List.length_nil]; omega)) only [en53, x53_0, x53_1, x53_2, x53_3, x53_4, x53_7, x53_8, x53_9, x53_12, x53_15, x53_16, x53_19, x53_20, x53_23, x53_24, x53_27, x53_30, x53_31, x53_34, x53_35, x53_38, x53_40, x53_41, x53_42, x53_43, fcn_0_49, if_true, if_false, eq_self, Int.reduceEq, Int.reduceLT, Int.reduceLE, Int.reduceAdd, Int.reduceSub, Int.reduceMul, Int.reduceToNat, Nat.reduceAdd, Nat.reduceMul, Nat.reduceEqDiff, Int.toNat_natCast, wrap_id, hl, t_in (d := d) (by omega), e, zcI_r, mu_s, mu_c]
/-- what signal answers -/
noncomputable def sgQ (lv : Live) (n : Nat) (what : Int) : Int :=
  match lv.1[n]? with
  | some x => if what = 0 then x.1 else if what = 1 then lv.2.2 n else if what = 2 then @ite _ (isSk x.1 x.2.2.1) (Classical.propDecidable _) 1 0 else x.2.1
  | none => 0
theorem t_signal {d : Nat} {k what : Int} {s : Mem} {T : Tx} {w : Int} {cp : Bool} {lv : Live} {st val bf ch : Nat → Int} {ck cn : Int} (hd : 2 ≤ d) (h : RA s T w cp lv st val bf ch ck cn) :
    ((0 ≤ what ∧ what ≤ 3) → (0 ≤ k ∧ k < lv.1.length) → ∃ s', Zc d 52 [aR 0, aI k, aI what] s = rI (sgQ lv k.toNat what) s' ∧ RA s' T w cp lv st val bf ch ck cn ∧ s' 0 4 = 0) ∧
    ((0 ≤ what ∧ what ≤ 3) → ¬ (0 ≤ k ∧ k < lv.1.length) → ∃ s', Zc d 52 [aR 0, aI k, aI what] s = rI 0 s' ∧ RA s' T w cp lv st val bf ch ck cn ∧ s' 0 4 = 2) ∧
    (¬ (0 ≤ what ∧ what ≤ 3) → ∃ s', Zc d 52 [aR 0, aI k, aI what] s = rI 0 s' ∧ RA s' T w cp lv st val bf ch ck cn ∧ s' 0 4 = 1) := by
  obtain ⟨d, rfl⟩ : ∃ e, d = e + 1 := ⟨d - 1, by omega⟩
  have hl := h.2.2.1.1
  have hl2 := h.2.2.1.2.1
  refine ⟨fun hw hk => ?_, fun hw hk => ?_, fun hw => ?_⟩
  · have e0 : (if (0 : Int) ≤ what ∧ what ≤ 3 then (1 : Int) else 0) = 1 := if_pos hw
    obtain ⟨n, rfl⟩ : ∃ n : Nat, k = n := ⟨k.toNat, by omega⟩
    obtain ⟨x, hx⟩ : ∃ x, lv.1[n]? = some x := ⟨_, List.getElem?_eq_getElem (by omega)⟩
    obtain ⟨z1, z2, z3, z4, z5, -⟩ := h.2.2.1.2.2.2.2.2.2.2.2 n x hx
    have e : (if (0 : Int) ≤ n ∧ (n : Int) ≤ (lv.1.length : Int) - 1 then (1 : Int) else 0) = 1 := if_pos (by omega)
    have e1 : (24 : Int) + n = ((24 + n : Nat) : Int) := rfl
    have hfl : s 37 (24 + n) = @ite _ (isSk x.1 x.2.2.1) (Classical.propDecidable _) 1 0 := by
      by_cases hk : isSk x.1 x.2.2.1
      · rw [if_pos hk, z3 hk]
      · rw [if_neg hk, z4 hk]
    refine ⟨mu s 0 4 0, ?_, RA_put thr_fr h, mu_s⟩
    unfold sgQ
    rw [Int.toNat_natCast, hx]
    dsimp only
    obtain h | h | h | h : what = 0 ∨ what = 1 ∨ what = 2 ∨ what = 3 := by omega
    · subst h
      rw [if_pos rfl]
      simp (disch := first | exact obC_0 | omega | (simp only [aN1_35, aN1_36, aN1_37, aN1_38]; omega) | (simp only [List.length_cons, List.length_nil]; omega)) only [en52, x52_0, x52_1, x52_2, x52_3, x52_6, x52_9, x52_10, x52_11, x52_14, x52_15, x52_16, x52_17, x52_18, x52_21, x52_22, x52_23, x52_26, x52_29, x52_30, x52_31, x52_34, x52_35, x52_36, x52_37, x52_40, x52_42, x52_43, x52_44, x52_45, x52_46, x52_49, x52_50, x52_53, x52_54, x52_55, x52_58, x52_59, x52_60, x52_63, x52_64, x52_67, x52_68, x52_69, x52_72, x52_73, x52_74, x52_77, x52_78, x52_81, x52_82, x52_83, x52_86, x52_87, x52_90, x52_91, x52_92, fcn_0_44, fcn_0_45, fcn_0_46, fcn_0_47, if_true, if_false, eq_self, Int.reduceEq, Int.reduceLT, Int.reduceLE, Int.reduceAdd, Int.reduceSub, Int.reduceMul, Int.reduceToNat, Nat.reduceAdd, Nat.reduceMul, Nat.reduceEqDiff, Int.toNat_natCast, wrap_id, hl, t_in (d := d) (by omega), e, zcI_r, mu_c, e1, z1, if_true, and_self, true_and, and_true]
    · subst h
      rw [if_neg (by decide), if_pos rfl]
      simp (disch := first | exact obC_0 | omega | (simp only [aN1_35, aN1_36, aN1_37, aN1_38]; omega) | (simp only [List.length_cons, List.length_nil]; omega)) only [en52, x52_0, x52_1, x52_2, x52_3, x52_6, x52_9, x52_10, x52_11, x52_14, x52_15, x52_16, x52_17, x52_18, x52_21, x52_22, x52_23, x52_26, x52_29, x52_30, x52_31, x52_34, x52_35, x52_36, x52_37, x52_40, x52_42, x52_43, x52_44, x52_45, x52_46, x52_49, x52_50, x52_53, x52_54, x52_55, x52_58, x52_59, x52_60, x52_63, x52_64, x52_67, x52_68, x52_69, x52_72, x52_73, x52_74, x52_77, x52_78, x52_81, x52_82, x52_83, x52_86, x52_87, x52_90, x52_91, x52_92, fcn_0_44, fcn_0_45, fcn_0_46, fcn_0_47, if_true, if_false, eq_self, Int.reduceEq, Int.reduceLT, Int.reduceLE, Int.reduceAdd, Int.reduceSub, Int.reduceMul, Int.reduceToNat, Nat.reduceAdd, Nat.reduceMul, Nat.reduceEqDiff, Int.toNat_natCast, wrap_id, hl, t_in (d := d) (by omega), e, zcI_r, mu_c, e1, z5, if_true, and_self, true_and, and_true]
    · subst h
      rw [if_neg (by decide), if_neg (by decide), if_pos rfl, ← hfl]
      simp (disch := first | exact obC_0 | omega | (simp only [aN1_35, aN1_36, aN1_37, aN1_38]; omega) | (simp only [List.length_cons, List.length_nil]; omega)) only [en52, x52_0, x52_1, x52_2, x52_3, x52_6, x52_9, x52_10, x52_11, x52_14, x52_15, x52_16, x52_17, x52_18, x52_21, x52_22, x52_23, x52_26, x52_29, x52_30, x52_31, x52_34, x52_35, x52_36, x52_37, x52_40, x52_42, x52_43, x52_44, x52_45, x52_46, x52_49, x52_50, x52_53, x52_54, x52_55, x52_58, x52_59, x52_60, x52_63, x52_64, x52_67, x52_68, x52_69, x52_72, x52_73, x52_74, x52_77, x52_78, x52_81, x52_82, x52_83, x52_86, x52_87, x52_90, x52_91, x52_92, fcn_0_44, fcn_0_45, fcn_0_46, fcn_0_47, if_true, if_false, eq_self, Int.reduceEq, Int.reduceLT, Int.reduceLE, Int.reduceAdd, Int.reduceSub, Int.reduceMul, Int.reduceToNat, Nat.reduceAdd, Nat.reduceMul, Nat.reduceEqDiff, Int.toNat_natCast, wrap_id, hl, t_in (d := d) (by omega), e, zcI_r, mu_c, e1, if_true, and_self, true_and, and_true]
    · subst h
      rw [if_neg (by decide), if_neg (by decide), if_neg (by decide)]
      simp (disch := first | exact obC_0 | omega | (simp only [aN1_35, aN1_36, aN1_37, aN1_38]; omega) | (simp only [List.length_cons, List.length_nil]; omega)) only [en52, x52_0, x52_1, x52_2, x52_3, x52_6, x52_9, x52_10, x52_11, x52_14, x52_15, x52_16, x52_17, x52_18, x52_21, x52_22, x52_23, x52_26, x52_29, x52_30, x52_31, x52_34, x52_35, x52_36, x52_37, x52_40, x52_42, x52_43, x52_44, x52_45, x52_46, x52_49, x52_50, x52_53, x52_54, x52_55, x52_58, x52_59, x52_60, x52_63, x52_64, x52_67, x52_68, x52_69, x52_72, x52_73, x52_74, x52_77, x52_78, x52_81, x52_82, x52_83, x52_86, x52_87, x52_90, x52_91, x52_92, fcn_0_44, fcn_0_45, fcn_0_46, fcn_0_47, if_true, if_false, eq_self, Int.reduceEq, Int.reduceLT, Int.reduceLE, Int.reduceAdd, Int.reduceSub, Int.reduceMul, Int.reduceToNat, Nat.reduceAdd, Nat.reduceMul, Nat.reduceEqDiff, Int.toNat_natCast, wrap_id, hl, t_in (d := d) (by omega), e, zcI_r, mu_c, e1, z2, if_true, and_self, true_and, and_true]
  · have e0 : (if (0 : Int) ≤ what ∧ what ≤ 3 then (1 : Int) else 0) = 1 := if_pos hw
    have e : (if (0 : Int) ≤ k ∧ k ≤ (lv.1.length : Int) - 1 then (1 : Int) else 0) = 0 := if_neg (by omega)
    refine ⟨mu s 0 4 2, ?_, RA_put thr_fr h, mu_s⟩
    simp (disch := first | exact obC_0 | omega | (simp only [aN1_35, aN1_36, aN1_37, aN1_38]; omega) | (simp only [List.length_cons, List.length_nil]; omega)) only [en52, x52_0, x52_1, x52_2, x52_3, x52_6, x52_9, x52_10, x52_11, x52_14, x52_15, x52_16, x52_17, x52_18, x52_21, x52_22, x52_23, x52_26, x52_29, x52_30, x52_31, x52_34, x52_35, x52_36, x52_37, x52_40, x52_42, x52_43, x52_44, x52_45, x52_46, x52_49, x52_50, x52_53, x52_54, x52_55, x52_58, x52_59, x52_60, x52_63, x52_64, x52_67, x52_68, x52_69, x52_72, x52_73, x52_74, x52_77, x52_78, x52_81, x52_82, x52_83, x52_86, x52_87, x52_90, x52_91, x52_92, fcn_0_44, fcn_0_45, fcn_0_46, fcn_0_47, if_true, if_false, eq_self, Int.reduceEq, Int.reduceLT, Int.reduceLE, Int.reduceAdd, Int.reduceSub, Int.reduceMul, Int.reduceToNat, Nat.reduceAdd, Nat.reduceMul, Nat.reduceEqDiff, Int.toNat_natCast, wrap_id, hl, t_in (d := d) (by omega), e0, e, zcI_r, t_fail (d := d) (by omega)]
  · have e0 : (if (0 : Int) ≤ what ∧ what ≤ 3 then (1 : Int) else 0) = 0 := if_neg hw
    refine ⟨mu s 0 4 1, ?_, RA_put thr_fr h, mu_s⟩
    simp (disch := first | exact obC_0 | omega | (simp only [aN1_35, aN1_36, aN1_37, aN1_38]; omega) | (simp only [List.length_cons, List.length_nil]; omega)) only [en52, x52_0, x52_1, x52_2, x52_3, x52_6, x52_9, x52_10, x52_11, x52_14, x52_15, x52_16, x52_17, x52_18, x52_21, x52_22, x52_23, x52_26, x52_29, x52_30, x52_31, x52_34, x52_35, x52_36, x52_37, x52_40, x52_42, x52_43, x52_44, x52_45, x52_46, x52_49, x52_50, x52_53, x52_54, x52_55, x52_58, x52_59, x52_60, x52_63, x52_64, x52_67, x52_68, x52_69, x52_72, x52_73, x52_74, x52_77, x52_78, x52_81, x52_82, x52_83, x52_86, x52_87, x52_90, x52_91, x52_92, fcn_0_44, fcn_0_45, fcn_0_46, fcn_0_47, if_true, if_false, eq_self, Int.reduceEq, Int.reduceLT, Int.reduceLE, Int.reduceAdd, Int.reduceSub, Int.reduceMul, Int.reduceToNat, Nat.reduceAdd, Nat.reduceMul, Nat.reduceEqDiff, Int.toNat_natCast, wrap_id, t_in (d := d) (by omega), e0, zcI_r, t_fail (d := d) (by omega)]
/-- a signal that is set from outside -/
def isFree (lv : Live) (n : Nat) : Prop := ∃ x, lv.1[n]? = some x ∧ x.1 ≤ 1 ∧ ¬ isSk x.1 x.2.2.1
theorem t_setK {d : Nat} {k v : Int} {s : Mem} {T : Tx} {w : Int} {cp : Bool} {lv : Live} {st val bf ch : Nat → Int} {ck cn : Int} (hd : 6 ≤ d) (h : RA s T w cp lv st val bf ch ck cn) :
    ((0 ≤ k ∧ k < lv.1.length) → isFree lv k.toNat → ∃ s' val', Zc d 54 [aR 0, aI k, aI v] s = rI (st k.toNat) s' ∧ RA s' T w cp lv (vUp st k.toNat (iand v (msk (lv.2.2 k.toNat)))) val' bf ch ck cn ∧ s' 0 4 = 0) ∧
    ((0 ≤ k ∧ k < lv.1.length) → ¬ isFree lv k.toNat → ∃ s', Zc d 54 [aR 0, aI k, aI v] s = rI 0 s' ∧ RA s' T w cp lv st val bf ch ck cn ∧ s' 0 4 = 2) ∧
    (¬ (0 ≤ k ∧ k < lv.1.length) → ∃ s', Zc d 54 [aR 0, aI k, aI v] s = rI 0 s' ∧ RA s' T w cp lv st val bf ch ck cn ∧ s' 0 4 = 1) := by
  obtain ⟨d, rfl⟩ : ∃ e, d = e + 1 := ⟨d - 1, by omega⟩
  have hl := h.2.2.1.1
  have hl2 := h.2.2.1.2.1
  refine ⟨fun hk hf => ?_, fun hk hf => ?_, fun hk => ?_⟩
  · obtain ⟨n, rfl⟩ : ∃ n : Nat, k = n := ⟨k.toNat, by omega⟩
    rw [Int.toNat_natCast] at hf ⊢
    obtain ⟨x, hx, hx1, hx2⟩ := hf
    obtain ⟨z1, z2, z3, z4, z5, -⟩ := h.2.2.1.2.2.2.2.2.2.2.2 n x hx
    have e : (if (0 : Int) ≤ n ∧ (n : Int) ≤ (lv.1.length : Int) - 1 then (1 : Int) else 0) = 1 := if_pos (by omega)
    have e1 : (24 : Int) + n = ((24 + n : Nat) : Int) := rfl
    obtain ⟨h1, h2, h3, h4, h5, h6, h7, h8, h9, h10, h11, h12, h13, h14⟩ := h
    have hn24 : n < 24 := by omega
    have hsn := h6 n hn24
    generalize hs1 : mu (mu s 0 4 0) 45 n (iand v (msk (lv.2.2 n))) = s1
    have F1 : Fr (fun k j => (k = 0 ∧ j = 4) ∨ (k = 45 ∧ j = n)) s s1 := by
      rw [← hs1]
      exact ((Fr.rf s).mu (Or.inl ⟨rfl, rfl⟩)).mu (Or.inr ⟨rfl, rfl⟩)
    have L1 : LV s1 lv.1 lv.2.1 lv.2.2 := LV_put (fun k j hk => F1 _ _ (by omega)) h3
    have hup : ∀ j, j < 24 → s1 45 j = vUp st n (iand v (msk (lv.2.2 n))) j := fun j hj => by
      unfold vUp
      rw [← hs1]
      by_cases hjn : j = n
      · rw [hjn, mu_s, if_pos rfl]
      · rw [mu_i hjn, if_neg hjn, mu_c (by decide), h6 j hj]
    have hsm : ∀ j, j < lv.1.length → iand (vUp st n (iand v (msk (lv.2.2 n))) j) (msk (lv.2.2 j)) = vUp st n (iand v (msk (lv.2.2 n))) j := fun j hj => by
      unfold vUp
      by_cases hjn : j = n
      · rw [hjn, if_pos rfl]; exact iand_idem _ _
      · rw [if_neg hjn]; exact h10 j hj
    obtain ⟨s2, val', q1, q2, q3, q4, q5, q6⟩ := t_evaluate (d := d) (st := vUp st n (iand v (msk (lv.2.2 n)))) (val := val) (by omega) L1 h9 hup (fun j hj => by rw [F1 _ _ (by omega), h7 j hj]) hsm h11
    have z0 : ∀ j, j ≠ 4 → s2 0 j = s 0 j := fun j hj => by rw [FEv_k q6 (by decide), F1 _ _ (by omega)]
    have n1 : ¬ ((0 : Nat) = 0 ∧ 1 = 4 ∨ ((0 : Nat) = 45 ∧ 1 = n)) := by omega
    have n2 : ∀ j : Nat, ¬ ((1 : Nat) = 0 ∧ j = 4 ∨ ((1 : Nat) = 45 ∧ j = n)) := fun j => by omega
    have n3 : ¬ FEv 0 1 := by unfold FEv FBc; omega
    have n4 : ∀ j, ¬ FEv 1 j := fun j => by unfold FEv FBc; omega
    refine ⟨s2, val', ?_, ⟨((q6.tx n3 n4).trans (F1.tx n1 n2)).trans h1, q6.okT n3 n4 (F1.okT n1 n2 h2), q2, by rw [z0 _ (by decide), h4], by rw [z0 _ (by decide), h5], fun j hj => by rw [FEv_k q6 (by decide), hup j hj], q3, q4, h9, hsm, q5, fun j hj => by rw [FEv_k q6 (by decide), FEv_k q6 (by decide), F1 _ _ (by omega), F1 _ _ (by omega)]; exact h12 j hj, by rw [z0 _ (by decide), h13], by rw [z0 _ (by decide), h14]⟩, by rw [FEv_k q6 (by decide), ← hs1, mu_c (by decide), mu_s]⟩
    simp (disch := first | exact obC_0 | omega | (simp only [aN1_35, aN1_37, aN1_38, aN1_45]; omega) | (simp only [List.length_cons, List.length_nil]; omega)) only [en54, x54_0, x54_1, x54_2, x54_3, x54_6, x54_7, x54_8, x54_11, x54_14, x54_15, x54_16, x54_19, x54_20, x54_21, x54_24, x54_26, x54_27, x54_28, x54_29, x54_30, x54_33, x54_34, x54_37, x54_39, x54_40, x54_41, x54_42, x54_43, x54_46, x54_47, x54_48, x54_51, x54_52, x54_53, x54_54, x54_57, x54_58, x54_61, x54_62, x54_63, x54_64, x54_65, x54_68, x54_69, x54_70, x54_71, x54_74, x54_76, x54_77, x54_78, x54_79, x54_82, x54_83, x54_84, x54_85, x54_88, x54_89, fcn_0_44, fcn_0_46, fcn_0_47, fcn_0_60, if_true, if_false, eq_self, Int.reduceEq, Int.reduceLT, Int.reduceLE, Int.reduceAdd, Int.reduceSub, Int.reduceMul, Int.reduceToNat, Nat.reduceAdd, Nat.reduceMul, Nat.reduceEqDiff, Int.toNat_natCast, wrap_id, hl, t_in (d := d) (by omega), e, zcI_r, zcV_r, e1, z1, z4 hx2, z5, mu_c, hsn, t_mask (d := d) (by omega), hs1, q1, if_neg (show ¬ (1 : Int) < x.1 by omega)]
  · obtain ⟨n, rfl⟩ : ∃ n : Nat, k = n := ⟨k.toNat, by omega⟩
    rw [Int.toNat_natCast] at hf
    obtain ⟨x, hx⟩ : ∃ x, lv.1[n]? = some x := ⟨_, List.getElem?_eq_getElem (by omega)⟩
    obtain ⟨z1, z2, z3, z4, z5, -⟩ := h.2.2.1.2.2.2.2.2.2.2.2 n x hx
    have e : (if (0 : Int) ≤ n ∧ (n : Int) ≤ (lv.1.length : Int) - 1 then (1 : Int) else 0) = 1 := if_pos (by omega)
    have e1 : (24 : Int) + n = ((24 + n : Nat) : Int) := rfl
    refine ⟨mu s 0 4 2, ?_, RA_put thr_fr h, mu_s⟩
    by_cases hx1 : x.1 ≤ 1
    · have hk : isSk x.1 x.2.2.1 := Classical.byContradiction (fun z => hf ⟨x, hx, hx1, z⟩)
      simp (disch := first | exact obC_0 | omega | (simp only [aN1_35, aN1_37, aN1_38, aN1_45]; omega) | (simp only [List.length_cons, List.length_nil]; omega)) only [en54, x54_0, x54_1, x54_2, x54_3, x54_6, x54_7, x54_8, x54_11, x54_14, x54_15, x54_16, x54_19, x54_20, x54_21, x54_24, x54_26, x54_27, x54_28, x54_29, x54_30, x54_33, x54_34, x54_37, x54_39, x54_40, x54_41, x54_42, x54_43, x54_46, x54_47, x54_48, x54_51, x54_52, x54_53, x54_54, x54_57, x54_58, x54_61, x54_62, x54_63, x54_64, x54_65, x54_68, x54_69, x54_70, x54_71, x54_74, x54_76, x54_77, x54_78, x54_79, x54_82, x54_83, x54_84, x54_85, x54_88, x54_89, fcn_0_44, fcn_0_46, fcn_0_47, fcn_0_60, if_true, if_false, eq_self, Int.reduceEq, Int.reduceLT, Int.reduceLE, Int.reduceAdd, Int.reduceSub, Int.reduceMul, Int.reduceToNat, Nat.reduceAdd, Nat.reduceMul, Nat.reduceEqDiff, Int.toNat_natCast, wrap_id, hl, t_in (d := d) (by omega), e, zcI_r, e1, z1, z3 hk, t_fail (d := d) (by omega), if_neg (show ¬ (1 : Int) < x.1 by omega)]
    · simp (disch := first | exact obC_0 | omega | (simp only [aN1_35, aN1_37, aN1_38, aN1_45]; omega) | (simp only [List.length_cons, List.length_nil]; omega)) only [en54, x54_0, x54_1, x54_2, x54_3, x54_6, x54_7, x54_8, x54_11, x54_14, x54_15, x54_16, x54_19, x54_20, x54_21, x54_24, x54_26, x54_27, x54_28, x54_29, x54_30, x54_33, x54_34, x54_37, x54_39, x54_40, x54_41, x54_42, x54_43, x54_46, x54_47, x54_48, x54_51, x54_52, x54_53, x54_54, x54_57, x54_58, x54_61, x54_62, x54_63, x54_64, x54_65, x54_68, x54_69, x54_70, x54_71, x54_74, x54_76, x54_77, x54_78, x54_79, x54_82, x54_83, x54_84, x54_85, x54_88, x54_89, fcn_0_44, fcn_0_46, fcn_0_47, fcn_0_60, if_true, if_false, eq_self, Int.reduceEq, Int.reduceLT, Int.reduceLE, Int.reduceAdd, Int.reduceSub, Int.reduceMul, Int.reduceToNat, Nat.reduceAdd, Nat.reduceMul, Nat.reduceEqDiff, Int.toNat_natCast, wrap_id, hl, t_in (d := d) (by omega), e, zcI_r, e1, z1, t_fail (d := d) (by omega), if_pos (show (1 : Int) < x.1 by omega)]
  · have e : (if (0 : Int) ≤ k ∧ k ≤ (lv.1.length : Int) - 1 then (1 : Int) else 0) = 0 := if_neg (by omega)
    refine ⟨mu s 0 4 1, ?_, RA_put thr_fr h, mu_s⟩
    simp (disch := first | exact obC_0 | omega | (simp only [aN1_35, aN1_37, aN1_38, aN1_45]; omega) | (simp only [List.length_cons, List.length_nil]; omega)) only [en54, x54_0, x54_1, x54_2, x54_3, x54_6, x54_7, x54_8, x54_11, x54_14, x54_15, x54_16, x54_19, x54_20, x54_21, x54_24, x54_26, x54_27, x54_28, x54_29, x54_30, x54_33, x54_34, x54_37, x54_39, x54_40, x54_41, x54_42, x54_43, x54_46, x54_47, x54_48, x54_51, x54_52, x54_53, x54_54, x54_57, x54_58, x54_61, x54_62, x54_63, x54_64, x54_65, x54_68, x54_69, x54_70, x54_71, x54_74, x54_76, x54_77, x54_78, x54_79, x54_82, x54_83, x54_84, x54_85, x54_88, x54_89, fcn_0_44, fcn_0_46, fcn_0_47, fcn_0_60, if_true, if_false, eq_self, Int.reduceEq, Int.reduceLT, Int.reduceLE, Int.reduceAdd, Int.reduceSub, Int.reduceMul, Int.reduceToNat, Nat.reduceAdd, Nat.reduceMul, Nat.reduceEqDiff, Int.toNat_natCast, wrap_id, hl, t_in (d := d) (by omega), e, zcI_r, t_fail (d := d) (by omega)]
