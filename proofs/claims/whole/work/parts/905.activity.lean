/-! activity: how often a signal changed, by the clocks -/
section AC
variable {d r q : Nat} {l0 l1 l2 l3 l4 l5 l6 l7 l8 l9 l10 l11 l12 l13 l14 l15 : AV} {st : List AV} {s : Mem} {a b z i n dp sp a0 a1 a2 a3 a4 a5 a6 : Int} {r0 r1 r2 r3 r4 : Nat}
theorem x73_0 : Ze d 73 0 [aR r, l1] st s = Ze d 73 1 [aR r, l1] (aR r :: st) s := Ze_n (i := (.aload_n 0)) (len := 1) (by decide +kernel) rfl
theorem x73_1 (h : obC r = 1) (h2 : 0 ≤ s r 4) : Ze d 73 1 [l0, l1] (aR r :: st) s = Ze d 73 4 [l0, l1] (aR (s r 4).toNat :: st) s := Ze_gf (len := 3) (idx := 27) (by decide +kernel) rfl h (fldV_dyn rfl h2)
theorem x73_4 : Ze d 73 4 [l0, aI z] st s = Ze d 73 5 [l0, aI z] (aI z :: st) s := Ze_n (i := (.iload_n 1)) (len := 1) (by decide +kernel) rfl
theorem x73_5 (h : obC r = 3) (h6 : st.length ≤ 4) : Ze d 73 5 [l0, l1] (aI a1 :: aR r :: st) s = zcI (Zc d 90 [aR r, aI a1] s) d 73 8 [l0, l1] st := Ze_cvI (idx := 165) (len := 3) (as := [aI a1]) (by decide +kernel) rfl (by decide +kernel) rfl h h6
theorem x73_8 : Ze d 73 8 [l0, l1] (aI a :: st) s = if a = 0 then Ze d 73 11 [l0, l1] st s else Ze d 73 21 [l0, l1] st s := Ze_b (i := (.ifCond .ne 13)) (len := 3) (by decide +kernel) rfl
theorem x73_11 : Ze d 73 11 [l0, l1] st s = rT 6 s := Ze_r (i := .new 169) (len := 3) (by decide +kernel) rfl
theorem x73_21 : Ze d 73 21 [aR r, l1] st s = Ze d 73 22 [aR r, l1] (aR r :: st) s := Ze_n (i := (.aload_n 0)) (len := 1) (by decide +kernel) rfl
theorem x73_22 (h : obC r = 1) (h2 : 0 ≤ s r 4) : Ze d 73 22 [l0, l1] (aR r :: st) s = Ze d 73 25 [l0, l1] (aR (s r 4).toNat :: st) s := Ze_gf (len := 3) (idx := 27) (by decide +kernel) rfl h (fldV_dyn rfl h2)
theorem x73_25 (h : obC r = 3) : Ze d 73 25 [l0, l1] (aR r :: st) s = Ze d 73 28 [l0, l1] (aI (s r 15) :: st) s := Ze_gf (len := 3) (idx := 210) (by decide +kernel) rfl h rfl
theorem x73_28 : Ze d 73 28 [l0, l1] (aI a :: st) s = if a = 0 then Ze d 73 31 [l0, l1] st s else Ze d 73 33 [l0, l1] st s := Ze_b (i := (.ifCond .ne 5)) (len := 3) (by decide +kernel) rfl
theorem x73_31 : Ze d 73 31 [l0, l1] st s = Ze d 73 32 [l0, l1] (aD dz0 :: st) s := Ze_n (i := (.dconst 0)) (len := 1) (by decide +kernel) rfl
theorem x73_32 : Ze d 73 32 [l0, l1] [aD z] s = rD z s := Ze_d (by decide +kernel) rfl
theorem x73_33 : Ze d 73 33 [aR r, l1] st s = Ze d 73 34 [aR r, l1] (aR r :: st) s := Ze_n (i := (.aload_n 0)) (len := 1) (by decide +kernel) rfl
theorem x73_34 (h : obC r = 1) (h2 : 0 ≤ s r 4) : Ze d 73 34 [l0, l1] (aR r :: st) s = Ze d 73 37 [l0, l1] (aR (s r 4).toNat :: st) s := Ze_gf (len := 3) (idx := 27) (by decide +kernel) rfl h (fldV_dyn rfl h2)
theorem x73_37 (h : obC r = 3) : Ze d 73 37 [l0, l1] (aR r :: st) s = Ze d 73 40 [l0, l1] (aR (fcn r 12) :: st) s := Ze_gf (len := 3) (idx := 213) (by decide +kernel) rfl h rfl
theorem x73_40 : Ze d 73 40 [l0, aI z] st s = Ze d 73 41 [l0, aI z] (aI z :: st) s := Ze_n (i := (.iload_n 1)) (len := 1) (by decide +kernel) rfl
theorem x73_41 (h0 : 0 ≤ i) (h1 : i < aN1 r) : Ze d 73 41 [l0, l1] (aI i :: aR r :: st) s = Ze d 73 42 [l0, l1] (aI (s r i.toNat) :: st) s := Ze_n (i := .iaload) (len := 1) (by decide +kernel) (if_pos ⟨h0, h1⟩)
theorem x73_42 : Ze d 73 42 [l0, l1] (aI a :: st) s = Ze d 73 43 [l0, l1] (aD (i2dZ a) :: st) s := Ze_n (i := .i2d) (len := 1) (by decide +kernel) rfl
theorem x73_43 : Ze d 73 43 [aR r, l1] st s = Ze d 73 44 [aR r, l1] (aR r :: st) s := Ze_n (i := (.aload_n 0)) (len := 1) (by decide +kernel) rfl
theorem x73_44 (h : obC r = 1) (h2 : 0 ≤ s r 4) : Ze d 73 44 [l0, l1] (aR r :: st) s = Ze d 73 47 [l0, l1] (aR (s r 4).toNat :: st) s := Ze_gf (len := 3) (idx := 27) (by decide +kernel) rfl h (fldV_dyn rfl h2)
theorem x73_47 (h : obC r = 3) : Ze d 73 47 [l0, l1] (aR r :: st) s = Ze d 73 50 [l0, l1] (aI (s r 15) :: st) s := Ze_gf (len := 3) (idx := 210) (by decide +kernel) rfl h rfl
theorem x73_50 : Ze d 73 50 [l0, l1] (aI a :: st) s = Ze d 73 51 [l0, l1] (aD (i2dZ a) :: st) s := Ze_n (i := .i2d) (len := 1) (by decide +kernel) rfl
theorem x73_51 (h : dnum a b) : Ze d 73 51 [l0, l1] (aD b :: aD a :: st) s = Ze d 73 52 [l0, l1] (aD (ddivZ a b) :: st) s := Ze_n (i := .ddiv) (len := 1) (by decide +kernel) (if_pos h)
theorem x73_52 : Ze d 73 52 [l0, l1] [aD z] s = rD z s := Ze_d (by decide +kernel) rfl
theorem en73 : Zc (d + 1) 73 [aR r, aI a1] s = Ze d 73 0 [aR r, aI a1] [] s := rfl
end AC
theorem dnum_of {a b : Int} (hb : inI b) (h0 : b ≠ 0) : dnum (i2dZ a) (i2dZ b) := by
  unfold dnum
  rw [i2dZ_def, i2dZ_def, dU_of, dU_of]
  have hz : i32 b ≠ 0 := fun z => h0 ((i32_eq hb inI_0).mp (z.trans i32_0.symm))
  have h1 : FP.Core.dIsNaN (FP.Core.ddiv (FP.Core.i2d (i32 a)) (FP.Core.i2d (i32 b))) = false :=
    FP.Core.ddiv_out ((FP.Core.notNaN_iff _).mpr (FP.Core.i2d_fin (i32 a)).ne_nan) (FP.Core.i2d_fin (i32 b)) (fun z => FP.Core.i2d_ne_zero hz ((FP.Core.zero_bits2 _).mp z))
  have h2 : (FP.Core.ddiv (FP.Core.i2d (i32 a)) (FP.Core.i2d (i32 b))).toNat % 2 ^ 63 ≤ 9218868437227405312 := (FP.Core.ne_nan _).mp ((FP.Core.notNaN_iff _).mp h1)
  show vf_n64 (FP.Core.ddiv (FP.Core.i2d (i32 a)) (FP.Core.i2d (i32 b)))
  generalize FP.Core.ddiv (FP.Core.i2d (i32 a)) (FP.Core.i2d (i32 b)) = r at h2
  unfold vf_n64
  rw [UInt64.le_iff_toNat_le, UInt64.toNat_and]
  rw [show (0x7fffffffffffffff : UInt64).toNat = 2 ^ 63 - 1 from rfl, Nat.and_two_pow_sub_one_eq_mod]
  exact h2
theorem t_activity {d : Nat} {k : Int} {s : Mem} {T : Tx} {w : Int} {cp : Bool} {lv : Live} {st val bf ch : Nat → Int} {ck cn : Int} (hd : 2 ≤ d) (hi : inI ck) (h : RA s T w cp lv st val bf ch ck cn) :
    ((0 ≤ k ∧ k < lv.1.length) → ∃ s', Zc d 58 [aR 0, aI k] s = rD (if ck = 0 then dz0 else ddivZ (i2dZ (ch k.toNat)) (i2dZ ck)) s' ∧ RA s' T w cp lv st val bf ch ck cn ∧ s' 0 4 = 0) ∧
    (¬ (0 ≤ k ∧ k < lv.1.length) → ∃ s', Zc d 58 [aR 0, aI k] s = rD dz0 s' ∧ RA s' T w cp lv st val bf ch ck cn ∧ s' 0 4 = 1) := by
  obtain ⟨d, rfl⟩ : ∃ e, d = e + 1 := ⟨d - 1, by omega⟩
  have hl := h.2.2.1.1
  have hl2 := h.2.2.1.2.1
  have hck := h.2.2.2.2.2.2.2.2.2.2.2.2.1
  refine ⟨fun hk => ?_, fun hk => ?_⟩
  · obtain ⟨n, rfl⟩ : ∃ n : Nat, k = n := ⟨k.toNat, by omega⟩
    have hv := (h.2.2.2.2.2.2.2.2.2.2.2.1 n (by omega)).2
    have e : (if (0 : Int) ≤ n ∧ (n : Int) ≤ (lv.1.length : Int) - 1 then (1 : Int) else 0) = 1 := if_pos (by omega)
    refine ⟨mu s 0 4 0, ?_, RA_put thr_fr h, mu_s⟩
    rw [Int.toNat_natCast]
    by_cases hz : ck = 0
    · rw [if_pos hz]
      simp (disch := first | exact obC_0 | omega | (simp only [aN1_47]; omega) | (simp only [List.length_cons, List.length_nil]; omega)) only [en58, x58_0, x58_1, x58_2, x58_3, x58_4, x58_7, x58_8, x58_9, x58_12, x58_15, x58_16, x58_19, x58_20, x58_23, x58_24, x58_27, x58_30, x58_31, x58_34, x58_37, x58_38, x58_41, x58_42, x58_45, x58_46, x58_47, x58_48, x58_49, x58_52, x58_54, fcn_0_62, if_true, if_false, eq_self, Int.reduceEq, Int.reduceLT, Int.reduceLE, Int.reduceAdd, Int.reduceSub, Int.reduceMul, Int.reduceToNat, Nat.reduceAdd, Nat.reduceMul, Nat.reduceEqDiff, Int.toNat_natCast, wrap_id, hl, t_in (d := d) (by omega), e, zcI_r, mu_s, mu_i, mu_c, hv, hck, hz, if_neg (show ¬ (0 : Int) < 0 by decide)]
    · rw [if_neg hz]
      simp (disch := first | exact obC_0 | omega | (simp only [aN1_47]; omega) | (simp only [List.length_cons, List.length_nil]; omega)) only [en58, x58_0, x58_1, x58_2, x58_3, x58_4, x58_7, x58_8, x58_9, x58_12, x58_15, x58_16, x58_19, x58_20, x58_23, x58_24, x58_27, x58_30, x58_31, x58_34, x58_37, x58_38, x58_41, x58_42, x58_45, x58_46, x58_47, x58_48, x58_49, x58_52, x58_54, fcn_0_62, x58_53 (dnum_of (a := ch n) hi hz), if_true, if_false, eq_self, Int.reduceEq, Int.reduceLT, Int.reduceLE, Int.reduceAdd, Int.reduceSub, Int.reduceMul, Int.reduceToNat, Nat.reduceAdd, Nat.reduceMul, Nat.reduceEqDiff, Int.toNat_natCast, wrap_id, hl, t_in (d := d) (by omega), e, zcI_r, mu_s, mu_i, mu_c, hv, hck, hz, if_neg (show ¬ (0 : Int) < 0 by decide)]
  · have e : (if (0 : Int) ≤ k ∧ k ≤ (lv.1.length : Int) - 1 then (1 : Int) else 0) = 0 := if_neg (by omega)
    refine ⟨mu s 0 4 1, ?_, RA_put thr_fr h, mu_s⟩
    simp (disch := first | exact obC_0 | omega | (simp only [aN1_47]; omega) | (simp only [List.length_cons, List.length_nil]; omega)) only [en58, x58_0, x58_1, x58_2, x58_3, x58_4, x58_7, x58_8, x58_9, x58_12, x58_15, x58_16, x58_19, x58_20, x58_23, x58_24, x58_27, x58_30, x58_31, x58_34, x58_37, x58_38, x58_41, x58_42, x58_45, x58_46, x58_47, x58_48, x58_49, x58_52, x58_54, fcn_0_62, if_true, if_false, eq_self, Int.reduceEq, Int.reduceLT, Int.reduceLE, Int.reduceAdd, Int.reduceSub, Int.reduceMul, Int.reduceToNat, Nat.reduceAdd, Nat.reduceMul, Nat.reduceEqDiff, Int.toNat_natCast, wrap_id, hl, t_in (d := d) (by omega), e, zcI_r, mu_s, mu_i, mu_c, if_pos (show (0 : Int) < 1 by decide)]
theorem k_activity {d : Nat} {k : Int} {T : Tx} {w : Int} {cp : Bool} {lv : Live} {st val bf ch : Nat → Int} {ck cn : Int} {o N K : Nat} {l : List Nat} {s : Mem} (hd : 2 ≤ d) (hi : inI ck) (h : RK s T w cp lv st val bf ch ck cn o N K l) :
    ((0 ≤ k ∧ k < lv.1.length) → Zc d 73 [aR 56, aI k] s = rD (if ck = 0 then dz0 else ddivZ (i2dZ (ch k.toNat)) (i2dZ ck)) s) ∧
    (¬ (0 ≤ k ∧ k < lv.1.length) → Zc d 73 [aR 56, aI k] s = rT 6 s) := by
  obtain ⟨d, rfl⟩ : ∃ e, d = e + 1 := ⟨d - 1, by omega⟩
  obtain ⟨⟨ho, b2, b3, b4, b5, b6⟩, h2, h3, h4, h5, h6⟩ := h
  have q5 : 0 ≤ s 56 4 := by rw [b5]; omega
  obtain ⟨w1, w0⟩ := k_has (d := d) (k := k) (by omega) ho h4.1.1.1
  have hL := h4.1.1.2.1
  have hck := h4.2.2.2.2.2.2.2.2.2
  refine ⟨fun hk => ?_, fun hk => ?_⟩
  · obtain ⟨n, rfl⟩ : ∃ n : Nat, k = n := ⟨k.toNat, by omega⟩
    rw [Int.toNat_natCast]
    have hv := (h4.2.2.2.2.2.2.2.2.1 n (by omega)).2
    have hA : aN1 (81 + o) = 24 := aN1O_81 ho
    by_cases hz : ck = 0
    · rw [if_pos hz]
      simp (disch := first | exact obC_56 | exact (obCO_58 ho) | omega | (simp only [(aN1O_81 ho)]; omega) | (simp only [List.length_cons, List.length_nil]; omega)) only [en73, x73_0, x73_1, x73_4, x73_5, x73_8, x73_11, x73_21, x73_22, x73_25, x73_28, x73_31, x73_32, x73_33, x73_34, x73_37, x73_40, x73_41, x73_42, x73_43, x73_44, x73_47, x73_50, x73_52, (fcnO_58_12 ho), if_true, if_false, eq_self, Int.reduceEq, Int.reduceLT, Int.reduceLE, Int.reduceAdd, Int.reduceSub, Int.reduceMul, Int.reduceToNat, Nat.reduceAdd, Nat.reduceMul, Nat.reduceEqDiff, Int.toNat_natCast, wrap_id, b5, w1 hk, zcI_r, hck, hz, if_neg (show ¬ (1 : Int) = 0 by decide)]
    · rw [if_neg hz]
      simp (disch := first | exact obC_56 | exact (obCO_58 ho) | omega | (simp only [(aN1O_81 ho)]; omega) | (simp only [List.length_cons, List.length_nil]; omega)) only [en73, x73_0, x73_1, x73_4, x73_5, x73_8, x73_11, x73_21, x73_22, x73_25, x73_28, x73_31, x73_32, x73_33, x73_34, x73_37, x73_40, x73_41, x73_42, x73_43, x73_44, x73_47, x73_50, x73_52, (fcnO_58_12 ho), x73_51 (dnum_of (a := ch n) hi hz), if_true, if_false, eq_self, Int.reduceEq, Int.reduceLT, Int.reduceLE, Int.reduceAdd, Int.reduceSub, Int.reduceMul, Int.reduceToNat, Nat.reduceAdd, Nat.reduceMul, Nat.reduceEqDiff, Int.toNat_natCast, wrap_id, b5, w1 hk, zcI_r, hck, hz, hv, if_neg (show ¬ (1 : Int) = 0 by decide)]
  · simp (disch := first | exact obC_56 | exact (obCO_58 ho) | omega | (simp only [(aN1O_81 ho)]; omega) | (simp only [List.length_cons, List.length_nil]; omega)) only [en73, x73_0, x73_1, x73_4, x73_5, x73_8, x73_11, x73_21, x73_22, x73_25, x73_28, x73_31, x73_32, x73_33, x73_34, x73_37, x73_40, x73_41, x73_42, x73_43, x73_44, x73_47, x73_50, x73_52, (fcnO_58_12 ho), if_true, if_false, eq_self, Int.reduceEq, Int.reduceLT, Int.reduceLE, Int.reduceAdd, Int.reduceSub, Int.reduceMul, Int.reduceToNat, Nat.reduceAdd, Nat.reduceMul, Nat.reduceEqDiff, Int.toNat_natCast, wrap_id, b5, w0 hk, zcI_r]
/-- activity of both: the same double -/
theorem cp_activity {s : Mem} {k : Int} (hm : ∀ a b, inI (s a b)) (h : CPL s) :
    (∃ (v : Int) (s1 s2 : Mem), Zc 20 73 (aR 56 :: [aI k]) s = rD v s1 ∧ Zc 20 58 (aR 0 :: [aI k]) s1 = rD v s2 ∧ s2 0 4 = 0 ∧ CPL s2) ∨
    ∃ (b : Int) (s1 s2 : Mem), Zc 20 73 (aR 56 :: [aI k]) s = rT 6 s1 ∧ Zc 20 58 (aR 0 :: [aI k]) s1 = rD b s2 ∧ s2 0 4 = 1 ∧ CPL s2 := by
  obtain ⟨T, w, cp, lv, sa, va, ba, ca, sk, vk, bk, ck, c, cn, o, N, K, l, hA, hK, a1, a2, a3, a4, a5, a6⟩ := h
  have hi : inI c := by rw [← hA.2.2.2.2.2.2.2.2.2.2.2.2.1]; exact hm _ _
  obtain ⟨p1, p2⟩ := k_activity (d := 20) (k := k) (by decide) hi hK
  obtain ⟨t1, t2⟩ := t_activity (d := 20) (k := k) (by decide) hi hA
  by_cases hk : 0 ≤ k ∧ k < lv.1.length
  · obtain ⟨s2, q1, q2, q3⟩ := t1 hk
    have g := low_fr q1 (okM ok1)
    rw [a4 _ (by omega)] at q1
    exact Or.inl ⟨_, s, s2, p1 hk, q1, q3, T, w, cp, lv, sa, va, ba, ca, sk, vk, bk, ck, c, cn, o, N, K, l, q2, RK_off g hK, a1, a2, a3, a4, a5, DY_off g a6⟩
  · obtain ⟨s2, q1, q2, q3⟩ := t2 hk
    have g := low_fr q1 (okM ok1)
    exact Or.inr ⟨_, s, s2, p2 hk, q1, q3, T, w, cp, lv, sa, va, ba, ca, sk, vk, bk, ck, c, cn, o, N, K, l, q2, RK_off g hK, a1, a2, a3, a4, a5, DY_off g a6⟩
/-- what the reference says it threw -/
theorem t_thrown {d : Nat} {s : Mem} (hd : 1 ≤ d) : Zc d 0 [aR 0] s = rI (s 0 4) s := by
  obtain ⟨d, rfl⟩ : ∃ e, d = e + 1 := ⟨d - 1, by omega⟩
  simp (disch := first | exact obC_0 | omega | (simp only [List.length_cons, List.length_nil]; omega)) only [en0, x0_0, x0_1, x0_4, if_true, if_false, eq_self, Int.reduceEq, Int.reduceLT, Int.reduceLE, Int.reduceAdd, Int.reduceSub, Int.reduceMul, Int.reduceToNat, Nat.reduceAdd, Nat.reduceMul, Nat.reduceEqDiff, Int.toNat_natCast, wrap_id]
