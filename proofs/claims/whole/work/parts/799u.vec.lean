/-! THE CLASS: U and the [ ] behind a type -/
theorem KS_tP {s : Mem} {T : Tx} {u o k : Nat} (h : KS s T u o k) : tP T k ≤ T.2 := by
  obtain ⟨⟨h1, h2, h3, -⟩, -, -, -, h5, -⟩ := h
  by_cases e : k = u
  · rw [e, h3]
    exact Nat.le_refl _
  · have := (h2 k (by omega)).1
    omega
theorem KS_up {s : Mem} {T : Tx} {u o k : Nat} (h : KS s T u o k) (hk : k < u) : tP T k < tP T (k + 1) := by
  have h1 := (h.1.2.1 k hk).1
  have h2 := tE_gt h1
  have h3 := sk_ge T (tE T (tP T k))
  show tP T k < sk T (tE T (tP T k))
  omega
/-- what reading a type comes to -/
def YO (T : Tx) (u o k M C : Nat) (s : Mem) (Z : Option Res) (x : PR Jvm.Term) : Prop := match x with
  | .ok (t, q) => ∃ (s' : Mem) (k' n M' C' : Nat), Z = rI n s' ∧ KS s' T u o k' ∧ tP T k' = q ∧ k < k' ∧ CT s' true t n M' C C' 0 ∧ s' 114 4 = M' ∧ s' 114 10 = C' ∧ (M ≤ M' ∧ C ≤ C') ∧ M' + k ≤ M + k' ∧ C' + k ≤ C + k' ∧ Fr (YF M C) s s'
  | .error f => (∃ s', Z = rI (-1) s' ∧ s' 131 5 = f ∧ Fr (YFX M C) s s') ∨
      (∃ (s' : Mem) (k' v C' : Nat), Z = rI v s' ∧ KS s' T u o k' ∧ tP T k' = f ∧ isD (cA T f) ∧ s' 114 10 = C' ∧ C ≤ C' ∧ C' + k ≤ C + k' ∧ k ≤ k' ∧ Fr (YF M C) s s')
theorem YO_er {T : Tx} {u o k M C f : Nat} {s s1 s2 : Mem} {Z : Option Res} (f1 : Fr (YF M C) s s1) (f2 : Fr NF s1 s2) (h1 : Z = rI (-1) s2) (h2 : s2 131 5 = f) : YO T u o k M C s Z (.error f) :=
  Or.inl ⟨s2, h1, h2, (f1.mono (fun _ _ h => YF_X h)).tr (f2.mono (fun _ _ h => NF_YFX h))⟩
theorem vo_ok {d k u o M n z : Nat} {T : Tx} {s s2 s3 : Mem} {v : Nat} (hd : 2 ≤ d) (h : KS s T u o k) (h1 : Zc d 140 [aR 131, aI 1, aI 4] (mu s 131 4 ((k : Int) + 1)) = rI v s2) (hv : 1 ≤ v ∧ v ≤ 4) (h2 : Zc d 141 [aR 131, aI 93] s2 = rI 1 s3) (hM : s3 114 4 = M) (hM2 : M < 201) (hn : n < 201) (hz : s3 118 n = ((min 25 z : Nat) : Int)) :
    Zc (d + 1) 132 [aR 131, aI n] s = rI M (tAdd s3 M 2 n v (v * z)) := by
  have hn' : s 131 4 = k := h.2.2.2.1
  have hk2 := KS_le h
  simp (disch := first | exact obC_114 | exact obC_131 | omega | (simp only [List.length_cons, List.length_nil]; omega)) only [en132, x132_0, x132_1, x132_1i, x132_2, x132_5, x132_6, x132_7, x132_10, x132_11, x132_12, x132_13, x132_16, x132_17, x132_18, x132_19, x132_22, x132_23, x132_25, x132_28, x132_31, x132_32, x132_33, x132_34, x132_37, x132_38, x132_39, x132_42, fcn_131_1, if_true, if_false, eq_self, Int.reduceEq, Int.reduceLT, Int.reduceLE, Int.reduceAdd, Int.reduceSub, Int.reduceMul, Int.reduceToNat, Nat.reduceAdd, Nat.reduceMul, Nat.reduceEqDiff, Int.toNat_natCast, wrap_id, hn', h1, h2, zcI_r, if_neg (show ¬ ((v : Nat) : Int) = -1 by omega), k_addVector (d := d) hd hM hM2 hn hz hv]
theorem vo_F {d k u o : Nat} {T : Tx} {s s2 s3 : Mem} {v : Nat} {n : Int} (h : KS s T u o k) (H : Zc d 140 [aR 131, aI 1, aI 4] (mu s 131 4 ((k : Int) + 1)) = rI (-1) s3 ∨ (Zc d 140 [aR 131, aI 1, aI 4] (mu s 131 4 ((k : Int) + 1)) = rI v s2 ∧ Zc d 141 [aR 131, aI 93] s2 = rI 0 s3)) :
    Zc (d + 1) 132 [aR 131, aI n] s = rI (-1) s3 := by
  have hn' : s 131 4 = k := h.2.2.2.1
  have hk2 := KS_le h
  rcases H with h1 | ⟨h1, h2⟩
  · simp (disch := first | exact obC_114 | exact obC_131 | omega | (simp only [List.length_cons, List.length_nil]; omega)) only [en132, x132_0, x132_1, x132_1i, x132_2, x132_5, x132_6, x132_7, x132_10, x132_11, x132_12, x132_13, x132_16, x132_17, x132_18, x132_19, x132_22, x132_23, x132_25, x132_28, x132_31, x132_32, x132_33, x132_34, x132_37, x132_38, x132_39, x132_42, fcn_131_1, if_true, if_false, eq_self, Int.reduceEq, Int.reduceLT, Int.reduceLE, Int.reduceAdd, Int.reduceSub, Int.reduceMul, Int.reduceToNat, Nat.reduceAdd, Nat.reduceMul, Nat.reduceEqDiff, Int.toNat_natCast, wrap_id, hn', h1, zcI_r]
  · simp (disch := first | exact obC_114 | exact obC_131 | omega | (simp only [List.length_cons, List.length_nil]; omega)) only [en132, x132_0, x132_1, x132_1i, x132_2, x132_5, x132_6, x132_7, x132_10, x132_11, x132_12, x132_13, x132_16, x132_17, x132_18, x132_19, x132_22, x132_23, x132_25, x132_28, x132_31, x132_32, x132_33, x132_34, x132_37, x132_38, x132_39, x132_42, fcn_131_1, if_true, if_false, eq_self, Int.reduceEq, Int.reduceLT, Int.reduceLE, Int.reduceAdd, Int.reduceSub, Int.reduceMul, Int.reduceToNat, Nat.reduceAdd, Nat.reduceMul, Nat.reduceEqDiff, Int.toNat_natCast, wrap_id, hn', h1, h2, zcI_r, if_neg (show ¬ ((v : Nat) : Int) = -1 by omega)]
theorem vt_stop {d k u o i : Nat} {T : Tx} {s : Mem} {dp : Int} {n : Nat} (hd : 1 ≤ d) (h : KS s T u o k) (hc : ¬ cA T (tP T k) = 91) : Ze d 130 52 [aR 131, aI dp, aI n, aI i] [] s = rI n s := by
  have hk : ¬ s 111 k = 91 := fun z => hc ((KS_ch h (by decide)).mp z)
  rw [x130_52]
  by_cases hi : (i : Int) < 200
  · simp (disch := first | exact obC_131 | omega | (simp only [List.length_cons, List.length_nil]; omega)) only [en130, x130_0, x130_1, x130_2, x130_5, x130_6, x130_9, x130_10, x130_11, x130_14, x130_16, x130_19, x130_20, x130_23, x130_24, x130_27, x130_28, x130_31, x130_33, x130_36, x130_37, x130_38, x130_41, x130_42, x130_45, x130_46, x130_49, x130_50, x130_51, x130_53, x130_56, x130_59, x130_60, x130_61, x130_64, x130_65, x130_68, x130_70, x130_73, x130_74, x130_75, x130_78, x130_79, x130_82, x130_85, x130_86, if_true, if_false, eq_self, Int.reduceEq, Int.reduceLT, Int.reduceLE, Int.reduceAdd, Int.reduceSub, Int.reduceMul, Int.reduceToNat, Nat.reduceAdd, Nat.reduceMul, Nat.reduceEqDiff, Int.toNat_natCast, wrap_id, if_pos hi, if_neg (show ¬ ((n : Nat) : Int) = -1 by omega), kt_kind hd h, zcI_r, if_neg hk]
  · simp (disch := first | exact obC_131 | omega | (simp only [List.length_cons, List.length_nil]; omega)) only [en130, x130_0, x130_1, x130_2, x130_5, x130_6, x130_9, x130_10, x130_11, x130_14, x130_16, x130_19, x130_20, x130_23, x130_24, x130_27, x130_28, x130_31, x130_33, x130_36, x130_37, x130_38, x130_41, x130_42, x130_45, x130_46, x130_49, x130_50, x130_51, x130_53, x130_56, x130_59, x130_60, x130_61, x130_64, x130_65, x130_68, x130_70, x130_73, x130_74, x130_75, x130_78, x130_79, x130_82, x130_85, x130_86, if_true, if_false, eq_self, Int.reduceEq, Int.reduceLT, Int.reduceLE, Int.reduceAdd, Int.reduceSub, Int.reduceMul, Int.reduceToNat, Nat.reduceAdd, Nat.reduceMul, Nat.reduceEqDiff, Int.toNat_natCast, wrap_id, if_neg hi]
theorem vt_step {d k u o i : Nat} {T : Tx} {s s' : Mem} {dp v : Int} {n : Nat} (hd : 1 ≤ d) (h : KS s T u o k) (hc : cA T (tP T k) = 91) (hi : i < 200) (e : Zc d 132 [aR 131, aI n] s = rI v s') : Ze d 130 52 [aR 131, aI dp, aI n, aI i] [] s = Ze d 130 52 [aR 131, aI dp, aI v, aI ((i + 1 : Nat) : Int)] [] s' := by
  have hk : s 111 k = 91 := (KS_ch h (by decide)).mpr hc
  rw [x130_52, show ((i + 1 : Nat) : Int) = (i : Int) + 1 from rfl]
  simp (disch := first | exact obC_131 | omega | (simp only [List.length_cons, List.length_nil]; omega)) only [en130, x130_0, x130_1, x130_2, x130_5, x130_6, x130_9, x130_10, x130_11, x130_14, x130_16, x130_19, x130_20, x130_23, x130_24, x130_27, x130_28, x130_31, x130_33, x130_36, x130_37, x130_38, x130_41, x130_42, x130_45, x130_46, x130_49, x130_50, x130_51, x130_53, x130_56, x130_59, x130_60, x130_61, x130_64, x130_65, x130_68, x130_70, x130_73, x130_74, x130_75, x130_78, x130_79, x130_82, x130_85, x130_86, if_true, if_false, eq_self, Int.reduceEq, Int.reduceLT, Int.reduceLE, Int.reduceAdd, Int.reduceSub, Int.reduceMul, Int.reduceToNat, Nat.reduceAdd, Nat.reduceMul, Nat.reduceEqDiff, Int.toNat_natCast, wrap_id, if_pos (show (i : Int) < 200 by omega), if_neg (show ¬ ((n : Nat) : Int) = -1 by omega), kt_kind hd h, zcI_r, hk, e]
theorem vt_none {d i : Nat} {s : Mem} {dp : Int} : Ze d 130 52 [aR 131, aI dp, aI (-1), aI i] [] s = rI (-1) s := by
  rw [x130_52]
  by_cases hi : (i : Int) < 200
  · simp (disch := first | exact obC_131 | omega | (simp only [List.length_cons, List.length_nil]; omega)) only [en130, x130_0, x130_1, x130_2, x130_5, x130_6, x130_9, x130_10, x130_11, x130_14, x130_16, x130_19, x130_20, x130_23, x130_24, x130_27, x130_28, x130_31, x130_33, x130_36, x130_37, x130_38, x130_41, x130_42, x130_45, x130_46, x130_49, x130_50, x130_51, x130_53, x130_56, x130_59, x130_60, x130_61, x130_64, x130_65, x130_68, x130_70, x130_73, x130_74, x130_75, x130_78, x130_79, x130_82, x130_85, x130_86, if_true, if_false, eq_self, Int.reduceEq, Int.reduceLT, Int.reduceLE, Int.reduceAdd, Int.reduceSub, Int.reduceMul, Int.reduceToNat, Nat.reduceAdd, Nat.reduceMul, Nat.reduceEqDiff, Int.toNat_natCast, wrap_id, if_pos hi]
  · simp (disch := first | exact obC_131 | omega | (simp only [List.length_cons, List.length_nil]; omega)) only [en130, x130_0, x130_1, x130_2, x130_5, x130_6, x130_9, x130_10, x130_11, x130_14, x130_16, x130_19, x130_20, x130_23, x130_24, x130_27, x130_28, x130_31, x130_33, x130_36, x130_37, x130_38, x130_41, x130_42, x130_45, x130_46, x130_49, x130_50, x130_51, x130_53, x130_56, x130_59, x130_60, x130_61, x130_64, x130_65, x130_68, x130_70, x130_73, x130_74, x130_75, x130_78, x130_79, x130_82, x130_85, x130_86, if_true, if_false, eq_self, Int.reduceEq, Int.reduceLT, Int.reduceLE, Int.reduceAdd, Int.reduceSub, Int.reduceMul, Int.reduceToNat, Nat.reduceAdd, Nat.reduceMul, Nat.reduceEqDiff, Int.toNat_natCast, wrap_id, if_neg hi]
theorem YF_AY {M C b c e : Nat} {s s' : Mem} (h : Fr (YF M C) s s') (hb : b ≤ M) (he : e ≤ C) : AY s s' b c e := fun k j hk => h _ _ (by unfold YF; omega)
theorem NX_AY {b c e : Nat} {s s' : Mem} (h : Fr NX s s') : AY s s' b c e := fun k j hk => h _ _ (by unfold NX; omega)
theorem vt_loop {d k0 u o M C : Nat} {T : Tx} {s0 : Mem} {dp : Int} (hd : 3 ≤ d) (hM0 : M ≤ k0 + 1) : ∀ (fu k n i M' C' : Nat) (t : Jvm.Term) (s : Mem), KS s T u o k → T.2 < tP T k + fu → CT s true t n M' C C' 0 → s 114 4 = M' → s 114 10 = C' → M ≤ M' ∧ C ≤ C' → i ≤ k → k0 < k → M' + k0 ≤ M + k → C' + k0 ≤ C + k → Fr (YF M C) s0 s →
    YO T u o k0 M C s0 (Ze d 130 52 [aR 131, aI dp, aI n, aI i] [] s) (pVec T fu t (tP T k)) := by
  intro fu
  induction fu with
  | zero =>
    intro k n i M' C' t s h hf
    have := KS_tP h
    omega
  | succ fu ih =>
    intro k n i M' C' t s h hf hT hM hC hMC hi hk hMk hCk F
    obtain ⟨d, rfl⟩ : ∃ e, d = e + 1 := ⟨d - 1, by omega⟩
    rw [pVec]
    by_cases hc : cA T (tP T k) = 91
    · rw [if_pos hc]
      have hlt := KS_lt h (by omega)
      have hle := KS_le h
      have h1 := KS_nx h hlt
      have f1 : Fr NX s (mu s 131 4 ((k : Int) + 1)) := (Fr.rf s).mu ⟨rfl, rfl⟩
      rw [← tP_one (k := k) ⟨by omega, by omega⟩]
      unfold pNu
      by_cases hN : okNu T 1 4 (tP T (k + 1))
      · rw [if_pos hN, bd_ok]
        obtain ⟨s2, e1, e2, e3, e4⟩ := kt_num (d := d) (by omega) h1 (by decide) hN
        have hv : 1 ≤ nV T (tP T (k + 1)) (nE T (tP T (k + 1)) - tP T (k + 1)) ∧ nV T (tP T (k + 1)) (nE T (tP T (k + 1)) - tP T (k + 1)) ≤ 4 := ⟨hN.2.2.2.1, hN.2.2.2.2⟩
        generalize nV T (tP T (k + 1)) (nE T (tP T (k + 1)) - tP T (k + 1)) = v0 at e1 hv ⊢
        obtain ⟨v, rfl⟩ : ∃ w : Nat, v0 = w := ⟨v0.toNat, by omega⟩
        rw [Int.toNat_natCast, ← e3]
        have F2 : Fr NX s s2 := f1.tr e4
        unfold pTk
        by_cases c2 : cA T (tP T (k + 1 + 1)) = 93
        · rw [if_pos c2, bd_ok]
          obtain ⟨s3, g1, g2, g3, g4⟩ := kt_take (d := d) (by omega) e2 (by decide) c2
          have F3 : Fr NX s s3 := F2.tr g4
          have hle3 := KS_le g2
          obtain ⟨-, n2⟩ := NX_at F3
          obtain ⟨z1, z2, z3, z4⟩ := CT_size hT rfl
          rw [Int.toNat_natCast] at z3
          have hvo := vo_ok (d := d) (M := M') (n := n) (z := tsz t) (by omega) h e1 (by omega) g1 (by rw [n2 _ _ (by decide), hM]) (by omega) (by omega) (by rw [n2 _ _ (by decide), z3])
          rw [vt_step (by omega) h hc (by omega) hvo, ← g3]
          obtain ⟨a1, a2, a3, a4, a5, a6⟩ := tAdd_at (s := s3) (M := M') (z := v * tsz t) (a := 2) (p := n) (l := v)
          have hT3 : CT s3 true t n M' C C' 0 := CT_put hT (NX_AY F3)
          have FF : Fr (YF M C) s0 s3 := F.tr (F3.mono (fun _ _ h => NX_YF h))
          have up1 := KS_up h hlt
          have up2 := KS_up h1 (by omega)
          have up3 := KS_up e2 (by omega)
          refine ih (k + 1 + 1 + 1) M' (i + 1) (M' + 1) C' (tV v t) _ (KS_Y g2 ((tAdd_fr (M := M) (C := C) hMC.1).mono (fun _ _ h => YF_X h)) (by rw [a6 _ _ (by omega)]; exact g2.2.2.2.1) (by omega)) (by omega) ⟨by omega, by omega, ?_, ?_, ?_, by omega, ?_⟩ a5 (by rw [a6 _ _ (by omega), n2 _ _ (by decide), hC]) ⟨by omega, hMC.2⟩ (by omega) (by omega) (by omega) (by omega) (FF.tr (tAdd_fr hMC.1))
          · rw [Int.toNat_natCast, a1]
          · rw [Int.toNat_natCast, a3]
          · rw [Int.toNat_natCast, a4]
          · rw [Int.toNat_natCast, a2]
            exact CT_wide (CT_put hT3 (fun k j hk => a6 _ _ (by omega))) (Nat.le_refl _) (Nat.le_refl _) (Nat.le_refl _)
        · rw [if_neg c2, bd_er]
          obtain ⟨s3, g1, g2, g3⟩ := kt_takeF (d := d) (by omega) e2 (by decide) c2
          rw [vt_step (by omega) h hc (by omega) (vo_F h (Or.inr ⟨e1, g1⟩))]
          exact YO_er (F.tr (F2.mono (fun _ _ h => NX_YF h))) g3 vt_none g2
      · rw [if_neg hN, bd_er]
        obtain ⟨s2, e1, e2, e3⟩ := kt_numF (d := d) (by omega) h1 (by decide) hN
        rw [vt_step (by omega) h hc (by omega) (vo_F (v := 0) (s2 := s) h (Or.inl e1))]
        exact YO_er (F.tr (f1.mono (fun _ _ h => NX_YF h))) e3 vt_none e2
    · rw [if_neg hc, vt_stop (by omega) h hc]
      exact ⟨s, k, n, M', C', rfl, h, rfl, hk, hT, hM, hC, hMC, hMk, hCk, F⟩
/-- U and its number: the type, or a number that fits nowhere -/
theorem gt_U {d k u o M : Nat} {T : Tx} {s : Mem} (hd : 3 ≤ d) (h : KS s T u o k) (hc : cA T (tP T k) = 85) (hM : s 114 4 = M) (hMk : M ≤ k + 1) :
    (okNu T 1 16 (tP T (k + 1)) ∧ ∃ s1, Zc (d + 1) 131 [aR 131] s = rI M (tAdd s1 M 0 (nV T (tP T (k + 1)) (nE T (tP T (k + 1)) - tP T (k + 1))) 0 1) ∧ KS s1 T u o (k + 2) ∧ tP T (k + 2) = sk T (nE T (tP T (k + 1))) ∧ Fr NX s s1) ∨
    (¬ okNu T 1 16 (tP T (k + 1)) ∧ ∃ s1, Zc (d + 1) 131 [aR 131] s = rI (-1) s1 ∧ s1 131 5 = tP T (k + 1) ∧ Fr (fun k j => NX k j ∨ NF k j) s s1 ∧ isD (cA T (tP T (k + 1)))) ∨
    (¬ okNu T 1 16 (tP T (k + 1)) ∧ ∃ s1, Zc (d + 1) 131 [aR 131] s = rI M (tAdd s1 M 0 0 0 1) ∧ KS s1 T u o (k + 1) ∧ Fr NX s s1) := by
  have hlt := KS_lt h (by omega)
  have hle := KS_le h
  have h1 := KS_nx h hlt
  have hn' : s 131 4 = k := h.2.2.2.1
  have f1 : Fr NX s (mu s 131 4 ((k : Int) + 1)) := (Fr.rf s).mu ⟨rfl, rfl⟩
  have hkd := kt_kind (d := d) (by omega) h1
  have e113 : mu s 131 4 ((k : Int) + 1) 111 (k + 1) = s 111 (k + 1) := mu_c (by decide)
  have e113b : mu s 131 4 ((k : Int) + 1) 114 4 = M := by rw [mu_c (by decide), hM]
  rw [e113] at hkd
  by_cases hk2 : s 111 (k + 1) = 2
  · have hnn : ∀ v s', Zc d 140 [aR 131, aI 1, aI 16] (mu s 131 4 ((k : Int) + 1)) = rI v s' → Zc (d + 1) 131 [aR 131] s = if v = -1 then rI (-1) s' else zcI (Zc d 162 [aR 114, aI v] s') d 131 52 [aR 131, aI v] [] := by
      intro v s' e
      by_cases hv : v = -1
      · rw [if_pos hv]
        simp (disch := first | exact obC_114 | exact obC_131 | omega | (simp only [List.length_cons, List.length_nil]; omega)) only [en131, x131_0, x131_1, x131_1i, x131_2, x131_5, x131_6, x131_7, x131_10, x131_11, x131_14, x131_15, x131_18, x131_19, x131_22, x131_23, x131_26, x131_27, x131_28, x131_29, x131_31, x131_34, x131_35, x131_36, x131_37, x131_40, x131_41, x131_44, x131_45, x131_48, x131_49, x131_52, fcn_131_1, if_true, if_false, eq_self, Int.reduceEq, Int.reduceLT, Int.reduceLE, Int.reduceAdd, Int.reduceSub, Int.reduceMul, Int.reduceToNat, Nat.reduceAdd, Nat.reduceMul, Nat.reduceEqDiff, Int.toNat_natCast, wrap_id, hn', hkd, zcI_r, hk2, e, hv]
      · rw [if_neg hv]
        simp (disch := first | exact obC_114 | exact obC_131 | omega | (simp only [List.length_cons, List.length_nil]; omega)) only [en131, x131_0, x131_1, x131_1i, x131_2, x131_5, x131_6, x131_7, x131_10, x131_11, x131_14, x131_15, x131_18, x131_19, x131_22, x131_23, x131_26, x131_27, x131_28, x131_29, x131_31, x131_34, x131_35, x131_36, x131_37, x131_40, x131_41, x131_44, x131_45, x131_48, x131_49, fcn_131_1, if_true, if_false, eq_self, Int.reduceEq, Int.reduceLT, Int.reduceLE, Int.reduceAdd, Int.reduceSub, Int.reduceMul, Int.reduceToNat, Nat.reduceAdd, Nat.reduceMul, Nat.reduceEqDiff, Int.toNat_natCast, wrap_id, hn', hkd, zcI_r, hk2, e, if_neg hv]
    by_cases hN : okNu T 1 16 (tP T (k + 1))
    · left
      obtain ⟨s1, e1, e2, e3, e4⟩ := kt_num (d := d) (by omega) h1 (by decide) hN
      have hv : 1 ≤ nV T (tP T (k + 1)) (nE T (tP T (k + 1)) - tP T (k + 1)) := hN.2.2.2.1
      have F2 := f1.tr e4
      refine ⟨hN, s1, ?_, e2, e3, F2⟩
      rw [hnn _ _ e1, if_neg (by omega), k_addGround (d := d) (M := M) (by omega) (by rw [(NX_at F2).2 _ _ (by decide), hM]) (by have := KS_le e2; omega), zcI_r]
      simp (disch := first | exact obC_114 | exact obC_131 | omega | (simp only [List.length_cons, List.length_nil]; omega)) only [en131, x131_0, x131_1, x131_1i, x131_2, x131_5, x131_6, x131_7, x131_10, x131_11, x131_14, x131_15, x131_18, x131_19, x131_22, x131_23, x131_26, x131_27, x131_28, x131_29, x131_31, x131_34, x131_35, x131_36, x131_37, x131_40, x131_41, x131_44, x131_45, x131_48, x131_49, x131_52, fcn_131_1]
    · right; left
      obtain ⟨s1, e1, e2, e3⟩ := kt_numF (d := d) (by omega) h1 (by decide) hN
      refine ⟨hN, s1, ?_, e2, (f1.mono (fun _ _ h => Or.inl h)).tr (e3.mono (fun _ _ h => Or.inr h)), ?_⟩
      · rw [hnn _ _ e1, if_pos rfl]
      · refine Decidable.byContradiction fun hd' => ?_
        by_cases e : k + 1 = u
        · rw [e, h.1.2.2.2.1] at hk2
          omega
        · obtain ⟨p1, p2, p3, p4⟩ := h.1.2.1 (k + 1) (by omega)
          rw [p4 hd'] at hk2
          have := h.2.1 _ p1
          rw [← cA_lt p1] at this
          split at hk2 <;> omega
  · right; right
    have hN : ¬ okNu T 1 16 (tP T (k + 1)) := fun z => hk2 (by have := ((TKS_nu (lo := 1) (hi := 16) h1.2.1 h1.1 h1.2.2.2.2.1 (by decide)).1.mpr z).1; rw [e113] at this; exact this)
    refine ⟨hN, _, ?_, h1, f1⟩
    simp (disch := first | exact obC_114 | exact obC_131 | omega | (simp only [List.length_cons, List.length_nil]; omega)) only [en131, x131_0, x131_1, x131_1i, x131_2, x131_5, x131_6, x131_7, x131_10, x131_11, x131_14, x131_15, x131_18, x131_19, x131_22, x131_23, x131_26, x131_27, x131_28, x131_29, x131_31, x131_34, x131_35, x131_36, x131_37, x131_40, x131_41, x131_44, x131_45, x131_48, x131_49, x131_52, fcn_131_1, if_true, if_false, eq_self, Int.reduceEq, Int.reduceLT, Int.reduceLE, Int.reduceAdd, Int.reduceSub, Int.reduceMul, Int.reduceToNat, Nat.reduceAdd, Nat.reduceMul, Nat.reduceEqDiff, Int.toNat_natCast, wrap_id, hn', hkd, zcI_r, if_neg hk2, k_addGround (d := d) (M := M) (by omega) e113b (by omega)]
