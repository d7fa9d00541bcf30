theorem bd_fd {α β γ : Type} {a : PR α} {F : Nat → PR β} {G : α → β → Nat → PR γ} : bd a (fun nb p3 => bd (F p3) fun t p4 => G nb t p4) = bd (bd a (fun nb p3 => bd (F p3) fun t p4 => .ok ((nb, t), p4))) (fun x p4 => G x.1 x.2 p4) := by
  cases a with
  | error e => rfl
  | ok x =>
    obtain ⟨nb, p3⟩ := x
    rw [bd_ok, bd_ok]
    cases F p3 with
    | error e => rfl
    | ok y => rfl
theorem bu_all {d D u o : Nat} {T : Tx} (hd : 2 ≤ d) (hD : D ≤ 3) (ih : YI d D T u o) : ∀ (fu k M C i : Nat) (s : Mem) (fi la : Int) (l5 : AV), KS s T u o k → k < u → T.2 < tP T (k + 1) + fu → s 114 4 = M → M ≤ k + 2 → s 114 10 = C → C ≤ k + 1 → (la = -1 ∨ (0 ≤ la ∧ la < C)) → i ≤ k →
    BO (d + 1) T u o k M C ((4 : Int) - D - 1) fi la s (Ze (d + 1) 133 29 [aR 131, aI ((4 : Int) - D - 1), aI fi, aI la, aI i, l5] [] s) (pFs T (pTy T D) fu (tP T (k + 1))) := by
  intro fu
  induction fu with
  | zero =>
    intro k M C i s fi la l5 h hlt hf
    have := KS_tP (KS_nx h hlt)
    omega
  | succ fu ihf =>
    intro k M C i s fi la l5 h hlt hf hM hMk hC hCk hla hi
    have hle := KS_le h
    have h1 := KS_nx h hlt
    have f1 : Fr NX s (mu s 131 4 ((k : Int) + 1)) := (Fr.rf s).mu ⟨rfl, rfl⟩
    have hfd := k_field (d := d) (M := M) (C := C) hd hD ih h1 (by rw [mu_c (by decide), hM]) (by omega) (by rw [mu_c (by decide), hC]) (by omega)
    have hE : pFs T (pTy T D) (fu + 1) (tP T (k + 1)) = bd (bd (pFh T (tP T (k + 1))) (fun nb p3 => bd (pTy T D p3) fun t p4 => .ok ((nb, t), p4))) (fun (x : (Nat × Nat) × Jvm.Term) (p4 : Nat) => if cA T p4 = 44 then bd (pFs T (pTy T D) fu (sk T (p4 + 1))) fun r p5 => .ok (fCons x.1.1 x.1.2 x.2 r, p5) else if cA T p4 = 125 then .ok (fCons x.1.1 x.1.2 x.2 tNil, sk T (p4 + 1)) else .error p4) :=
      pFs_h.trans (bd_fd (G := fun (nb : Nat × Nat) (t : Jvm.Term) (p4 : Nat) => if cA T p4 = 44 then bd (pFs T (pTy T D) fu (sk T (p4 + 1))) fun r p5 => .ok (fCons nb.1 nb.2 t r, p5) else if cA T p4 = 125 then .ok (fCons nb.1 nb.2 t tNil, sk T (p4 + 1)) else .error p4))
    rw [hE]
    clear hE
    generalize hx : bd (pFh T (tP T (k + 1))) (fun nb p3 => bd (pTy T D p3) fun t p4 => .ok ((nb, t), p4)) = x at hfd ⊢
    -- what a field's place leads to
    have hgo : ∀ (f : Nat) (s2 : Mem), Zc (d + 1) 134 [aR 131, aI ((4 : Int) - D - 1)] (mu s 131 4 ((k : Int) + 1)) = rI f s2 → ∃ s3, Ze (d + 1) 133 29 [aR 131, aI ((4 : Int) - D - 1), aI fi, aI la, aI i, l5] [] s = Ze (d + 1) 133 7 [aR 131, aI ((4 : Int) - D - 1), aI (if la = -1 then (f : Int) else fi), aI f, aI ((i + 1 : Nat) : Int), aI f] [] s3 ∧ (0 ≤ la → s3 123 la.toNat = f) ∧ (∀ k j : Nat, ¬ (k = 123 ∧ (j : Int) = la) → s3 k j = s2 k j) := by
      intro f s2 e
      rcases hla with hl | ⟨hl, hl2⟩
      · subst hl
        exact ⟨s2, by rw [if_pos rfl]; exact bu_first h (by omega) e, fun z => by omega, fun _ _ _ => rfl⟩
      · obtain ⟨l, rfl⟩ : ∃ l : Nat, la = l := ⟨la.toNat, by omega⟩
        refine ⟨_, by rw [if_neg (by omega)]; exact bu_next h (by omega) (by omega) e, fun _ => by rw [Int.toNat_natCast, mu_s], fun k j hn => ?_⟩
        by_cases e : k = 123
        · exact mu_i (by omega)
        · exact mu_c e
    have f1' : Fr (YF M C) s (mu s 131 4 ((k : Int) + 1)) := f1.mono (fun _ _ h => NX_YF h)
    cases x with
    | error e =>
      rw [bd_er]
      rcases hfd with ⟨s2, e1, e2, e3⟩ | ⟨s2, k2, v, e1, e2, e3, e4, e5, e6, e7, e8⟩
      · exact ⟨s2, bu_fail h e1, e2, ((f1'.mono (fun _ _ h => YF_X h)).tr e3).mono (fun _ _ h => Or.inl h)⟩
      · obtain ⟨s3, g1, g2, g3⟩ := hgo v s2 e1
        have F3 : Fr (BF M C la) s s3 := ((f1'.tr e8).mono (fun _ _ h => Or.inl h)).tr (fun k j hn => g3 k j (fun z => hn (Or.inr z)))
        have K3 : KS s3 T u o k2 := KS_put (S := fun k j => k = 123 ∧ (j : Int) = la) e2 g3 (fun q j hq hn => by omega) (by omega) (by rw [g3 _ _ (by omega)]; exact e2.2.2.2.1) e2.2.2.2.2.1
        subst e3
        rw [g1, bu_junk (by omega) K3 (by omega) (by omega) (by omega)]
        exact ⟨_, rfl, by rw [mu_s], (F3.mono (fun _ _ h => BF_X h)).mu (Or.inl (Or.inr ⟨rfl, rfl⟩))⟩
    | ok xq =>
      obtain ⟨⟨⟨n, b⟩, t⟩, q⟩ := xq
      obtain ⟨s2, k2, tn, M', f, e1, e2, e3, e4, e5, e6, e7, e8, e9, ⟨e10, e11⟩, e12, e13, ⟨e14, e15⟩, e16, e17, e18⟩ := hfd
      dsimp only at e5 e6 e7 e10 e11
      rw [bd_ok]
      dsimp only
      obtain ⟨s3, g1, g2, g3⟩ := hgo f s2 e1
      have F3 : Fr (BF M C la) s s3 := ((f1'.tr e18).mono (fun _ _ h => Or.inl h)).tr (fun k j hn => g3 k j (fun z => hn (Or.inr z)))
      have K3 : KS s3 T u o k2 := KS_put (S := fun k j => k = 123 ∧ (j : Int) = la) e2 g3 (fun q j hq hn => by omega) (by omega) (by rw [g3 _ _ (by omega)]; exact e2.2.2.2.1) e2.2.2.2.2.1
      have hle3 := KS_le K3
      have T3 : CT s3 true t tn M' C f 0 := CT_put e5 (fun k j hk => g3 _ _ (by omega))
      have hg : ∀ k, s3 k f = s2 k f := fun k => g3 _ _ (by omega)
      have z3 := CT_size T3 rfl
      subst e3
      rw [g1]
      by_cases h44 : cA T (tP T k2) = 44
      · rw [if_pos h44]
        have hlt2 := KS_lt K3 (by omega)
        rw [bu_more (by omega) K3 (by omega) h44, ← tP_one (k := k2) ⟨by omega, by omega⟩]
        have up1 : tP T (k + 1) < tP T (k2 + 1) := by
          have a1 := KS_up K3 hlt2
          have a2 : ∀ m, k + 1 + m ≤ k2 → tP T (k + 1) ≤ tP T (k + 1 + m) := by
            intro m
            induction m with
            | zero => intro _; exact Nat.le_refl _
            | succ m im =>
              intro hm
              have := im (by omega)
              have hk' : KS (mu s3 131 4 ((k + 1 + m : Nat) : Int)) T u o (k + 1 + m) := KS_put (S := NX) K3 ((Fr.rf s3).mu ⟨rfl, rfl⟩) (fun q j hq hn => by unfold NX at hn; omega) (by unfold NX; omega) (by rw [mu_s]) (by omega)
              have := KS_up hk' (by omega)
              show tP T (k + 1) ≤ tP T (k + 1 + m + 1)
              omega
          have := a2 (k2 - (k + 1)) (by omega)
          rw [show k + 1 + (k2 - (k + 1)) = k2 by omega] at this
          omega
        have hI := ihf k2 M' (f + 1) (i + 1) s3 (if la = -1 then (f : Int) else fi) f (aI f) K3 hlt2 (by omega) (by rw [g3 _ _ (by omega), e12]) (by omega) (by rw [g3 _ _ (by omega), e13]) (by omega) (Or.inr ⟨by omega, by omega⟩) (by omega)
        cases hr : pFs T (pTy T D) fu (tP T (k2 + 1)) with
        | error e =>
          rw [hr] at hI
          obtain ⟨s4, i1, i2, i3⟩ := hI
          rw [bd_er]
          exact ⟨s4, i1, i2, (F3.mono (fun _ _ h => BF_X h)).tr (i3.mono (fun _ _ h => BFX_sub e14 e15 h))⟩
        | ok rq =>
          obtain ⟨r, q⟩ := rq
          rw [hr] at hI
          obtain ⟨s4, k4, M4, C4, f4, la4, i4, l5', i1, i2, i3, i5, i6, i7, i8, i9, i10, i11, ⟨i12, i13⟩, i14, i15, i16⟩ := hI
          rw [bd_ok]
          rw [if_neg (show ¬ ((f : Nat) : Int) = -1 by omega)] at i1
          have hfx := i8 (by omega)
          rw [Int.toNat_natCast] at hfx
          have q4 : ∀ k, k ≠ 123 → 119 ≤ k → k < 123 → s4 k f = s3 k f := fun k h1 h2 h3 => i16 _ _ (by unfold BF YF; omega)
          have A4 : AY s3 s4 M' C f := fun k j hk => i16 _ _ (by unfold BF YF; omega)
          refine ⟨s4, k4, M4, C4, f, la4, i4, l5', i1, i2, i3, i5, by omega, ⟨by omega, by omega, ?_, ?_, ⟨e10, e11⟩, ?_, ?_⟩, fun z => ?_, by simp only [fCons, tsz]; omega, i10, i11, ⟨by omega, by omega⟩, by omega, by omega, F3.tr (i16.mono (fun _ _ h => BF_sub e14 e15 h))⟩
          · rw [Int.toNat_natCast, q4 _ (by decide) (by decide) (by decide), hg, e6]
          · rw [Int.toNat_natCast, q4 _ (by decide) (by decide) (by decide), hg, e7]
          · rw [Int.toNat_natCast, q4 _ (by decide) (by decide) (by decide), hg, e8]
            exact CT_wide (CT_put T3 A4) i12 (Nat.le_refl _) (Nat.le_refl _)
          · rw [Int.toNat_natCast, hfx]
            exact i7
          · rw [i16 _ _ (by unfold BF YF; omega), g2 z]
      · rw [if_neg h44]
        by_cases h125 : cA T (tP T k2) = 125
        · rw [if_pos h125, bu_done (by omega) K3 (by omega) h44]
          refine ⟨s3, k2, M', f + 1, f, f, i + 1, aI f, rfl, K3, h125, rfl, by omega, ⟨by omega, by omega, ?_, ?_, ⟨e10, e11⟩, ?_, ?_⟩, g2, by simp only [fCons, tsz]; omega, by rw [g3 _ _ (by omega), e12], by rw [g3 _ _ (by omega), e13], ⟨by omega, by omega⟩, by omega, by omega, F3⟩
          · rw [Int.toNat_natCast, hg, e6]
          · rw [Int.toNat_natCast, hg, e7]
          · rw [Int.toNat_natCast, hg, e8]
            exact T3
          · rw [Int.toNat_natCast, hg, e9]
            rfl
        · rw [if_neg h125, bu_junk (by omega) K3 (by omega) h44 h125]
          exact ⟨_, rfl, by rw [mu_s], (F3.mono (fun _ _ h => BF_X h)).mu (Or.inl (Or.inr ⟨rfl, rfl⟩))⟩
theorem YF_0 {M C k j : Nat} {la : Int} (hla : la = -1) (h : BF M C la k j) : YF M C k j := h.elim id (fun h => by omega)
theorem YFX_0 {M C k j : Nat} {la : Int} (hla : la = -1) (h : BFX M C la k j) : YFX M C k j := h.elim id (fun h => by omega)
/-- a bundle -/
theorem k_bundle {d D k u o M C : Nat} {T : Tx} {s : Mem} (hd : 2 ≤ d) (hD : D ≤ 3) (ih : YI d D T u o) (h : KS s T u o k) (hc : cA T (tP T k) = 123) (hM : s 114 4 = M) (hMk : M ≤ k + 1) (hC : s 114 10 = C) (hCk : C ≤ k) :
    match pFs T (pTy T D) (T.2 + 1) (sk T (tP T k + 1)) with
    | .ok (fs, q) => ∃ (s' : Mem) (k' M' C' : Nat), Zc (d + 2) 133 [aR 131, aI ((4 : Int) - D - 1)] s = rI ((M' - 1 : Nat) : Int) s' ∧ 1 ≤ M' ∧ KS s' T u o k' ∧ tP T k' = q ∧ k < k' ∧ CT s' true (tB fs) ((M' - 1 : Nat) : Int) M' C C' 0 ∧ s' 114 4 = M' ∧ s' 114 10 = C' ∧ (M ≤ M' ∧ C ≤ C') ∧ M' + k ≤ M + k' ∧ C' + k ≤ C + k' ∧ Fr (YF M C) s s'
    | .error e => ∃ s', Zc (d + 2) 133 [aR 131, aI ((4 : Int) - D - 1)] s = rI (-1) s' ∧ s' 131 5 = e ∧ Fr (YFX M C) s s' := by
  have hlt := KS_lt h (by omega)
  have hle := KS_le h
  rw [← tP_one (k := k) ⟨by omega, by omega⟩]
  have e0 : Zc (d + 2) 133 [aR 131, aI ((4 : Int) - D - 1)] s = Ze (d + 1) 133 29 [aR 131, aI ((4 : Int) - D - 1), aI (-1), aI (-1), aI ((0 : Nat) : Int), aU] [] s := by
    have z0 : ((0 : Nat) : Int) = 0 := rfl
    simp (disch := first | exact obC_114 | exact obC_131 | omega | (simp only [aN1_123]; omega) | (simp only [List.length_cons, List.length_nil]; omega)) only [en133, x133_0, x133_1, x133_2, x133_3, x133_4, x133_5, x133_9, x133_12, x133_15, x133_17, x133_20, x133_21, x133_24, x133_26, x133_30, x133_30i, x133_31, x133_34, x133_35, x133_36, x133_39, x133_40, x133_41, x133_44, x133_46, x133_48, x133_49, x133_52, x133_53, x133_54, x133_55, x133_56, x133_59, x133_61, x133_62, x133_65, x133_66, x133_69, x133_72, x133_73, x133_75, x133_76, x133_78, x133_79, x133_82, x133_85, x133_86, x133_88, x133_91, x133_94, x133_95, x133_98, x133_99, x133_102, x133_105, x133_106, fcn_114_9, fcn_131_1, x133_7, if_true, if_false, eq_self, Int.reduceEq, Int.reduceLT, Int.reduceLE, Int.reduceAdd, Int.reduceSub, Int.reduceMul, Int.reduceToNat, Nat.reduceAdd, Nat.reduceMul, Nat.reduceEqDiff, Int.toNat_natCast, wrap_id, z0]
  have hb := bu_all hd hD ih (T.2 + 1) k M C 0 s (-1) (-1) aU h hlt (by omega) hM (by omega) hC (by omega) (Or.inl rfl) (Nat.zero_le _)
  cases hx : pFs T (pTy T D) (T.2 + 1) (tP T (k + 1)) with
  | error e =>
    rw [hx] at hb
    obtain ⟨s', e1, e2, e3⟩ := hb
    exact ⟨s', e0.trans e1, e2, e3.mono (fun _ _ h => YFX_0 rfl h)⟩
  | ok fq =>
    obtain ⟨fs, q⟩ := fq
    rw [hx] at hb
    obtain ⟨s1, k1, M', C', f, la, i, l5, e1, e2, e3, e4, e5, e6, e7, e8, e9, e10, ⟨e11, e12⟩, e13, e14, e15⟩ := hb
    rw [if_pos rfl] at e1
    obtain ⟨s2, g1, g2, g3, g4⟩ := kt_take (d := d + 1) (by omega) e2 (c := 125) (by decide) e3
    obtain ⟨-, n2⟩ := NX_at g4
    have hle2 := KS_le g2
    obtain ⟨s3, i1, i2, i3, i4, i5, i6⟩ := k_addBundle (d := d + 1) (M := M') (C := C') (b := M') (c := C) (fs := fs) (f := f) (s := s2) (by omega) (by rw [n2 _ _ (by decide), e9]) (by omega) (by rw [n2 _ _ (by decide), e10]) (by omega) (CC_put e6 (NX_AY g4)) (Nat.le_refl _) e12 e8
    have F3 : Fr (YF M C) s s3 := ((e15.mono (fun _ _ h => YF_0 rfl h)).tr (g4.mono (fun _ _ h => NX_YF h))).tr (i6.mono (fun _ _ h => YF_le e11 (Nat.le_refl _) h))
    refine ⟨s3, k1 + 1, M' + 1, C', ?_, by omega, KS_Y g2 (i6.mono (fun _ _ h => YF_X h)) (by rw [i5]; exact g2.2.2.2.1) hle2.2.2, by rw [g3, e4], by omega, i2, i3, i4, ⟨by omega, by omega⟩, by omega, by omega, F3⟩
    rw [e0, e1]
    simp (disch := first | exact obC_114 | exact obC_131 | omega | (simp only [aN1_123]; omega) | (simp only [List.length_cons, List.length_nil]; omega)) only [en133, x133_0, x133_1, x133_2, x133_3, x133_4, x133_5, x133_9, x133_12, x133_15, x133_17, x133_20, x133_21, x133_24, x133_26, x133_29, x133_30, x133_30i, x133_31, x133_34, x133_35, x133_36, x133_39, x133_40, x133_41, x133_44, x133_46, x133_48, x133_49, x133_52, x133_53, x133_54, x133_55, x133_56, x133_59, x133_61, x133_62, x133_65, x133_66, x133_69, x133_72, x133_73, x133_75, x133_76, x133_78, x133_79, x133_82, x133_85, x133_86, x133_88, x133_91, x133_94, x133_95, x133_98, x133_99, x133_102, x133_105, x133_106, fcn_114_9, fcn_131_1, if_true, if_false, eq_self, Int.reduceEq, Int.reduceLT, Int.reduceLE, Int.reduceAdd, Int.reduceSub, Int.reduceMul, Int.reduceToNat, Nat.reduceAdd, Nat.reduceMul, Nat.reduceEqDiff, Int.toNat_natCast, wrap_id, g1, zcI_r, i1, if_neg (show ¬ (1 : Int) = 0 by decide)]
    rfl
theorem k_type0 {d u o : Nat} {T : Tx} (hd : 1 ≤ d) : YI (d + 1) 0 T u o := by
  intro k M C s h hM hMk hC hCk
  rw [pTy_0]
  refine Or.inl ⟨_, ?_, by rw [mu_s], (Fr.rf s).mu (Or.inr ⟨rfl, rfl⟩)⟩
  have z : ((4 : Int) - (0 : Nat)) = 4 := rfl
  rw [z]
  simp (disch := first | exact obC_131 | omega | (simp only [List.length_cons, List.length_nil]; omega)) only [en130, x130_0, x130_1, x130_2, x130_5, x130_6, x130_9, x130_10, x130_11, x130_14, x130_16, x130_19, x130_20, x130_23, x130_24, x130_27, x130_28, x130_31, x130_33, x130_36, x130_37, x130_38, x130_41, x130_42, x130_45, x130_46, x130_49, x130_50, x130_51, x130_53, x130_56, x130_59, x130_60, x130_61, x130_64, x130_65, x130_68, x130_70, x130_73, x130_74, x130_75, x130_78, x130_79, x130_82, x130_85, x130_86, if_true, if_false, eq_self, Int.reduceEq, Int.reduceLT, Int.reduceLE, Int.reduceAdd, Int.reduceSub, Int.reduceMul, Int.reduceToNat, Nat.reduceAdd, Nat.reduceMul, Nat.reduceEqDiff, Int.toNat_natCast, wrap_id, kt_fail hd h, zcI_r]
theorem k_typeS {d D u o : Nat} {T : Tx} (hd : 2 ≤ d) (hD : D < 3) (ih : YI d D T u o) : YI (d + 3) (D + 1) T u o := by
  intro k M C s h hM hMk hC hCk
  have hdq : (4 : Int) - ((D + 1 : Nat) : Int) = (4 : Int) - D - 1 := by omega
  have hkd := kt_kind (d := d + 2) (by omega) h
  have hdp : ¬ 3 < (4 : Int) - D - 1 := by omega
  rw [pTy, hdq]
  by_cases h85 : cA T (tP T k) = 85
  · rw [if_pos h85]
    have hk : s 111 k = 85 := (KS_ch h (by decide)).mpr h85
    have hlt := KS_lt h (by omega)
    have hle := KS_le h
    rw [← tP_one (k := k) ⟨by omega, by omega⟩]
    have hty : ∀ v s', Zc (d + 2) 131 [aR 131] s = rI v s' → Zc (d + 3) 130 [aR 131, aI ((4 : Int) - D - 1)] s = Ze (d + 2) 130 52 [aR 131, aI ((4 : Int) - D - 1), aI v, aI ((0 : Nat) : Int)] [] s' := by
      intro v s' e
      have z0 : ((0 : Nat) : Int) = 0 := rfl
      simp (disch := first | exact obC_131 | omega | (simp only [List.length_cons, List.length_nil]; omega)) only [en130, x130_0, x130_1, x130_2, x130_5, x130_6, x130_9, x130_10, x130_11, x130_14, x130_16, x130_19, x130_20, x130_23, x130_24, x130_27, x130_28, x130_31, x130_33, x130_36, x130_37, x130_38, x130_41, x130_42, x130_45, x130_46, x130_49, x130_50, x130_51, x130_53, x130_56, x130_59, x130_60, x130_61, x130_64, x130_65, x130_68, x130_70, x130_73, x130_74, x130_75, x130_78, x130_79, x130_82, x130_85, x130_86, if_true, if_false, eq_self, Int.reduceEq, Int.reduceLT, Int.reduceLE, Int.reduceAdd, Int.reduceSub, Int.reduceMul, Int.reduceToNat, Nat.reduceAdd, Nat.reduceMul, Nat.reduceEqDiff, Int.toNat_natCast, wrap_id, if_neg hdp, hkd, zcI_r, hk, e, z0]
    rcases gt_U (d := d + 1) (by omega) h h85 hM hMk with ⟨hN, s1, e1, e2, e3, e4⟩ | ⟨hN, s1, e1, e2, e3, e4⟩ | ⟨hN, s1, e1, e2, e3⟩
    · rw [if_pos hN.1, hty _ _ e1]
      have hv : 1 ≤ nV T (tP T (k + 1)) (nE T (tP T (k + 1)) - tP T (k + 1)) ∧ nV T (tP T (k + 1)) (nE T (tP T (k + 1)) - tP T (k + 1)) ≤ 16 := ⟨hN.2.2.2.1, hN.2.2.2.2⟩
      unfold pNu
      rw [if_pos hN, bd_ok]
      generalize nV T (tP T (k + 1)) (nE T (tP T (k + 1)) - tP T (k + 1)) = v0 at hv ⊢
      obtain ⟨v, rfl⟩ : ∃ w : Nat, v0 = w := ⟨v0.toNat, by omega⟩
      rw [Int.toNat_natCast, ← e3]
      obtain ⟨a1, a2, a3, a4, a5, a6⟩ := tAdd_at (s := s1) (M := M) (z := 1) (a := 0) (p := v) (l := 0)
      obtain ⟨-, n2⟩ := NX_at e4
      have hle2 := KS_le e2
      exact vt_loop (by omega) hMk (T.2 + 1) (k + 2) M 0 (M + 1) C (tU v) _ (KS_Y e2 ((tAdd_fr (M := M) (C := C) (Nat.le_refl _)).mono (fun _ _ h => YF_X h)) (by rw [a6 _ _ (by omega)]; exact e2.2.2.2.1) hle2.2.2) (by omega) ⟨by omega, by omega, by rw [Int.toNat_natCast, a1], by rw [Int.toNat_natCast, a2], by rw [Int.toNat_natCast, a4]; rfl, by omega⟩ a5 (by rw [a6 _ _ (by omega), n2 _ _ (by decide), hC]) ⟨by omega, Nat.le_refl _⟩ (Nat.zero_le _) (by omega) (by omega) (by omega) ((e4.mono (fun _ _ h => NX_YF h)).tr (tAdd_fr (Nat.le_refl _)))
    · rw [if_pos e4, hty _ _ e1]
      unfold pNu
      rw [if_neg hN, bd_er]
      exact Or.inl ⟨s1, vt_none, e2, e3.mono (fun _ _ h => h.elim (fun h => YF_X (NX_YF h)) NF_YFX)⟩
    · rw [hty _ _ e1]
      obtain ⟨a1, a2, a3, a4, a5, a6⟩ := tAdd_at (s := s1) (M := M) (z := 1) (a := 0) (p := 0) (l := 0)
      obtain ⟨-, n2⟩ := NX_at e3
      have hle2 := KS_le e2
      have K1 : KS (tAdd s1 M 0 0 0 1) T u o (k + 1) := KS_Y e2 ((tAdd_fr (M := M) (C := C) (Nat.le_refl _)).mono (fun _ _ h => YF_X h)) (by rw [a6 _ _ (by omega)]; exact e2.2.2.2.1) hle2.2.2
      have F1 : Fr (YF M C) s (tAdd s1 M 0 0 0 1) := (e3.mono (fun _ _ h => NX_YF h)).tr (tAdd_fr (Nat.le_refl _))
      have hC1 : tAdd s1 M 0 0 0 1 114 10 = C := by rw [a6 _ _ (by omega), n2 _ _ (by decide), hC]
      by_cases hd' : isD (cA T (tP T (k + 1)))
      · rw [if_pos hd']
        unfold pNu
        rw [if_neg hN, bd_er, vt_stop (by omega) K1 (by omega)]
        exact Or.inr ⟨_, k + 1, M, C, rfl, K1, rfl, hd', hC1, Nat.le_refl _, by omega, by omega, F1⟩
      · rw [if_neg hd']
        exact vt_loop (by omega) hMk (T.2 + 1) (k + 1) M 0 (M + 1) C (tU 0) _ K1 (by omega) ⟨by omega, by omega, by rw [Int.toNat_natCast, a1], by rw [Int.toNat_natCast, a2]; rfl, by rw [Int.toNat_natCast, a4]; rfl, by omega⟩ a5 hC1 ⟨by omega, Nat.le_refl _⟩ (Nat.zero_le _) (by omega) (by omega) (by omega) F1
  · rw [if_neg h85]
    have hk : ¬ s 111 k = 85 := fun z => h85 ((KS_ch h (by decide)).mp z)
    by_cases h123 : cA T (tP T k) = 123
    · rw [if_pos h123]
      have hk2 : s 111 k = 123 := (KS_ch h (by decide)).mpr h123
      have hty : ∀ v s', Zc (d + 2) 133 [aR 131, aI ((4 : Int) - D - 1)] s = rI v s' → Zc (d + 3) 130 [aR 131, aI ((4 : Int) - D - 1)] s = Ze (d + 2) 130 52 [aR 131, aI ((4 : Int) - D - 1), aI v, aI ((0 : Nat) : Int)] [] s' := by
        intro v s' e
        have z0 : ((0 : Nat) : Int) = 0 := rfl
        simp (disch := first | exact obC_131 | omega | (simp only [List.length_cons, List.length_nil]; omega)) only [en130, x130_0, x130_1, x130_2, x130_5, x130_6, x130_9, x130_10, x130_11, x130_14, x130_16, x130_19, x130_20, x130_23, x130_24, x130_27, x130_28, x130_31, x130_33, x130_36, x130_37, x130_38, x130_41, x130_42, x130_45, x130_46, x130_49, x130_50, x130_51, x130_53, x130_56, x130_59, x130_60, x130_61, x130_64, x130_65, x130_68, x130_70, x130_73, x130_74, x130_75, x130_78, x130_79, x130_82, x130_85, x130_86, if_true, if_false, eq_self, Int.reduceEq, Int.reduceLT, Int.reduceLE, Int.reduceAdd, Int.reduceSub, Int.reduceMul, Int.reduceToNat, Nat.reduceAdd, Nat.reduceMul, Nat.reduceEqDiff, Int.toNat_natCast, wrap_id, if_neg hdp, hkd, zcI_r, hk2, e, z0]
      have hb := k_bundle hd (by omega) ih h h123 hM hMk hC hCk
      cases hx : pFs T (pTy T D) (T.2 + 1) (sk T (tP T k + 1)) with
      | error e =>
        rw [hx] at hb
        obtain ⟨s', e1, e2, e3⟩ := hb
        rw [bd_er]
        exact Or.inl ⟨s', by rw [hty _ _ e1]; exact vt_none, e2, e3⟩
      | ok fq =>
        obtain ⟨fs, q⟩ := fq
        rw [hx] at hb
        obtain ⟨s', k', M', C', e1, e2, e3, e4, e5, e6, e7, e8, e9, e10, e11, e12⟩ := hb
        rw [bd_ok, hty _ _ e1, ← e4]
        exact vt_loop (by omega) hMk (T.2 + 1) k' (M' - 1) 0 M' C' (tB fs) s' e3 (by omega) e6 e7 e8 e9 (Nat.zero_le _) e5 (by omega) (by omega) e12
    · rw [if_neg h123]
      have hk2 : ¬ s 111 k = 123 := fun z => h123 ((KS_ch h (by decide)).mp z)
      refine Or.inl ⟨_, ?_, by rw [mu_s], (Fr.rf s).mu (Or.inr ⟨rfl, rfl⟩)⟩
      simp (disch := first | exact obC_131 | omega | (simp only [List.length_cons, List.length_nil]; omega)) only [en130, x130_0, x130_1, x130_2, x130_5, x130_6, x130_9, x130_10, x130_11, x130_14, x130_16, x130_19, x130_20, x130_23, x130_24, x130_27, x130_28, x130_31, x130_33, x130_36, x130_37, x130_38, x130_41, x130_42, x130_45, x130_46, x130_49, x130_50, x130_51, x130_53, x130_56, x130_59, x130_60, x130_61, x130_64, x130_65, x130_68, x130_70, x130_73, x130_74, x130_75, x130_78, x130_79, x130_82, x130_85, x130_86, if_true, if_false, eq_self, Int.reduceEq, Int.reduceLT, Int.reduceLE, Int.reduceAdd, Int.reduceSub, Int.reduceMul, Int.reduceToNat, Nat.reduceAdd, Nat.reduceMul, Nat.reduceEqDiff, Int.toNat_natCast, wrap_id, if_neg hdp, hkd, zcI_r, if_neg hk, if_neg hk2, kt_fail (show 1 ≤ d + 2 by omega) h]
theorem k_type {u o : Nat} {T : Tx} : ∀ D d : Nat, D ≤ 3 → 3 * D + 2 ≤ d → YI d D T u o := by
  intro D
  induction D with
  | zero =>
    intro d _ hd
    obtain ⟨e, rfl⟩ : ∃ e, d = e + 1 := ⟨d - 1, by omega⟩
    exact k_type0 (by omega)
  | succ D ih =>
    intro d hD hd
    obtain ⟨e, rfl⟩ : ∃ e, d = e + 3 := ⟨d - 3, by omega⟩
    exact k_typeS (by omega) (by omega) (ih e (by omega) (by omega))
