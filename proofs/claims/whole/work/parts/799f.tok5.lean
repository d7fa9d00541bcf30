/-- what the scan writes -/
def FTK (k j : Nat) : Prop := k = 111 ∨ k = 112 ∨ k = 113 ∨ (k = 110 ∧ j = 3)
theorem tSt_fr {t : Nat → Int} {s : Mem} {i u : Nat} : Fr FTK s (tSt t s i u).1 := by
  unfold tSt
  split
  · unfold tGro
    dsimp only
    split
    · exact ((Fr.rf s).mu (Or.inr (Or.inr (Or.inl rfl)))).mu (Or.inl rfl)
    · exact (Fr.rf s).mu (Or.inr (Or.inr (Or.inl rfl)))
  · split
    · exact (Fr.rf s).mu (Or.inl rfl)
    · split
      · exact Fr.rf s
      · unfold tBeg
        exact ((((Fr.rf s).mu (Or.inr (Or.inl rfl))).mu (Or.inl rfl)).mu (Or.inr (Or.inr (Or.inl rfl)))).mu (Or.inr (Or.inr (Or.inr ⟨rfl, rfl⟩)))
theorem sc_loop {d : Nat} {T : Tx} (hd : 3 ≤ d) (hn : T.2 ≤ 200) : ∀ (m i u : Nat) (s : Mem) (l4 l5 : AV), i + m = T.2 → (∀ j, j < T.2 → s 57 j = T.1 j ∧ 32 ≤ T.1 j ∧ T.1 j ≤ 126) → SI s T i u →
    ∃ s' u' l4' l5', Ze d 157 7 [aR 110, aR 57, aI T.2, aI i, l4, l5] [] s = Ze d 157 7 [aR 110, aR 57, aI T.2, aI T.2, l4', l5'] [] s' ∧ SI s' T T.2 u' ∧ Fr FTK s s' := by
  intro m
  induction m with
  | zero =>
    intro i u s l4 l5 hi ht h
    rw [show i = T.2 by omega] at h ⊢
    exact ⟨s, u, l4, l5, rfl, h, Fr.rf s⟩
  | succ m ih =>
    intro i u s l4 l5 hi ht h
    have h1 := sc_one (d := d) (t := T.1) hd hn (show i < T.2 by omega) ht h.1 h.2.1 (SI_pre (by omega) hn h) l4 l5
    have hf := tSt_fr (t := T.1) (s := s) (i := i) (u := u)
    obtain ⟨s', u', a, b, e1, e2, e3⟩ := ih (i + 1) _ _ (aI (T.1 i)) (aI (lst T.1 i)) (by omega) (fun j hj => by rw [hf _ _ (by unfold FTK; omega)]; exact ht j hj) (SI_step (by omega) h)
    exact ⟨s', u', a, b, h1.trans e1, e2, hf.tr e3⟩
/-- the tokens of a text: u of them, and the end -/
def TKS (s : Mem) (T : Tx) (u : Nat) : Prop := u ≤ T.2 ∧ (∀ k, k < u → tP T k < T.2 ∧ PT s T k (tP T k) (tE T (tP T k) - tP T k)) ∧ tP T u = T.2 ∧ s 111 u = 0 ∧ s 112 u = T.2
theorem k_scan {d : Nat} {T : Tx} {s : Mem} (hd : 4 ≤ d) (hn : T.2 ≤ 200) (ht : ∀ j, j < T.2 → s 57 j = T.1 j ∧ 32 ≤ T.1 j ∧ T.1 j ≤ 126) : ∃ s' u, Zc d 157 [aR 110, aR 57, aI T.2] s = rV s' ∧ TKS s' T u ∧ Fr FTK s s' := by
  obtain ⟨d, rfl⟩ : ∃ e, d = e + 1 := ⟨d - 1, by omega⟩
  have h0 : Zc (d + 1) 157 [aR 110, aR 57, aI T.2] s = Ze d 157 7 [aR 110, aR 57, aI T.2, aI ((0 : Nat) : Int), aU, aU] [] (mu s 110 3 0) := by
    have z0 : ((0 : Nat) : Int) = 0 := rfl
    simp (disch := first | exact obC_110 | omega | (simp only [aN1_111, aN1_112]; omega) | (simp only [List.length_cons, List.length_nil]; omega)) only [en157, x157_0, x157_1, x157_2, x157_5, x157_6, x157_8, x157_9, x157_12, x157_13, x157_14, x157_15, x157_17, x157_18, x157_21, x157_22, x157_23, x157_24, x157_25, x157_26, x157_29, x157_31, x157_33, x157_35, x157_38, x157_41, x157_43, x157_46, x157_49, x157_50, x157_52, x157_53, x157_56, x157_59, x157_61, x157_63, x157_66, x157_68, x157_70, x157_73, x157_74, x157_77, x157_78, x157_81, x157_82, x157_83, x157_84, x157_85, x157_88, x157_90, x157_92, x157_95, x157_96, x157_98, x157_99, x157_102, x157_105, x157_108, x157_109, x157_112, x157_113, x157_116, x157_117, x157_118, x157_119, x157_122, x157_123, x157_126, x157_127, x157_128, fcn_110_0, fcn_110_1, if_true, if_false, eq_self, Int.reduceEq, Int.reduceLT, Int.reduceLE, Int.reduceAdd, Int.reduceSub, Int.reduceMul, Int.reduceToNat, Nat.reduceAdd, Nat.reduceMul, Nat.reduceEqDiff, Int.toNat_natCast, wrap_id, z0]
  have f0 : Fr FTK s (mu s 110 3 0) := (Fr.rf s).mu (Or.inr (Or.inr (Or.inr ⟨rfl, rfl⟩)))
  obtain ⟨s1, u, l4, l5, q1, q2, q3⟩ := sc_loop (d := d) (T := T) (by omega) hn T.2 0 0 (mu s 110 3 0) aU aU (Nat.zero_add _) (fun j hj => by rw [f0 _ _ (by unfold FTK; omega)]; exact ht j hj) ⟨by rw [mu_s]; rfl, Nat.le_refl _, fun k hk => by omega, Or.inl (Nat.zero_le _)⟩
  obtain ⟨a1, a2, a3, a4⟩ := q2
  have h2 : Ze d 157 7 [aR 110, aR 57, aI T.2, aI T.2, l4, l5] [] s1 = rV (mu (mu s1 111 u 0) 112 u T.2) := by
    rw [x157_7]
    simp (disch := first | exact obC_110 | omega | (simp only [aN1_111, aN1_112]; omega) | (simp only [List.length_cons, List.length_nil]; omega)) only [en157, x157_0, x157_1, x157_2, x157_5, x157_6, x157_8, x157_9, x157_12, x157_13, x157_14, x157_15, x157_17, x157_18, x157_21, x157_22, x157_23, x157_24, x157_25, x157_26, x157_29, x157_31, x157_33, x157_35, x157_38, x157_41, x157_43, x157_46, x157_49, x157_50, x157_52, x157_53, x157_56, x157_59, x157_61, x157_63, x157_66, x157_68, x157_70, x157_73, x157_74, x157_77, x157_78, x157_81, x157_82, x157_83, x157_84, x157_85, x157_88, x157_90, x157_92, x157_95, x157_96, x157_98, x157_99, x157_102, x157_105, x157_108, x157_109, x157_112, x157_113, x157_116, x157_117, x157_118, x157_119, x157_122, x157_123, x157_126, x157_127, x157_128, fcn_110_0, fcn_110_1, if_true, if_false, eq_self, Int.reduceEq, Int.reduceLT, Int.reduceLE, Int.reduceAdd, Int.reduceSub, Int.reduceMul, Int.reduceToNat, Nat.reduceAdd, Nat.reduceMul, Nat.reduceEqDiff, Int.toNat_natCast, wrap_id, if_neg (show ¬ (T.2 : Int) < T.2 by omega), a1, mu_c]
  have hup := tQ_up (T := T) (u := u) (fun k hk => (a3 k hk).1)
  refine ⟨_, u, by rw [h0, q1, h2], ⟨a2, fun k hk => ?_, ?_, by rw [mu_c (by decide), mu_s], by rw [mu_s]⟩, (f0.tr q3).tr (((Fr.rf s1).mu (Or.inl rfl)).mu (Or.inr (Or.inl rfl)))⟩
  · obtain ⟨k1, k2⟩ := a3 k hk
    have g := tE_gt k1
    rw [show min (tE T (tP T k)) T.2 = tE T (tP T k) by omega] at k2
    exact ⟨k1, PT_put (fun q _ => by rw [mu_i (by omega), mu_i (by omega)]) k2⟩
  · have hq : tQ T u ≤ T.2 := by
      cases u with
      | zero => exact Nat.zero_le _
      | succ v => exact (tE_gt (a3 v (by omega)).1).2
    rcases a4 with a4 | ⟨-, -, a4⟩
    · have : tP T u = sk T (tQ T u) := rfl
      rw [this, show tQ T u = T.2 by omega]
      have := sk_ge T T.2
      have := sk_le T (Nat.le_refl T.2)
      omega
    · rw [← a4]
      have := sk_ge T T.2
      have := sk_le T (Nat.le_refl T.2)
      omega
