def FP (n i k j : Nat) : Prop := (k = 0 ∧ j = 2) ∨ (k = 18 ∧ j = n) ∨ (k = 21 ∧ j = n) ∨ (k = 20 ∧ 6 * n + i ≤ j)
theorem RPath_le {s : Mem} {n : Nat} {r : Jvm.Term} {i : Nat} : RPath s n r i → i ≤ 6 := by
  fun_induction RPath s n r i with
  | case1 i k r ih => exact fun h => by have := ih h.2; omega
  | case2 t i h => exact fun h => h.2
theorem RPath_put {s s' : Mem} {n : Nat} (hm : s' 21 n = s 21 n) {r : Jvm.Term} {i : Nat} : RPath s n r i → (∀ j, 6 * n + i ≤ j → j < 6 * n + 6 → s' 20 j = s 20 j) → RPath s' n r i := by
  fun_induction RPath s n r i with
  | case1 i k r ih =>
    intro h hp
    have hle := RPath_le h.2
    exact ⟨(hp _ (by omega) (by omega)).trans h.1, ih h.2 (fun j h1 h2 => hp j (by omega) h2)⟩
  | case2 t i hno =>
    intro h hp
    unfold RPath
    split
    next => exact (hno _ _ rfl).elim
    next => exact ⟨hm.trans h.1, h.2⟩
theorem t_takeRef_loop {d n : Nat} (hd : 5 ≤ d) (hn : n < 220) : ∀ (m i p : Nat) (s : Mem) (l3 : AV), i + m = 6 → okT s → s 0 5 = 0 → s 0 2 = p → sk (tx s) p = p → p ≤ (tx s).2 → s 21 n = i → s 0 32 = ((n + 1 : Nat) : Int) →
    match pPath (tx s) m p with
    | .ok (r, q) => ∃ s', Ze d 17 21 [aR 0, aI n, aI (cA (tx s) p), l3] [] s = rI n s' ∧ RPath s' n r i ∧ s' 0 2 = q ∧ sk (tx s) q = q ∧ q ≤ (tx s).2 ∧ p ≤ q ∧ s' 18 n = ((n + 1 : Nat) : Int) ∧ Fr (FP n i) s s'
    | .error f => ∃ s', Ze d 17 21 [aR 0, aI n, aI (cA (tx s) p), l3] [] s = rI n s' ∧ s' 0 5 = 1 ∧ s' 0 3 = f ∧ Fr (SX n) s s' := by
  intro m
  induction m with
  | zero =>
    intro i p s l3 him ho hb hat hsk hp hpm hnd
    unfold pPath
    by_cases h1 : cA (tx s) p = 46 ∨ cA (tx s) p = 91
    · rw [if_pos h1]
      dsimp only
      have hk := t_wrong (d := d) (by omega) s p
      rw [wr_0 hb] at hk
      refine ⟨mu (mu s 0 3 p) 0 5 1, ?_, mu_s, by rw [mu_i (by decide), mu_s], ?_⟩
      · rw [x17_21]
        rcases h1 with h1 | h1
        · rw [h1]
          simp (disch := first | exact obC_0 | omega | (simp only [aN1_13, aN1_18, aN1_20, aN1_21]; omega) | (simp only [List.length_cons, List.length_nil]; omega)) only [en17, x17_0, x17_1, x17_2, x17_5, x17_6, x17_7, x17_10, x17_11, x17_12, x17_15, x17_16, x17_17, x17_20, x17_22, x17_25, x17_28, x17_29, x17_31, x17_34, x17_35, x17_37, x17_40, x17_41, x17_44, x17_45, x17_46, x17_48, x17_51, x17_52, x17_53, x17_56, x17_59, x17_60, x17_61, x17_62, x17_62i, x17_63, x17_66, x17_67, x17_68, x17_71, x17_72, x17_74, x17_77, x17_78, x17_81, x17_84, x17_86, x17_87, x17_88, x17_90, x17_93, x17_94, x17_95, x17_96, x17_98, x17_101, x17_102, x17_104, x17_107, x17_108, x17_111, x17_113, x17_114, x17_115, x17_116, x17_119, x17_120, x17_121, x17_122, x17_123, x17_124, x17_125, x17_128, x17_129, x17_130, x17_131, x17_132, x17_133, x17_134, x17_135, x17_138, x17_139, x17_142, x17_143, x17_146, x17_147, x17_148, x17_151, x17_152, x17_153, fcn_0_20, fcn_0_25, fcn_0_27, fcn_0_28, if_true, if_false, eq_self, Int.reduceEq, Int.reduceLT, Int.reduceLE, Int.reduceAdd, Int.reduceSub, Int.reduceMul, Int.reduceToNat, Nat.reduceAdd, Nat.reduceMul, Nat.reduceEqDiff, Int.toNat_natCast, wrap_id, if_pos hb, hat, hpm, hk, zcV_r, if_pos (show (i : Int) = 6 by omega)]
        · rw [h1]
          simp (disch := first | exact obC_0 | omega | (simp only [aN1_13, aN1_18, aN1_20, aN1_21]; omega) | (simp only [List.length_cons, List.length_nil]; omega)) only [en17, x17_0, x17_1, x17_2, x17_5, x17_6, x17_7, x17_10, x17_11, x17_12, x17_15, x17_16, x17_17, x17_20, x17_22, x17_25, x17_28, x17_29, x17_31, x17_34, x17_35, x17_37, x17_40, x17_41, x17_44, x17_45, x17_46, x17_48, x17_51, x17_52, x17_53, x17_56, x17_59, x17_60, x17_61, x17_62, x17_62i, x17_63, x17_66, x17_67, x17_68, x17_71, x17_72, x17_74, x17_77, x17_78, x17_81, x17_84, x17_86, x17_87, x17_88, x17_90, x17_93, x17_94, x17_95, x17_96, x17_98, x17_101, x17_102, x17_104, x17_107, x17_108, x17_111, x17_113, x17_114, x17_115, x17_116, x17_119, x17_120, x17_121, x17_122, x17_123, x17_124, x17_125, x17_128, x17_129, x17_130, x17_131, x17_132, x17_133, x17_134, x17_135, x17_138, x17_139, x17_142, x17_143, x17_146, x17_147, x17_148, x17_151, x17_152, x17_153, fcn_0_20, fcn_0_25, fcn_0_27, fcn_0_28, if_true, if_false, eq_self, Int.reduceEq, Int.reduceLT, Int.reduceLE, Int.reduceAdd, Int.reduceSub, Int.reduceMul, Int.reduceToNat, Nat.reduceAdd, Nat.reduceMul, Nat.reduceEqDiff, Int.toNat_natCast, wrap_id, if_pos hb, hat, hpm, hk, zcV_r, if_pos (show (i : Int) = 6 by omega)]
      · (repeat (first | exact Fr.rf _ | refine Fr.mu ?_ (by first | (unfold SX SE; omega) | (unfold SE; omega) | omega)))
    · rw [if_neg h1]
      dsimp only
      simp only [not_or] at h1
      refine ⟨mu s 18 n (((n + 1 : Nat) : Int)), ?_, ⟨by rw [mu_c (by decide), hpm], by omega⟩, by rw [mu_c (by decide), hat], hsk, hp, Nat.le_refl _, mu_s, ?_⟩
      · rw [x17_21]
        simp (disch := first | exact obC_0 | omega | (simp only [aN1_13, aN1_18, aN1_20, aN1_21]; omega) | (simp only [List.length_cons, List.length_nil]; omega)) only [en17, x17_0, x17_1, x17_2, x17_5, x17_6, x17_7, x17_10, x17_11, x17_12, x17_15, x17_16, x17_17, x17_20, x17_22, x17_25, x17_28, x17_29, x17_31, x17_34, x17_35, x17_37, x17_40, x17_41, x17_44, x17_45, x17_46, x17_48, x17_51, x17_52, x17_53, x17_56, x17_59, x17_60, x17_61, x17_62, x17_62i, x17_63, x17_66, x17_67, x17_68, x17_71, x17_72, x17_74, x17_77, x17_78, x17_81, x17_84, x17_86, x17_87, x17_88, x17_90, x17_93, x17_94, x17_95, x17_96, x17_98, x17_101, x17_102, x17_104, x17_107, x17_108, x17_111, x17_113, x17_114, x17_115, x17_116, x17_119, x17_120, x17_121, x17_122, x17_123, x17_124, x17_125, x17_128, x17_129, x17_130, x17_131, x17_132, x17_133, x17_134, x17_135, x17_138, x17_139, x17_142, x17_143, x17_146, x17_147, x17_148, x17_151, x17_152, x17_153, fcn_0_20, fcn_0_25, fcn_0_27, fcn_0_28, if_true, if_false, eq_self, Int.reduceEq, Int.reduceLT, Int.reduceLE, Int.reduceAdd, Int.reduceSub, Int.reduceMul, Int.reduceToNat, Nat.reduceAdd, Nat.reduceMul, Nat.reduceEqDiff, Int.toNat_natCast, wrap_id, if_pos hb, if_neg h1.1, if_neg h1.2, hnd]
      · exact (Fr.rf _).mu (Or.inr (Or.inl ⟨rfl, rfl⟩))
  | succ m ih =>
    intro i p s l3 him ho hb hat hsk hp hpm hnd
    unfold pPath
    have hi : i < 6 := by omega
    have key : ∀ (s1 : Mem) (p3 : Nat) (v : Int) (k : Nat), v = k → (sk (tx s) p3 = p3) → p3 ≤ (tx s).2 → p ≤ p3 → s1 0 2 = p3 → s1 21 n = ((i + 1 : Nat) : Int) → s1 20 (6 * n + i) = v → Fr (fun k j => (k = 0 ∧ j = 2) ∨ (k = 21 ∧ j = n) ∨ (k = 20 ∧ j = 6 * n + i)) s s1 →
        Ze d 17 21 [aR 0, aI n, aI (cA (tx s) p), l3] [] s = Ze d 17 21 [aR 0, aI n, aI (cA (tx s) p3), aI v] [] s1 →
        match bd (pPath (tx s) m p3) (fun r q => (.ok (pPart k r, q) : PR Jvm.Term)) with
        | .ok (r, q) => ∃ s', Ze d 17 21 [aR 0, aI n, aI (cA (tx s) p), l3] [] s = rI n s' ∧ RPath s' n r i ∧ s' 0 2 = q ∧ sk (tx s) q = q ∧ q ≤ (tx s).2 ∧ p ≤ q ∧ s' 18 n = ((n + 1 : Nat) : Int) ∧ Fr (FP n i) s s'
        | .error f => ∃ s', Ze d 17 21 [aR 0, aI n, aI (cA (tx s) p), l3] [] s = rI n s' ∧ s' 0 5 = 1 ∧ s' 0 3 = f ∧ Fr (SX n) s s' := by
      intro s1 p3 v k hv hk3 hp3 hpp hat1 hpm1 hpo hf hz
      have ex := hf.tx (by omega) (by omega)
      have := ih (i + 1) p3 s1 (aI v) (by omega) (hf.okT (by omega) (by omega) ho) (by rw [hf _ _ (by omega), hb]) hat1 (by rw [ex, hk3]) (by rw [ex]; exact hp3) hpm1 (by rw [hf _ _ (by omega), hnd])
      rw [ex] at this
      rw [hz]
      cases hq : pPath (tx s) m p3 with
      | error f =>
        rw [hq] at this
        obtain ⟨s', h1, h2, h3, h4⟩ := this
        exact ⟨s', h1, h2, h3, (hf.mono (fun a b hab => by unfold SX SE; omega)).tr h4⟩
      | ok t =>
        obtain ⟨r, q⟩ := t
        rw [hq] at this
        obtain ⟨s', h1, h2, h3, h4, h5, h6, h7, h8⟩ := this
        refine ⟨s', h1, ⟨?_, h2⟩, h3, h4, h5, by omega, h7, (hf.mono (fun a b hab => by unfold FP; omega)).tr (h8.mono (fun a b hab => by unfold FP at *; omega))⟩
        rw [h8 _ _ (by unfold FP; omega), hpo, hv]
    by_cases h46 : cA (tx s) p = 46
    · rw [if_pos h46]
      have hpl : p < (tx s).2 := cA_in (by omega)
      by_cases hN : isN (cA (tx s) (sk (tx s) (p + 1)))
      · obtain ⟨s1, h1, h2, h3, h4, h5⟩ := t_takeRef_46 hd hn i p s l3 hi ho hb hat hpl hpm h46 hN
        have hp1 := sk_ge (tx s) (p + 1)
        have hp2 : sk (tx s) (p + 1) < (tx s).2 := cA_in (by have := hN.1; omega)
        have hp3 := sk_ge (tx s) (sk (tx s) (p + 1) + 1)
        have hp4 := sk_le (tx s) (j := sk (tx s) (p + 1) + 1) (by omega)
        unfold pNm
        rw [if_pos hN, bd_ok]
        exact key s1 _ _ _ (by have := hN.1; omega) (sk_sk _ _) hp4 (by omega) h2 h3 h4 h5 h1
      · obtain ⟨s1, h1, h2, h3, h4⟩ := t_takeRef_46f hd hn i p s l3 hi ho hb hat hpl hpm h46 hN
        unfold pNm
        rw [if_neg hN, bd_er]
        exact ⟨s1, h1, h2, h3, h4⟩
    · rw [if_neg h46]
      by_cases h91 : cA (tx s) p = 91
      · rw [if_pos h91]
        have hpl : p < (tx s).2 := cA_in (by omega)
        have hp1 := sk_ge (tx s) (p + 1)
        have hp1' := sk_le (tx s) (j := p + 1) (by omega)
        by_cases hN : okNu (tx s) 0 65535 (sk (tx s) (p + 1))
        · have hq := nE_ge (tx s) (sk (tx s) (p + 1))
          have hq' := nE_le (tx s) hp1'
          have hp2 := sk_ge (tx s) (nE (tx s) (sk (tx s) (p + 1)))
          unfold pNu
          rw [if_pos hN, bd_ok]
          unfold pTk
          by_cases h93 : cA (tx s) (sk (tx s) (nE (tx s) (sk (tx s) (p + 1)))) = 93
          · obtain ⟨s1, h1, h2, h3, h4, h5⟩ := t_takeRef_91 hd hn i p s l3 hi ho hb hat hpl hpm h91 rfl rfl rfl rfl hN h93
            rw [if_pos h93, bd_ok]
            have hpl2 : sk (tx s) (nE (tx s) (sk (tx s) (p + 1))) < (tx s).2 := cA_in (by omega)
            have hp3 := sk_ge (tx s) (sk (tx s) (nE (tx s) (sk (tx s) (p + 1))) + 1)
            have hp4 := sk_le (tx s) (j := sk (tx s) (nE (tx s) (sk (tx s) (p + 1))) + 1) (by omega)
            exact key s1 _ _ _ (by have := hN.2.2.2.1; omega) (sk_sk _ _) hp4 (by omega) h2 h3 h4 h5 h1
          · obtain ⟨s1, h1, h2, h3, h4⟩ := t_takeRef_93f hd hn i p s l3 hi ho hb hat hpl hpm h91 rfl rfl rfl hN h93
            rw [if_neg h93, bd_er]
            exact ⟨s1, h1, h2, h3, h4⟩
        · obtain ⟨s1, h1, h2, h3, h4⟩ := t_takeRef_91f hd hn i p s l3 hi ho hb hat hpl hpm h91 rfl hN
          unfold pNu
          rw [if_neg hN, bd_er]
          exact ⟨s1, h1, h2, h3, h4⟩
      · rw [if_neg h91]
        dsimp only
        refine ⟨mu s 18 n (((n + 1 : Nat) : Int)), ?_, ⟨by rw [mu_c (by decide), hpm], by omega⟩, by rw [mu_c (by decide), hat], hsk, hp, Nat.le_refl _, mu_s, ?_⟩
        · rw [x17_21]
          simp (disch := first | exact obC_0 | omega | (simp only [aN1_13, aN1_18, aN1_20, aN1_21]; omega) | (simp only [List.length_cons, List.length_nil]; omega)) only [en17, x17_0, x17_1, x17_2, x17_5, x17_6, x17_7, x17_10, x17_11, x17_12, x17_15, x17_16, x17_17, x17_20, x17_22, x17_25, x17_28, x17_29, x17_31, x17_34, x17_35, x17_37, x17_40, x17_41, x17_44, x17_45, x17_46, x17_48, x17_51, x17_52, x17_53, x17_56, x17_59, x17_60, x17_61, x17_62, x17_62i, x17_63, x17_66, x17_67, x17_68, x17_71, x17_72, x17_74, x17_77, x17_78, x17_81, x17_84, x17_86, x17_87, x17_88, x17_90, x17_93, x17_94, x17_95, x17_96, x17_98, x17_101, x17_102, x17_104, x17_107, x17_108, x17_111, x17_113, x17_114, x17_115, x17_116, x17_119, x17_120, x17_121, x17_122, x17_123, x17_124, x17_125, x17_128, x17_129, x17_130, x17_131, x17_132, x17_133, x17_134, x17_135, x17_138, x17_139, x17_142, x17_143, x17_146, x17_147, x17_148, x17_151, x17_152, x17_153, fcn_0_20, fcn_0_25, fcn_0_27, fcn_0_28, if_true, if_false, eq_self, Int.reduceEq, Int.reduceLT, Int.reduceLE, Int.reduceAdd, Int.reduceSub, Int.reduceMul, Int.reduceToNat, Nat.reduceAdd, Nat.reduceMul, Nat.reduceEqDiff, Int.toNat_natCast, wrap_id, if_pos hb, if_neg h46, if_neg h91, hnd]
        · exact (Fr.rf _).mu (Or.inr (Or.inl ⟨rfl, rfl⟩))
/-- takeRef: the whole -/
theorem t_takeRef {d n p j : Nat} (hd : 6 ≤ d) (hn : n < 220) (s : Mem) (ho : okT s) (hb : s 0 5 = 0) (hat : s 0 2 = j) (hj : j ≤ (tx s).2) (hp : sk (tx s) j = p) (hnd : s 0 32 = n) (hN : isN (cA (tx s) p)) :
    match pRf (tx s) p with
    | .ok (e, q) => ∃ (s' : Mem) (nm : Nat) (r : Jvm.Term), e = eRef nm r ∧ Zc d 17 [aR 0] s = rI n s' ∧ s' 12 n = 0 ∧ s' 13 n = nm ∧ nm < 26 ∧ RPath s' n r 0 ∧ s' 18 n = ((n + 1 : Nat) : Int) ∧ s' 15 n = -1 ∧ s' 0 2 = q ∧ s' 0 32 = ((n + 1 : Nat) : Int) ∧ sk (tx s) q = q ∧ q ≤ (tx s).2 ∧ p < q ∧ Fr (SE n) s s'
    | .error f => ∃ s', Zc d 17 [aR 0] s = rI n s' ∧ s' 0 5 = 1 ∧ s' 0 3 = f ∧ Fr (SX n) s s' := by
  obtain ⟨d, rfl⟩ : ∃ e, d = e + 1 := ⟨d - 1, by omega⟩
  have hlen := tx_le ho
  have hpl : p < (tx s).2 := cA_in (by have := hN.1; omega)
  have hnn := t_newNode (d := d) (by omega) s hnd hn 0
  have f1 : Fr (SE n) s (nNode s n 0) := by unfold nNode; (repeat (first | exact Fr.rf _ | refine Fr.mu ?_ (by first | (unfold SX SE; omega) | (unfold SE; omega) | omega)))
  have x1 := (f1.mono (fun a b => SE_X)).tx SX_len SX_txt
  have o1 := (f1.mono (fun a b => SE_X)).okT SX_len SX_txt ho
  have a1 : nNode s n 0 0 2 = j := by unfold nNode; rw [mu_i (by decide), mu_c (by decide), mu_c (by decide), mu_c (by decide), mu_c (by decide), mu_c (by decide), hat]
  have hk := t_takeName (d := d) (by omega) (nNode s n 0) o1 a1 (by rw [x1]; exact hj)
  rw [x1, hp, if_pos hN] at hk
  have hcr := cA_rng ho p
  generalize hs1 : mu (mu (nNode s n 0) 0 2 ((p : Int) + 1)) 13 n (cA (tx s) p - 97) = s1
  have f2 : Fr (SE n) s s1 := by rw [← hs1]; exact (f1.mu (by unfold SE; omega)).mu (by unfold SE; omega)
  have x2 := (f2.mono (fun a b => SE_X)).tx SX_len SX_txt
  have o2 := (f2.mono (fun a b => SE_X)).okT SX_len SX_txt ho
  have hk2 := t_here (d := d) (by omega) s1 o2 (j := p + 1) (by rw [← hs1, mu_c (by decide), mu_s]; omega) (by rw [x2]; omega)
  rw [x2] at hk2
  have hp1 := sk_le (tx s) (j := p + 1) (by omega)
  have hp2 := sk_ge (tx s) (p + 1)
  generalize hs2 : mu s1 0 2 (sk (tx s) (p + 1) : Nat) = s2 at hk2
  have f3 : Fr (SE n) s s2 := by rw [← hs2]; exact f2.mu (by unfold SE; omega)
  have x3 := (f3.mono (fun a b => SE_X)).tx SX_len SX_txt
  have o3 := (f3.mono (fun a b => SE_X)).okT SX_len SX_txt ho
  have hin : Zc (d + 1) 17 [aR 0] s = Ze d 17 21 [aR 0, aI n, aI (cA (tx s) (sk (tx s) (p + 1))), aU] [] s2 := by
    simp (disch := first | exact obC_0 | omega | (simp only [aN1_13, aN1_18, aN1_20, aN1_21]; omega) | (simp only [List.length_cons, List.length_nil]; omega)) only [en17, x17_0, x17_1, x17_2, x17_5, x17_6, x17_7, x17_10, x17_11, x17_12, x17_15, x17_16, x17_17, x17_20, x17_22, x17_25, x17_28, x17_29, x17_31, x17_34, x17_35, x17_37, x17_40, x17_41, x17_44, x17_45, x17_46, x17_48, x17_51, x17_52, x17_53, x17_56, x17_59, x17_60, x17_61, x17_62, x17_62i, x17_63, x17_66, x17_67, x17_68, x17_71, x17_72, x17_74, x17_77, x17_78, x17_81, x17_84, x17_86, x17_87, x17_88, x17_90, x17_93, x17_94, x17_95, x17_96, x17_98, x17_101, x17_102, x17_104, x17_107, x17_108, x17_111, x17_113, x17_114, x17_115, x17_116, x17_119, x17_120, x17_121, x17_122, x17_123, x17_124, x17_125, x17_128, x17_129, x17_130, x17_131, x17_132, x17_133, x17_134, x17_135, x17_138, x17_139, x17_142, x17_143, x17_146, x17_147, x17_148, x17_151, x17_152, x17_153, fcn_0_20, fcn_0_25, fcn_0_27, fcn_0_28, if_true, if_false, eq_self, Int.reduceEq, Int.reduceLT, Int.reduceLE, Int.reduceAdd, Int.reduceSub, Int.reduceMul, Int.reduceToNat, Nat.reduceAdd, Nat.reduceMul, Nat.reduceEqDiff, Int.toNat_natCast, wrap_id, hnn, hk, hk2, hs1, zcI_r]
  have hlp := t_takeRef_loop (d := d) (by omega) hn 6 0 (sk (tx s) (p + 1)) s2 aU rfl o3 (by rw [← hs2, mu_i (by decide), ← hs1, mu_c (by decide), mu_i (by decide)]; unfold nNode; rw [mu_i (by decide), mu_c (by decide), mu_c (by decide), mu_c (by decide), mu_c (by decide), mu_c (by decide), hb]) (by rw [← hs2, mu_s]) (by rw [x3, sk_sk]) (by rw [x3]; exact hp1) (by rw [← hs2, mu_c (by decide), ← hs1, mu_c (by decide), mu_c (by decide)]; unfold nNode; rw [mu_c (by decide), mu_s]; rfl) (by rw [← hs2, mu_i (by decide), ← hs1, mu_c (by decide), mu_i (by decide)]; unfold nNode; rw [mu_s]; rfl)
  rw [x3] at hlp
  unfold pRf pNm
  rw [if_pos hN, bd_ok, hin]
  cases hq : pPath (tx s) 6 (sk (tx s) (p + 1)) with
  | error f =>
    rw [hq] at hlp
    obtain ⟨s', h1, h2, h3, h4⟩ := hlp
    exact ⟨s', h1, h2, h3, (f3.mono (fun a b => SE_X)).tr h4⟩
  | ok t =>
    obtain ⟨r, q⟩ := t
    rw [hq] at hlp
    obtain ⟨s', h1, h2, h3, h4, h5, h6, h7, h8⟩ := hlp
    have hnum := hN.1
    have hnum2 := hN.2
    refine ⟨s', _, r, rfl, h1, ?_, ?_, by omega, h2, h7, ?_, h3, ?_, h4, h5, by omega, f3.tr (h8.mono (fun a b hab => by unfold FP at hab; unfold SE; omega))⟩
    · rw [h8 _ _ (by unfold FP; omega), ← hs2, mu_c (by decide), ← hs1, mu_c (by decide), mu_c (by decide)]
      unfold nNode
      rw [mu_c (by decide), mu_c (by decide), mu_c (by decide), mu_c (by decide), mu_c (by decide), mu_s]
    · rw [h8 _ _ (by unfold FP; omega), ← hs2, mu_c (by decide), ← hs1, mu_s]
      omega
    · rw [h8 _ _ (by unfold FP; omega), ← hs2, mu_c (by decide), ← hs1, mu_c (by decide), mu_c (by decide)]
      unfold nNode
      rw [mu_c (by decide), mu_c (by decide), mu_c (by decide), mu_c (by decide), mu_s]
    · rw [h8 _ _ (by unfold FP; omega), ← hs2, mu_i (by decide), ← hs1, mu_c (by decide), mu_i (by decide)]
      unfold nNode
      rw [mu_s]
      rfl
