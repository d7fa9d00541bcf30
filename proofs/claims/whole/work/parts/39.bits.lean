noncomputable def pBits (T : Tx) (p : Nat) : PR (Nat × Nat) := bd (pTk T 44 p) fun _ p1 => bd (pNu T 0 15 p1) fun h p2 => bd (pTk T 44 p2) fun _ p3 => bd (pNu T 0 h p3) fun l p4 => .ok ((h, l), p4)
def FB (n k j : Nat) : Prop := (k = 0 ∧ j = 2) ∨ ((k = 14 ∨ k = 13) ∧ j = n)
def FBX (n k j : Nat) : Prop := FB n k j ∨ (k = 0 ∧ (j = 5 ∨ j = 3))
theorem FB_X {n k j : Nat} (h : FB n k j) : FBX n k j := Or.inl h
theorem pTk_ok {T : Tx} {c : Int} {p : Nat} (h : cA T p = c) : pTk T c p = .ok ((), sk T (p + 1)) := if_pos h
theorem pTk_no {T : Tx} {c : Int} {p : Nat} (h : ¬ cA T p = c) : pTk T c p = .error p := if_neg h
theorem pNu_ok {T : Tx} {lo hi : Int} {p : Nat} (h : okNu T lo hi p) : pNu T lo hi p = .ok ((nV T p (nE T p - p)).toNat, sk T (nE T p)) := by unfold pNu; rw [if_pos h]
theorem pNu_no {T : Tx} {lo hi : Int} {p : Nat} (h : ¬ okNu T lo hi p) : pNu T lo hi p = .error p := by unfold pNu; rw [if_neg h]
/-- a state with the place a alone changed -/
theorem at_st {s : Mem} (ho : okT s) (a : Int) : tx (mu s 0 2 a) = tx s ∧ okT (mu s 0 2 a) ∧ mu s 0 2 a 0 2 = a ∧ mu s 0 2 a 0 5 = s 0 5 := ⟨tx_mu (by decide), okT_mu (by decide) ho, mu_s, mu_i (by decide)⟩
theorem t_bits {d n p j : Nat} (hd : 6 ≤ d) (hn : n < 220) (s : Mem) (ho : okT s) (hb : s 0 5 = 0) (hat : s 0 2 = j) (hj : j ≤ (tx s).2) (hp : sk (tx s) j = p) :
    match pBits (tx s) p with
    | .ok (hl, q) => ∃ (s' : Mem) (j' : Nat), Zc d 21 [aR 0, aI n] s = rV s' ∧ s' 14 n = hl.1 ∧ s' 13 n = hl.2 ∧ hl.1 ≤ 15 ∧ hl.2 ≤ hl.1 ∧ s' 0 2 = j' ∧ sk (tx s) j' = q ∧ j' ≤ (tx s).2 ∧ p < j' ∧ Fr (FB n) s s'
    | .error f => ∃ s', Zc d 21 [aR 0, aI n] s = rV s' ∧ s' 0 5 = 1 ∧ s' 0 3 = f ∧ Fr (FBX n) s s' := by
  obtain ⟨d, rfl⟩ : ∃ e, d = e + 1 := ⟨d - 1, by omega⟩
  have hlen := tx_le ho
  have hpn := sk_le (tx s) hj
  have hpj := sk_ge (tx s) j
  rw [hp] at hpn hpj
  unfold pBits
  by_cases h1 : cA (tx s) p = 44
  · rw [pTk_ok h1, bd_ok]
    have hp0 : p < (tx s).2 := cA_in (by omega)
    have hk1 := t_exp_ok (d := d) (by omega) s ho hat hj (c := 44) (by decide) (by rw [hp]; exact h1)
    rw [hp] at hk1
    obtain ⟨a1, a2, a3, a4⟩ := at_st ho ((p : Int) + 1)
    have hp1 := sk_le (tx s) (j := p + 1) (by omega)
    have hp1' := sk_ge (tx s) (p + 1)
    by_cases h2 : okNu (tx s) 0 15 (sk (tx s) (p + 1))
    · rw [pNu_ok h2, bd_ok]
      have hk2 := t_num_ok (d := d) (by omega) _ a2 (j := p + 1) (a3.trans (by omega)) (by rw [a1]; omega) (lo := 0) (hi := 15) (by rw [a1]; exact h2)
      rw [a1, mu_mu] at hk2
      have hq1 := nE_le (tx s) hp1
      have hq1' := nE_ge (tx s) (sk (tx s) (p + 1))
      obtain ⟨-, -, -, g1, g2⟩ := h2
      generalize nV (tx s) (sk (tx s) (p + 1)) (nE (tx s) (sk (tx s) (p + 1)) - sk (tx s) (p + 1)) = hv at *
      generalize nE (tx s) (sk (tx s) (p + 1)) = q1 at *
      generalize hs2 : mu (mu s 0 2 (q1 : Int)) 14 n hv = s2
      have f2 : Fr (FB n) s s2 := by rw [← hs2]; exact ((Fr.rf _).mu (by unfold FB; omega)).mu (by unfold FB; omega)
      have x2 := f2.tx (by unfold FB; omega) (by unfold FB; omega)
      have o2 := f2.okT (by unfold FB; omega) (by unfold FB; omega) ho
      have b2 : s2 0 5 = 0 := by rw [f2 _ _ (by unfold FB; omega), hb]
      have hh : s2 14 n = hv := by rw [← hs2, mu_s]
      have t2 : s2 0 2 = q1 := by rw [← hs2, mu_c (by decide), mu_s]
      have hq2 := sk_le (tx s) hq1
      have hq2' := sk_ge (tx s) q1
      by_cases h3 : cA (tx s) (sk (tx s) q1) = 44
      · rw [pTk_ok h3, bd_ok]
        have hk3 := t_exp_ok (d := d) (by omega) s2 o2 t2 (by rw [x2]; exact hq1) (c := 44) (by decide) (by rw [x2]; exact h3)
        rw [x2] at hk3
        have hp3 : sk (tx s) q1 < (tx s).2 := cA_in (by omega)
        obtain ⟨c1, c2, c3, c4⟩ := at_st o2 ((sk (tx s) q1 : Int) + 1)
        have hk4 := t_here (d := d) (by omega) _ c2 (j := sk (tx s) q1 + 1) (c3.trans (by omega)) (by rw [c1, x2]; omega)
        rw [c1, x2, mu_mu] at hk4
        generalize hp4e : sk (tx s) (sk (tx s) q1 + 1) = p4 at *
        have hp4 : p4 ≤ (tx s).2 := by rw [← hp4e]; exact sk_le _ (by omega)
        have hp4' : sk (tx s) q1 + 1 ≤ p4 := by rw [← hp4e]; exact sk_ge _ _
        have hp4s : sk (tx s) p4 = p4 := by rw [← hp4e]; exact sk_sk _ _
        obtain ⟨e1, e2, e3, e4⟩ := at_st o2 (p4 : Int)
        have hcr := cA_rng ho p4
        by_cases h4 : okNu (tx s) 0 15 p4
        · have hk5 := t_num_ok (d := d) (by omega) _ e2 (j := p4) e3 (by rw [e1, x2]; exact hp4) (lo := 0) (hi := 15) (by rw [e1, x2, hp4s]; exact h4)
          rw [e1, x2, hp4s, mu_mu] at hk5
          have hq4 := nE_le (tx s) hp4
          have hq4' := nE_ge (tx s) p4
          have hok : okNu (tx s) 0 (hv.toNat : Int) p4 ↔ nV (tx s) p4 (nE (tx s) p4 - p4) ≤ hv := ⟨fun z => by have := z.2.2.2.2; omega, fun z => ⟨h4.1, h4.2.1, h4.2.2.1, h4.2.2.2.1, by omega⟩⟩
          obtain ⟨z1, -, -, g3, g4⟩ := h4
          have z2 := z1.1
          by_cases h5 : nV (tx s) p4 (nE (tx s) p4 - p4) ≤ hv
          · rw [pNu_ok (hok.mpr h5), bd_ok]
            generalize nV (tx s) p4 (nE (tx s) p4 - p4) = lv at *
            generalize nE (tx s) p4 = q4 at *
            dsimp only
            refine ⟨mu (mu s2 0 2 (q4 : Int)) 13 n lv, q4, ?_, ?_, ?_, by omega, by omega, ?_, rfl, by omega, by omega, ?_⟩
            · simp (disch := first | exact obC_0 | omega | (simp only [aN1_13, aN1_14]; omega) | (simp only [List.length_cons, List.length_nil]; omega)) only [en21, x21_0, x21_1, x21_3, x21_6, x21_7, x21_10, x21_11, x21_12, x21_15, x21_18, x21_19, x21_22, x21_23, x21_24, x21_26, x21_29, x21_30, x21_31, x21_34, x21_37, x21_38, x21_40, x21_43, x21_44, x21_47, x21_50, x21_51, x21_52, x21_55, x21_56, x21_57, x21_60, x21_61, x21_62, x21_65, x21_66, x21_67, x21_68, x21_70, x21_73, x21_74, x21_75, x21_78, x21_79, x21_82, x21_85, x21_86, x21_89, x21_90, x21_91, x21_92, x21_95, x21_96, x21_97, x21_100, x21_101, x21_102, x21_105, fcn_0_20, fcn_0_21, if_true, if_false, eq_self, Int.reduceEq, Int.reduceLT, Int.reduceLE, Int.reduceAdd, Int.reduceSub, Int.reduceMul, Int.reduceToNat, Nat.reduceAdd, Nat.reduceMul, Nat.reduceEqDiff, Int.toNat_natCast, wrap_id, hk1, hk2, hs2, hk3, hk4, hk5, zcI_r, zcV_r, mu_c, mu_i, mu_s, hb, b2, hh, if_neg (show ¬ cA (tx s) p4 < 0 by omega), if_neg (show ¬ hv < lv by omega)]
            · rw [mu_c (by decide), mu_c (by decide), ← hs2, mu_s]; omega
            · rw [mu_s]; omega
            · rw [mu_c (by decide), mu_s]
            · exact (f2.mu (by unfold FB; omega)).mu (by unfold FB; omega)
          · rw [pNu_no (fun z => h5 (hok.mp z)), bd_er]
            generalize nV (tx s) p4 (nE (tx s) p4 - p4) = lv at *
            generalize nE (tx s) p4 = q4 at *
            generalize hs3 : mu (mu s2 0 2 (q4 : Int)) 13 n lv = s3
            have f3 : Fr (FB n) s s3 := by rw [← hs3]; exact (f2.mu (by unfold FB; omega)).mu (by unfold FB; omega)
            have hk6 := t_wrong (d := d) (by omega) s3 p4
            rw [wr_0 (by rw [f3 _ _ (by unfold FB; omega), hb])] at hk6
            dsimp only
            refine ⟨mu (mu s3 0 3 (p4 : Int)) 0 5 1, ?_, mu_s, by rw [mu_i (by decide), mu_s], (((f3.mono (fun a b => FB_X)).mu (by unfold FBX; omega)).mu (by unfold FBX; omega))⟩
            simp (disch := first | exact obC_0 | omega | (simp only [aN1_13, aN1_14]; omega) | (simp only [List.length_cons, List.length_nil]; omega)) only [en21, x21_0, x21_1, x21_3, x21_6, x21_7, x21_10, x21_11, x21_12, x21_15, x21_18, x21_19, x21_22, x21_23, x21_24, x21_26, x21_29, x21_30, x21_31, x21_34, x21_37, x21_38, x21_40, x21_43, x21_44, x21_47, x21_50, x21_51, x21_52, x21_55, x21_56, x21_57, x21_60, x21_61, x21_62, x21_65, x21_66, x21_67, x21_68, x21_70, x21_73, x21_74, x21_75, x21_78, x21_79, x21_82, x21_85, x21_86, x21_89, x21_90, x21_91, x21_92, x21_95, x21_96, x21_97, x21_100, x21_101, x21_102, x21_105, fcn_0_20, fcn_0_21, if_true, if_false, eq_self, Int.reduceEq, Int.reduceLT, Int.reduceLE, Int.reduceAdd, Int.reduceSub, Int.reduceMul, Int.reduceToNat, Nat.reduceAdd, Nat.reduceMul, Nat.reduceEqDiff, Int.toNat_natCast, wrap_id, hk1, hk2, hs2, hk3, hk4, hk5, hs3, hk6, zcI_r, zcV_r, mu_c, mu_i, mu_s, hb, b2, if_neg (show ¬ cA (tx s) p4 < 0 by omega)]
            have g5 : s3 13 n = lv := by rw [← hs3, mu_s]
            have g6 : s3 14 n = hv := by rw [← hs3, mu_c (by decide), mu_c (by decide), ← hs2, mu_s]
            have g7 : s3 0 5 = 0 := by rw [f3 _ _ (by unfold FB; omega), hb]
            simp (disch := first | exact obC_0 | omega | (simp only [aN1_13, aN1_14]; omega) | (simp only [List.length_cons, List.length_nil]; omega)) only [en21, x21_0, x21_1, x21_3, x21_6, x21_7, x21_10, x21_11, x21_12, x21_15, x21_18, x21_19, x21_22, x21_23, x21_24, x21_26, x21_29, x21_30, x21_31, x21_34, x21_37, x21_38, x21_40, x21_43, x21_44, x21_47, x21_50, x21_51, x21_52, x21_55, x21_56, x21_57, x21_60, x21_61, x21_62, x21_65, x21_66, x21_67, x21_68, x21_70, x21_73, x21_74, x21_75, x21_78, x21_79, x21_82, x21_85, x21_86, x21_89, x21_90, x21_91, x21_92, x21_95, x21_96, x21_97, x21_100, x21_101, x21_102, x21_105, fcn_0_20, fcn_0_21, if_true, if_false, eq_self, Int.reduceEq, Int.reduceLT, Int.reduceLE, Int.reduceAdd, Int.reduceSub, Int.reduceMul, Int.reduceToNat, Nat.reduceAdd, Nat.reduceMul, Nat.reduceEqDiff, Int.toNat_natCast, wrap_id, g5, g6, g7, hk6, zcV_r, if_pos (show hv < lv by omega)]
        · rw [pNu_no (fun z => h4 ⟨z.1, z.2.1, z.2.2.1, z.2.2.2.1, by have := z.2.2.2.2; omega⟩), bd_er]
          obtain ⟨v, a, v0, v1, ha, hk5⟩ := t_num_no (d := d) (by omega) _ e2 (by rw [e4]; exact b2) (j := p4) e3 (by rw [e1, x2]; exact hp4) (lo := 0) (hi := 15) (by rw [e1, x2, hp4s]; exact h4)
          rw [e1, x2, hp4s, mu_mu] at hk5
          dsimp only
          refine ⟨mu (mu (mu (mu s2 0 2 (a : Int)) 0 3 (p4 : Int)) 0 5 1) 13 n v, ?_, by rw [mu_c (by decide), mu_s], by rw [mu_c (by decide), mu_i (by decide), mu_s], ((((f2.mono (fun a b => FB_X)).mu (by unfold FBX FB; omega)).mu (by unfold FBX; omega)).mu (by unfold FBX; omega)).mu (by unfold FBX FB; omega)⟩
          simp (disch := first | exact obC_0 | omega | (simp only [aN1_13, aN1_14]; omega) | (simp only [List.length_cons, List.length_nil]; omega)) only [en21, x21_0, x21_1, x21_3, x21_6, x21_7, x21_10, x21_11, x21_12, x21_15, x21_18, x21_19, x21_22, x21_23, x21_24, x21_26, x21_29, x21_30, x21_31, x21_34, x21_37, x21_38, x21_40, x21_43, x21_44, x21_47, x21_50, x21_51, x21_52, x21_55, x21_56, x21_57, x21_60, x21_61, x21_62, x21_65, x21_66, x21_67, x21_68, x21_70, x21_73, x21_74, x21_75, x21_78, x21_79, x21_82, x21_85, x21_86, x21_89, x21_90, x21_91, x21_92, x21_95, x21_96, x21_97, x21_100, x21_101, x21_102, x21_105, fcn_0_20, fcn_0_21, if_true, if_false, eq_self, Int.reduceEq, Int.reduceLT, Int.reduceLE, Int.reduceAdd, Int.reduceSub, Int.reduceMul, Int.reduceToNat, Nat.reduceAdd, Nat.reduceMul, Nat.reduceEqDiff, Int.toNat_natCast, wrap_id, hk1, hk2, hs2, hk3, hk4, hk5, zcI_r, zcV_r, mu_c, mu_i, mu_s, hb, b2, ite_self]
      · rw [pTk_no h3, bd_er]
        have hk3 := t_exp_no (d := d) (by omega) s2 o2 b2 t2 (by rw [x2]; exact hq1) (c := 44) (by decide) (by rw [x2]; exact h3)
        rw [x2] at hk3
        dsimp only
        refine ⟨mu (mu (mu s2 0 2 (sk (tx s) q1 : Nat)) 0 3 (sk (tx s) q1 : Nat)) 0 5 1, ?_, mu_s, by rw [mu_i (by decide), mu_s], (((f2.mono (fun a b => FB_X)).mu (by unfold FBX FB; omega)).mu (by unfold FBX; omega)).mu (by unfold FBX; omega)⟩
        simp (disch := first | exact obC_0 | omega | (simp only [aN1_13, aN1_14]; omega) | (simp only [List.length_cons, List.length_nil]; omega)) only [en21, x21_0, x21_1, x21_3, x21_6, x21_7, x21_10, x21_11, x21_12, x21_15, x21_18, x21_19, x21_22, x21_23, x21_24, x21_26, x21_29, x21_30, x21_31, x21_34, x21_37, x21_38, x21_40, x21_43, x21_44, x21_47, x21_50, x21_51, x21_52, x21_55, x21_56, x21_57, x21_60, x21_61, x21_62, x21_65, x21_66, x21_67, x21_68, x21_70, x21_73, x21_74, x21_75, x21_78, x21_79, x21_82, x21_85, x21_86, x21_89, x21_90, x21_91, x21_92, x21_95, x21_96, x21_97, x21_100, x21_101, x21_102, x21_105, fcn_0_20, fcn_0_21, if_true, if_false, eq_self, Int.reduceEq, Int.reduceLT, Int.reduceLE, Int.reduceAdd, Int.reduceSub, Int.reduceMul, Int.reduceToNat, Nat.reduceAdd, Nat.reduceMul, Nat.reduceEqDiff, Int.toNat_natCast, wrap_id, hk1, hk2, hs2, hk3, zcI_r, zcV_r, mu_c, mu_i, mu_s, hb, b2]
    · rw [pNu_no h2, bd_er]
      obtain ⟨v, a, v0, v1, ha, hk2⟩ := t_num_no (d := d) (by omega) _ a2 (by rw [a4]; exact hb) (j := p + 1) (a3.trans (by omega)) (by rw [a1]; omega) (lo := 0) (hi := 15) (by rw [a1]; exact h2)
      rw [a1, mu_mu] at hk2
      dsimp only
      refine ⟨mu (mu (mu (mu s 0 2 (a : Int)) 0 3 (sk (tx s) (p + 1) : Nat)) 0 5 1) 14 n v, ?_, by rw [mu_c (by decide), mu_s], by rw [mu_c (by decide), mu_i (by decide), mu_s], (((((Fr.rf s).mu (by unfold FBX FB; omega)).mu (by unfold FBX; omega)).mu (by unfold FBX; omega)).mu (by unfold FBX FB; omega))⟩
      simp (disch := first | exact obC_0 | omega | (simp only [aN1_13, aN1_14]; omega) | (simp only [List.length_cons, List.length_nil]; omega)) only [en21, x21_0, x21_1, x21_3, x21_6, x21_7, x21_10, x21_11, x21_12, x21_15, x21_18, x21_19, x21_22, x21_23, x21_24, x21_26, x21_29, x21_30, x21_31, x21_34, x21_37, x21_38, x21_40, x21_43, x21_44, x21_47, x21_50, x21_51, x21_52, x21_55, x21_56, x21_57, x21_60, x21_61, x21_62, x21_65, x21_66, x21_67, x21_68, x21_70, x21_73, x21_74, x21_75, x21_78, x21_79, x21_82, x21_85, x21_86, x21_89, x21_90, x21_91, x21_92, x21_95, x21_96, x21_97, x21_100, x21_101, x21_102, x21_105, fcn_0_20, fcn_0_21, if_true, if_false, eq_self, Int.reduceEq, Int.reduceLT, Int.reduceLE, Int.reduceAdd, Int.reduceSub, Int.reduceMul, Int.reduceToNat, Nat.reduceAdd, Nat.reduceMul, Nat.reduceEqDiff, Int.toNat_natCast, wrap_id, hk1, hk2, zcI_r, zcV_r, mu_c, mu_i, mu_s, hb]
  · rw [pTk_no h1, bd_er]
    have hk1 := t_exp_no (d := d) (by omega) s ho hb hat hj (c := 44) (by decide) (by rw [hp]; exact h1)
    rw [hp] at hk1
    dsimp only
    refine ⟨mu (mu (mu (mu s 0 2 (p : Int)) 0 3 (p : Int)) 0 5 1) 14 n 0, ?_, by rw [mu_c (by decide), mu_s], by rw [mu_c (by decide), mu_i (by decide), mu_s], (((((Fr.rf s).mu (by unfold FBX FB; omega)).mu (by unfold FBX; omega)).mu (by unfold FBX; omega)).mu (by unfold FBX FB; omega))⟩
    simp (disch := first | exact obC_0 | omega | (simp only [aN1_13, aN1_14]; omega) | (simp only [List.length_cons, List.length_nil]; omega)) only [en21, x21_0, x21_1, x21_3, x21_6, x21_7, x21_10, x21_11, x21_12, x21_15, x21_18, x21_19, x21_22, x21_23, x21_24, x21_26, x21_29, x21_30, x21_31, x21_34, x21_37, x21_38, x21_40, x21_43, x21_44, x21_47, x21_50, x21_51, x21_52, x21_55, x21_56, x21_57, x21_60, x21_61, x21_62, x21_65, x21_66, x21_67, x21_68, x21_70, x21_73, x21_74, x21_75, x21_78, x21_79, x21_82, x21_85, x21_86, x21_89, x21_90, x21_91, x21_92, x21_95, x21_96, x21_97, x21_100, x21_101, x21_102, x21_105, fcn_0_20, fcn_0_21, if_true, if_false, eq_self, Int.reduceEq, Int.reduceLT, Int.reduceLE, Int.reduceAdd, Int.reduceSub, Int.reduceMul, Int.reduceToNat, Nat.reduceAdd, Nat.reduceMul, Nat.reduceEqDiff, Int.toNat_natCast, wrap_id, hk1, zcI_r, zcV_r, mu_c, mu_i, mu_s]
