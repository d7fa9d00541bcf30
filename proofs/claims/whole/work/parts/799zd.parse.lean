/-! THE CLASS: the whole parser -/
theorem KS_0 {s : Mem} {T : Tx} {u o k : Nat} (h : KS s T u o k) : s 111 k = 0 ↔ cA T (tP T k) < 0 := by
  obtain ⟨⟨h1, h2, h3, h4, h5⟩, g2, -, -, g5, -⟩ := h
  by_cases e : k = u
  · rw [e, h4, h3, cA_end (Nat.le_refl _)]
    omega
  · obtain ⟨p1, p2, p3, p4⟩ := h2 k (by omega)
    have h32 := g2 (tP T k) p1
    rw [← cA_lt p1] at h32
    by_cases hd : isD (cA T (tP T k))
    · rw [(p3 hd).2]
      constructor
      · intro z
        split at z <;> omega
      · intro z; omega
    · rw [p4 hd]
      constructor
      · intro z
        split at z <;> omega
      · intro z; omega
theorem qa_junk {d i r1 : Nat} {st : List Nat} {o K N P M C f : Nat} {s s' : Mem} (F : Fr (PGX o K N P M C) s s') (hf : s' 131 5 = f) (e : Ze d 123 7 [aR 131, aR r1, aI i] [] s = Ze d 123 7 [aR 131, aR r1, aI ((i + 1 : Nat) : Int)] [] s') : QO st o K N P M C s (Ze d 123 7 [aR 131, aR r1, aI i] [] s) (.error f) := by
  rw [e, fi_bad hf]
  exact ⟨s', rfl, F⟩
theorem conn_no {d k u o : Nat} {T : Tx} {s : Mem} (hd : 15 ≤ d) (h : KS s T u o k) (hN : ¬ isN (cA T (tP T k))) : Zc d 127 [aR 131] s = rV (mu s 131 5 (tP T k)) := by
  obtain ⟨d, rfl⟩ : ∃ e, d = e + 2 := ⟨d - 2, by omega⟩
  have g := k_name (d := d) (by omega) h.2.2.2.1 (by have := KS_le h; omega)
  obtain ⟨n1, n2⟩ := TKS_nm h.1 h.2.2.2.2.1
  rw [if_neg (fun z => hN (n1.mp z)), TKS_at h.1 h.2.2.2.2.1] at g
  refine cn_F (s1 := s) (s2 := s) (s3 := s) (n := 0) (t := 0) h (Or.inl ?_)
  obtain ⟨P, hP⟩ : ∃ P, s 124 6 = P := ⟨_, rfl⟩
  simp (disch := first | exact obC_124 | exact obC_131 | exact (obCO_66 ho) | omega | (simp only [List.length_cons, List.length_nil]; omega)) only [en137, x137_0, x137_1, x137_4, x137_7, x137_8, x137_9, x137_12, x137_13, x137_14, x137_15, x137_18, x137_19, x137_20, x137_21, x137_23, x137_25, x137_28, x137_29, x137_32, x137_34, x137_37, x137_38, x137_41, x137_43, x137_46, x137_47, x137_50, x137_52, x137_55, x137_56, x137_59, x137_60, x137_62, x137_63, x137_63i, x137_64, x137_67, x137_68, x137_69, x137_72, x137_74, x137_77, x137_78, x137_79, x137_81, x137_84, x137_87, x137_88, x137_91, x137_93, x137_95, x137_96, x137_99, x137_101, x137_104, x137_105, x137_107, x137_110, x137_113, x137_114, x137_115, x137_116, x137_119, x137_121, x137_124, x137_126, x137_129, x137_131, x137_134, x137_137, x137_140, x137_143, x137_144, x137_147, x137_148, x137_149, x137_150, x137_153, x137_156, x137_157, x137_158, x137_159, x137_162, fcn_131_2, if_true, if_false, eq_self, Int.reduceEq, Int.reduceLT, Int.reduceLE, Int.reduceAdd, Int.reduceSub, Int.reduceMul, Int.reduceToNat, Nat.reduceAdd, Nat.reduceMul, Nat.reduceEqDiff, Int.toNat_natCast, wrap_id, hP, g, zcI_r]
theorem qa_all {d : Nat} {T : Tx} {u o r1 : Nat} (hd : 15 ≤ d) : ∀ fu, QA d fu T u o r1 := by
  intro fu
  induction fu with
  | zero =>
    intro st k K N P M C i s h hi hf
    have := KS_tP h.1
    omega
  | succ fu hQ =>
    intro st k K N P M C i s h hi hf
    have h' := h
    obtain ⟨h1, h2, hb, h4, h5, h6, h7, h8⟩ := h
    have ho : o = 0 ∨ o = 26 := h1.2.2.2.2.2.2
    have hle := KS_le h1
    obtain ⟨e, rfl⟩ : ∃ e, d = e + 1 := ⟨d - 1, by omega⟩
    have FX : Fr (PGX o K N P M C) s (mu s 131 5 (tP T k)) := (Fr.rf s).mu (Or.inr ⟨rfl, rfl⟩)
    have hch : ∀ c : Int, 32 < c ∧ ¬ isD c ∧ c ≠ 60 → (s 111 k = c ↔ cA T (tP T k) = c) := fun c hc => KS_ch h1 hc
    have h0 := KS_0 h1
    rw [pIts_s]
    by_cases h125 : cA T (tP T k) = 125
    · cases st with
      | nil =>
        rw [if_neg (fun z => z.1 rfl), if_neg (by omega), if_neg (by omega), if_neg (by omega), if_neg (by omega)]
        exact qa_junk FX (by rw [mu_s]) (fi_c (by omega) h1 (by omega) h8 ((hch 125 (by decide)).mpr h125) (fl_close (by omega) h1 h4))
      | cons b st =>
        rw [if_pos ⟨by simp, h125⟩]
        exact qa_close hd hQ h' hi hf h125
    rw [if_neg (fun z => h125 z.2)]
    by_cases hend : st = [] ∧ cA T (tP T k) < 0
    · rw [if_pos hend]
      obtain ⟨rfl, hc⟩ := hend
      rw [fi_end (by omega) h1 (by omega) h8 (by rw [h4]; decide) (h0.mpr hc)]
      exact ⟨s, P, M, C, rfl, trivial, h2, ⟨Nat.le_refl _, Nat.le_refl _, Nat.le_refl _⟩, ⟨by show K + 0 ≤ 200; omega, by show N + 0 ≤ 225; omega, by omega, by omega, by omega⟩, Fr.rf s⟩
    rw [if_neg hend]
    by_cases h63 : cA T (tP T k) = 63
    · by_cases h3 : st.length < 3
      · rw [if_pos ⟨h63, h3⟩]
        exact qa_choice hd hQ h' hi hf h63 h3
      · rw [if_neg (fun z => h3 z.2), if_neg (by omega), if_neg (by omega)]
        exact qa_junk FX (by rw [mu_s]) (fi_q (by omega) h1 (by omega) h8 ((hch 63 (by decide)).mpr h63) (fl_deep (by omega) h1 (by rw [h4]; omega)))
    rw [if_neg (fun z => h63 z.1)]
    have k125 : ¬ s 111 k = 125 := fun z => h125 ((hch 125 (by decide)).mp z)
    have k63 : ¬ s 111 k = 63 := fun z => h63 ((hch 63 (by decide)).mp z)
    by_cases hN : isN (cA T (tP T k))
    · rw [if_pos hN]
      have hk : s 111 k = cA T (tP T k) := (TKS_nm h1.1 h1.2.2.2.2.1).2 hN
      refine qa_it (W := Zc (e + 1) 127 [aR 131] s) hQ h' hi hf (fun it q hx => ?_) (k_conn (by omega) h1 h2 (by omega) (by omega) (by omega)) (fun s' e1 => fi_o (by omega) h1 (by omega) h8 hk ⟨by omega, by omega, by omega, by omega, by omega, by omega, by omega⟩ (Or.inr (by omega)) e1)
      left
      unfold pConn at hx
      cases h1' : pRf T (tP T k) with
      | error f => rw [h1', bd_er] at hx; cases hx
      | ok a =>
        rw [h1', bd_ok] at hx
        cases h2' : pAr T a.2 with
        | error f => rw [h2', bd_er] at hx; cases hx
        | ok b =>
          rw [h2', bd_ok] at hx
          cases h3' : pEx T 6 b.2 with
          | error f => rw [h3', bd_er] at hx; cases hx
          | ok c =>
            rw [h3', bd_ok] at hx
            cases h4' : pTk T 59 c.2 with
            | error f => rw [h4', bd_er] at hx; cases hx
            | ok d' =>
              rw [h4', bd_ok] at hx
              injection hx with hx
              injection hx with hx hx2
              rw [← hx]
    rw [if_neg hN]
    by_cases hit : cA T (tP T k) = 73 ∨ cA T (tP T k) = 79 ∨ cA T (tP T k) = 87 ∨ cA T (tP T k) = 82 ∨ cA T (tP T k) = 78
    · have hk : s 111 k = cA T (tP T k) := (hch _ (by omega)).mpr rfl
      by_cases hst : st = []
      · rw [if_pos ⟨hst, hit⟩]
        have hx : ∀ it q, pItem T (tP T k) = .ok (it, q) → it.1 = 0 ∨ it.1 = 4 ∨ it.1 = 5 := by
          intro it q hx
          rw [pItem_h] at hx
          split at hx
          · cases h1' : pIH T 61 (tP T k) with
            | error f => rw [h1', bd_er] at hx; cases hx
            | ok a =>
              rw [h1', bd_ok] at hx
              cases h2' : pEx T 6 a.2 with
              | error f => rw [h2', bd_er] at hx; cases hx
              | ok b =>
                rw [h2', bd_ok] at hx
                cases h4' : pTk T 59 b.2 with
                | error f => rw [h4', bd_er] at hx; cases hx
                | ok d' =>
                  rw [h4', bd_ok] at hx
                  injection hx with hx
                  injection hx with hx hx2
                  exact Or.inr (Or.inr (by rw [← hx]))
          · cases h1' : pIH T 58 (tP T k) with
            | error f => rw [h1', bd_er] at hx; cases hx
            | ok a =>
              rw [h1', bd_ok] at hx
              cases h2' : pTy T 3 a.2 with
              | error f => rw [h2', bd_er] at hx; cases hx
              | ok b =>
                rw [h2', bd_ok] at hx
                cases h4' : pTk T 59 b.2 with
                | error f => rw [h4', bd_er] at hx; cases hx
                | ok d' =>
                  rw [h4', bd_ok] at hx
                  injection hx with hx
                  injection hx with hx hx2
                  exact Or.inr (Or.inl (by rw [← hx]))
        have hdp : ¬ 0 < s 131 6 := by rw [h4, hst]; decide
        by_cases h78 : cA T (tP T k) = 78
        · rw [h78] at hk
          exact qa_it (W := Zc (e + 1) 126 [aR 131] s) hQ h' hi hf hx (k_node (by omega) h1 h78 hdp h2 (by omega) (by omega) (by omega)) (fun s' e1 => fi_n (by omega) h1 (by omega) h8 hk e1)
        · refine qa_it (W := Zc (e + 1) 125 [aR 131] s) hQ h' hi hf hx (k_decl (c := cA T (tP T k)) (by omega) h1 (by omega) rfl hdp h2 (by omega) (by omega) (by omega)) (fun s' e1 => ?_)
          rcases (by omega : cA T (tP T k) = 73 ∨ cA T (tP T k) = 79 ∨ cA T (tP T k) = 87 ∨ cA T (tP T k) = 82) with hc | hc | hc | hc
          · rw [hc] at hk
            exact fi_d73 (by omega) h1 (by omega) h8 hk e1
          · rw [hc] at hk
            exact fi_d79 (by omega) h1 (by omega) h8 hk e1
          · rw [hc] at hk
            exact fi_d87 (by omega) h1 (by omega) h8 hk e1
          · rw [hc] at hk
            exact fi_d82 (by omega) h1 (by omega) h8 hk e1
      · rw [if_neg (fun z => hst z.1)]
        have hdp : 0 < s 131 6 := by
          rw [h4]
          cases st with
          | nil => exact absurd rfl hst
          | cons b r => rw [List.length_cons]; omega
        by_cases h78 : cA T (tP T k) = 78
        · rw [h78] at hk
          exact qa_junk FX (by rw [mu_s]) (fi_n (by omega) h1 (by omega) h8 hk (fl_node (by omega) h1 hdp))
        · have fd := fl_decl (d := e) (by omega) h1 hdp
          rcases (by omega : cA T (tP T k) = 73 ∨ cA T (tP T k) = 79 ∨ cA T (tP T k) = 87 ∨ cA T (tP T k) = 82) with hc | hc | hc | hc
          · rw [hc] at hk
            exact qa_junk FX (by rw [mu_s]) (fi_d73 (by omega) h1 (by omega) h8 hk fd)
          · rw [hc] at hk
            exact qa_junk FX (by rw [mu_s]) (fi_d79 (by omega) h1 (by omega) h8 hk fd)
          · rw [hc] at hk
            exact qa_junk FX (by rw [mu_s]) (fi_d87 (by omega) h1 (by omega) h8 hk fd)
          · rw [hc] at hk
            exact qa_junk FX (by rw [mu_s]) (fi_d82 (by omega) h1 (by omega) h8 hk fd)
    · rw [if_neg (fun z => hit z.2)]
      have key : ∀ c : Int, c = 73 ∨ c = 79 ∨ c = 87 ∨ c = 82 ∨ c = 78 → ¬ s 111 k = c := fun c hc z => hit (by have := (hch c (by omega)).mp z; omega)
      have k1 := key 73 (by decide)
      have k2 := key 79 (by decide)
      have k3 := key 87 (by decide)
      have k4 := key 82 (by decide)
      have k5 := key 78 (by decide)
      refine qa_junk FX (by rw [mu_s]) (fi_o (by omega) h1 (by omega) h8 rfl ⟨k63, k125, k5, k1, k2, k3, k4⟩ ?_ (conn_no hd h1 hN))
      by_cases hst : st = []
      · exact Or.inr (fun z => hend ⟨hst, h0.mp z⟩)
      · left
        rw [h4]
        cases st with
        | nil => exact absurd rfl hst
        | cons b r => rw [List.length_cons]; omega
/-- what the parser begins with -/
def bgS (s : Mem) (o : Nat) : Mem := mu (mu (mu (mu (mu (tAdd (mu (mu (mu (mu s 131 3 ((66 + o : Nat) : Int)) (66 + o) 7 25) 114 4 0) 114 10 0) 0 0 0 0 1) 124 4 0) 124 6 0) 131 4 0) 131 5 (-1)) 131 6 0
theorem k_nEmpty {d o : Nat} {s : Mem} (hd : 1 ≤ d) (ho : o = 0 ∨ o = 26) : Zc d 112 [aR (66 + o)] s = rV (mu s (66 + o) 7 25) := by
  obtain ⟨d, rfl⟩ : ∃ e, d = e + 1 := ⟨d - 1, by omega⟩
  simp (disch := first | exact (obCO_66 ho) | omega | (simp only [List.length_cons, List.length_nil]; omega)) only [en112, x112_0, x112_1, x112_3, x112_6, if_true, if_false, eq_self, Int.reduceEq, Int.reduceLT, Int.reduceLE, Int.reduceAdd, Int.reduceSub, Int.reduceMul, Int.reduceToNat, Nat.reduceAdd, Nat.reduceMul, Nat.reduceEqDiff, Int.toNat_natCast, wrap_id]
theorem k_tEmpty {d : Nat} {s : Mem} (hd : 3 ≤ d) : Zc d 161 [aR 114] s = rV (tAdd (mu (mu s 114 4 0) 114 10 0) 0 0 0 0 1) := by
  obtain ⟨d, rfl⟩ : ∃ e, d = e + 1 := ⟨d - 1, by omega⟩
  have e1 : mu (mu s 114 4 0) 114 10 0 114 4 = ((0 : Nat) : Int) := by rw [mu_i (by decide), mu_s]; rfl
  simp (disch := first | exact obC_114 | omega | (simp only [List.length_cons, List.length_nil]; omega)) only [en161, x161_0, x161_1, x161_2, x161_5, x161_6, x161_7, x161_10, x161_11, x161_12, x161_15, x161_16, if_true, if_false, eq_self, Int.reduceEq, Int.reduceLT, Int.reduceLE, Int.reduceAdd, Int.reduceSub, Int.reduceMul, Int.reduceToNat, Nat.reduceAdd, Nat.reduceMul, Nat.reduceEqDiff, Int.toNat_natCast, wrap_id, k_addGround (d := d) (M := 0) (w := 0) (by omega) e1 (by decide), zcI_r]
theorem k_sEmpty {d : Nat} {s : Mem} (hd : 1 ≤ d) : Zc d 153 [aR 124] s = rV (mu (mu s 124 4 0) 124 6 0) := by
  obtain ⟨d, rfl⟩ : ∃ e, d = e + 1 := ⟨d - 1, by omega⟩
  simp (disch := first | exact obC_124 | omega | (simp only [List.length_cons, List.length_nil]; omega)) only [en153, x153_0, x153_1, x153_2, x153_5, x153_6, x153_7, x153_10, if_true, if_false, eq_self, Int.reduceEq, Int.reduceLT, Int.reduceLE, Int.reduceAdd, Int.reduceSub, Int.reduceMul, Int.reduceToNat, Nat.reduceAdd, Nat.reduceMul, Nat.reduceEqDiff, Int.toNat_natCast, wrap_id]
theorem k_pBegin {d o : Nat} {s : Mem} (hd : 4 ≤ d) (ho : o = 0 ∨ o = 26) : Zc d 124 [aR 131, aR (66 + o)] s = rV (bgS s o) := by
  obtain ⟨d, rfl⟩ : ∃ e, d = e + 1 := ⟨d - 1, by omega⟩
  have hL : lyt.length = 151 := by decide +kernel
  have hq : 66 + o < lyt.length := by omega
  have q7 : 0 ≤ mu s 131 3 ((66 + o : Nat) : Int) 131 3 := by rw [mu_s]; omega
  have q6 : (0 : Int) ≤ ((66 + o : Nat) : Int) := by omega
  have hn := fun s => k_nEmpty (d := d) (o := o) (s := s) (by omega) ho
  have ht := fun s => k_tEmpty (d := d) (s := s) (by omega)
  have hs := fun s => k_sEmpty (d := d) (s := s) (by omega)
  unfold bgS
  simp (disch := first | exact obC_114 | exact obC_124 | exact obC_131 | exact (obCO_66 ho) | omega | (simp only [List.length_cons, List.length_nil]; omega)) only [en124, x124_0, x124_1, x124_2, x124_5, x124_9, x124_12, x124_13, x124_16, x124_19, x124_20, x124_23, x124_26, x124_27, x124_28, x124_31, x124_32, x124_33, x124_36, x124_37, x124_38, x124_41, fcn_131_1, fcn_131_2, if_true, if_false, eq_self, Int.reduceEq, Int.reduceLT, Int.reduceLE, Int.reduceAdd, Int.reduceSub, Int.reduceMul, Int.reduceToNat, Nat.reduceAdd, Nat.reduceMul, Nat.reduceEqDiff, Int.toNat_natCast, wrap_id]
  rw [x124_6 obC_131 q7]
  simp (disch := first | exact obC_114 | exact obC_124 | exact obC_131 | exact (obCO_66 ho) | omega | (simp only [List.length_cons, List.length_nil]; omega)) only [en124, x124_0, x124_1, x124_2, x124_5, x124_6, x124_9, x124_12, x124_13, x124_16, x124_19, x124_20, x124_23, x124_26, x124_27, x124_28, x124_31, x124_32, x124_33, x124_36, x124_37, x124_38, x124_41, fcn_131_1, fcn_131_2, if_true, if_false, eq_self, Int.reduceEq, Int.reduceLT, Int.reduceLE, Int.reduceAdd, Int.reduceSub, Int.reduceMul, Int.reduceToNat, Nat.reduceAdd, Nat.reduceMul, Nat.reduceEqDiff, Int.toNat_natCast, wrap_id, mu_s, mu_c, mu_i, hn, ht, hs, zcV_r]
/-- what the whole reading writes -/
def PB (o k j : Nat) : Prop := PGX o 0 25 0 0 0 k j ∨ (k = 131 ∧ j = 3)
theorem k_faultIn {d u o : Nat} {T : Tx} {s : Mem} (hd : 16 ≤ d) (ho : o = 0 ∨ o = 26) (hT : TKS s T u) (h32 : ∀ j, j < T.2 → 32 ≤ T.1 j) (hn : T.2 ≤ 200) :
    match pAll T with
    | .ok its => ∃ (s' : Mem) (P M C : Nat), Zc d 123 [aR 131, aR (66 + o)] s = rI (-1) s' ∧ CIs s' o P M C 0 25 (nrm [] its) ∧ CN s' o (nrm [] its).length (25 + nszs (nrm [] its)) P M C ∧ ((nrm [] its).length ≤ 200 ∧ 25 + nszs (nrm [] its) ≤ 225 ∧ P ≤ 200 ∧ 1 ≤ M ∧ M ≤ 201 ∧ C ≤ 200) ∧ (s' 115 0 = 0 ∧ s' 116 0 = 0 ∧ s' 118 0 = 1) ∧ Fr (PB o) s s'
    | .error f => ∃ s', Zc d 123 [aR 131, aR (66 + o)] s = rI f s' ∧ Fr (PB o) s s' := by
  obtain ⟨d, rfl⟩ : ∃ e, d = e + 1 := ⟨d - 1, by omega⟩
  have e0 : Zc (d + 1) 123 [aR 131, aR (66 + o)] s = Ze d 123 7 [aR 131, aR (66 + o), aI ((0 : Nat) : Int)] [] (bgS s o) := by
    have z0 : ((0 : Nat) : Int) = 0 := rfl
    simp (disch := first | exact obC_131 | omega | (simp only [List.length_cons, List.length_nil]; omega)) only [en123, x123_0, x123_1, x123_2, x123_5, x123_6, x123_8, x123_11, x123_14, x123_15, x123_18, x123_19, x123_22, x123_23, x123_26, x123_29, x123_30, x123_33, x123_36, x123_37, x123_40, x123_108, x123_109, x123_112, x123_115, x123_116, x123_119, x123_122, x123_123, x123_126, x123_129, x123_130, x123_133, x123_136, x123_137, x123_140, x123_143, x123_146, x123_147, x123_150, if_true, if_false, eq_self, Int.reduceEq, Int.reduceLT, Int.reduceLE, Int.reduceAdd, Int.reduceSub, Int.reduceMul, Int.reduceToNat, Nat.reduceAdd, Nat.reduceMul, Nat.reduceEqDiff, Int.toNat_natCast, wrap_id, k_pBegin (d := d) (by omega) ho, zcV_r, z0]
  obtain ⟨a1, a2, a3, a4, a5, a6⟩ := tAdd_at (s := mu (mu (mu (mu s 131 3 ((66 + o : Nat) : Int)) (66 + o) 7 25) 114 4 0) 114 10 0) (M := 0) (z := 1) (a := 0) (p := 0) (l := 0)
  have F0 : Fr (PB o) s (bgS s o) := by
    unfold bgS
    have f1 : Fr (PB o) s (mu (mu (mu (mu s 131 3 ((66 + o : Nat) : Int)) (66 + o) 7 25) 114 4 0) 114 10 0) :=
      ((((Fr.rf s).mu (Or.inr ⟨rfl, rfl⟩)).mu (Or.inl (Or.inl (Or.inl (Or.inl (Or.inr (Or.inl ⟨rfl, rfl⟩))))))).mu (Or.inl (Or.inl (Or.inl (Or.inr (Or.inl (Or.inr (Or.inl ⟨rfl, Or.inl rfl⟩)))))))).mu (Or.inl (Or.inl (Or.inl (Or.inr (Or.inl (Or.inr (Or.inl ⟨rfl, Or.inr rfl⟩)))))))
    have f2 := f1.tr ((tAdd_fr (s := mu (mu (mu (mu s 131 3 ((66 + o : Nat) : Int)) (66 + o) 7 25) 114 4 0) 114 10 0) (M := 0) (C := 0) (m := 0) (z := 1) (a := 0) (p := 0) (l := 0) (Nat.le_refl _)).mono (fun _ _ h => (Or.inl (Or.inl (PC_G (YF_PC h))) : PB o _ _)))
    exact ((((f2.mu (Or.inl (Or.inl (Or.inl (Or.inr (Or.inr (Or.inl ⟨rfl, rfl⟩))))))).mu (Or.inl (Or.inl (Or.inl (Or.inl (Or.inr (Or.inr (Or.inr (Or.inl ⟨rfl, rfl⟩))))))))).mu (Or.inl (Or.inl (Or.inl (Or.inl (Or.inl ⟨rfl, rfl⟩)))))).mu (Or.inl (Or.inr ⟨rfl, rfl⟩))).mu (Or.inl (Or.inl (Or.inr (Or.inl ⟨rfl, rfl⟩))))
  have g : ∀ k j, k ≠ 131 → k ≠ 124 → bgS s o k j = tAdd (mu (mu (mu (mu s 131 3 ((66 + o : Nat) : Int)) (66 + o) 7 25) 114 4 0) 114 10 0) 0 0 0 0 1 k j := fun k j h1 h2 => by
    unfold bgS
    rw [mu_c h1, mu_c h1, mu_c h1, mu_c h2, mu_c h2]
  have p1 : bgS s o 131 4 = ((0 : Nat) : Int) := by unfold bgS; rw [mu_i (by decide), mu_i (by decide), mu_s]; rfl
  have p2 : bgS s o 131 5 = -1 := by unfold bgS; rw [mu_i (by decide), mu_s]
  have p3 : bgS s o 131 6 = 0 := by unfold bgS; rw [mu_s]
  have p4 : bgS s o 131 3 = ((66 + o : Nat) : Int) := by
    unfold bgS
    rw [mu_i (by decide), mu_i (by decide), mu_i (by decide), mu_c (by decide), mu_c (by decide), a6 _ _ (by omega), mu_c (by decide), mu_c (by decide), mu_c (by omega), mu_s]
  have p5 : bgS s o 124 4 = ((0 : Nat) : Int) := by unfold bgS; rw [mu_c (by decide), mu_c (by decide), mu_c (by decide), mu_i (by decide), mu_s]; rfl
  have p6 : bgS s o 124 6 = ((0 : Nat) : Int) := by unfold bgS; rw [mu_c (by decide), mu_c (by decide), mu_c (by decide), mu_s]; rfl
  have p7 : bgS s o (66 + o) 7 = ((25 : Nat) : Int) := by rw [g _ _ (by omega) (by omega), a6 _ _ (by omega), mu_c (by omega), mu_c (by omega), mu_s]; rfl
  have p8 : bgS s o 114 4 = ((1 : Nat) : Int) := by rw [g _ _ (by omega) (by omega), a5]
  have p9 : bgS s o 114 10 = ((0 : Nat) : Int) := by rw [g _ _ (by omega) (by omega), a6 _ _ (by omega), mu_s]; rfl
  have hS : SQ (bgS s o) T u o 0 0 25 0 1 0 [] := by
    refine ⟨⟨TKS_put (fun q j hq => F0 _ _ ?_) hT, h32, hn, p1, Nat.zero_le _, p4, ho⟩, ⟨p5, p7, p6, p8, p9⟩, ⟨Nat.le_refl _, by omega, Nat.le_refl _, by omega, Nat.le_refl _⟩, p3, by decide, fun b hb => (by cases hb), trivial, p2⟩
    unfold PB
    intro z
    rcases z with z | z
    · exact (PGX_no ho).1 q j hq z
    · omega
  have hQ := qa_all (d := d) (u := u) (o := o) (r1 := 66 + o) (by omega) (T.2 + 1) [] 0 0 25 0 1 0 0 (bgS s o) hS (Nat.le_refl _) (by omega)
  have ht0 : tP T 0 = sk T 0 := rfl
  rw [ht0] at hQ
  have hpa : pAll T = pIts T (T.2 + 1) [] (sk T 0) := rfl
  rw [hpa]
  cases hx : pIts T (T.2 + 1) [] (sk T 0) with
  | error f =>
    rw [hx] at hQ
    obtain ⟨s', e1, e2⟩ := hQ
    exact ⟨s', e0.trans e1, F0.tr (e2.mono (fun _ _ h => Or.inl (PGX_le (Nat.le_refl _) (Nat.le_refl _) (Nat.le_refl _) (Nat.zero_le _) (Nat.le_refl _) h)))⟩
  | ok its =>
    rw [hx] at hQ
    obtain ⟨s', P, M, C, e1, e2, e3, ⟨e4, e5, e6⟩, ⟨e7, e8, e9, e10, e11⟩, e12⟩ := hQ
    rw [Nat.zero_add] at e3 e7
    refine ⟨s', P, M, C, e0.trans e1, e2, e3, ⟨e7, e8, e9, e5, e10, e11⟩, ?_, F0.tr (e12.mono (fun _ _ h => Or.inl (PG_X (PG_le (Nat.le_refl _) (Nat.le_refl _) (Nat.le_refl _) (Nat.zero_le _) (Nat.le_refl _) h))))⟩
    have hf : ∀ q, 115 ≤ q → q ≤ 118 → s' q 0 = bgS s o q 0 := fun q h1 h2 => e12 _ _ (by unfold PG PC XF YF; omega)
    exact ⟨by rw [hf _ (by decide) (by decide), g _ _ (by decide) (by decide), a1], by rw [hf _ (by decide) (by decide), g _ _ (by decide) (by decide), a2], by rw [hf _ (by decide) (by decide), g _ _ (by decide) (by decide), a4]; rfl⟩
