/-- the reference's state: the text, where, whether something is compiled, the circuit that runs, its registers and free signals, values, values before, changes, clocks, connections -/
def RA (s : Mem) (T : Tx) (w : Int) (cp : Bool) (lv : Live) (st val bf ch : Nat → Int) (ck cn : Int) : Prop :=
  tx s = T ∧ okT s ∧ LV s lv.1 lv.2.1 lv.2.2 ∧ s 0 3 = w ∧ s 0 75 = b2i cp ∧ (∀ j, j < 24 → s 45 j = st j) ∧ (∀ j, j < 24 → s 44 j = val j) ∧ EV lv.1 lv.2.1 lv.2.2 st val ∧
  (∀ g, g < lv.1.length → ¬ cyc (dpd lv.1 lv.2.1) (rgs lv.1) g) ∧ (∀ h, h < lv.1.length → iand (st h) (msk (lv.2.2 h)) = st h) ∧ (∀ h, h < lv.1.length → iand (val h) (msk (lv.2.2 h)) = val h) ∧ (∀ j, j < lv.1.length → s 46 j = bf j ∧ s 47 j = ch j) ∧ s 0 74 = ck ∧ s 0 73 = cn
/-- cells that RA does not speak of -/
def FRA (k j : Nat) : Prop := (k = 0 ∧ j = 4) ∨ k = 22 ∨ k = 49 ∨ k = 51 ∨ k = 50 ∨ k = 48
theorem RA_put {s s' : Mem} {T : Tx} {w : Int} {cp : Bool} {lv : Live} {st val bf ch : Nat → Int} {ck cn : Int} (f : Fr FRA s s') (h : RA s T w cp lv st val bf ch ck cn) : RA s' T w cp lv st val bf ch ck cn := by
  obtain ⟨h1, h2, h3, h4, h5, h6, h7, h8, h9, h10, h11, h12, h13, h14⟩ := h
  have n1 : ¬ FRA 0 1 := by unfold FRA; omega
  have n2 : ∀ j, ¬ FRA 1 j := fun j => by unfold FRA; omega
  exact ⟨(f.tx n1 n2).trans h1, f.okT n1 n2 h2, LV_put (fun k j hk => f _ _ (by unfold FRA; omega)) h3, by rw [f _ _ (by unfold FRA; omega), h4], by rw [f _ _ (by unfold FRA; omega), h5], fun j hj => by rw [f _ _ (by unfold FRA; omega), h6 j hj], fun j hj => by rw [f _ _ (by unfold FRA; omega), h7 j hj], h8, h9, h10, h11, fun j hj => by rw [f _ _ (by unfold FRA; omega), f _ _ (by unfold FRA; omega)]; exact h12 j hj, by rw [f _ _ (by unfold FRA; omega), h13], by rw [f _ _ (by unfold FRA; omega), h14]⟩
theorem thr_fr {s : Mem} {v : Int} : Fr FRA s (mu s 0 4 v) := (Fr.rf s).mu (Or.inl ⟨rfl, rfl⟩)
theorem t_tick {d : Nat} {s : Mem} {T : Tx} {w : Int} {cp : Bool} {lv : Live} {st val bf ch : Nat → Int} {ck cn : Int} (hd : 6 ≤ d) (h : RA s T w cp lv st val bf ch ck cn) :
    ∃ s' val', Zc d 56 [aR 0] s = rV s' ∧ RA s' T w cp lv (stN lv.1 lv.2.1 lv.2.2 st val) val' val (fun j => if val j = bf j then ch j else wrap (ch j + 1)) (wrap (ck + 1)) cn ∧ s' 0 4 = s 0 4 := by
  obtain ⟨d, rfl⟩ : ∃ e, d = e + 1 := ⟨d - 1, by omega⟩
  obtain ⟨sg, lo, W⟩ := lv
  obtain ⟨h1, h2, h3, h4, h5, h6, h7, h8, h9, h10, h11, h12, h13, h14⟩ := h
  dsimp only at h3 h8 h9 h10 h11 h12 ⊢
  have l2 := h3.2.1
  have h0 : Zc (d + 1) 56 [aR 0] s = Ze d 56 2 [aR 0, aI ((0 : Nat) : Int)] [] s := by
    have z0 : ((0 : Nat) : Int) = 0 := rfl
    simp (disch := first | exact obC_0 | omega | (simp only [aN1_35, aN1_44, aN1_45, aN1_46, aN1_47, aN1_48]; omega) | (simp only [List.length_cons, List.length_nil]; omega)) only [en56, x56_0, x56_1, x56_3, x56_4, x56_7, x56_10, x56_11, x56_14, x56_15, x56_16, x56_17, x56_20, x56_21, x56_22, x56_25, x56_26, x56_29, x56_30, x56_31, x56_32, x56_33, x56_34, x56_35, x56_36, x56_39, x56_40, x56_41, x56_44, x56_45, x56_46, x56_47, x56_50, x56_53, x56_54, x56_56, x56_57, x56_60, x56_63, x56_64, x56_67, x56_68, x56_69, x56_72, x56_74, x56_75, x56_76, x56_77, x56_78, x56_81, x56_82, x56_83, x56_86, x56_89, x56_90, x56_91, x56_94, x56_97, x56_98, x56_100, x56_101, x56_104, x56_107, x56_108, x56_111, x56_113, x56_114, x56_115, x56_116, x56_117, x56_120, x56_121, x56_124, x56_125, x56_126, x56_129, x56_130, x56_131, x56_132, x56_135, x56_138, x56_139, x56_139i, x56_140, x56_143, x56_144, x56_145, x56_148, x56_149, x56_152, fcn_0_44, fcn_0_59, fcn_0_60, fcn_0_61, fcn_0_62, fcn_0_63, if_true, if_false, eq_self, Int.reduceEq, Int.reduceLT, Int.reduceLE, Int.reduceAdd, Int.reduceSub, Int.reduceMul, Int.reduceToNat, Nat.reduceAdd, Nat.reduceMul, Nat.reduceEqDiff, Int.toNat_natCast, wrap_id, z0]
  obtain ⟨s1, q1, q2, q3⟩ := tk_one (d := d) (val := val) (bf := bf) (ch := ch) l2 sg.length 0 s (Nat.zero_add _) h3.1 h7 (fun j hj _ => h12 j hj)
  have L1 : LV s1 sg lo W := LV_put (fun k j hk => q3 _ _ (by unfold TK1; omega)) h3
  obtain ⟨s2, p1, p2, -, p4⟩ := tk_two (d := d) (by omega) h8 h11 sg.length 0 s1 (Nat.zero_add _) L1 (fun j hj => by rw [q3 _ _ (by unfold TK1; omega), h7 j hj]) (fun j hj => by rw [q3 _ _ (by unfold TK1; omega), h6 j hj])
  have L2 : LV s2 sg lo W := LV_put (fun k j hk => p4 _ _ (by unfold TK2 FBc; omega)) L1
  obtain ⟨s3, r1, r2, -, r4⟩ := tk_three (d := d) (st := st) (val := val) sg.length 0 s2 (Nat.zero_add _) L2 (fun j _ hj => by rw [p4 _ _ (by unfold TK2 FBc; omega), q3 _ _ (by unfold TK1; omega), h6 j hj]) (fun j x _ hx h3 => p2 j x (Nat.zero_le _) hx h3)
  have L3 : LV s3 sg lo W := LV_put (fun k j hk => r4 _ _ (by unfold TK3; omega)) L2
  have z3 : ∀ j, s3 0 j = s 0 j := fun j => by rw [r4 _ _ (by unfold TK3; omega), p4 _ _ (by unfold TK2 FBc; omega), q3 _ _ (by unfold TK1; omega)]
  have ck3 : s3 0 74 = ck := by rw [z3, h13]
  generalize hs4 : mu s3 0 74 (wrap (ck + 1)) = s4
  have g4 : ∀ k j, k ≠ 0 → s4 k j = s3 k j := fun k j hk => by rw [← hs4, mu_c hk]
  have L4 : LV s4 sg lo W := LV_put (fun k j hk => by
    rw [← hs4]
    rcases hk with hk | hk | ⟨hk, hj⟩
    · exact mu_c (by omega)
    · exact mu_c (by omega)
    · subst hk; exact mu_i (by omega)) L3
  have hsm : ∀ h, h < sg.length → iand (stN sg lo W st val h) (msk (W h)) = stN sg lo W st val h := fun h hh => by
    unfold stN
    split
    · split
      · exact iand_idem _ _
      · exact h10 h hh
    · exact h10 h hh
  have val3 : ∀ j, s3 44 j = s 44 j := fun j => by rw [r4 _ _ (by unfold TK3; omega), p4 _ _ (by unfold TK2 FBc; omega), q3 _ _ (by unfold TK1; omega)]
  obtain ⟨s5, val', e1, e2, e3, e4, e5, e6⟩ := t_evaluate (d := d) (st := stN sg lo W st val) (val := val) (by omega) L4 h9 (fun j hj => by rw [g4 _ _ (by decide), r2 j (Nat.zero_le _) hj]) (fun j hj => by rw [g4 _ _ (by decide), val3, h7 j hj]) hsm h11
  have z5 : ∀ j, s5 0 j = s4 0 j := fun j => FEv_k e6 (by decide)
  have z4 : ∀ j, j ≠ 74 → s4 0 j = s 0 j := fun j hj => by rw [← hs4, mu_i hj, z3]
  have tx5 : ∀ j, s5 1 j = s 1 j := fun j => by rw [FEv_k e6 (by decide), g4 _ _ (by decide), r4 _ _ (by unfold TK3; omega), p4 _ _ (by unfold TK2 FBc; omega), q3 _ _ (by unfold TK1; omega)]
  have F : Fr (fun k j => ¬ (k = 1 ∨ (k = 0 ∧ j = 1))) s s5 := fun k j hn => by
    rcases Classical.not_not.mp hn with h | ⟨h, h'⟩
    · subst h; exact tx5 j
    · subst h h'; rw [z5, z4 _ (by decide)]
  have n1 : ¬ ¬ ((0 : Nat) = 1 ∨ ((0 : Nat) = 0 ∧ 1 = 1)) := by omega
  have n2 : ∀ j : Nat, ¬ ¬ (1 = 1 ∨ (1 = 0 ∧ j = 1)) := fun j => by omega
  refine ⟨s5, val', ?_, ⟨(F.tx n1 n2).trans h1, F.okT n1 n2 h2, e2, by rw [z5, z4 _ (by decide), h4], by rw [z5, z4 _ (by decide), h5], fun j hj => ?_, e3, e4, h9, hsm, e5, fun j hj => ?_, by rw [z5, ← hs4, mu_s], by rw [z5, z4 _ (by decide), h14]⟩, by rw [z5, z4 _ (by decide)]⟩
  · rw [h0, q1, p1, r1]
    simp (disch := first | exact obC_0 | omega | (simp only [aN1_35, aN1_44, aN1_45, aN1_46, aN1_47, aN1_48]; omega) | (simp only [List.length_cons, List.length_nil]; omega)) only [en56, x56_0, x56_1, x56_3, x56_4, x56_7, x56_10, x56_11, x56_14, x56_15, x56_16, x56_17, x56_20, x56_21, x56_22, x56_25, x56_26, x56_29, x56_30, x56_31, x56_32, x56_33, x56_34, x56_35, x56_36, x56_39, x56_40, x56_41, x56_44, x56_45, x56_46, x56_47, x56_50, x56_53, x56_54, x56_56, x56_57, x56_60, x56_63, x56_64, x56_67, x56_68, x56_69, x56_72, x56_74, x56_75, x56_76, x56_77, x56_78, x56_81, x56_82, x56_83, x56_86, x56_89, x56_90, x56_91, x56_94, x56_97, x56_98, x56_100, x56_101, x56_104, x56_107, x56_108, x56_111, x56_113, x56_114, x56_115, x56_116, x56_117, x56_120, x56_121, x56_124, x56_125, x56_126, x56_129, x56_130, x56_131, x56_132, x56_135, x56_138, x56_139, x56_139i, x56_140, x56_143, x56_144, x56_145, x56_148, x56_149, x56_152, fcn_0_44, fcn_0_59, fcn_0_60, fcn_0_61, fcn_0_62, fcn_0_63, if_true, if_false, eq_self, Int.reduceEq, Int.reduceLT, Int.reduceLE, Int.reduceAdd, Int.reduceSub, Int.reduceMul, Int.reduceToNat, Nat.reduceAdd, Nat.reduceMul, Nat.reduceEqDiff, Int.toNat_natCast, wrap_id, ck3, hs4, e1, zcV_r]
  · rw [FEv_k e6 (by decide), g4 _ _ (by decide), r2 j (Nat.zero_le _) hj]
  · rw [FEv_k e6 (by decide), FEv_k e6 (by decide), g4 _ _ (by decide), g4 _ _ (by decide), r4 _ _ (by unfold TK3; omega), r4 _ _ (by unfold TK3; omega), p4 _ _ (by unfold TK2 FBc; omega), p4 _ _ (by unfold TK2 FBc; omega)]
    exact q2 j (Nat.zero_le _) hj
theorem t_where {d : Nat} {s : Mem} {T : Tx} {w : Int} {cp : Bool} {lv : Live} {st val bf ch : Nat → Int} {ck cn : Int} (hd : 1 ≤ d) (h : RA s T w cp lv st val bf ch ck cn) : ∃ s', Zc d 47 [aR 0] s = rI w s' ∧ RA s' T w cp lv st val bf ch ck cn ∧ s' 0 4 = 0 := by
  obtain ⟨d, rfl⟩ : ∃ e, d = e + 1 := ⟨d - 1, by omega⟩
  have hw := h.2.2.2.1
  refine ⟨mu s 0 4 0, ?_, RA_put thr_fr h, mu_s⟩
  simp (disch := first | exact obC_0 | omega | (simp only [List.length_cons, List.length_nil]; omega)) only [en47, x47_0, x47_1, x47_2, x47_5, x47_6, x47_9, if_true, if_false, eq_self, Int.reduceEq, Int.reduceLT, Int.reduceLE, Int.reduceAdd, Int.reduceSub, Int.reduceMul, Int.reduceToNat, Nat.reduceAdd, Nat.reduceMul, Nat.reduceEqDiff, Int.toNat_natCast, wrap_id, mu_i, hw]
theorem t_value {d : Nat} {k : Int} {s : Mem} {T : Tx} {w : Int} {cp : Bool} {lv : Live} {st val bf ch : Nat → Int} {ck cn : Int} (hd : 2 ≤ d) (h : RA s T w cp lv st val bf ch ck cn) :
    ((0 ≤ k ∧ k < lv.1.length) → ∃ s', Zc d 55 [aR 0, aI k] s = rI (val k.toNat) s' ∧ RA s' T w cp lv st val bf ch ck cn ∧ s' 0 4 = 0) ∧
    (¬ (0 ≤ k ∧ k < lv.1.length) → ∃ s', Zc d 55 [aR 0, aI k] s = rI 0 s' ∧ RA s' T w cp lv st val bf ch ck cn ∧ s' 0 4 = 1) := by
  obtain ⟨d, rfl⟩ : ∃ e, d = e + 1 := ⟨d - 1, by omega⟩
  have hl := h.2.2.1.1
  have hl2 := h.2.2.1.2.1
  refine ⟨fun hk => ?_, fun hk => ?_⟩
  · obtain ⟨n, rfl⟩ : ∃ n : Nat, k = n := ⟨k.toNat, by omega⟩
    have hv := h.2.2.2.2.2.2.1 n (by omega)
    have e : (if (0 : Int) ≤ n ∧ (n : Int) ≤ (lv.1.length : Int) - 1 then (1 : Int) else 0) = 1 := if_pos (by omega)
    refine ⟨mu s 0 4 0, ?_, RA_put thr_fr h, mu_s⟩
    rw [Int.toNat_natCast]
    simp (disch := first | exact obC_0 | omega | (simp only [aN1_44]; omega) | (simp only [List.length_cons, List.length_nil]; omega)) only [en55, x55_0, x55_1, x55_2, x55_3, x55_4, x55_7, x55_8, x55_9, x55_12, x55_15, x55_16, x55_19, x55_20, x55_23, x55_24, x55_27, x55_30, x55_31, x55_34, x55_35, x55_38, x55_39, x55_40, fcn_0_59, if_true, if_false, eq_self, Int.reduceEq, Int.reduceLT, Int.reduceLE, Int.reduceAdd, Int.reduceSub, Int.reduceMul, Int.reduceToNat, Nat.reduceAdd, Nat.reduceMul, Nat.reduceEqDiff, Int.toNat_natCast, wrap_id, hl, t_in (d := d) (by omega), e, zcI_r, mu_s, mu_c, hv]
  · have e : (if (0 : Int) ≤ k ∧ k ≤ (lv.1.length : Int) - 1 then (1 : Int) else 0) = 0 := if_neg (by omega)
    refine ⟨mu s 0 4 1, ?_, RA_put thr_fr h, mu_s⟩
    simp (disch := first | exact obC_0 | omega | (simp only [aN1_44]; omega) | (simp only [List.length_cons, List.length_nil]; omega)) only [en55, x55_0, x55_1, x55_2, x55_3, x55_4, x55_7, x55_8, x55_9, x55_12, x55_15, x55_16, x55_19, x55_20, x55_23, x55_24, x55_27, x55_30, x55_31, x55_34, x55_35, x55_38, x55_39, x55_40, fcn_0_59, if_true, if_false, eq_self, Int.reduceEq, Int.reduceLT, Int.reduceLE, Int.reduceAdd, Int.reduceSub, Int.reduceMul, Int.reduceToNat, Nat.reduceAdd, Nat.reduceMul, Nat.reduceEqDiff, Int.toNat_natCast, wrap_id, hl, t_in (d := d) (by omega), e, zcI_r, mu_s, mu_c]
