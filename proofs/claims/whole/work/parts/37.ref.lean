/-- what reading an expression may write: the place, the nodes from n on -/
def SE (n k j : Nat) : Prop := (k = 0 ∧ (j = 2 ∨ j = 32)) ∨ ((12 ≤ k ∧ k ≤ 18 ∨ k = 21) ∧ n ≤ j ∧ j < 220) ∨ (k = 20 ∧ 6 * n ≤ j)
/-- and where there is a fault -/
def SX (n k j : Nat) : Prop := SE n k j ∨ (k = 0 ∧ (j = 5 ∨ j = 3))
theorem SE_X {n k j : Nat} (h : SE n k j) : SX n k j := Or.inl h
theorem wr_0 {s : Mem} {p : Int} (h : s 0 5 = 0) : wr s p = mu (mu s 0 3 p) 0 5 1 := if_pos h
theorem wr_1 {s : Mem} {p : Int} (h : ¬ s 0 5 = 0) : wr s p = mu s 0 5 1 := if_neg h
theorem Fr.tx {S : Nat → Nat → Prop} {a b : Mem} (h : Fr S a b) (h1 : ¬ S 0 1) (h2 : ∀ j, ¬ S 1 j) : tx b = tx a := by
  show (b 1, (b 0 1).toNat) = (a 1, (a 0 1).toNat)
  rw [h _ _ h1]
  refine congrArg (fun f => (f, _)) ?_
  funext i
  exact h _ _ (h2 i)
theorem Fr.okT {S : Nat → Nat → Prop} {a b : Mem} (h : Fr S a b) (h1 : ¬ S 0 1) (h2 : ∀ j, ¬ S 1 j) (ho : okT a) : okT b := by
  obtain ⟨o1, o2, o3⟩ := ho
  show 0 ≤ b 0 1 ∧ b 0 1 ≤ 200 ∧ ∀ j, j < (b 0 1).toNat → 32 ≤ b 1 j ∧ b 1 j ≤ 126
  rw [h _ _ h1]
  exact ⟨o1, o2, fun j hj => by rw [h _ _ (h2 j)]; exact o3 j hj⟩
theorem SX_len {n : Nat} : ¬ SX n 0 1 := by unfold SX SE; omega
theorem SX_txt {n : Nat} : ∀ j, ¬ SX n 1 j := by intro j; unfold SX SE; omega
/-- a path, as node n has it from its i-th part on -/
def RPath (s : Mem) (n : Nat) : Jvm.Term → Nat → Prop
  | .elem (.arg k) r, i => s 20 (6 * n + i) = k ∧ RPath s n r (i + 1)
  | _, i => s 21 n = i ∧ i ≤ 6
theorem t_takeRef_exit {d n : Nat} (s : Mem) (hb : ¬ s 0 5 = 0) (hn : n < 220) (c : Int) (l3 : AV) : Ze d 17 21 [aR 0, aI n, aI c, l3] [] s = rI n (mu s 18 n (s 0 32)) := by
  rw [x17_21]
  simp (disch := first | exact obC_0 | omega | (simp only [aN1_13, aN1_18, aN1_20, aN1_21]; omega) | (simp only [List.length_cons, List.length_nil]; omega)) only [en17, x17_0, x17_1, x17_2, x17_5, x17_6, x17_7, x17_10, x17_11, x17_12, x17_15, x17_16, x17_17, x17_20, x17_22, x17_25, x17_28, x17_29, x17_31, x17_34, x17_35, x17_37, x17_40, x17_41, x17_44, x17_45, x17_46, x17_48, x17_51, x17_52, x17_53, x17_56, x17_59, x17_60, x17_61, x17_62, x17_62i, x17_63, x17_66, x17_67, x17_68, x17_71, x17_72, x17_74, x17_77, x17_78, x17_81, x17_84, x17_86, x17_87, x17_88, x17_90, x17_93, x17_94, x17_95, x17_96, x17_98, x17_101, x17_102, x17_104, x17_107, x17_108, x17_111, x17_113, x17_114, x17_115, x17_116, x17_119, x17_120, x17_121, x17_122, x17_123, x17_124, x17_125, x17_128, x17_129, x17_130, x17_131, x17_132, x17_133, x17_134, x17_135, x17_138, x17_139, x17_142, x17_143, x17_146, x17_147, x17_148, x17_151, x17_152, x17_153, fcn_0_20, fcn_0_25, fcn_0_27, fcn_0_28, if_neg hb, Int.toNat_natCast]
theorem t_takeRef_46 {d n : Nat} (hd : 5 ≤ d) (hn : n < 220) (i p : Nat) (s : Mem) (l3 : AV) (hi : i < 6) (ho : okT s) (hb : s 0 5 = 0) (hat : s 0 2 = p) (hp : p < (tx s).2) (hpm : s 21 n = i) (h : cA (tx s) p = 46) (hN : isN (cA (tx s) (sk (tx s) (p + 1)))) :
    ∃ s', Ze d 17 21 [aR 0, aI n, aI (cA (tx s) p), l3] [] s = Ze d 17 21 [aR 0, aI n, aI (cA (tx s) (sk (tx s) (sk (tx s) (p + 1) + 1))), aI (cA (tx s) (sk (tx s) (p + 1)) - 97)] [] s' ∧
      s' 0 2 = (sk (tx s) (sk (tx s) (p + 1) + 1) : Nat) ∧ s' 21 n = ((i + 1 : Nat) : Int) ∧ s' 20 (6 * n + i) = cA (tx s) (sk (tx s) (p + 1)) - 97 ∧ Fr (fun k j => (k = 0 ∧ j = 2) ∨ (k = 21 ∧ j = n) ∨ (k = 20 ∧ j = 6 * n + i)) s s' := by
  have hp1 := sk_le (tx s) (j := p + 1) (by omega)
  have hp2 : sk (tx s) (p + 1) < (tx s).2 := cA_in (by have := hN.1; omega)
  have hlen := tx_le ho
  have e1 : ∀ (v : Int), tx (mu s 0 2 v) = tx s := fun v => tx_mu (by decide)
  have o1 : ∀ (v : Int), okT (mu s 0 2 v) := fun v => okT_mu (by decide) ho
  have hk := t_takeName (d := d) (by omega) (mu s 0 2 ((p : Int) + 1)) (o1 _) (j := p + 1) mu_s (by rw [e1]; omega)
  rw [e1, if_pos hN, mu_mu] at hk
  have hcr := cA_rng ho (sk (tx s) (p + 1))
  generalize hs1 : mu (mu (mu s 0 2 ((sk (tx s) (p + 1) : Int) + 1)) 20 (6 * (n : Int) + i).toNat (cA (tx s) (sk (tx s) (p + 1)) - 97)) 21 n ((i : Int) + 1) = s1
  have e6 : (6 * (n : Int) + i).toNat = 6 * n + i := by omega
  rw [e6] at hs1
  have hf : Fr (fun k j => (k = 0 ∧ j = 2) ∨ (k = 21 ∧ j = n) ∨ (k = 20 ∧ j = 6 * n + i)) s s1 := by rw [← hs1]; (repeat (first | exact Fr.rf _ | refine Fr.mu ?_ (by first | (unfold SX SE; omega) | (unfold SE; omega) | omega)))
  have e2 := hf.tx (by omega) (by omega)
  have hk2 := t_here (d := d) (by omega) s1 (hf.okT (by omega) (by omega) ho) (j := sk (tx s) (p + 1) + 1) (by rw [← hs1, mu_c (by decide), mu_c (by decide), mu_s]; omega) (by rw [e2]; omega)
  rw [e2] at hk2
  refine ⟨mu s1 0 2 (sk (tx s) (sk (tx s) (p + 1) + 1) : Nat), ?_, mu_s, ?_, ?_, ?_⟩
  · rw [x17_21, h]
    simp (disch := first | exact obC_0 | omega | (simp only [aN1_13, aN1_18, aN1_20, aN1_21]; omega) | (simp only [List.length_cons, List.length_nil]; omega)) only [en17, x17_0, x17_1, x17_2, x17_5, x17_6, x17_7, x17_10, x17_11, x17_12, x17_15, x17_16, x17_17, x17_20, x17_22, x17_25, x17_28, x17_29, x17_31, x17_34, x17_35, x17_37, x17_40, x17_41, x17_44, x17_45, x17_46, x17_48, x17_51, x17_52, x17_53, x17_56, x17_59, x17_60, x17_61, x17_62, x17_62i, x17_63, x17_66, x17_67, x17_68, x17_71, x17_72, x17_74, x17_77, x17_78, x17_81, x17_84, x17_86, x17_87, x17_88, x17_90, x17_93, x17_94, x17_95, x17_96, x17_98, x17_101, x17_102, x17_104, x17_107, x17_108, x17_111, x17_113, x17_114, x17_115, x17_116, x17_119, x17_120, x17_121, x17_122, x17_123, x17_124, x17_125, x17_128, x17_129, x17_130, x17_131, x17_132, x17_133, x17_134, x17_135, x17_138, x17_139, x17_142, x17_143, x17_146, x17_147, x17_148, x17_151, x17_152, x17_153, fcn_0_20, fcn_0_25, fcn_0_27, fcn_0_28, if_true, if_false, eq_self, Int.reduceEq, Int.reduceLT, Int.reduceLE, Int.reduceAdd, Int.reduceSub, Int.reduceMul, Int.reduceToNat, Nat.reduceAdd, Nat.reduceMul, Nat.reduceEqDiff, Int.toNat_natCast, wrap_id, if_pos hb, hat, hpm, hk, zcI_r, mu_c, mu_i, e6, hs1, hk2, if_neg (show ¬ (i : Int) = 6 by omega)]
  · rw [mu_c (by decide), ← hs1, mu_s]
    rfl
  · rw [mu_c (by decide), ← hs1, mu_c (by decide), mu_s]
  · exact hf.mu (Or.inl ⟨rfl, rfl⟩)
/-- behind a fault in a part: it only goes on to its end -/
theorem t_takeRef_tail {d n : Nat} (hd : 5 ≤ d) (hn : n < 220) {i : Nat} (s : Mem) (hi : i < 6) (ho : okT s) (hb : s 0 5 = 1) {a : Nat} (hat : s 0 2 = a) (ha : a ≤ (tx s).2) (hpm : s 21 n = i) (c v : Int) :
    ∃ s', Ze d 17 107 [aR 0, aI n, aI c, aI v] [] s = rI n s' ∧ s' 0 5 = 1 ∧ s' 0 3 = s 0 3 ∧ Fr (SX n) s s' := by
  have e6 : (6 * (n : Int) + i).toNat = 6 * n + i := by omega
  generalize hs1 : mu (mu s 20 (6 * n + i) v) 21 n ((i : Int) + 1) = s1
  have hf : Fr (SX n) s s1 := by rw [← hs1]; (repeat (first | exact Fr.rf _ | refine Fr.mu ?_ (by first | (unfold SX SE; omega) | (unfold SE; omega) | omega)))
  have e2 := hf.tx SX_len SX_txt
  have hk2 := t_here (d := d) (by omega) s1 (hf.okT SX_len SX_txt ho) (j := a) (by rw [← hs1, mu_c (by decide), mu_c (by decide), hat]) (by rw [e2]; exact ha)
  have hb2 : ∀ x : Int, ¬ mu s1 0 2 x 0 5 = 0 := fun x => by rw [mu_i (by decide), ← hs1, mu_c (by decide), mu_c (by decide), hb]; decide
  have hlen := tx_le ho
  refine ⟨mu (mu s1 0 2 (sk (tx s1) a : Nat)) 18 n (s 0 32), ?_, ?_, ?_, ?_⟩
  · simp (disch := first | exact obC_0 | omega | (simp only [aN1_13, aN1_18, aN1_20, aN1_21]; omega) | (simp only [List.length_cons, List.length_nil]; omega)) only [en17, x17_0, x17_1, x17_2, x17_5, x17_6, x17_7, x17_10, x17_11, x17_12, x17_15, x17_16, x17_17, x17_20, x17_22, x17_25, x17_28, x17_29, x17_31, x17_34, x17_35, x17_37, x17_40, x17_41, x17_44, x17_45, x17_46, x17_48, x17_51, x17_52, x17_53, x17_56, x17_59, x17_60, x17_61, x17_62, x17_62i, x17_63, x17_66, x17_67, x17_68, x17_71, x17_72, x17_74, x17_77, x17_78, x17_81, x17_84, x17_86, x17_87, x17_88, x17_90, x17_93, x17_94, x17_95, x17_96, x17_98, x17_101, x17_102, x17_104, x17_107, x17_108, x17_111, x17_113, x17_114, x17_115, x17_116, x17_119, x17_120, x17_121, x17_122, x17_123, x17_124, x17_125, x17_128, x17_129, x17_130, x17_131, x17_132, x17_133, x17_134, x17_135, x17_138, x17_139, x17_142, x17_143, x17_146, x17_147, x17_148, x17_151, x17_152, x17_153, fcn_0_20, fcn_0_25, fcn_0_27, fcn_0_28, if_true, if_false, eq_self, Int.reduceEq, Int.reduceLT, Int.reduceLE, Int.reduceAdd, Int.reduceSub, Int.reduceMul, Int.reduceToNat, Nat.reduceAdd, Nat.reduceMul, Nat.reduceEqDiff, Int.toNat_natCast, wrap_id, hpm, mu_c, mu_i, zcI_r, e6, hs1, hk2]
    rw [t_takeRef_exit _ (hb2 _) hn, mu_i (by decide)]
    rw [← hs1, mu_c (by decide), mu_c (by decide)]
  · rw [mu_c (by decide), mu_i (by decide), ← hs1, mu_c (by decide), mu_c (by decide), hb]
  · rw [mu_c (by decide), mu_i (by decide), ← hs1, mu_c (by decide), mu_c (by decide)]
  · exact (hf.mu (by unfold SX SE; omega)).mu (by unfold SX SE; omega)
theorem t_takeRef_46f {d n : Nat} (hd : 5 ≤ d) (hn : n < 220) (i p : Nat) (s : Mem) (l3 : AV) (hi : i < 6) (ho : okT s) (hb : s 0 5 = 0) (hat : s 0 2 = p) (hp : p < (tx s).2) (hpm : s 21 n = i) (h : cA (tx s) p = 46) (hN : ¬ isN (cA (tx s) (sk (tx s) (p + 1)))) :
    ∃ s', Ze d 17 21 [aR 0, aI n, aI (cA (tx s) p), l3] [] s = rI n s' ∧ s' 0 5 = 1 ∧ s' 0 3 = (sk (tx s) (p + 1) : Nat) ∧ Fr (SX n) s s' := by
  have hp1 := sk_le (tx s) (j := p + 1) (by omega)
  have hlen := tx_le ho
  have e1 : ∀ (v : Int), tx (mu s 0 2 v) = tx s := fun v => tx_mu (by decide)
  have o1 : ∀ (v : Int), okT (mu s 0 2 v) := fun v => okT_mu (by decide) ho
  have hk := t_takeName (d := d) (by omega) (mu s 0 2 ((p : Int) + 1)) (o1 _) (j := p + 1) mu_s (by rw [e1]; omega)
  rw [e1, if_neg hN, mu_mu, wr_0 (by rw [mu_i (by decide), hb])] at hk
  have hcr := cA_rng ho (sk (tx s) (p + 1))
  generalize hs1 : mu (mu (mu s 0 2 (sk (tx s) (p + 1) : Nat)) 0 3 (sk (tx s) (p + 1) : Nat)) 0 5 1 = s1 at hk
  have hf : Fr (SX n) s s1 := by rw [← hs1]; (repeat (first | exact Fr.rf _ | refine Fr.mu ?_ (by first | (unfold SX SE; omega) | (unfold SE; omega) | omega)))
  have e2 := hf.tx SX_len SX_txt
  obtain ⟨s', h1, h2, h3, h4⟩ := t_takeRef_tail hd hn (i := i) s1 hi (hf.okT SX_len SX_txt ho) (by rw [← hs1, mu_s]) (a := sk (tx s) (p + 1)) (by rw [← hs1, mu_i (by decide), mu_i (by decide), mu_s]) (by rw [e2]; exact hp1) (by rw [← hs1, mu_c (by decide), mu_c (by decide), mu_c (by decide), hpm]) 46 (cA (tx s) (sk (tx s) (p + 1)) - 97)
  refine ⟨s', ?_, h2, by rw [h3, ← hs1, mu_i (by decide), mu_s], hf.tr h4⟩
  rw [← h1, x17_21, h]
  simp (disch := first | exact obC_0 | omega | (simp only [aN1_13, aN1_18, aN1_20, aN1_21]; omega) | (simp only [List.length_cons, List.length_nil]; omega)) only [en17, x17_0, x17_1, x17_2, x17_5, x17_6, x17_7, x17_10, x17_11, x17_12, x17_15, x17_16, x17_17, x17_20, x17_22, x17_25, x17_28, x17_29, x17_31, x17_34, x17_35, x17_37, x17_40, x17_41, x17_44, x17_45, x17_46, x17_48, x17_51, x17_52, x17_53, x17_56, x17_59, x17_60, x17_61, x17_62, x17_62i, x17_63, x17_66, x17_67, x17_68, x17_71, x17_72, x17_74, x17_77, x17_78, x17_81, x17_84, x17_86, x17_87, x17_88, x17_90, x17_93, x17_94, x17_95, x17_96, x17_98, x17_101, x17_102, x17_104, x17_108, x17_111, x17_113, x17_114, x17_115, x17_116, x17_119, x17_120, x17_121, x17_122, x17_123, x17_124, x17_125, x17_128, x17_129, x17_130, x17_131, x17_132, x17_133, x17_134, x17_135, x17_138, x17_139, x17_142, x17_143, x17_146, x17_147, x17_148, x17_151, x17_152, x17_153, fcn_0_20, fcn_0_25, fcn_0_27, fcn_0_28, if_true, if_false, eq_self, Int.reduceEq, Int.reduceLT, Int.reduceLE, Int.reduceAdd, Int.reduceSub, Int.reduceMul, Int.reduceToNat, Nat.reduceAdd, Nat.reduceMul, Nat.reduceEqDiff, Int.toNat_natCast, wrap_id, if_pos hb, hat, hpm, hk, zcI_r, mu_c, mu_i, if_neg (show ¬ (i : Int) = 6 by omega)]
/-- takeNumber where it is well -/
theorem t_num_ok {d : Nat} (hd : 4 ≤ d) (s : Mem) (ho : okT s) {j : Nat} (hj : s 0 2 = j) (hjn : j ≤ (tx s).2) {lo hi : Int} (h : okNu (tx s) lo hi (sk (tx s) j)) : Zc d 12 [aR 0, aI lo, aI hi] s =
    rI (nV (tx s) (sk (tx s) j) (nE (tx s) (sk (tx s) j) - sk (tx s) j)) (mu s 0 2 (nE (tx s) (sk (tx s) j) : Nat)) := by
  rw [t_takeNumber hd s ho hj hjn, if_pos h.1, if_pos h.2]
/-- and where it isn't: a fault at its first character -/
theorem t_num_no {d : Nat} (hd : 4 ≤ d) (s : Mem) (ho : okT s) (hb : s 0 5 = 0) {j : Nat} (hj : s 0 2 = j) (hjn : j ≤ (tx s).2) {lo hi : Int} (h : ¬ okNu (tx s) lo hi (sk (tx s) j)) : ∃ (v : Int) (a : Nat), 0 ≤ v ∧ v ≤ 999999 ∧ a ≤ (tx s).2 ∧ Zc d 12 [aR 0, aI lo, aI hi] s =
    rI v (mu (mu (mu s 0 2 a) 0 3 (sk (tx s) j : Nat)) 0 5 1) := by
  rw [t_takeNumber hd s ho hj hjn]
  have hs := sk_le (tx s) hjn
  by_cases h1 : isD (cA (tx s) (sk (tx s) j))
  · rw [if_pos h1, if_neg (fun q => h ⟨h1, q⟩), wr_0 (by rw [mu_i (by decide), hb])]
    have h2 := nE_ge (tx s) (sk (tx s) j)
    have h3 := nV_5 (T := tx s) (p := sk (tx s) j) (k := min 6 (nE (tx s) (sk (tx s) j) - sk (tx s) j)) (by omega) (by omega)
    exact ⟨_, _, h3.1, h3.2, nE_le _ hs, rfl⟩
  · rw [if_neg h1, wr_0 (by rw [mu_i (by decide), hb])]
    exact ⟨_, _, Int.le_refl _, by decide, hs, rfl⟩
/-- expect behind a fault -/
theorem t_exp_bad {d : Nat} (hd : 3 ≤ d) (s : Mem) (ho : okT s) (hb : s 0 5 = 1) {j : Nat} (hj : s 0 2 = j) (hjn : j ≤ (tx s).2) {c : Int} (hc : 0 ≤ c ∧ c ≠ 60) : ∃ a : Nat, a ≤ (tx s).2 ∧ Zc d 8 [aR 0, aI c] s = rV (mu s 0 2 a) := by
  rw [t_expect hd s ho hj hjn hc]
  have hs := sk_le (tx s) hjn
  by_cases h : cA (tx s) (sk (tx s) j) = c
  · rw [if_pos h]
    have := cA_in (T := tx s) (j := sk (tx s) j) (by omega)
    exact ⟨sk (tx s) j + 1, by omega, rfl⟩
  · rw [if_neg h, wr_1 (by rw [mu_i (by decide), hb]; decide), mu_eq (s := mu s 0 _ _) (by rw [mu_i (by decide), hb])]
    exact ⟨_, hs, rfl⟩
theorem t_exp_no {d : Nat} (hd : 3 ≤ d) (s : Mem) (ho : okT s) (hb : s 0 5 = 0) {j : Nat} (hj : s 0 2 = j) (hjn : j ≤ (tx s).2) {c : Int} (hc : 0 ≤ c ∧ c ≠ 60) (h : ¬ cA (tx s) (sk (tx s) j) = c) : Zc d 8 [aR 0, aI c] s = rV (mu (mu (mu s 0 2 (sk (tx s) j : Nat)) 0 3 (sk (tx s) j : Nat)) 0 5 1) := by
  rw [t_expect hd s ho hj hjn hc, if_neg h, wr_0 (by rw [mu_i (by decide), hb])]
theorem t_exp_ok {d : Nat} (hd : 3 ≤ d) (s : Mem) (ho : okT s) {j : Nat} (hj : s 0 2 = j) (hjn : j ≤ (tx s).2) {c : Int} (hc : 0 ≤ c ∧ c ≠ 60) (h : cA (tx s) (sk (tx s) j) = c) : Zc d 8 [aR 0, aI c] s = rV (mu s 0 2 ((sk (tx s) j : Int) + 1)) := by
  rw [t_expect hd s ho hj hjn hc, if_pos h]
theorem t_takeRef_91 {d n : Nat} (hd : 5 ≤ d) (hn : n < 220) (i p : Nat) (s : Mem) (l3 : AV) (hi : i < 6) (ho : okT s) (hb : s 0 5 = 0) (hat : s 0 2 = p) (hp : p < (tx s).2) (hpm : s 21 n = i) (h : cA (tx s) p = 91) {p1 q1 p2 p3 : Nat} (e1 : sk (tx s) (p + 1) = p1) (eq : nE (tx s) p1 = q1) (e2 : sk (tx s) q1 = p2) (e3 : sk (tx s) (p2 + 1) = p3) (hN : okNu (tx s) 0 65535 p1) (h93 : cA (tx s) p2 = 93) :
    ∃ s', Ze d 17 21 [aR 0, aI n, aI (cA (tx s) p), l3] [] s = Ze d 17 21 [aR 0, aI n, aI (cA (tx s) p3), aI (100 + nV (tx s) p1 (q1 - p1))] [] s' ∧
      s' 0 2 = p3 ∧ s' 21 n = ((i + 1 : Nat) : Int) ∧ s' 20 (6 * n + i) = 100 + nV (tx s) p1 (q1 - p1) ∧ Fr (fun k j => (k = 0 ∧ j = 2) ∨ (k = 21 ∧ j = n) ∨ (k = 20 ∧ j = 6 * n + i)) s s' := by
  have hp1 := sk_le (tx s) (j := p + 1) (by omega)
  rw [e1] at hp1
  have hq1 := nE_le (tx s) hp1
  rw [eq] at hq1
  have hp2 : p2 < (tx s).2 := cA_in (by omega)
  have hlen := tx_le ho
  have et : ∀ (v : Int), tx (mu s 0 2 v) = tx s := fun v => tx_mu (by decide)
  have o1 : ∀ (v : Int), okT (mu s 0 2 v) := fun v => okT_mu (by decide) ho
  have hk := t_num_ok (d := d) (by omega) (mu s 0 2 ((p : Int) + 1)) (o1 _) (j := p + 1) mu_s (by rw [et]; omega) (lo := 0) (hi := 65535) (by rw [et, e1]; exact hN)
  rw [et, e1, eq, mu_mu] at hk
  have hk1 := t_exp_ok (d := d) (by omega) (mu s 0 2 (q1 : Int)) (o1 _) (j := q1) mu_s (by rw [et]; exact hq1) (c := 93) (by decide) (by rw [et, e2]; exact h93)
  rw [et, e2, mu_mu] at hk1
  obtain ⟨hN1, hN2, hN3, hN4, hN5⟩ := hN
  rw [eq] at hN2 hN3 hN4 hN5
  have e6 : (6 * (n : Int) + i).toNat = 6 * n + i := by omega
  generalize hs1 : mu (mu (mu s 0 2 ((p2 : Int) + 1)) 20 (6 * n + i) (100 + nV (tx s) p1 (q1 - p1))) 21 n ((i : Int) + 1) = s1
  have hf : Fr (fun k j => (k = 0 ∧ j = 2) ∨ (k = 21 ∧ j = n) ∨ (k = 20 ∧ j = 6 * n + i)) s s1 := by rw [← hs1]; (repeat (first | exact Fr.rf _ | refine Fr.mu ?_ (by first | (unfold SX SE; omega) | (unfold SE; omega) | omega)))
  have ex := hf.tx (by omega) (by omega)
  have hk2 := t_here (d := d) (by omega) s1 (hf.okT (by omega) (by omega) ho) (j := p2 + 1) (by rw [← hs1, mu_c (by decide), mu_c (by decide), mu_s]; omega) (by rw [ex]; omega)
  rw [ex, e3] at hk2
  refine ⟨mu s1 0 2 (p3 : Nat), ?_, mu_s, ?_, ?_, ?_⟩
  · rw [x17_21, h]
    simp (disch := first | exact obC_0 | omega | (simp only [aN1_13, aN1_18, aN1_20, aN1_21]; omega) | (simp only [List.length_cons, List.length_nil]; omega)) only [en17, x17_0, x17_1, x17_2, x17_5, x17_6, x17_7, x17_10, x17_11, x17_12, x17_15, x17_16, x17_17, x17_20, x17_22, x17_25, x17_28, x17_29, x17_31, x17_34, x17_35, x17_37, x17_40, x17_41, x17_44, x17_45, x17_46, x17_48, x17_51, x17_52, x17_53, x17_56, x17_59, x17_60, x17_61, x17_62, x17_62i, x17_63, x17_66, x17_67, x17_68, x17_71, x17_72, x17_74, x17_77, x17_78, x17_81, x17_84, x17_86, x17_87, x17_88, x17_90, x17_93, x17_94, x17_95, x17_96, x17_98, x17_101, x17_102, x17_104, x17_107, x17_108, x17_111, x17_113, x17_114, x17_115, x17_116, x17_119, x17_120, x17_121, x17_122, x17_123, x17_124, x17_125, x17_128, x17_129, x17_130, x17_131, x17_132, x17_133, x17_134, x17_135, x17_138, x17_139, x17_142, x17_143, x17_146, x17_147, x17_148, x17_151, x17_152, x17_153, fcn_0_20, fcn_0_25, fcn_0_27, fcn_0_28, if_true, if_false, eq_self, Int.reduceEq, Int.reduceLT, Int.reduceLE, Int.reduceAdd, Int.reduceSub, Int.reduceMul, Int.reduceToNat, Nat.reduceAdd, Nat.reduceMul, Nat.reduceEqDiff, Int.toNat_natCast, wrap_id, if_pos hb, hat, hpm, hk, hk1, zcI_r, zcV_r, mu_c, mu_i, e6, hs1, hk2, if_neg (show ¬ (i : Int) = 6 by omega)]
  · rw [mu_c (by decide), ← hs1, mu_s]
    rfl
  · rw [mu_c (by decide), ← hs1, mu_c (by decide), mu_s]
  · exact hf.mu (Or.inl ⟨rfl, rfl⟩)
theorem t_takeRef_91f {d n : Nat} (hd : 5 ≤ d) (hn : n < 220) (i p : Nat) (s : Mem) (l3 : AV) (hi : i < 6) (ho : okT s) (hb : s 0 5 = 0) (hat : s 0 2 = p) (hp : p < (tx s).2) (hpm : s 21 n = i) (h : cA (tx s) p = 91) {p1 : Nat} (e1 : sk (tx s) (p + 1) = p1) (hN : ¬ okNu (tx s) 0 65535 p1) :
    ∃ s', Ze d 17 21 [aR 0, aI n, aI (cA (tx s) p), l3] [] s = rI n s' ∧ s' 0 5 = 1 ∧ s' 0 3 = p1 ∧ Fr (SX n) s s' := by
  have hp1 := sk_le (tx s) (j := p + 1) (by omega)
  have hlen := tx_le ho
  have et : ∀ (v : Int), tx (mu s 0 2 v) = tx s := fun v => tx_mu (by decide)
  have o1 : ∀ (v : Int), okT (mu s 0 2 v) := fun v => okT_mu (by decide) ho
  obtain ⟨v, a, hv0, hv1, ha, hk⟩ := t_num_no (d := d) (by omega) (mu s 0 2 ((p : Int) + 1)) (o1 _) (by rw [mu_i (by decide), hb]) (j := p + 1) mu_s (by rw [et]; omega) (lo := 0) (hi := 65535) (by rw [et, e1]; exact hN)
  rw [et, e1, mu_mu] at hk
  rw [et] at ha
  generalize hs1 : mu (mu (mu s 0 2 (a : Int)) 0 3 (p1 : Nat)) 0 5 1 = s1 at hk
  have hf : Fr (SX n) s s1 := by rw [← hs1]; (repeat (first | exact Fr.rf _ | refine Fr.mu ?_ (by first | (unfold SX SE; omega) | (unfold SE; omega) | omega)))
  have ex := hf.tx SX_len SX_txt
  obtain ⟨a2, ha2, hk1⟩ := t_exp_bad (d := d) (by omega) s1 (hf.okT SX_len SX_txt ho) (by rw [← hs1, mu_s]) (j := a) (by rw [← hs1, mu_i (by decide), mu_i (by decide), mu_s]) (by rw [ex]; exact ha) (c := 93) (by decide)
  have hf2 : Fr (SX n) s (mu s1 0 2 a2) := hf.mu (by unfold SX SE; omega)
  have ex2 := hf2.tx SX_len SX_txt
  rw [ex] at ha2
  obtain ⟨s', h1, h2, h3, h4⟩ := t_takeRef_tail hd hn (i := i) (mu s1 0 2 a2) hi (hf2.okT SX_len SX_txt ho) (by rw [mu_i (by decide), ← hs1, mu_s]) (a := a2) mu_s (by rw [ex2]; exact ha2) (by rw [mu_c (by decide), ← hs1, mu_c (by decide), mu_c (by decide), mu_c (by decide), hpm]) 91 (100 + v)
  refine ⟨s', ?_, h2, by rw [h3, mu_i (by decide), ← hs1, mu_i (by decide), mu_s], hf2.tr h4⟩
  rw [← h1, x17_21, h]
  simp (disch := first | exact obC_0 | omega | (simp only [aN1_13, aN1_18, aN1_20, aN1_21]; omega) | (simp only [List.length_cons, List.length_nil]; omega)) only [en17, x17_0, x17_1, x17_2, x17_5, x17_6, x17_7, x17_10, x17_11, x17_12, x17_15, x17_16, x17_17, x17_20, x17_22, x17_25, x17_28, x17_29, x17_31, x17_34, x17_35, x17_37, x17_40, x17_41, x17_44, x17_45, x17_46, x17_48, x17_51, x17_52, x17_53, x17_56, x17_59, x17_60, x17_61, x17_62, x17_62i, x17_63, x17_66, x17_67, x17_68, x17_71, x17_72, x17_74, x17_77, x17_78, x17_81, x17_84, x17_86, x17_87, x17_88, x17_90, x17_93, x17_94, x17_95, x17_96, x17_98, x17_101, x17_102, x17_104, x17_108, x17_111, x17_113, x17_114, x17_115, x17_116, x17_119, x17_120, x17_121, x17_122, x17_123, x17_124, x17_125, x17_128, x17_129, x17_130, x17_131, x17_132, x17_133, x17_134, x17_135, x17_138, x17_139, x17_142, x17_143, x17_146, x17_147, x17_148, x17_151, x17_152, x17_153, fcn_0_20, fcn_0_25, fcn_0_27, fcn_0_28, if_true, if_false, eq_self, Int.reduceEq, Int.reduceLT, Int.reduceLE, Int.reduceAdd, Int.reduceSub, Int.reduceMul, Int.reduceToNat, Nat.reduceAdd, Nat.reduceMul, Nat.reduceEqDiff, Int.toNat_natCast, wrap_id, if_pos hb, hat, hpm, hk, hk1, zcI_r, zcV_r, mu_c, mu_i, if_neg (show ¬ (i : Int) = 6 by omega)]
theorem t_takeRef_93f {d n : Nat} (hd : 5 ≤ d) (hn : n < 220) (i p : Nat) (s : Mem) (l3 : AV) (hi : i < 6) (ho : okT s) (hb : s 0 5 = 0) (hat : s 0 2 = p) (hp : p < (tx s).2) (hpm : s 21 n = i) (h : cA (tx s) p = 91) {p1 q1 p2 : Nat} (e1 : sk (tx s) (p + 1) = p1) (eq : nE (tx s) p1 = q1) (e2 : sk (tx s) q1 = p2) (hN : okNu (tx s) 0 65535 p1) (h93 : ¬ cA (tx s) p2 = 93) :
    ∃ s', Ze d 17 21 [aR 0, aI n, aI (cA (tx s) p), l3] [] s = rI n s' ∧ s' 0 5 = 1 ∧ s' 0 3 = p2 ∧ Fr (SX n) s s' := by
  have hp1 := sk_le (tx s) (j := p + 1) (by omega)
  rw [e1] at hp1
  have hq1 := nE_le (tx s) hp1
  rw [eq] at hq1
  have hp2 := sk_le (tx s) hq1
  rw [e2] at hp2
  have hlen := tx_le ho
  have et : ∀ (v : Int), tx (mu s 0 2 v) = tx s := fun v => tx_mu (by decide)
  have o1 : ∀ (v : Int), okT (mu s 0 2 v) := fun v => okT_mu (by decide) ho
  have hk := t_num_ok (d := d) (by omega) (mu s 0 2 ((p : Int) + 1)) (o1 _) (j := p + 1) mu_s (by rw [et]; omega) (lo := 0) (hi := 65535) (by rw [et, e1]; exact hN)
  rw [et, e1, eq, mu_mu] at hk
  have hk1 := t_exp_no (d := d) (by omega) (mu s 0 2 (q1 : Int)) (o1 _) (by rw [mu_i (by decide), hb]) (j := q1) mu_s (by rw [et]; exact hq1) (c := 93) (by decide) (by rw [et, e2]; exact h93)
  rw [et, e2, mu_mu] at hk1
  obtain ⟨hN1, hN2, hN3, hN4, hN5⟩ := hN
  rw [eq] at hN2 hN3 hN4 hN5
  generalize hs1 : mu (mu (mu s 0 2 (p2 : Int)) 0 3 (p2 : Nat)) 0 5 1 = s1 at hk1
  have hf : Fr (SX n) s s1 := by rw [← hs1]; (repeat (first | exact Fr.rf _ | refine Fr.mu ?_ (by first | (unfold SX SE; omega) | (unfold SE; omega) | omega)))
  have ex := hf.tx SX_len SX_txt
  obtain ⟨s', h1, h2, h3, h4⟩ := t_takeRef_tail hd hn (i := i) s1 hi (hf.okT SX_len SX_txt ho) (by rw [← hs1, mu_s]) (a := p2) (by rw [← hs1, mu_i (by decide), mu_i (by decide), mu_s]) (by rw [ex]; exact hp2) (by rw [← hs1, mu_c (by decide), mu_c (by decide), mu_c (by decide), hpm]) 91 (100 + nV (tx s) p1 (q1 - p1))
  refine ⟨s', ?_, h2, by rw [h3, ← hs1, mu_i (by decide), mu_s], hf.tr h4⟩
  rw [← h1, x17_21, h]
  simp (disch := first | exact obC_0 | omega | (simp only [aN1_13, aN1_18, aN1_20, aN1_21]; omega) | (simp only [List.length_cons, List.length_nil]; omega)) only [en17, x17_0, x17_1, x17_2, x17_5, x17_6, x17_7, x17_10, x17_11, x17_12, x17_15, x17_16, x17_17, x17_20, x17_22, x17_25, x17_28, x17_29, x17_31, x17_34, x17_35, x17_37, x17_40, x17_41, x17_44, x17_45, x17_46, x17_48, x17_51, x17_52, x17_53, x17_56, x17_59, x17_60, x17_61, x17_62, x17_62i, x17_63, x17_66, x17_67, x17_68, x17_71, x17_72, x17_74, x17_77, x17_78, x17_81, x17_84, x17_86, x17_87, x17_88, x17_90, x17_93, x17_94, x17_95, x17_96, x17_98, x17_101, x17_102, x17_104, x17_108, x17_111, x17_113, x17_114, x17_115, x17_116, x17_119, x17_120, x17_121, x17_122, x17_123, x17_124, x17_125, x17_128, x17_129, x17_130, x17_131, x17_132, x17_133, x17_134, x17_135, x17_138, x17_139, x17_142, x17_143, x17_146, x17_147, x17_148, x17_151, x17_152, x17_153, fcn_0_20, fcn_0_25, fcn_0_27, fcn_0_28, if_true, if_false, eq_self, Int.reduceEq, Int.reduceLT, Int.reduceLE, Int.reduceAdd, Int.reduceSub, Int.reduceMul, Int.reduceToNat, Nat.reduceAdd, Nat.reduceMul, Nat.reduceEqDiff, Int.toNat_natCast, wrap_id, if_pos hb, hat, hpm, hk, hk1, zcI_r, zcV_r, mu_c, mu_i, if_neg (show ¬ (i : Int) = 6 by omega)]
