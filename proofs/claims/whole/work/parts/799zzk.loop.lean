/-! THE CLASS: loops -/
theorem BU_BT {v : Int} {t : Jvm.Term} (hi : ini t = true) (h : BU v t) : BT v (fun h => occ h t) := by
  obtain ⟨n, rfl, h2, h3⟩ := h
  have h24 : n.testBit 24 = false := by
    cases hb : n.testBit 24 with
    | false => rfl
    | true =>
      rcases (h3 24 (by decide)).mp hb with z | z
      · omega
      · rw [hi] at z; cases z.2
  refine ⟨n, rfl, ?_, fun h hh => (h3 h (by omega)).trans ?_⟩
  · apply Nat.lt_pow_two_of_testBit
    intro i hi
    by_cases h' : i = 24
    · rw [h', h24]
    · exact Nat.testBit_lt_two_pow (Nat.lt_of_lt_of_le h2 (Nat.pow_le_pow_right (by decide) (by omega)))
  · unfold uo
    constructor
    · rintro (z | z)
      · exact z.2
      · omega
    · exact fun z => Or.inl ⟨hh, z⟩
theorem reach_tr2 {D : Nat → Nat → Prop} {rg : Nat → Prop} {g m : Nat} (hm : m < 24) (h1 : reach D rg g m) (h2 : ¬ rg m) : ∀ h, reach D rg m h → reach D rg g h :=
  reach_sub (A := fun h => reach D rg g h) (fun _ hd => reach_step hm h1 h2 hd) (fun _ _ hq a b c => reach_step hq a b c)
/-- one pass of the closure -/
def cl1 (R : Nat → Nat → Prop) (t k h : Nat) : Prop := R k h ∨ (R k t ∧ R t h)
def clN (R : Nat → Nat → Prop) : Nat → Nat → Nat → Prop
  | 0 => R
  | t + 1 => cl1 (clN R t) t
theorem clN_sub {R : Nat → Nat → Prop} : ∀ t k h, R k h → clN R t k h
  | 0, _, _, hr => hr
  | t + 1, k, h, hr => Or.inl (clN_sub t k h hr)
theorem clN_tr {R : Nat → Nat → Prop} : ∀ t m k h, m < t → clN R t k m → clN R t m h → clN R t k h := by
  intro t
  induction t with
  | zero => intro m k h hm; omega
  | succ t ih =>
    intro m k h hm h1 h2
    by_cases hmt : m = t
    · subst hmt
      have e1 : clN R m k m := h1.elim id (fun z => z.1)
      have e2 : clN R m m h := h2.elim id (fun z => z.2)
      exact Or.inr ⟨e1, e2⟩
    · have hm' : m < t := by omega
      rcases h1 with a | ⟨a, a'⟩
      · rcases h2 with b | ⟨b, b'⟩
        · exact Or.inl (ih m k h hm' a b)
        · exact Or.inr ⟨ih m k t hm' a b, b'⟩
      · rcases h2 with b | ⟨b, b'⟩
        · exact Or.inr ⟨a, ih m t h hm' a' b⟩
        · exact Or.inr ⟨a, b'⟩
theorem clN_reach {D : Nat → Nat → Prop} {rg : Nat → Prop} {L : Nat} (hL : L ≤ 24) (hD : ∀ g h, D g h → g < L) (k h : Nat) : clN (fun k h => ¬ rg k ∧ D k h) L k h ↔ ¬ rg k ∧ reach D rg k h := by
  constructor
  · have : ∀ t, t ≤ 24 → ∀ k h, clN (fun k h => ¬ rg k ∧ D k h) t k h → ¬ rg k ∧ reach D rg k h := by
      intro t
      induction t with
      | zero => rintro - k h ⟨a, b⟩; exact ⟨a, 0, b⟩
      | succ t ih =>
        rintro ht k h (a | ⟨a, b⟩)
        · exact ih (by omega) k h a
        · obtain ⟨a1, a2⟩ := ih (by omega) k t a
          obtain ⟨b1, b2⟩ := ih (by omega) t h b
          exact ⟨a1, reach_tr2 (by omega) a2 b1 h b2⟩
    exact this L hL k h
  · rintro ⟨a, b⟩
    exact reach_sub (A := fun h => clN (fun k h => ¬ rg k ∧ D k h) L k h) (fun h hd => clN_sub L k h ⟨a, hd⟩) (fun m h _ c1 c2 c3 => clN_tr L m k h (hD m h c3) c1 (clN_sub L m h ⟨c2, c3⟩)) h b
/-! the machine -/
theorem li_a {d o k L : Nat} {v : Int} {l4 : AV} {s : Mem} (ho : o = 0 ∨ o = 26) (hk : k < L) (hL : L ≤ 24) {kd : Nat} (hkd : s (60 + o) k = kd) (hv : v = if kd = 3 then 0 else s (78 + o) k) : Ze d 111 10 [aR 137, aR (58 + o), aI L, aI k, l4] [] s = Ze d 111 10 [aR 137, aR (58 + o), aI L, aI ((k + 1 : Nat) : Int), l4] [] (mu s 150 k v) := by
  rw [x111_10, show ((k + 1 : Nat) : Int) = (k : Int) + 1 from rfl]
  by_cases h3 : kd = 3
  · subst h3
    rw [if_pos rfl] at hv
    subst hv
    have z3 : ((3 : Nat) : Int) = 3 := rfl
    simp (disch := first | exact obC_137 | exact (obCO_58 ho) | exact (obCO_59 ho) | omega | (simp only [aN1_150, (aN1O_60 ho), (aN1O_78 ho)]; omega) | (simp only [List.length_cons, List.length_nil]; omega)) only [en111, x111_0, x111_1, x111_4, x111_7, x111_8, x111_9, x111_11, x111_12, x111_15, x111_16, x111_19, x111_20, x111_21, x111_24, x111_27, x111_28, x111_29, x111_30, x111_33, x111_34, x111_37, x111_38, x111_41, x111_42, x111_43, x111_44, x111_47, x111_50, x111_51, x111_53, x111_54, x111_57, x111_58, x111_62, x111_63, x111_66, x111_67, x111_70, x111_72, x111_73, x111_74, x111_75, x111_76, x111_77, x111_78, x111_81, x111_82, x111_85, x111_87, x111_88, x111_89, x111_90, x111_93, x111_94, x111_95, x111_96, x111_97, x111_100, x111_103, x111_106, x111_109, x111_110, x111_112, x111_113, x111_116, x111_117, x111_120, x111_121, x111_122, x111_123, x111_124, x111_125, x111_126, x111_127, x111_130, x111_131, x111_132, x111_135, x111_138, x111_139, fcn_137_8, (fcnO_58_0 ho), (fcnO_58_8 ho), (fcnO_59_0 ho), if_true, if_false, eq_self, Int.reduceEq, Int.reduceLT, Int.reduceLE, Int.reduceAdd, Int.reduceSub, Int.reduceMul, Int.reduceToNat, Nat.reduceAdd, Nat.reduceMul, Nat.reduceEqDiff, Int.toNat_natCast, wrap_id, if_pos (show (k : Int) < L by omega), hkd, z3]
  · rw [if_neg h3] at hv
    subst hv
    simp (disch := first | exact obC_137 | exact (obCO_58 ho) | exact (obCO_59 ho) | omega | (simp only [aN1_150, (aN1O_60 ho), (aN1O_78 ho)]; omega) | (simp only [List.length_cons, List.length_nil]; omega)) only [en111, x111_0, x111_1, x111_4, x111_7, x111_8, x111_9, x111_11, x111_12, x111_15, x111_16, x111_19, x111_20, x111_21, x111_24, x111_27, x111_28, x111_29, x111_30, x111_33, x111_34, x111_37, x111_38, x111_41, x111_42, x111_43, x111_44, x111_47, x111_50, x111_51, x111_53, x111_54, x111_57, x111_58, x111_62, x111_63, x111_66, x111_67, x111_70, x111_72, x111_73, x111_74, x111_75, x111_76, x111_77, x111_78, x111_81, x111_82, x111_85, x111_87, x111_88, x111_89, x111_90, x111_93, x111_94, x111_95, x111_96, x111_97, x111_100, x111_103, x111_106, x111_109, x111_110, x111_112, x111_113, x111_116, x111_117, x111_120, x111_121, x111_122, x111_123, x111_124, x111_125, x111_126, x111_127, x111_130, x111_131, x111_132, x111_135, x111_138, x111_139, fcn_137_8, (fcnO_58_0 ho), (fcnO_58_8 ho), (fcnO_59_0 ho), if_true, if_false, eq_self, Int.reduceEq, Int.reduceLT, Int.reduceLE, Int.reduceAdd, Int.reduceSub, Int.reduceMul, Int.reduceToNat, Nat.reduceAdd, Nat.reduceMul, Nat.reduceEqDiff, Int.toNat_natCast, wrap_id, if_pos (show (k : Int) < L by omega), hkd, if_neg (show ¬ (kd : Int) = 3 by omega)]
theorem li_a_end {d o L : Nat} {l4 : AV} {s : Mem} : Ze d 111 10 [aR 137, aR (58 + o), aI L, aI L, l4] [] s = Ze d 111 52 [aR 137, aR (58 + o), aI L, aI ((0 : Nat) : Int), l4] [] s := by
  have z0 : ((0 : Nat) : Int) = 0 := rfl
  rw [x111_10]
  simp (disch := first | exact obC_137 | exact obC_58 | exact obC_59 | exact obC_84 | exact obC_85 | omega | (simp only [aN1_104, aN1_150, aN1_60, aN1_78, aN1_86]; omega) | (simp only [List.length_cons, List.length_nil]; omega)) only [en111, x111_0, x111_1, x111_4, x111_7, x111_8, x111_9, x111_11, x111_12, x111_15, x111_16, x111_19, x111_20, x111_21, x111_24, x111_27, x111_28, x111_29, x111_30, x111_33, x111_34, x111_37, x111_38, x111_41, x111_42, x111_43, x111_44, x111_47, x111_50, x111_51, x111_53, x111_54, x111_57, x111_58, x111_62, x111_63, x111_66, x111_67, x111_70, x111_72, x111_73, x111_74, x111_75, x111_76, x111_77, x111_78, x111_81, x111_82, x111_85, x111_87, x111_88, x111_89, x111_90, x111_93, x111_94, x111_95, x111_96, x111_97, x111_100, x111_103, x111_106, x111_109, x111_110, x111_112, x111_113, x111_116, x111_117, x111_120, x111_121, x111_122, x111_123, x111_124, x111_125, x111_126, x111_127, x111_130, x111_131, x111_132, x111_135, x111_138, x111_139, fcn_137_8, fcn_58_0, fcn_58_8, fcn_59_0, fcn_84_0, fcn_84_8, fcn_85_0, if_true, if_false, eq_self, Int.reduceEq, Int.reduceLT, Int.reduceLE, Int.reduceAdd, Int.reduceSub, Int.reduceMul, Int.reduceToNat, Nat.reduceAdd, Nat.reduceMul, Nat.reduceEqDiff, Int.toNat_natCast, wrap_id, if_neg (show ¬ (L : Int) < L by omega), z0]
theorem li_b {d o t L : Nat} {l4 : AV} {s : Mem} (ht : t < L) : Ze d 111 52 [aR 137, aR (58 + o), aI L, aI t, l4] [] s = Ze d 111 60 [aR 137, aR (58 + o), aI L, aI t, aI ((0 : Nat) : Int)] [] s := by
  have z0 : ((0 : Nat) : Int) = 0 := rfl
  rw [x111_52]
  simp (disch := first | exact obC_137 | exact obC_58 | exact obC_59 | exact obC_84 | exact obC_85 | omega | (simp only [aN1_104, aN1_150, aN1_60, aN1_78, aN1_86]; omega) | (simp only [List.length_cons, List.length_nil]; omega)) only [en111, x111_0, x111_1, x111_4, x111_7, x111_8, x111_9, x111_11, x111_12, x111_15, x111_16, x111_19, x111_20, x111_21, x111_24, x111_27, x111_28, x111_29, x111_30, x111_33, x111_34, x111_37, x111_38, x111_41, x111_42, x111_43, x111_44, x111_47, x111_50, x111_51, x111_53, x111_54, x111_57, x111_58, x111_62, x111_63, x111_66, x111_67, x111_70, x111_72, x111_73, x111_74, x111_75, x111_76, x111_77, x111_78, x111_81, x111_82, x111_85, x111_87, x111_88, x111_89, x111_90, x111_93, x111_94, x111_95, x111_96, x111_97, x111_100, x111_103, x111_106, x111_109, x111_110, x111_112, x111_113, x111_116, x111_117, x111_120, x111_121, x111_122, x111_123, x111_124, x111_125, x111_126, x111_127, x111_130, x111_131, x111_132, x111_135, x111_138, x111_139, fcn_137_8, fcn_58_0, fcn_58_8, fcn_59_0, fcn_84_0, fcn_84_8, fcn_85_0, if_true, if_false, eq_self, Int.reduceEq, Int.reduceLT, Int.reduceLE, Int.reduceAdd, Int.reduceSub, Int.reduceMul, Int.reduceToNat, Nat.reduceAdd, Nat.reduceMul, Nat.reduceEqDiff, Int.toNat_natCast, wrap_id, if_pos (show (t : Int) < L by omega), z0]
theorem li_b_end {d o L : Nat} {l4 : AV} {s : Mem} : Ze d 111 52 [aR 137, aR (58 + o), aI L, aI L, l4] [] s = Ze d 111 111 [aR 137, aR (58 + o), aI L, aI ((0 : Nat) : Int), l4] [] s := by
  have z0 : ((0 : Nat) : Int) = 0 := rfl
  rw [x111_52]
  simp (disch := first | exact obC_137 | exact obC_58 | exact obC_59 | exact obC_84 | exact obC_85 | omega | (simp only [aN1_104, aN1_150, aN1_60, aN1_78, aN1_86]; omega) | (simp only [List.length_cons, List.length_nil]; omega)) only [en111, x111_0, x111_1, x111_4, x111_7, x111_8, x111_9, x111_11, x111_12, x111_15, x111_16, x111_19, x111_20, x111_21, x111_24, x111_27, x111_28, x111_29, x111_30, x111_33, x111_34, x111_37, x111_38, x111_41, x111_42, x111_43, x111_44, x111_47, x111_50, x111_51, x111_53, x111_54, x111_57, x111_58, x111_62, x111_63, x111_66, x111_67, x111_70, x111_72, x111_73, x111_74, x111_75, x111_76, x111_77, x111_78, x111_81, x111_82, x111_85, x111_87, x111_88, x111_89, x111_90, x111_93, x111_94, x111_95, x111_96, x111_97, x111_100, x111_103, x111_106, x111_109, x111_110, x111_112, x111_113, x111_116, x111_117, x111_120, x111_121, x111_122, x111_123, x111_124, x111_125, x111_126, x111_127, x111_130, x111_131, x111_132, x111_135, x111_138, x111_139, fcn_137_8, fcn_58_0, fcn_58_8, fcn_59_0, fcn_84_0, fcn_84_8, fcn_85_0, if_true, if_false, eq_self, Int.reduceEq, Int.reduceLT, Int.reduceLE, Int.reduceAdd, Int.reduceSub, Int.reduceMul, Int.reduceToNat, Nat.reduceAdd, Nat.reduceMul, Nat.reduceEqDiff, Int.toNat_natCast, wrap_id, if_neg (show ¬ (L : Int) < L by omega), z0]
theorem li_c {d o t k L n : Nat} {s : Mem} (ht : t < L) (hk : k < L) (hL : L ≤ 24) (hn : s 150 k = n) (hn2 : n < 2 ^ 24) : Ze d 111 60 [aR 137, aR (58 + o), aI L, aI t, aI k] [] s = Ze d 111 60 [aR 137, aR (58 + o), aI L, aI t, aI ((k + 1 : Nat) : Int)] [] (if n.testBit t = true then mu s 150 k (ior n (s 150 t)) else s) := by
  have hbit := b_bit (n := n) (h := t) hn2 (by omega)
  rw [x111_60, show ((k + 1 : Nat) : Int) = (k : Int) + 1 from rfl]
  cases hb : n.testBit t with
  | true =>
    rw [hb] at hbit
    have hbit' : iand (ishr n t) 1 = 1 := hbit
    rw [if_pos rfl]
    simp (disch := first | exact obC_137 | exact obC_58 | exact obC_59 | exact obC_84 | exact obC_85 | omega | (simp only [aN1_104, aN1_150, aN1_60, aN1_78, aN1_86]; omega) | (simp only [List.length_cons, List.length_nil]; omega)) only [en111, x111_0, x111_1, x111_4, x111_7, x111_8, x111_9, x111_11, x111_12, x111_15, x111_16, x111_19, x111_20, x111_21, x111_24, x111_27, x111_28, x111_29, x111_30, x111_33, x111_34, x111_37, x111_38, x111_41, x111_42, x111_43, x111_44, x111_47, x111_50, x111_51, x111_53, x111_54, x111_57, x111_58, x111_62, x111_63, x111_66, x111_67, x111_70, x111_72, x111_73, x111_74, x111_75, x111_76, x111_77, x111_78, x111_81, x111_82, x111_85, x111_87, x111_88, x111_89, x111_90, x111_93, x111_94, x111_95, x111_96, x111_97, x111_100, x111_103, x111_106, x111_109, x111_110, x111_112, x111_113, x111_116, x111_117, x111_120, x111_121, x111_122, x111_123, x111_124, x111_125, x111_126, x111_127, x111_130, x111_131, x111_132, x111_135, x111_138, x111_139, fcn_137_8, fcn_58_0, fcn_58_8, fcn_59_0, fcn_84_0, fcn_84_8, fcn_85_0, if_true, if_false, eq_self, Int.reduceEq, Int.reduceLT, Int.reduceLE, Int.reduceAdd, Int.reduceSub, Int.reduceMul, Int.reduceToNat, Nat.reduceAdd, Nat.reduceMul, Nat.reduceEqDiff, Int.toNat_natCast, wrap_id, if_pos (show (k : Int) < L by omega), hn, hbit']
  | false =>
    rw [hb] at hbit
    have hbit' : iand (ishr n t) 1 = 0 := hbit
    rw [if_neg (by decide)]
    simp (disch := first | exact obC_137 | exact obC_58 | exact obC_59 | exact obC_84 | exact obC_85 | omega | (simp only [aN1_104, aN1_150, aN1_60, aN1_78, aN1_86]; omega) | (simp only [List.length_cons, List.length_nil]; omega)) only [en111, x111_0, x111_1, x111_4, x111_7, x111_8, x111_9, x111_11, x111_12, x111_15, x111_16, x111_19, x111_20, x111_21, x111_24, x111_27, x111_28, x111_29, x111_30, x111_33, x111_34, x111_37, x111_38, x111_41, x111_42, x111_43, x111_44, x111_47, x111_50, x111_51, x111_53, x111_54, x111_57, x111_58, x111_62, x111_63, x111_66, x111_67, x111_70, x111_72, x111_73, x111_74, x111_75, x111_76, x111_77, x111_78, x111_81, x111_82, x111_85, x111_87, x111_88, x111_89, x111_90, x111_93, x111_94, x111_95, x111_96, x111_97, x111_100, x111_103, x111_106, x111_109, x111_110, x111_112, x111_113, x111_116, x111_117, x111_120, x111_121, x111_122, x111_123, x111_124, x111_125, x111_126, x111_127, x111_130, x111_131, x111_132, x111_135, x111_138, x111_139, fcn_137_8, fcn_58_0, fcn_58_8, fcn_59_0, fcn_84_0, fcn_84_8, fcn_85_0, if_true, if_false, eq_self, Int.reduceEq, Int.reduceLT, Int.reduceLE, Int.reduceAdd, Int.reduceSub, Int.reduceMul, Int.reduceToNat, Nat.reduceAdd, Nat.reduceMul, Nat.reduceEqDiff, Int.toNat_natCast, wrap_id, if_pos (show (k : Int) < L by omega), hn, hbit', if_neg (show ¬ (0 : Int) = 1 by decide)]
theorem li_c_end {d o t L : Nat} {s : Mem} (ht : t < L) (hL : L ≤ 24) : Ze d 111 60 [aR 137, aR (58 + o), aI L, aI t, aI L] [] s = Ze d 111 52 [aR 137, aR (58 + o), aI L, aI ((t + 1 : Nat) : Int), aI L] [] s := by
  rw [x111_60, show ((t + 1 : Nat) : Int) = (t : Int) + 1 from rfl]
  simp (disch := first | exact obC_137 | exact obC_58 | exact obC_59 | exact obC_84 | exact obC_85 | omega | (simp only [aN1_104, aN1_150, aN1_60, aN1_78, aN1_86]; omega) | (simp only [List.length_cons, List.length_nil]; omega)) only [en111, x111_0, x111_1, x111_4, x111_7, x111_8, x111_9, x111_11, x111_12, x111_15, x111_16, x111_19, x111_20, x111_21, x111_24, x111_27, x111_28, x111_29, x111_30, x111_33, x111_34, x111_37, x111_38, x111_41, x111_42, x111_43, x111_44, x111_47, x111_50, x111_51, x111_53, x111_54, x111_57, x111_58, x111_62, x111_63, x111_66, x111_67, x111_70, x111_72, x111_73, x111_74, x111_75, x111_76, x111_77, x111_78, x111_81, x111_82, x111_85, x111_87, x111_88, x111_89, x111_90, x111_93, x111_94, x111_95, x111_96, x111_97, x111_100, x111_103, x111_106, x111_109, x111_110, x111_112, x111_113, x111_116, x111_117, x111_120, x111_121, x111_122, x111_123, x111_124, x111_125, x111_126, x111_127, x111_130, x111_131, x111_132, x111_135, x111_138, x111_139, fcn_137_8, fcn_58_0, fcn_58_8, fcn_59_0, fcn_84_0, fcn_84_8, fcn_85_0, if_true, if_false, eq_self, Int.reduceEq, Int.reduceLT, Int.reduceLE, Int.reduceAdd, Int.reduceSub, Int.reduceMul, Int.reduceToNat, Nat.reduceAdd, Nat.reduceMul, Nat.reduceEqDiff, Int.toNat_natCast, wrap_id, if_neg (show ¬ (L : Int) < L by omega)]
theorem li_d {d o k L n : Nat} {l4 : AV} {s : Mem} (hk : k < L) (hL : L ≤ 24) (hn : s 150 k = n) (hn2 : n < 2 ^ 24) : Ze d 111 111 [aR 137, aR (58 + o), aI L, aI k, l4] [] s = if n.testBit k = true then rI k s else Ze d 111 111 [aR 137, aR (58 + o), aI L, aI ((k + 1 : Nat) : Int), l4] [] s := by
  have hbit := b_bit (n := n) (h := k) hn2 (by omega)
  rw [x111_111, show ((k + 1 : Nat) : Int) = (k : Int) + 1 from rfl]
  cases hb : n.testBit k with
  | true =>
    rw [hb] at hbit
    have hbit' : iand (ishr n k) 1 = 1 := hbit
    rw [if_pos rfl]
    simp (disch := first | exact obC_137 | exact obC_58 | exact obC_59 | exact obC_84 | exact obC_85 | omega | (simp only [aN1_104, aN1_150, aN1_60, aN1_78, aN1_86]; omega) | (simp only [List.length_cons, List.length_nil]; omega)) only [en111, x111_0, x111_1, x111_4, x111_7, x111_8, x111_9, x111_11, x111_12, x111_15, x111_16, x111_19, x111_20, x111_21, x111_24, x111_27, x111_28, x111_29, x111_30, x111_33, x111_34, x111_37, x111_38, x111_41, x111_42, x111_43, x111_44, x111_47, x111_50, x111_51, x111_53, x111_54, x111_57, x111_58, x111_62, x111_63, x111_66, x111_67, x111_70, x111_72, x111_73, x111_74, x111_75, x111_76, x111_77, x111_78, x111_81, x111_82, x111_85, x111_87, x111_88, x111_89, x111_90, x111_93, x111_94, x111_95, x111_96, x111_97, x111_100, x111_103, x111_106, x111_109, x111_110, x111_112, x111_113, x111_116, x111_117, x111_120, x111_121, x111_122, x111_123, x111_124, x111_125, x111_126, x111_127, x111_130, x111_131, x111_132, x111_135, x111_138, x111_139, fcn_137_8, fcn_58_0, fcn_58_8, fcn_59_0, fcn_84_0, fcn_84_8, fcn_85_0, if_true, if_false, eq_self, Int.reduceEq, Int.reduceLT, Int.reduceLE, Int.reduceAdd, Int.reduceSub, Int.reduceMul, Int.reduceToNat, Nat.reduceAdd, Nat.reduceMul, Nat.reduceEqDiff, Int.toNat_natCast, wrap_id, if_pos (show (k : Int) < L by omega), hn, hbit']
  | false =>
    rw [hb] at hbit
    have hbit' : iand (ishr n k) 1 = 0 := hbit
    rw [if_neg (show ¬ false = true by decide)]
    simp (disch := first | exact obC_137 | exact obC_58 | exact obC_59 | exact obC_84 | exact obC_85 | omega | (simp only [aN1_104, aN1_150, aN1_60, aN1_78, aN1_86]; omega) | (simp only [List.length_cons, List.length_nil]; omega)) only [en111, x111_0, x111_1, x111_4, x111_7, x111_8, x111_9, x111_11, x111_12, x111_15, x111_16, x111_19, x111_20, x111_21, x111_24, x111_27, x111_28, x111_29, x111_30, x111_33, x111_34, x111_37, x111_38, x111_41, x111_42, x111_43, x111_44, x111_47, x111_50, x111_51, x111_53, x111_54, x111_57, x111_58, x111_62, x111_63, x111_66, x111_67, x111_70, x111_72, x111_73, x111_74, x111_75, x111_76, x111_77, x111_78, x111_81, x111_82, x111_85, x111_87, x111_88, x111_89, x111_90, x111_93, x111_94, x111_95, x111_96, x111_97, x111_100, x111_103, x111_106, x111_109, x111_110, x111_112, x111_113, x111_116, x111_117, x111_120, x111_121, x111_122, x111_123, x111_124, x111_125, x111_126, x111_127, x111_130, x111_131, x111_132, x111_135, x111_138, x111_139, fcn_137_8, fcn_58_0, fcn_58_8, fcn_59_0, fcn_84_0, fcn_84_8, fcn_85_0, if_true, if_false, eq_self, Int.reduceEq, Int.reduceLT, Int.reduceLE, Int.reduceAdd, Int.reduceSub, Int.reduceMul, Int.reduceToNat, Nat.reduceAdd, Nat.reduceMul, Nat.reduceEqDiff, Int.toNat_natCast, wrap_id, if_pos (show (k : Int) < L by omega), hn, hbit', if_neg (show ¬ (0 : Int) = 1 by decide)]
theorem li_d_end {d o L : Nat} {l4 : AV} {s : Mem} : Ze d 111 111 [aR 137, aR (58 + o), aI L, aI L, l4] [] s = rI (-1) s := by
  rw [x111_111]
  simp (disch := first | exact obC_137 | exact obC_58 | exact obC_59 | exact obC_84 | exact obC_85 | omega | (simp only [aN1_104, aN1_150, aN1_60, aN1_78, aN1_86]; omega) | (simp only [List.length_cons, List.length_nil]; omega)) only [en111, x111_0, x111_1, x111_4, x111_7, x111_8, x111_9, x111_11, x111_12, x111_15, x111_16, x111_19, x111_20, x111_21, x111_24, x111_27, x111_28, x111_29, x111_30, x111_33, x111_34, x111_37, x111_38, x111_41, x111_42, x111_43, x111_44, x111_47, x111_50, x111_51, x111_53, x111_54, x111_57, x111_58, x111_62, x111_63, x111_66, x111_67, x111_70, x111_72, x111_73, x111_74, x111_75, x111_76, x111_77, x111_78, x111_81, x111_82, x111_85, x111_87, x111_88, x111_89, x111_90, x111_93, x111_94, x111_95, x111_96, x111_97, x111_100, x111_103, x111_106, x111_109, x111_110, x111_112, x111_113, x111_116, x111_117, x111_120, x111_121, x111_122, x111_123, x111_124, x111_125, x111_126, x111_127, x111_130, x111_131, x111_132, x111_135, x111_138, x111_139, fcn_137_8, fcn_58_0, fcn_58_8, fcn_59_0, fcn_84_0, fcn_84_8, fcn_85_0, if_true, if_false, eq_self, Int.reduceEq, Int.reduceLT, Int.reduceLE, Int.reduceAdd, Int.reduceSub, Int.reduceMul, Int.reduceToNat, Nat.reduceAdd, Nat.reduceMul, Nat.reduceEqDiff, Int.toNat_natCast, wrap_id, if_neg (show ¬ (L : Int) < L by omega)]
