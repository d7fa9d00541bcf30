/-! THE CLASS: what the nodes need -/
/-- v is the bits of P, the 25th too -/
def BQ (v : Int) (P : Nat → Prop) : Prop := ∃ n : Nat, v = n ∧ n < 2 ^ 25 ∧ ∀ h, h < 25 → (n.testBit h = true ↔ P h)
theorem BQ_0 : BQ 0 (fun _ => False) := ⟨0, rfl, by decide, fun h _ => by rw [Nat.zero_testBit]; exact ⟨fun z => (nomatch z), fun z => z.elim⟩⟩
theorem BQ_iff {v : Int} {P Q : Nat → Prop} (h : BQ v P) (e : ∀ g, g < 25 → (P g ↔ Q g)) : BQ v Q := by
  obtain ⟨n, h1, h2, h3⟩ := h
  exact ⟨n, h1, h2, fun g hg => (h3 g hg).trans (e g hg)⟩
theorem q_or {a b : Nat} (ha : a < 2 ^ 25) (hb : b < 2 ^ 25) : ior a b = ((a ||| b : Nat) : Int) := by
  have hab : a ||| b < 2 ^ 25 := Nat.or_lt_two_pow ha hb
  rw [ior_def, b_i32, b_i32]
  have : nI a ||| nI b = nI (a ||| b) := by
    apply Int32.toBitVec_inj.mp
    rw [Int32.toBitVec_or]
    apply BitVec.eq_of_toNat_eq
    rw [BitVec.toNat_or, pk_tn (by omega), pk_tn (by omega), pk_tn (by omega)]
  rw [this, nI_toInt (by omega)]
theorem BQ_or {v w : Int} {P Q : Nat → Prop} (h1 : BQ v P) (h2 : BQ w Q) : BQ (ior v w) (fun h => P h ∨ Q h) := by
  obtain ⟨a, rfl, a2, a3⟩ := h1
  obtain ⟨b, rfl, b2, b3⟩ := h2
  refine ⟨a ||| b, q_or a2 b2, Nat.or_lt_two_pow a2 b2, fun h hh => ?_⟩
  rw [Nat.testBit_or, Bool.or_eq_true, a3 h hh, b3 h hh]
theorem BQ_one {g : Nat} (hg : g < 25) : BQ (ishl 1 g) (fun h => h = g) := by
  have h1 : (1 : Int) = ((1 : Nat) : Int) := rfl
  have hp : 2 ^ g < 2 ^ 25 := Nat.pow_lt_pow_right (by decide) hg
  refine ⟨2 ^ g, ?_, hp, fun h _ => ?_⟩
  · rw [h1, b_shl (by omega) (by omega), Nat.one_mul]
  · rw [Nat.testBit_two_pow]
    simp only [decide_eq_true_eq]
    exact ⟨fun z => z.symm, fun z => z.symm⟩
/-- what is in a form, and whether a path of it leads to nothing -/
def uo (t : Jvm.Term) (h : Nat) : Prop := (h < 24 ∧ occ h t) ∨ (h = 24 ∧ ini t = false)
def BU (v : Int) (t : Jvm.Term) : Prop := BQ v (uo t)
theorem CR_ini {s : Mem} {o : Nat} {e : Jvm.Term} {n : Nat} : CR s o e n → ini e = true := by
  fun_cases CR s o e n with
  | case1 => exact fun _ => rfl
  | case2 => exact fun _ => rfl
  | case3 => exact fun _ => rfl
  | case4 => exact fun _ => rfl
  | case5 => exact fun _ => rfl
  | case6 => exact fun _ => rfl
  | case7 => exact fun h => h.elim
theorem BU_of {v : Int} {t : Jvm.Term} {P : Nat → Prop} (hi : ini t = true) (h : BQ v (fun h => h < 24 ∧ P h)) (e : ∀ g, g < 24 → (P g ↔ occ g t)) : BU v t := by
  refine BQ_iff h (fun g hg => ?_)
  unfold uo
  constructor
  · rintro ⟨a, b⟩
    exact Or.inl ⟨a, (e g a).mp b⟩
  · rintro (⟨a, b⟩ | ⟨a, b⟩)
    · exact ⟨a, (e g a).mpr b⟩
    · rw [hi] at b
      cases b
theorem BU_P {v : Int} {t : Jvm.Term} (hi : ini t = true) (h : BU v t) : BQ v (fun h => h < 24 ∧ occ h t) := by
  refine BQ_iff h (fun g hg => ?_)
  unfold uo
  constructor
  · rintro (h | ⟨a, b⟩)
    · exact h
    · rw [hi] at b
      cases b
  · exact Or.inl
/-- the needs of the expressions whose whole lies below i -/
def NAc (s : Mem) (o i : Nat) : Prop := ∀ (e : Jvm.Term) (m : Nat), CR s o e m → 25 ≤ m → m + esz e ≤ i → BU (s 138 (m + esz e - 1)) e
def NDF (k j : Nat) : Prop := k = 138 ∧ j < 225
theorem nn_sig {d r o : Nat} (ho : o = 0 ∨ o = 26) : ∀ (m k : Nat) (s : Mem) (l3 l4 : AV), k + m = 24 → (∀ g, g < k → s 138 g = ishl 1 g) → ∃ s', Ze d 103 2 [aR 137, aR r, aI k, l3, l4] [] s = Ze d 103 35 [aR 137, aR r, aI ((25 : Nat) : Int), l3, l4] [] s' ∧ (∀ g, g < 24 → s' 138 g = ishl 1 g) ∧ s' 138 24 = 16777216 ∧ Fr NDF s s' := by
  intro m
  induction m with
  | zero =>
    intro k s l3 l4 hk hg
    have : k = 24 := by omega
    subst this
    refine ⟨mu s 138 24 16777216, ?_, fun g hg' => by rw [mu_i (by omega)]; exact hg g hg', mu_s, (Fr.rf s).mu ⟨rfl, by decide⟩⟩
    have z25 : ((25 : Nat) : Int) = 25 := rfl
    rw [x103_2]
    simp (disch := first | exact obC_137 | exact (obCO_66 ho) | omega | (simp only [aN1_138, (aN1O_67 ho), (aN1O_68 ho), (aN1O_69 ho), (aN1O_70 ho)]; omega) | (simp only [List.length_cons, List.length_nil]; omega)) only [en103, x103_0, x103_1, x103_3, x103_5, x103_8, x103_9, x103_12, x103_13, x103_14, x103_15, x103_16, x103_17, x103_20, x103_23, x103_24, x103_27, x103_29, x103_31, x103_32, x103_34, x103_36, x103_37, x103_40, x103_43, x103_44, x103_47, x103_48, x103_49, x103_52, x103_53, x103_54, x103_57, x103_58, x103_59, x103_60, x103_63, x103_64, x103_65, x103_68, x103_69, x103_70, x103_71, x103_74, x103_75, x103_77, x103_79, x103_80, x103_83, x103_84, x103_87, x103_88, x103_91, x103_92, x103_93, x103_94, x103_97, x103_98, x103_99, x103_101, x103_103, x103_104, x103_105, x103_108, x103_109, x103_112, x103_113, x103_116, x103_117, x103_118, x103_119, x103_122, x103_123, x103_124, x103_126, x103_128, x103_129, x103_130, x103_133, x103_134, x103_137, x103_138, x103_141, x103_142, x103_143, x103_144, x103_147, x103_148, x103_149, x103_151, x103_152, x103_155, x103_156, x103_158, x103_159, x103_162, x103_165, fcn_137_2, fcn_66_0, fcn_66_1, fcn_66_2, fcn_66_3, fcn_92_0, fcn_92_1, fcn_92_2, fcn_92_3, if_true, if_false, eq_self, Int.reduceEq, Int.reduceLT, Int.reduceLE, Int.reduceAdd, Int.reduceSub, Int.reduceMul, Int.reduceToNat, Nat.reduceAdd, Nat.reduceMul, Nat.reduceEqDiff, Int.toNat_natCast, wrap_id, if_neg (show ¬ ((24 : Nat) : Int) < 24 by decide), z25]
  | succ m ih =>
    intro k s l3 l4 hk hg
    have e0 : Ze d 103 2 [aR 137, aR r, aI k, l3, l4] [] s = Ze d 103 2 [aR 137, aR r, aI ((k + 1 : Nat) : Int), l3, l4] [] (mu s 138 k (ishl 1 k)) := by
      rw [x103_2, show ((k + 1 : Nat) : Int) = (k : Int) + 1 from rfl]
      simp (disch := first | exact obC_137 | exact (obCO_66 ho) | omega | (simp only [aN1_138, (aN1O_67 ho), (aN1O_68 ho), (aN1O_69 ho), (aN1O_70 ho)]; omega) | (simp only [List.length_cons, List.length_nil]; omega)) only [en103, x103_0, x103_1, x103_3, x103_5, x103_8, x103_9, x103_12, x103_13, x103_14, x103_15, x103_16, x103_17, x103_20, x103_23, x103_24, x103_27, x103_29, x103_31, x103_32, x103_34, x103_36, x103_37, x103_40, x103_43, x103_44, x103_47, x103_48, x103_49, x103_52, x103_53, x103_54, x103_57, x103_58, x103_59, x103_60, x103_63, x103_64, x103_65, x103_68, x103_69, x103_70, x103_71, x103_74, x103_75, x103_77, x103_79, x103_80, x103_83, x103_84, x103_87, x103_88, x103_91, x103_92, x103_93, x103_94, x103_97, x103_98, x103_99, x103_101, x103_103, x103_104, x103_105, x103_108, x103_109, x103_112, x103_113, x103_116, x103_117, x103_118, x103_119, x103_122, x103_123, x103_124, x103_126, x103_128, x103_129, x103_130, x103_133, x103_134, x103_137, x103_138, x103_141, x103_142, x103_143, x103_144, x103_147, x103_148, x103_149, x103_151, x103_152, x103_155, x103_156, x103_158, x103_159, x103_162, x103_165, fcn_137_2, fcn_66_0, fcn_66_1, fcn_66_2, fcn_66_3, fcn_92_0, fcn_92_1, fcn_92_2, fcn_92_3, if_true, if_false, eq_self, Int.reduceEq, Int.reduceLT, Int.reduceLE, Int.reduceAdd, Int.reduceSub, Int.reduceMul, Int.reduceToNat, Nat.reduceAdd, Nat.reduceMul, Nat.reduceEqDiff, Int.toNat_natCast, wrap_id, if_pos (show (k : Int) < 24 by omega)]
    obtain ⟨s', e1, e2, e3, e4⟩ := ih (k + 1) (mu s 138 k (ishl 1 k)) l3 l4 (by omega) (fun g hg' => by
      by_cases e : g = k
      · rw [e, mu_s]
      · rw [mu_i e]
        exact hg g (by omega))
    exact ⟨s', e0.trans e1, e2, e3, ((Fr.rf s).mu ⟨rfl, by omega⟩).tr e4⟩
theorem nn_step {d o i N : Nat} {op a b c x p1 p2 p3 : Int} {pr : Int} {s : Mem} {l3 l4 : AV} (hd : 1 ≤ d) (ho : o = 0 ∨ o = 26) (hN : s (66 + o) 7 = N) (hi : i < N) (hN2 : N ≤ 225) (hop : s (67 + o) i = op) (hl : s (68 + o) i = a) (hm : s (69 + o) i = b) (hr : s (70 + o) i = c) (hpr : prtK op = pr) (ha : 0 < pr → 0 ≤ a ∧ a < 225) (hb : 1 < pr → 0 ≤ b ∧ b < 225) (hc : 2 < pr → 0 ≤ c ∧ c < 225) (hx : x = if op = 5 then ishl 1 a else 0) (h1 : p1 = if 0 < pr then s 138 a.toNat else 0) (h2 : p2 = if 1 < pr then s 138 b.toNat else 0) (h3 : p3 = if 2 < pr then s 138 c.toNat else 0) :
    Ze d 103 35 [aR 137, aR (66 + o), aI i, l3, l4] [] s = Ze d 103 35 [aR 137, aR (66 + o), aI ((i + 1 : Nat) : Int), aI pr, aI (ior (ior (ior x p1) p2) p3)] [] (mu s 138 i (ior (ior (ior x p1) p2) p3)) := by
  rw [x103_35, show ((i + 1 : Nat) : Int) = (i : Int) + 1 from rfl]
  have hp := fun s => k_partsOf (d := d) (c := op) (s := s) hd
  rw [hpr] at hp
  by_cases h5 : op = 5
  · rw [if_pos h5] at hx
    subst hx
    subst h5
    have hpr0 : pr = 0 := by rw [← hpr]; rfl
    subst hpr0
    rw [if_neg (by decide)] at h1 h2 h3
    subst h1 h2 h3
    simp (disch := first | exact obC_137 | exact (obCO_66 ho) | omega | (simp only [aN1_138, (aN1O_67 ho), (aN1O_68 ho), (aN1O_69 ho), (aN1O_70 ho)]; omega) | (simp only [List.length_cons, List.length_nil]; omega)) only [en103, x103_0, x103_1, x103_3, x103_5, x103_8, x103_9, x103_12, x103_13, x103_14, x103_15, x103_16, x103_17, x103_20, x103_23, x103_24, x103_27, x103_29, x103_31, x103_32, x103_34, x103_36, x103_37, x103_40, x103_43, x103_44, x103_47, x103_48, x103_49, x103_52, x103_53, x103_54, x103_57, x103_58, x103_59, x103_60, x103_63, x103_64, x103_65, x103_68, x103_69, x103_70, x103_71, x103_74, x103_75, x103_77, x103_79, x103_80, x103_83, x103_84, x103_87, x103_88, x103_91, x103_92, x103_93, x103_94, x103_97, x103_98, x103_99, x103_101, x103_103, x103_104, x103_105, x103_108, x103_109, x103_112, x103_113, x103_116, x103_117, x103_118, x103_119, x103_122, x103_123, x103_124, x103_126, x103_128, x103_129, x103_130, x103_133, x103_134, x103_137, x103_138, x103_141, x103_142, x103_143, x103_144, x103_147, x103_148, x103_149, x103_151, x103_152, x103_155, x103_156, x103_158, x103_159, x103_162, x103_165, fcn_137_2, (fcnO_66_0 ho), (fcnO_66_1 ho), (fcnO_66_2 ho), (fcnO_66_3 ho), if_true, if_false, eq_self, Int.reduceEq, Int.reduceLT, Int.reduceLE, Int.reduceAdd, Int.reduceSub, Int.reduceMul, Int.reduceToNat, Nat.reduceAdd, Nat.reduceMul, Nat.reduceEqDiff, Int.toNat_natCast, wrap_id, hN, if_pos (show (i : Int) < N by omega), hop, hp, zcI_r, hl, if_neg (show ¬ (0 : Int) < 0 by decide)]
  · rw [if_neg h5] at hx
    subst hx
    by_cases g3 : 2 < pr
    · obtain ⟨a1, a2⟩ := ha (by omega)
      obtain ⟨b1, b2⟩ := hb (by omega)
      obtain ⟨c1, c2⟩ := hc g3
      rw [if_pos (by omega)] at h1 h2 h3
      subst h1 h2 h3
      simp (disch := first | exact obC_137 | exact (obCO_66 ho) | omega | (simp only [aN1_138, (aN1O_67 ho), (aN1O_68 ho), (aN1O_69 ho), (aN1O_70 ho)]; omega) | (simp only [List.length_cons, List.length_nil]; omega)) only [en103, x103_0, x103_1, x103_3, x103_5, x103_8, x103_9, x103_12, x103_13, x103_14, x103_15, x103_16, x103_17, x103_20, x103_23, x103_24, x103_27, x103_29, x103_31, x103_32, x103_34, x103_36, x103_37, x103_40, x103_43, x103_44, x103_47, x103_48, x103_49, x103_52, x103_53, x103_54, x103_57, x103_58, x103_59, x103_60, x103_63, x103_64, x103_65, x103_68, x103_69, x103_70, x103_71, x103_74, x103_75, x103_77, x103_79, x103_80, x103_83, x103_84, x103_87, x103_88, x103_91, x103_92, x103_93, x103_94, x103_97, x103_98, x103_99, x103_101, x103_103, x103_104, x103_105, x103_108, x103_109, x103_112, x103_113, x103_116, x103_117, x103_118, x103_119, x103_122, x103_123, x103_124, x103_126, x103_128, x103_129, x103_130, x103_133, x103_134, x103_137, x103_138, x103_141, x103_142, x103_143, x103_144, x103_147, x103_148, x103_149, x103_151, x103_152, x103_155, x103_156, x103_158, x103_159, x103_162, x103_165, fcn_137_2, (fcnO_66_0 ho), (fcnO_66_1 ho), (fcnO_66_2 ho), (fcnO_66_3 ho), if_true, if_false, eq_self, Int.reduceEq, Int.reduceLT, Int.reduceLE, Int.reduceAdd, Int.reduceSub, Int.reduceMul, Int.reduceToNat, Nat.reduceAdd, Nat.reduceMul, Nat.reduceEqDiff, Int.toNat_natCast, wrap_id, hN, if_pos (show (i : Int) < N by omega), hop, hp, zcI_r, if_neg h5, hl, hm, hr, if_pos (show 0 < pr by omega), if_pos (show 1 < pr by omega), if_pos g3]
    · rw [if_neg g3] at h3
      subst h3
      by_cases g2 : 1 < pr
      · obtain ⟨a1, a2⟩ := ha (by omega)
        obtain ⟨b1, b2⟩ := hb g2
        rw [if_pos (by omega)] at h1 h2
        subst h1 h2
        simp (disch := first | exact obC_137 | exact (obCO_66 ho) | omega | (simp only [aN1_138, (aN1O_67 ho), (aN1O_68 ho), (aN1O_69 ho), (aN1O_70 ho)]; omega) | (simp only [List.length_cons, List.length_nil]; omega)) only [en103, x103_0, x103_1, x103_3, x103_5, x103_8, x103_9, x103_12, x103_13, x103_14, x103_15, x103_16, x103_17, x103_20, x103_23, x103_24, x103_27, x103_29, x103_31, x103_32, x103_34, x103_36, x103_37, x103_40, x103_43, x103_44, x103_47, x103_48, x103_49, x103_52, x103_53, x103_54, x103_57, x103_58, x103_59, x103_60, x103_63, x103_64, x103_65, x103_68, x103_69, x103_70, x103_71, x103_74, x103_75, x103_77, x103_79, x103_80, x103_83, x103_84, x103_87, x103_88, x103_91, x103_92, x103_93, x103_94, x103_97, x103_98, x103_99, x103_101, x103_103, x103_104, x103_105, x103_108, x103_109, x103_112, x103_113, x103_116, x103_117, x103_118, x103_119, x103_122, x103_123, x103_124, x103_126, x103_128, x103_129, x103_130, x103_133, x103_134, x103_137, x103_138, x103_141, x103_142, x103_143, x103_144, x103_147, x103_148, x103_149, x103_151, x103_152, x103_155, x103_156, x103_158, x103_159, x103_162, x103_165, fcn_137_2, (fcnO_66_0 ho), (fcnO_66_1 ho), (fcnO_66_2 ho), (fcnO_66_3 ho), if_true, if_false, eq_self, Int.reduceEq, Int.reduceLT, Int.reduceLE, Int.reduceAdd, Int.reduceSub, Int.reduceMul, Int.reduceToNat, Nat.reduceAdd, Nat.reduceMul, Nat.reduceEqDiff, Int.toNat_natCast, wrap_id, hN, if_pos (show (i : Int) < N by omega), hop, hp, zcI_r, if_neg h5, hl, hm, if_pos (show 0 < pr by omega), if_pos g2, if_neg g3]
      · rw [if_neg g2] at h2
        subst h2
        by_cases g1 : 0 < pr
        · obtain ⟨a1, a2⟩ := ha g1
          rw [if_pos g1] at h1
          subst h1
          simp (disch := first | exact obC_137 | exact (obCO_66 ho) | omega | (simp only [aN1_138, (aN1O_67 ho), (aN1O_68 ho), (aN1O_69 ho), (aN1O_70 ho)]; omega) | (simp only [List.length_cons, List.length_nil]; omega)) only [en103, x103_0, x103_1, x103_3, x103_5, x103_8, x103_9, x103_12, x103_13, x103_14, x103_15, x103_16, x103_17, x103_20, x103_23, x103_24, x103_27, x103_29, x103_31, x103_32, x103_34, x103_36, x103_37, x103_40, x103_43, x103_44, x103_47, x103_48, x103_49, x103_52, x103_53, x103_54, x103_57, x103_58, x103_59, x103_60, x103_63, x103_64, x103_65, x103_68, x103_69, x103_70, x103_71, x103_74, x103_75, x103_77, x103_79, x103_80, x103_83, x103_84, x103_87, x103_88, x103_91, x103_92, x103_93, x103_94, x103_97, x103_98, x103_99, x103_101, x103_103, x103_104, x103_105, x103_108, x103_109, x103_112, x103_113, x103_116, x103_117, x103_118, x103_119, x103_122, x103_123, x103_124, x103_126, x103_128, x103_129, x103_130, x103_133, x103_134, x103_137, x103_138, x103_141, x103_142, x103_143, x103_144, x103_147, x103_148, x103_149, x103_151, x103_152, x103_155, x103_156, x103_158, x103_159, x103_162, x103_165, fcn_137_2, (fcnO_66_0 ho), (fcnO_66_1 ho), (fcnO_66_2 ho), (fcnO_66_3 ho), if_true, if_false, eq_self, Int.reduceEq, Int.reduceLT, Int.reduceLE, Int.reduceAdd, Int.reduceSub, Int.reduceMul, Int.reduceToNat, Nat.reduceAdd, Nat.reduceMul, Nat.reduceEqDiff, Int.toNat_natCast, wrap_id, hN, if_pos (show (i : Int) < N by omega), hop, hp, zcI_r, if_neg h5, hl, if_pos g1, if_neg g2, if_neg g3]
        · rw [if_neg g1] at h1
          subst h1
          simp (disch := first | exact obC_137 | exact (obCO_66 ho) | omega | (simp only [aN1_138, (aN1O_67 ho), (aN1O_68 ho), (aN1O_69 ho), (aN1O_70 ho)]; omega) | (simp only [List.length_cons, List.length_nil]; omega)) only [en103, x103_0, x103_1, x103_3, x103_5, x103_8, x103_9, x103_12, x103_13, x103_14, x103_15, x103_16, x103_17, x103_20, x103_23, x103_24, x103_27, x103_29, x103_31, x103_32, x103_34, x103_36, x103_37, x103_40, x103_43, x103_44, x103_47, x103_48, x103_49, x103_52, x103_53, x103_54, x103_57, x103_58, x103_59, x103_60, x103_63, x103_64, x103_65, x103_68, x103_69, x103_70, x103_71, x103_74, x103_75, x103_77, x103_79, x103_80, x103_83, x103_84, x103_87, x103_88, x103_91, x103_92, x103_93, x103_94, x103_97, x103_98, x103_99, x103_101, x103_103, x103_104, x103_105, x103_108, x103_109, x103_112, x103_113, x103_116, x103_117, x103_118, x103_119, x103_122, x103_123, x103_124, x103_126, x103_128, x103_129, x103_130, x103_133, x103_134, x103_137, x103_138, x103_141, x103_142, x103_143, x103_144, x103_147, x103_148, x103_149, x103_151, x103_152, x103_155, x103_156, x103_158, x103_159, x103_162, x103_165, fcn_137_2, (fcnO_66_0 ho), (fcnO_66_1 ho), (fcnO_66_2 ho), (fcnO_66_3 ho), if_true, if_false, eq_self, Int.reduceEq, Int.reduceLT, Int.reduceLE, Int.reduceAdd, Int.reduceSub, Int.reduceMul, Int.reduceToNat, Nat.reduceAdd, Nat.reduceMul, Nat.reduceEqDiff, Int.toNat_natCast, wrap_id, hN, if_pos (show (i : Int) < N by omega), hop, hp, zcI_r, if_neg h5, if_neg g1, if_neg g2, if_neg g3]
theorem iorz {v : Int} {P : Nat → Prop} (h : BQ v P) : BQ (ior v 0) P := BQ_iff (BQ_or h BQ_0) (fun _ _ => ⟨fun z => z.elim id False.elim, Or.inl⟩)
theorem zior {v : Int} {P : Nat → Prop} (h : BQ v P) : BQ (ior 0 v) P := BQ_iff (BQ_or BQ_0 h) (fun _ _ => ⟨fun z => z.elim False.elim id, Or.inr⟩)
theorem prtK_two {c : Nat} (h : two c) : prtK c = 2 := by
  unfold two at h
  unfold prtK
  rw [if_neg (by omega), if_pos (by omega)]
/-- one node: the needs of the expression whose whole it is -/
theorem nn_one {d o i m N : Nat} {e : Jvm.Term} {s : Mem} (hd : 1 ≤ d) (ho : o = 0 ∨ o = 26) (hN : s (66 + o) 7 = N) (hi : i < N) (hN2 : N ≤ 225) : CR s o e m → 25 ≤ m → m + esz e = i + 1 → NAc s o i →
    ∃ (v : Int) (x3 x4 : AV), BU v e ∧ ∀ (l3 l4 : AV), Ze d 103 35 [aR 137, aR (66 + o), aI i, l3, l4] [] s = Ze d 103 35 [aR 137, aR (66 + o), aI ((i + 1 : Nat) : Int), x3, x4] [] (mu s 138 i v) := by
  intro hc
  have hci := CR_ini hc
  revert hc
  fun_cases CR s o e m with
  | case1 a =>
    rintro ⟨h1, h2, h3, h4⟩ hm hi2 hW
    have hp := esz_pos a
    have he : esz (.old a) = 1 + esz a := rfl
    have w := hW a m h4 hm (by omega)
    rw [show m + esz a = i by omega] at h1 h2
    refine ⟨_, _, _, ?_, fun l3 l4 => nn_step hd ho hN hi hN2 h1 h2 rfl rfl rfl (fun _ => by omega) (fun z => absurd z (by decide)) (fun z => absurd z (by decide)) rfl rfl rfl rfl⟩
    have w' : BQ (s 138 ((i - 1 : Nat) : Int).toNat) (fun h => h < 24 ∧ occ h a) := by rw [Int.toNat_natCast, show i - 1 = m + esz a - 1 by omega]; exact BU_P (CR_ini h4) w
    exact BU_of hci (iorz (iorz (zior w'))) (fun g _ => Iff.rfl)
  | case2 h l a =>
    rintro ⟨h1, h2, h3, h4, h5, h6, h7⟩ hm hi2 hW
    have hp := esz_pos a
    have he : esz (.mul (.add (.arg h) (.arg l)) a) = 1 + esz a := rfl
    have w := hW a m h7 hm (by omega)
    rw [show m + esz a = i by omega] at h1 h2 h3 h4
    refine ⟨_, _, _, ?_, fun l3 l4 => nn_step hd ho hN hi hN2 h1 h2 h3 h4 rfl (fun _ => by omega) (fun z => absurd z (by decide)) (fun z => absurd z (by decide)) rfl rfl rfl rfl⟩
    have w' : BQ (s 138 ((i - 1 : Nat) : Int).toNat) (fun h => h < 24 ∧ occ h a) := by rw [Int.toNat_natCast, show i - 1 = m + esz a - 1 by omega]; exact BU_P (CR_ini h7) w
    exact BU_of hci (iorz (iorz (zior w'))) (fun g _ => Iff.rfl)
  | case3 c a b =>
    rintro ⟨h1, h2, h3, h4, h5, h6, h7⟩ hm hi2 hW
    have hp := esz_pos a
    have hp2 := esz_pos b
    have he : esz (.div (.arg c) (.rem a b)) = 1 + esz a + esz b := rfl
    have w := hW a m h6 hm (by omega)
    have v := hW b (m + esz a) h7 (by omega) (by omega)
    rw [show m + esz a + esz b = i by omega] at h1 h3 h4
    have h5' : ¬ ((c : Nat) : Int) = 5 := by unfold two at h2; omega
    refine ⟨_, _, _, ?_, fun l3 l4 => nn_step hd ho hN hi hN2 h1 h3 h4 rfl (prtK_two h2) (fun _ => by omega) (fun _ => by omega) (fun z => absurd z (by decide)) rfl rfl rfl rfl⟩
    have w' : BQ (s 138 ((m + esz a - 1 : Nat) : Int).toNat) (fun h => h < 24 ∧ occ h a) := by rw [Int.toNat_natCast]; exact BU_P (CR_ini h6) w
    have v' : BQ (s 138 ((i - 1 : Nat) : Int).toNat) (fun h => h < 24 ∧ occ h b) := by rw [Int.toNat_natCast, show i - 1 = m + esz a + esz b - 1 by omega]; exact BU_P (CR_ini h7) v
    rw [if_neg h5']
    exact BU_of hci (BQ_iff (iorz (BQ_or (zior w') v')) (fun g _ => ⟨fun z => z.elim (fun z => ⟨z.1, Or.inl z.2⟩) (fun z => ⟨z.1, Or.inr z.2⟩), fun z => z.2.elim (fun y => Or.inl ⟨z.1, y⟩) (fun y => Or.inr ⟨z.1, y⟩)⟩)) (fun g _ => Iff.rfl)
  | case4 c a b =>
    rintro ⟨h1, h2, h3, h4, h5, h6, h7, h8⟩ hm hi2 hW
    have hp := esz_pos a
    have hp2 := esz_pos b
    have hp3 := esz_pos c
    have he : esz (.sub c (.rem a b)) = 1 + esz c + esz a + esz b := rfl
    have u := hW c m h6 hm (by omega)
    have w := hW a (m + esz c) h7 (by omega) (by omega)
    have v := hW b (m + esz c + esz a) h8 (by omega) (by omega)
    rw [show m + esz c + esz a + esz b = i by omega] at h1 h2 h3 h4
    refine ⟨_, _, _, ?_, fun l3 l4 => nn_step hd ho hN hi hN2 h1 h2 h3 h4 rfl (fun _ => by omega) (fun _ => by omega) (fun _ => by omega) rfl rfl rfl rfl⟩
    have u' : BQ (s 138 ((m + esz c - 1 : Nat) : Int).toNat) (fun h => h < 24 ∧ occ h c) := by rw [Int.toNat_natCast]; exact BU_P (CR_ini h6) u
    have w' : BQ (s 138 ((m + esz c + esz a - 1 : Nat) : Int).toNat) (fun h => h < 24 ∧ occ h a) := by rw [Int.toNat_natCast]; exact BU_P (CR_ini h7) w
    have v' : BQ (s 138 ((i - 1 : Nat) : Int).toNat) (fun h => h < 24 ∧ occ h b) := by rw [Int.toNat_natCast, show i - 1 = m + esz c + esz a + esz b - 1 by omega]; exact BU_P (CR_ini h8) v
    exact BU_of hci (BQ_iff (BQ_or (BQ_or (zior u') w') v') (fun g _ => ⟨fun z => z.elim (fun z => z.elim (fun z => ⟨z.1, Or.inl z.2⟩) (fun z => ⟨z.1, Or.inr (Or.inl z.2)⟩)) (fun z => ⟨z.1, Or.inr (Or.inr z.2)⟩), fun z => z.2.elim (fun y => Or.inl (Or.inl ⟨z.1, y⟩)) (fun y => y.elim (fun y => Or.inl (Or.inr ⟨z.1, y⟩)) (fun y => Or.inr ⟨z.1, y⟩))⟩)) (fun g _ => Iff.rfl)
  | case5 g =>
    rintro ⟨h1, h2, h3, h4⟩ hm hi2 hW
    have he : esz (.index g) = 1 := rfl
    have : m = i := by omega
    subst this
    refine ⟨_, _, _, ?_, fun l3 l4 => nn_step hd ho hN hi hN2 h1 h2 rfl rfl rfl (fun z => absurd z (by decide)) (fun z => absurd z (by decide)) (fun z => absurd z (by decide)) rfl rfl rfl rfl⟩
    exact BU_of hci (BQ_iff (iorz (iorz (iorz (BQ_one (show g < 25 by omega))))) (fun h _ => ⟨fun z => ⟨by omega, z⟩, fun z => z.2⟩)) (fun _ _ => Iff.rfl)
  | case6 v =>
    rintro ⟨h1, h2, h3, h4⟩ hm hi2 hW
    have he : esz (.arg v) = 1 := rfl
    have : m = i := by omega
    subst this
    refine ⟨_, _, _, ?_, fun l3 l4 => nn_step hd ho hN hi hN2 h1 h2 rfl rfl rfl (fun z => absurd z (by decide)) (fun z => absurd z (by decide)) (fun z => absurd z (by decide)) rfl rfl rfl rfl⟩
    exact BU_of hci (BQ_iff (iorz (iorz (iorz BQ_0))) (fun h _ => ⟨fun z => z.elim, fun z => z.2⟩)) (fun _ _ => Iff.rfl)
  | case7 => exact fun h => h.elim
theorem LOn_CR {s s' : Mem} {o : Nat} {e : Jvm.Term} {n : Nat} (h : CR s o e n) (ho : o = 0 ∨ o = 26) (f : ∀ k j, k ≠ 138 → s' k j = s k j) : CR s' o e n := CR_put h (fun k j hk _ _ => f _ _ (by omega))
theorem nn_loop {d o L N : Nat} {cv : List (Option Jvm.Term)} (hd : 1 ≤ d) (ho : o = 0 ∨ o = 26) (hL : L ≤ 24) (hN2 : N ≤ 225) : ∀ (m i : Nat) (s : Mem) (l3 l4 : AV), i + m = N → 25 ≤ i → s (66 + o) 7 = N → CVc s o L 25 cv N → NAc s o i →
    ∃ s', Ze d 103 35 [aR 137, aR (66 + o), aI i, l3, l4] [] s = rV s' ∧ NAc s' o N ∧ Fr (fun k j => k = 138 ∧ 25 ≤ j ∧ j < 225) s s' := by
  intro m
  induction m with
  | zero =>
    intro i s l3 l4 hi hi25 hN hcv hW
    have : i = N := by omega
    subst this
    refine ⟨s, ?_, hW, Fr.rf s⟩
    rw [x103_35]
    simp (disch := first | exact obC_137 | exact (obCO_66 ho) | omega | (simp only [aN1_138, (aN1O_67 ho), (aN1O_68 ho), (aN1O_69 ho), (aN1O_70 ho)]; omega) | (simp only [List.length_cons, List.length_nil]; omega)) only [en103, x103_0, x103_1, x103_3, x103_5, x103_8, x103_9, x103_12, x103_13, x103_14, x103_15, x103_16, x103_17, x103_20, x103_23, x103_24, x103_27, x103_29, x103_31, x103_32, x103_34, x103_36, x103_37, x103_40, x103_43, x103_44, x103_47, x103_48, x103_49, x103_52, x103_53, x103_54, x103_57, x103_58, x103_59, x103_60, x103_63, x103_64, x103_65, x103_68, x103_69, x103_70, x103_71, x103_74, x103_75, x103_77, x103_79, x103_80, x103_83, x103_84, x103_87, x103_88, x103_91, x103_92, x103_93, x103_94, x103_97, x103_98, x103_99, x103_101, x103_103, x103_104, x103_105, x103_108, x103_109, x103_112, x103_113, x103_116, x103_117, x103_118, x103_119, x103_122, x103_123, x103_124, x103_126, x103_128, x103_129, x103_130, x103_133, x103_134, x103_137, x103_138, x103_141, x103_142, x103_143, x103_144, x103_147, x103_148, x103_149, x103_151, x103_152, x103_155, x103_156, x103_158, x103_159, x103_162, x103_165, fcn_137_2, (fcnO_66_0 ho), (fcnO_66_1 ho), (fcnO_66_2 ho), (fcnO_66_3 ho), if_true, if_false, eq_self, Int.reduceEq, Int.reduceLT, Int.reduceLE, Int.reduceAdd, Int.reduceSub, Int.reduceMul, Int.reduceToNat, Nat.reduceAdd, Nat.reduceMul, Nat.reduceEqDiff, Int.toNat_natCast, wrap_id, hN, if_neg (show ¬ (i : Int) < i by omega)]
  | succ m ih =>
    intro i s l3 l4 hi hi25 hN hcv hW
    have key : ∃ (v : Int) (x3 x4 : AV), (∀ (e : Jvm.Term) (m1 : Nat), CR s o e m1 → 25 ≤ m1 → m1 + esz e = i + 1 → BU v e) ∧ Ze d 103 35 [aR 137, aR (66 + o), aI i, l3, l4] [] s = Ze d 103 35 [aR 137, aR (66 + o), aI ((i + 1 : Nat) : Int), x3, x4] [] (mu s 138 i v) := by
      rcases CVc_at (i := i) cv 25 hcv hi25 (by omega) with ⟨h5, g, hg, hgL⟩ | ⟨e0, m0, g1, g2, g3, -, -⟩
      · have hz : CR s o (.index g) i ∨ True := Or.inr trivial
        refine ⟨_, _, _, fun e m1 hc hm1 hr => ?_, nn_step hd ho hN (by omega) hN2 h5 hg rfl rfl rfl (fun z => absurd z (by decide)) (fun z => absurd z (by decide)) (fun z => absurd z (by decide)) rfl rfl rfl rfl⟩
        rcases CR_root hc with ⟨g', rfl⟩ | hno
        · have he : esz (.index g') = 1 := rfl
          have hm1i : m1 = i := by omega
          subst hm1i
          have hgg : g' = g := by
            have := hc.2.1
            rw [hg] at this
            omega
          subst hgg
          exact BU_of rfl (BQ_iff (iorz (iorz (iorz (BQ_one (show g' < 25 by omega))))) (fun h _ => ⟨fun z => ⟨by omega, z⟩, fun z => z.2⟩)) (fun _ _ => Iff.rfl)
        · exact absurd (by rw [show m1 + esz e - 1 = i by omega]; exact h5) hno
      · obtain ⟨v, x3, x4, w1, w2⟩ := nn_one hd ho hN (show i < N by omega) hN2 g1 g2 g3 hW
        refine ⟨v, x3, x4, fun e m1 hc hm1 hr => ?_, w2 l3 l4⟩
        have hp0 := esz_pos e0
        have hp1 := esz_pos e
        have hf1 := CR_first hc
        have hf0 := CR_first g1
        rw [show m1 + esz e - 1 = i by omega] at hf1
        rw [show m0 + esz e0 - 1 = i by omega] at hf0
        have hm01 : m1 = m0 := by omega
        subst hm01
        have hee := CR_uniq (esz e) e e0 m1 (Nat.le_refl _) hc g1 (by omega)
        subst hee
        exact w1
    obtain ⟨v, x3, x4, w1, w2⟩ := key
    rw [w2]
    have back : ∀ (e : Jvm.Term) (m1 : Nat), CR (mu s 138 i v) o e m1 → CR s o e m1 := fun e m1 hc => LOn_CR hc ho (fun k j hk => (mu_c hk).symm)
    obtain ⟨s', e1, e2, e3⟩ := ih (i + 1) (mu s 138 i v) x3 x4 (by omega) (by omega) (by rw [mu_c (by omega), hN]) (CVc_put _ _ _ (fun k j hk _ _ => mu_c (by omega)) hcv) (fun e m1 hc hm1 hr => by
      have hp1 := esz_pos e
      have hc' := back e m1 hc
      by_cases hlt : m1 + esz e ≤ i
      · rw [mu_i (by omega)]
        exact hW e m1 hc' hm1 hlt
      · rw [show m1 + esz e - 1 = i by omega, mu_s]
        exact w1 e m1 hc' hm1 (by omega))
    exact ⟨s', e1, e2, ((Fr.rf s).mu ⟨rfl, hi25, by omega⟩).tr e3⟩
/-- findNeedsOfNodes -/
theorem k_nodeNeeds {d o L N : Nat} {cv : List (Option Jvm.Term)} {s : Mem} (hd : 2 ≤ d) (ho : o = 0 ∨ o = 26) (hL : L ≤ 24) (hN1 : 25 ≤ N) (hN2 : N ≤ 225) (hN : s (66 + o) 7 = N) (hcv : CVc s o L 25 cv N) :
    ∃ s', Zc d 103 [aR 137, aR (66 + o)] s = rV s' ∧ NAc s' o N ∧ (∀ g, g < 24 → BU (s' 138 g) (.index g)) ∧ BU (s' 138 24) .null ∧ Fr NDF s s' := by
  obtain ⟨d, rfl⟩ : ∃ e, d = e + 1 := ⟨d - 1, by omega⟩
  have e0 : Zc (d + 1) 103 [aR 137, aR (66 + o)] s = Ze d 103 2 [aR 137, aR (66 + o), aI ((0 : Nat) : Int), aU, aU] [] s := by
    have z0 : ((0 : Nat) : Int) = 0 := rfl
    simp (disch := first | exact obC_137 | exact (obCO_66 ho) | omega | (simp only [aN1_138, (aN1O_67 ho), (aN1O_68 ho), (aN1O_69 ho), (aN1O_70 ho)]; omega) | (simp only [List.length_cons, List.length_nil]; omega)) only [en103, x103_0, x103_1, x103_3, x103_5, x103_8, x103_9, x103_12, x103_13, x103_14, x103_15, x103_16, x103_17, x103_20, x103_23, x103_24, x103_27, x103_29, x103_31, x103_32, x103_34, x103_36, x103_37, x103_40, x103_43, x103_44, x103_47, x103_48, x103_49, x103_52, x103_53, x103_54, x103_57, x103_58, x103_59, x103_60, x103_63, x103_64, x103_65, x103_68, x103_69, x103_70, x103_71, x103_74, x103_75, x103_77, x103_79, x103_80, x103_83, x103_84, x103_87, x103_88, x103_91, x103_92, x103_93, x103_94, x103_97, x103_98, x103_99, x103_101, x103_103, x103_104, x103_105, x103_108, x103_109, x103_112, x103_113, x103_116, x103_117, x103_118, x103_119, x103_122, x103_123, x103_124, x103_126, x103_128, x103_129, x103_130, x103_133, x103_134, x103_137, x103_138, x103_141, x103_142, x103_143, x103_144, x103_147, x103_148, x103_149, x103_151, x103_152, x103_155, x103_156, x103_158, x103_159, x103_162, x103_165, fcn_137_2, (fcnO_66_0 ho), (fcnO_66_1 ho), (fcnO_66_2 ho), (fcnO_66_3 ho), if_true, if_false, eq_self, Int.reduceEq, Int.reduceLT, Int.reduceLE, Int.reduceAdd, Int.reduceSub, Int.reduceMul, Int.reduceToNat, Nat.reduceAdd, Nat.reduceMul, Nat.reduceEqDiff, Int.toNat_natCast, wrap_id, z0]
  obtain ⟨s1, a1, a2, a3, a4⟩ := nn_sig (d := d) (r := 66 + o) ho 24 0 s aU aU rfl (fun g hg => by omega)
  obtain ⟨s2, b1, b2, b3⟩ := nn_loop (d := d) (cv := cv) (by omega) ho hL hN2 (N - 25) 25 s1 aU aU (by omega) (Nat.le_refl _) (by rw [a4 _ _ (by unfold NDF; omega), hN]) (CVc_put _ _ _ (fun k j hk _ _ => a4 _ _ (by unfold NDF; omega)) hcv) (fun e m hc hm hi => by have := esz_pos e; omega)
  refine ⟨s2, (e0.trans a1).trans b1, b2, fun g hg => ?_, ?_, a4.tr (b3.mono (fun k j h => ⟨h.1, h.2.2⟩))⟩
  · rw [b3 _ _ (by omega), a2 g hg]
    exact BU_of rfl (BQ_iff (BQ_one (show g < 25 by omega)) (fun h _ => ⟨fun z => ⟨by omega, z⟩, fun z => z.2⟩)) (fun _ _ => Iff.rfl)
  · rw [b3 _ _ (by omega), a3]
    have h24 : (16777216 : Int) = ishl 1 ((24 : Nat) : Int) := by
      have h1 : (1 : Int) = ((1 : Nat) : Int) := rfl
      rw [h1, b_shl (by decide) (by decide)]
      rfl
    rw [h24]
    refine BQ_iff (BQ_one (show 24 < 25 by omega)) (fun h _ => ?_)
    unfold uo
    constructor
    · intro z
      exact Or.inr ⟨z, rfl⟩
    · rintro (⟨-, z⟩ | ⟨z, -⟩)
      · exact z.elim
      · exact z
