theorem b_and1 {n : Nat} (hn : n < 2 ^ 31) : iand n 1 = ((n % 2 : Nat) : Int) := by
  have h1 : (1 : Int) = ((1 : Nat) : Int) := rfl
  rw [h1, iand_def, b_i32, b_i32, pk_andN (by omega) 1 (by decide), nI_toInt (by omega)]
theorem b_bit {n h : Nat} (hn : n < 2 ^ 24) (hh : h < 24) : iand (ishr n h) 1 = b2i (n.testBit h) := by
  have hd : n / 2 ^ h ≤ n := Nat.div_le_self _ _
  rw [b_shr (by omega) (by omega), b_and1 (by omega), Nat.testBit_eq_decide_div_mod_eq]
  unfold b2i
  have := Nat.mod_lt (n / 2 ^ h) (show 0 < 2 by decide)
  by_cases hb : n / 2 ^ h % 2 = 1
  · rw [hb]; rfl
  · rw [show n / 2 ^ h % 2 = 0 by omega]; rfl
/-! THE DOCUMENT: loops; D g h: g depends on h; rg h: h is a register -/
def rch (D : Nat → Nat → Prop) (rg : Nat → Prop) : Nat → Nat → Nat → Prop
  | 0, g, h => D g h
  | n + 1, g, h => rch D rg n g h ∨ ∃ m, m < 24 ∧ rch D rg n g m ∧ ¬ rg m ∧ D m h
def reach (D : Nat → Nat → Prop) (rg : Nat → Prop) (g h : Nat) : Prop := ∃ n, rch D rg n g h
def cyc (D : Nat → Nat → Prop) (rg : Nat → Prop) (g : Nat) : Prop := ¬ rg g ∧ reach D rg g g
theorem reach_step {D : Nat → Nat → Prop} {rg : Nat → Prop} {g m h : Nat} (hm : m < 24) (h1 : reach D rg g m) (h2 : ¬ rg m) (h3 : D m h) : reach D rg g h := by
  obtain ⟨n, hn⟩ := h1
  exact ⟨n + 1, Or.inr ⟨m, hm, hn, h2, h3⟩⟩
theorem reach_sub {D : Nat → Nat → Prop} {rg : Nat → Prop} {g : Nat} {A : Nat → Prop} (h0 : ∀ h, D g h → A h) (hc : ∀ m h, m < 24 → A m → ¬ rg m → D m h → A h) : ∀ h, reach D rg g h → A h := by
  rintro h ⟨n, hn⟩
  induction n generalizing h with
  | zero => exact h0 h hn
  | succ n ih =>
    rcases hn with hn | ⟨m, hm, h1, h2, h3⟩
    · exact ih h hn
    · exact hc m h hm (ih m h1) h2 h3
/-- the reference's depend -/
def DR (s : Mem) (L : Nat) (D : Nat → Nat → Prop) (rg : Nat → Prop) : Prop := s 0 50 = L ∧ L ≤ 24 ∧ (∀ g, g < L → BT (s 40 g) (D g)) ∧ (∀ g, g < L → (rg g → s 35 g = 3) ∧ (¬ rg g → ¬ s 35 g = 3)) ∧ (∀ g h, D g h → g < L ∧ h < L)
theorem lp_inner {d g L : Nat} {D : Nat → Nat → Prop} {rg : Nat → Prop} {s : Mem} (hD : DR s L D rg) {hn : Nat} (hn24 : hn < 2 ^ 24) : ∀ (m h an : Nat), h + m = L → an < 2 ^ 24 →
    ∃ bn : Nat, Ze d 44 42 [aR 0, aI g, aI an, aI hn, aI h] [] s = Ze d 44 32 [aR 0, aI g, aI bn, aI hn, aI L] [] s ∧ bn < 2 ^ 24 ∧ an ≤ bn ∧ ∀ k, k < 24 → (bn.testBit k = true ↔ an.testBit k = true ∨ ∃ j, h ≤ j ∧ j < L ∧ hn.testBit j = true ∧ ¬ rg j ∧ D j k) := by
  obtain ⟨d1, d2, d3, d4, d5⟩ := hD
  intro m
  induction m with
  | zero =>
    intro h an hh han
    refine ⟨an, ?_, han, Nat.le_refl _, fun k _ => ⟨Or.inl, fun z => z.elim id (fun ⟨j, h1, h2, _⟩ => by omega)⟩⟩
    rw [show h = L by omega, x44_42]
    simp (disch := first | exact obC_0 | omega | (simp only [aN1_35, aN1_40]; omega) | (simp only [List.length_cons, List.length_nil]; omega)) only [en44, x44_0, x44_1, x44_3, x44_4, x44_7, x44_10, x44_11, x44_14, x44_15, x44_16, x44_17, x44_20, x44_23, x44_24, x44_27, x44_28, x44_29, x44_30, x44_31, x44_33, x44_34, x44_37, x44_38, x44_39, x44_40, x44_44, x44_45, x44_48, x44_51, x44_52, x44_54, x44_55, x44_56, x44_57, x44_58, x44_61, x44_62, x44_65, x44_67, x44_68, x44_69, x44_72, x44_73, x44_74, x44_77, x44_79, x44_80, x44_81, x44_82, x44_85, x44_88, x44_91, x44_92, x44_93, x44_94, x44_95, x44_96, x44_97, x44_100, x44_101, x44_102, x44_105, x44_108, x44_109, fcn_0_44, fcn_0_49, if_true, if_false, eq_self, Int.reduceEq, Int.reduceLT, Int.reduceLE, Int.reduceAdd, Int.reduceSub, Int.reduceMul, Int.reduceToNat, Nat.reduceAdd, Nat.reduceMul, Nat.reduceEqDiff, Int.toNat_natCast, wrap_id, d1, if_neg (show ¬ (L : Int) < L by omega)]
  | succ m ih =>
    intro h an hh han
    have hlt : (h : Int) < L := by omega
    have eh : ((h + 1 : Nat) : Int) = (h : Int) + 1 := by omega
    have hb := b_bit hn24 (show h < 24 by omega)
    obtain ⟨e1, e2⟩ := d4 h (by omega)
    by_cases hbit : hn.testBit h = true
    · rw [hbit] at hb
      have hb : iand (ishr hn h) 1 = 1 := hb
      by_cases hr : rg h
      · have hz : Ze d 44 42 [aR 0, aI g, aI an, aI hn, aI h] [] s = Ze d 44 42 [aR 0, aI g, aI an, aI hn, aI ((h + 1 : Nat) : Int)] [] s := by
          rw [eh, x44_42]
          simp (disch := first | exact obC_0 | omega | (simp only [aN1_35, aN1_40]; omega) | (simp only [List.length_cons, List.length_nil]; omega)) only [en44, x44_0, x44_1, x44_3, x44_4, x44_7, x44_10, x44_11, x44_14, x44_15, x44_16, x44_17, x44_20, x44_23, x44_24, x44_27, x44_28, x44_29, x44_30, x44_31, x44_33, x44_34, x44_37, x44_38, x44_39, x44_40, x44_44, x44_45, x44_48, x44_51, x44_52, x44_54, x44_55, x44_56, x44_57, x44_58, x44_61, x44_62, x44_65, x44_67, x44_68, x44_69, x44_72, x44_73, x44_74, x44_77, x44_79, x44_80, x44_81, x44_82, x44_85, x44_88, x44_91, x44_92, x44_93, x44_94, x44_95, x44_96, x44_97, x44_100, x44_101, x44_102, x44_105, x44_108, x44_109, fcn_0_44, fcn_0_49, if_true, if_false, eq_self, Int.reduceEq, Int.reduceLT, Int.reduceLE, Int.reduceAdd, Int.reduceSub, Int.reduceMul, Int.reduceToNat, Nat.reduceAdd, Nat.reduceMul, Nat.reduceEqDiff, Int.toNat_natCast, wrap_id, d1, if_pos hlt, hb, e1 hr]
        obtain ⟨bn, q1, q2, q3, q4⟩ := ih (h + 1) an (by omega) han
        refine ⟨bn, hz.trans q1, q2, q3, fun k hk => (q4 k hk).trans ⟨fun z => z.imp id (fun ⟨j, h1, h2⟩ => ⟨j, by omega, h2⟩), fun z => z.imp id (fun ⟨j, h1, h2, h3, h4, h5⟩ => ⟨j, ?_, h2, h3, h4, h5⟩)⟩⟩
        by_cases hjh : j = h
        · rw [hjh] at h4; exact absurd hr h4
        · omega
      · obtain ⟨w, hw, w2, w3⟩ := d3 h (by omega)
        have hor := b_or han w2
        have hz : Ze d 44 42 [aR 0, aI g, aI an, aI hn, aI h] [] s = Ze d 44 42 [aR 0, aI g, aI ((an ||| w : Nat) : Int), aI hn, aI ((h + 1 : Nat) : Int)] [] s := by
          rw [eh, x44_42]
          simp (disch := first | exact obC_0 | omega | (simp only [aN1_35, aN1_40]; omega) | (simp only [List.length_cons, List.length_nil]; omega)) only [en44, x44_0, x44_1, x44_3, x44_4, x44_7, x44_10, x44_11, x44_14, x44_15, x44_16, x44_17, x44_20, x44_23, x44_24, x44_27, x44_28, x44_29, x44_30, x44_31, x44_33, x44_34, x44_37, x44_38, x44_39, x44_40, x44_44, x44_45, x44_48, x44_51, x44_52, x44_54, x44_55, x44_56, x44_57, x44_58, x44_61, x44_62, x44_65, x44_67, x44_68, x44_69, x44_72, x44_73, x44_74, x44_77, x44_79, x44_80, x44_81, x44_82, x44_85, x44_88, x44_91, x44_92, x44_93, x44_94, x44_95, x44_96, x44_97, x44_100, x44_101, x44_102, x44_105, x44_108, x44_109, fcn_0_44, fcn_0_49, if_true, if_false, eq_self, Int.reduceEq, Int.reduceLT, Int.reduceLE, Int.reduceAdd, Int.reduceSub, Int.reduceMul, Int.reduceToNat, Nat.reduceAdd, Nat.reduceMul, Nat.reduceEqDiff, Int.toNat_natCast, wrap_id, d1, if_pos hlt, hb, if_neg (e2 hr), hw, hor]
        obtain ⟨bn, q1, q2, q3, q4⟩ := ih (h + 1) (an ||| w) (by omega) (Nat.or_lt_two_pow han w2)
        refine ⟨bn, hz.trans q1, q2, Nat.le_trans Nat.left_le_or q3, fun k hk => (q4 k hk).trans ⟨fun z => ?_, fun z => ?_⟩⟩
        · rw [Nat.testBit_or, Bool.or_eq_true, w3 k hk] at z
          rcases z with (z | z) | ⟨j, h1, h2⟩
          · exact Or.inl z
          · exact Or.inr ⟨h, Nat.le_refl _, by omega, hbit, hr, z⟩
          · exact Or.inr ⟨j, by omega, h2⟩
        · rw [Nat.testBit_or, Bool.or_eq_true, w3 k hk]
          rcases z with z | ⟨j, h1, h2, h3, h4, h5⟩
          · exact Or.inl (Or.inl z)
          · by_cases hjh : j = h
            · rw [hjh] at h5; exact Or.inl (Or.inr h5)
            · exact Or.inr ⟨j, by omega, h2, h3, h4, h5⟩
    · have hf : hn.testBit h = false := by
        cases hq : hn.testBit h with
        | true => exact absurd hq hbit
        | false => rfl
      rw [hf] at hb
      have hb : iand (ishr hn h) 1 = 0 := hb
      have hz : Ze d 44 42 [aR 0, aI g, aI an, aI hn, aI h] [] s = Ze d 44 42 [aR 0, aI g, aI an, aI hn, aI ((h + 1 : Nat) : Int)] [] s := by
        rw [eh, x44_42]
        simp (disch := first | exact obC_0 | omega | (simp only [aN1_35, aN1_40]; omega) | (simp only [List.length_cons, List.length_nil]; omega)) only [en44, x44_0, x44_1, x44_3, x44_4, x44_7, x44_10, x44_11, x44_14, x44_15, x44_16, x44_17, x44_20, x44_23, x44_24, x44_27, x44_28, x44_29, x44_30, x44_31, x44_33, x44_34, x44_37, x44_38, x44_39, x44_40, x44_44, x44_45, x44_48, x44_51, x44_52, x44_54, x44_55, x44_56, x44_57, x44_58, x44_61, x44_62, x44_65, x44_67, x44_68, x44_69, x44_72, x44_73, x44_74, x44_77, x44_79, x44_80, x44_81, x44_82, x44_85, x44_88, x44_91, x44_92, x44_93, x44_94, x44_95, x44_96, x44_97, x44_100, x44_101, x44_102, x44_105, x44_108, x44_109, fcn_0_44, fcn_0_49, if_true, if_false, eq_self, Int.reduceEq, Int.reduceLT, Int.reduceLE, Int.reduceAdd, Int.reduceSub, Int.reduceMul, Int.reduceToNat, Nat.reduceAdd, Nat.reduceMul, Nat.reduceEqDiff, Int.toNat_natCast, wrap_id, d1, if_pos hlt, hb]
      obtain ⟨bn, q1, q2, q3, q4⟩ := ih (h + 1) an (by omega) han
      refine ⟨bn, hz.trans q1, q2, q3, fun k hk => (q4 k hk).trans ⟨fun z => z.imp id (fun ⟨j, h1, h2⟩ => ⟨j, by omega, h2⟩), fun z => z.imp id (fun ⟨j, h1, h2, h3, h4, h5⟩ => ⟨j, ?_, h2, h3, h4, h5⟩)⟩⟩
      by_cases hjh : j = h
      · rw [hjh] at h3; exact absurd h3 hbit
      · omega
/-- the while loop: all that g reaches -/
theorem lp_while {d g L : Nat} {D : Nat → Nat → Prop} {rg : Nat → Prop} {s : Mem} (hg : g < L) (hD : DR s L D rg) : ∀ (f an hn : Nat) (l4 : AV), 2 ^ 24 ≤ an + f → an < 2 ^ 24 → hn < 2 ^ 24 → (∀ k, k < 24 → D g k → an.testBit k = true) → (∀ k, k < 24 → an.testBit k = true → reach D rg g k) → (an = hn → ∀ m k, m < 24 → k < 24 → an.testBit m = true → ¬ rg m → D m k → an.testBit k = true) →
    ∃ (bn : Nat) (l3 l4' : AV), Ze d 44 32 [aR 0, aI g, aI an, aI hn, l4] [] s = Ze d 44 91 [aR 0, aI g, aI bn, l3, l4'] [] s ∧ bn < 2 ^ 24 ∧ ∀ k, k < 24 → (bn.testBit k = true ↔ reach D rg g k) := by
  have hLD := hD.2.2.2.2
  have hL := hD.2.1
  have done : ∀ (an : Nat), (∀ k, k < 24 → D g k → an.testBit k = true) → (∀ k, k < 24 → an.testBit k = true → reach D rg g k) → (∀ m k, m < 24 → k < 24 → an.testBit m = true → ¬ rg m → D m k → an.testBit k = true) → ∀ k, k < 24 → (an.testBit k = true ↔ reach D rg g k) := by
    intro an h1 h2 h3 k hk
    refine ⟨h2 k hk, fun z => ?_⟩
    exact (reach_sub (A := fun h => h < 24 ∧ an.testBit h = true) (fun h hh => ⟨by have := (hLD g h hh).2; omega, h1 h (by have := (hLD g h hh).2; omega) hh⟩) (fun m h hm ha hr hd => ⟨by have := (hLD m h hd).2; omega, h3 m h hm (by have := (hLD m h hd).2; omega) ha.2 hr hd⟩) k z).2
  intro f
  induction f with
  | zero => intro an hn l4 h1 h2; omega
  | succ f ih =>
    intro an hn l4 hf han hhn h1 h2 h3
    by_cases he : an = hn
    · refine ⟨an, aI hn, l4, ?_, han, done an h1 h2 (h3 he)⟩
      rw [x44_32, he]
      simp (disch := first | exact obC_0 | omega | (simp only [aN1_35, aN1_40]; omega) | (simp only [List.length_cons, List.length_nil]; omega)) only [en44, x44_0, x44_1, x44_3, x44_4, x44_7, x44_10, x44_11, x44_14, x44_15, x44_16, x44_17, x44_20, x44_23, x44_24, x44_27, x44_28, x44_29, x44_30, x44_31, x44_33, x44_34, x44_37, x44_38, x44_39, x44_40, x44_44, x44_45, x44_48, x44_51, x44_52, x44_54, x44_55, x44_56, x44_57, x44_58, x44_61, x44_62, x44_65, x44_67, x44_68, x44_69, x44_72, x44_73, x44_74, x44_77, x44_79, x44_80, x44_81, x44_82, x44_85, x44_88, x44_92, x44_93, x44_94, x44_95, x44_96, x44_97, x44_100, x44_101, x44_102, x44_105, x44_108, x44_109, fcn_0_44, fcn_0_49, if_true, if_false, eq_self, Int.reduceEq, Int.reduceLT, Int.reduceLE, Int.reduceAdd, Int.reduceSub, Int.reduceMul, Int.reduceToNat, Nat.reduceAdd, Nat.reduceMul, Nat.reduceEqDiff, Int.toNat_natCast, wrap_id]
    · have hz : Ze d 44 32 [aR 0, aI g, aI an, aI hn, l4] [] s = Ze d 44 42 [aR 0, aI g, aI an, aI an, aI ((0 : Nat) : Int)] [] s := by
        have z0 : ((0 : Nat) : Int) = 0 := rfl
        rw [z0, x44_32]
        simp (disch := first | exact obC_0 | omega | (simp only [aN1_35, aN1_40]; omega) | (simp only [List.length_cons, List.length_nil]; omega)) only [en44, x44_0, x44_1, x44_3, x44_4, x44_7, x44_10, x44_11, x44_14, x44_15, x44_16, x44_17, x44_20, x44_23, x44_24, x44_27, x44_28, x44_29, x44_30, x44_31, x44_33, x44_34, x44_37, x44_38, x44_39, x44_40, x44_44, x44_45, x44_48, x44_51, x44_52, x44_54, x44_55, x44_56, x44_57, x44_58, x44_61, x44_62, x44_65, x44_67, x44_68, x44_69, x44_72, x44_73, x44_74, x44_77, x44_79, x44_80, x44_81, x44_82, x44_85, x44_88, x44_91, x44_92, x44_93, x44_94, x44_95, x44_96, x44_97, x44_100, x44_101, x44_102, x44_105, x44_108, x44_109, fcn_0_44, fcn_0_49, if_true, if_false, eq_self, Int.reduceEq, Int.reduceLT, Int.reduceLE, Int.reduceAdd, Int.reduceSub, Int.reduceMul, Int.reduceToNat, Nat.reduceAdd, Nat.reduceMul, Nat.reduceEqDiff, Int.toNat_natCast, wrap_id, if_neg (show ¬ (an : Int) = hn by omega)]
      obtain ⟨bn, q1, q2, q3, q4⟩ := lp_inner (d := d) (g := g) hD han L 0 an (Nat.zero_add _) han
      by_cases hab : bn = an
      · -- nothing new
        refine ⟨bn, aI an, aI L, (hz.trans q1).trans ?_, q2, done bn (fun k hk z => by rw [hab]; exact h1 k hk z) (fun k hk z => h2 k hk (by rw [← hab]; exact z)) (fun m k hm hk z1 z2 z3 => (q4 k hk).mpr (Or.inr ⟨m, Nat.zero_le _, (hLD m k z3).1, by rw [← hab]; exact z1, z2, z3⟩))⟩
        rw [hab, x44_32]
        simp (disch := first | exact obC_0 | omega | (simp only [aN1_35, aN1_40]; omega) | (simp only [List.length_cons, List.length_nil]; omega)) only [en44, x44_0, x44_1, x44_3, x44_4, x44_7, x44_10, x44_11, x44_14, x44_15, x44_16, x44_17, x44_20, x44_23, x44_24, x44_27, x44_28, x44_29, x44_30, x44_31, x44_33, x44_34, x44_37, x44_38, x44_39, x44_40, x44_44, x44_45, x44_48, x44_51, x44_52, x44_54, x44_55, x44_56, x44_57, x44_58, x44_61, x44_62, x44_65, x44_67, x44_68, x44_69, x44_72, x44_73, x44_74, x44_77, x44_79, x44_80, x44_81, x44_82, x44_85, x44_88, x44_92, x44_93, x44_94, x44_95, x44_96, x44_97, x44_100, x44_101, x44_102, x44_105, x44_108, x44_109, fcn_0_44, fcn_0_49, if_true, if_false, eq_self, Int.reduceEq, Int.reduceLT, Int.reduceLE, Int.reduceAdd, Int.reduceSub, Int.reduceMul, Int.reduceToNat, Nat.reduceAdd, Nat.reduceMul, Nat.reduceEqDiff, Int.toNat_natCast, wrap_id]
      · obtain ⟨cn, l3, l4', p1, p2, p3⟩ := ih bn an (aI L) (by omega) q2 han (fun k hk z => (q4 k hk).mpr (Or.inl (h1 k hk z))) (fun k hk z => by
          rcases (q4 k hk).mp z with y | ⟨j, j1, j2, j3, j4, j5⟩
          · exact h2 k hk y
          · exact reach_step (show j < 24 by omega) (h2 j (by omega) j3) j4 j5) (fun z => absurd z hab)
        exact ⟨cn, l3, l4', (hz.trans q1).trans p1, p2, p3⟩
theorem lp_all {d L : Nat} {D : Nat → Nat → Prop} {rg : Nat → Prop} {s : Mem} (hD : DR s L D rg) : ∀ (m g : Nat) (l2 l3 l4 : AV), g + m = L →
    (∃ k, g ≤ k ∧ k < L ∧ cyc D rg k ∧ (∀ j, g ≤ j → j < k → ¬ cyc D rg j) ∧ Ze d 44 2 [aR 0, aI g, l2, l3, l4] [] s = rI k s) ∨ ((∀ j, g ≤ j → j < L → ¬ cyc D rg j) ∧ Ze d 44 2 [aR 0, aI g, l2, l3, l4] [] s = rI (-1) s) := by
  have hD' := hD
  obtain ⟨d1, d2, d3, d4, d5⟩ := hD
  intro m
  induction m with
  | zero =>
    intro g l2 l3 l4 hg
    refine Or.inr ⟨fun j h1 h2 => by omega, ?_⟩
    rw [x44_2]
    simp (disch := first | exact obC_0 | omega | (simp only [aN1_35, aN1_40]; omega) | (simp only [List.length_cons, List.length_nil]; omega)) only [en44, x44_0, x44_1, x44_3, x44_4, x44_7, x44_10, x44_11, x44_14, x44_15, x44_16, x44_17, x44_20, x44_23, x44_24, x44_27, x44_28, x44_29, x44_30, x44_31, x44_33, x44_34, x44_37, x44_38, x44_39, x44_40, x44_44, x44_45, x44_48, x44_51, x44_52, x44_54, x44_55, x44_56, x44_57, x44_58, x44_61, x44_62, x44_65, x44_67, x44_68, x44_69, x44_72, x44_73, x44_74, x44_77, x44_79, x44_80, x44_81, x44_82, x44_85, x44_88, x44_91, x44_92, x44_93, x44_94, x44_95, x44_96, x44_97, x44_100, x44_101, x44_102, x44_105, x44_108, x44_109, fcn_0_44, fcn_0_49, if_true, if_false, eq_self, Int.reduceEq, Int.reduceLT, Int.reduceLE, Int.reduceAdd, Int.reduceSub, Int.reduceMul, Int.reduceToNat, Nat.reduceAdd, Nat.reduceMul, Nat.reduceEqDiff, Int.toNat_natCast, wrap_id, d1, if_neg (show ¬ (g : Int) < L by omega)]
  | succ m ih =>
    intro g l2 l3 l4 hg
    have hlt : (g : Int) < L := by omega
    have eg : ((g + 1 : Nat) : Int) = (g : Int) + 1 := by omega
    obtain ⟨e1, e2⟩ := d4 g (by omega)
    have next : ∀ (l2' l3' l4' : AV), ¬ cyc D rg g → Ze d 44 2 [aR 0, aI g, l2, l3, l4] [] s = Ze d 44 2 [aR 0, aI ((g + 1 : Nat) : Int), l2', l3', l4'] [] s → (∃ k, g ≤ k ∧ k < L ∧ cyc D rg k ∧ (∀ j, g ≤ j → j < k → ¬ cyc D rg j) ∧ Ze d 44 2 [aR 0, aI g, l2, l3, l4] [] s = rI k s) ∨ ((∀ j, g ≤ j → j < L → ¬ cyc D rg j) ∧ Ze d 44 2 [aR 0, aI g, l2, l3, l4] [] s = rI (-1) s) := by
      intro l2' l3' l4' hc hz
      have ext : ∀ j, g ≤ j → (g + 1 ≤ j → ¬ cyc D rg j) → ¬ cyc D rg j := fun j h1 h2 => by
        by_cases hjg : j = g
        · rw [hjg]; exact hc
        · exact h2 (by omega)
      rcases ih (g + 1) l2' l3' l4' (by omega) with ⟨k, k1, k2, k3, k4, k5⟩ | ⟨k1, k2⟩
      · exact Or.inl ⟨k, by omega, k2, k3, fun j h1 h2 => ext j h1 (fun z => k4 j z h2), hz.trans k5⟩
      · exact Or.inr ⟨fun j h1 h2 => ext j h1 (fun z => k1 j z h2), hz.trans k2⟩
    by_cases hr : rg g
    · refine next l2 l3 l4 (fun z => z.1 hr) ?_
      rw [eg, x44_2]
      simp (disch := first | exact obC_0 | omega | (simp only [aN1_35, aN1_40]; omega) | (simp only [List.length_cons, List.length_nil]; omega)) only [en44, x44_0, x44_1, x44_3, x44_4, x44_7, x44_10, x44_11, x44_14, x44_15, x44_16, x44_17, x44_20, x44_23, x44_24, x44_27, x44_28, x44_29, x44_30, x44_31, x44_33, x44_34, x44_37, x44_38, x44_39, x44_40, x44_44, x44_45, x44_48, x44_51, x44_52, x44_54, x44_55, x44_56, x44_57, x44_58, x44_61, x44_62, x44_65, x44_67, x44_68, x44_69, x44_72, x44_73, x44_74, x44_77, x44_79, x44_80, x44_81, x44_82, x44_85, x44_88, x44_91, x44_92, x44_93, x44_94, x44_95, x44_96, x44_97, x44_100, x44_101, x44_102, x44_105, x44_108, x44_109, fcn_0_44, fcn_0_49, if_true, if_false, eq_self, Int.reduceEq, Int.reduceLT, Int.reduceLE, Int.reduceAdd, Int.reduceSub, Int.reduceMul, Int.reduceToNat, Nat.reduceAdd, Nat.reduceMul, Nat.reduceEqDiff, Int.toNat_natCast, wrap_id, d1, if_pos hlt, e1 hr]
    · obtain ⟨w, hw, w2, w3⟩ := d3 g (by omega)
      have hz : Ze d 44 2 [aR 0, aI g, l2, l3, l4] [] s = Ze d 44 32 [aR 0, aI g, aI w, aI ((0 : Nat) : Int), l4] [] s := by
        have z0 : ((0 : Nat) : Int) = 0 := rfl
        rw [z0, x44_2]
        simp (disch := first | exact obC_0 | omega | (simp only [aN1_35, aN1_40]; omega) | (simp only [List.length_cons, List.length_nil]; omega)) only [en44, x44_0, x44_1, x44_3, x44_4, x44_7, x44_10, x44_11, x44_14, x44_15, x44_16, x44_17, x44_20, x44_23, x44_24, x44_27, x44_28, x44_29, x44_30, x44_31, x44_33, x44_34, x44_37, x44_38, x44_39, x44_40, x44_44, x44_45, x44_48, x44_51, x44_52, x44_54, x44_55, x44_56, x44_57, x44_58, x44_61, x44_62, x44_65, x44_67, x44_68, x44_69, x44_72, x44_73, x44_74, x44_77, x44_79, x44_80, x44_81, x44_82, x44_85, x44_88, x44_91, x44_92, x44_93, x44_94, x44_95, x44_96, x44_97, x44_100, x44_101, x44_102, x44_105, x44_108, x44_109, fcn_0_44, fcn_0_49, if_true, if_false, eq_self, Int.reduceEq, Int.reduceLT, Int.reduceLE, Int.reduceAdd, Int.reduceSub, Int.reduceMul, Int.reduceToNat, Nat.reduceAdd, Nat.reduceMul, Nat.reduceEqDiff, Int.toNat_natCast, wrap_id, d1, if_pos hlt, if_neg (e2 hr), hw]
      obtain ⟨bn, l3', l4', q1, q2, q3⟩ := lp_while (d := d) (show g < L by omega) hD' (2 ^ 24) w 0 l4 (by omega) w2 (by decide) (fun k hk z => (w3 k hk).mpr z) (fun k hk z => ⟨0, (w3 k hk).mp z⟩) (fun z m k hm hk y => by rw [z, Nat.zero_testBit] at y; exact (nomatch y))
      have hb := b_bit q2 (show g < 24 by omega)
      by_cases hc : bn.testBit g = true
      · refine Or.inl ⟨g, Nat.le_refl _, by omega, ⟨hr, (q3 g (by omega)).mp hc⟩, fun j h1 h2 => by omega, (hz.trans q1).trans ?_⟩
        rw [hc] at hb
        have hb : iand (ishr bn g) 1 = 1 := hb
        simp (disch := first | exact obC_0 | omega | (simp only [aN1_35, aN1_40]; omega) | (simp only [List.length_cons, List.length_nil]; omega)) only [en44, x44_0, x44_1, x44_3, x44_4, x44_7, x44_10, x44_11, x44_14, x44_15, x44_16, x44_17, x44_20, x44_23, x44_24, x44_27, x44_28, x44_29, x44_30, x44_31, x44_33, x44_34, x44_37, x44_38, x44_39, x44_40, x44_44, x44_45, x44_48, x44_51, x44_52, x44_54, x44_55, x44_56, x44_57, x44_58, x44_61, x44_62, x44_65, x44_67, x44_68, x44_69, x44_72, x44_73, x44_74, x44_77, x44_79, x44_80, x44_81, x44_82, x44_85, x44_88, x44_91, x44_92, x44_93, x44_94, x44_95, x44_96, x44_97, x44_100, x44_101, x44_102, x44_105, x44_108, x44_109, fcn_0_44, fcn_0_49, if_true, if_false, eq_self, Int.reduceEq, Int.reduceLT, Int.reduceLE, Int.reduceAdd, Int.reduceSub, Int.reduceMul, Int.reduceToNat, Nat.reduceAdd, Nat.reduceMul, Nat.reduceEqDiff, Int.toNat_natCast, wrap_id, hb]
      · refine next (aI bn) l3' l4' (fun z => hc ((q3 g (by omega)).mpr z.2)) ((hz.trans q1).trans ?_)
        have hf : bn.testBit g = false := by
          cases hq : bn.testBit g with
          | true => exact absurd hq hc
          | false => rfl
        rw [hf] at hb
        have hb : iand (ishr bn g) 1 = 0 := hb
        rw [eg]
        simp (disch := first | exact obC_0 | omega | (simp only [aN1_35, aN1_40]; omega) | (simp only [List.length_cons, List.length_nil]; omega)) only [en44, x44_0, x44_1, x44_3, x44_4, x44_7, x44_10, x44_11, x44_14, x44_15, x44_16, x44_17, x44_20, x44_23, x44_24, x44_27, x44_28, x44_29, x44_30, x44_31, x44_33, x44_34, x44_37, x44_38, x44_39, x44_40, x44_44, x44_45, x44_48, x44_51, x44_52, x44_54, x44_55, x44_56, x44_57, x44_58, x44_61, x44_62, x44_65, x44_67, x44_68, x44_69, x44_72, x44_73, x44_74, x44_77, x44_79, x44_80, x44_81, x44_82, x44_85, x44_88, x44_91, x44_92, x44_93, x44_94, x44_95, x44_96, x44_97, x44_100, x44_101, x44_102, x44_105, x44_108, x44_109, fcn_0_44, fcn_0_49, if_true, if_false, eq_self, Int.reduceEq, Int.reduceLT, Int.reduceLE, Int.reduceAdd, Int.reduceSub, Int.reduceMul, Int.reduceToNat, Nat.reduceAdd, Nat.reduceMul, Nat.reduceEqDiff, Int.toNat_natCast, wrap_id, hb]
theorem t_looping {d L : Nat} {D : Nat → Nat → Prop} {rg : Nat → Prop} {s : Mem} (hd : 1 ≤ d) (hD : DR s L D rg) :
    (∃ k, k < L ∧ cyc D rg k ∧ (∀ j, j < k → ¬ cyc D rg j) ∧ Zc d 44 [aR 0] s = rI k s) ∨ ((∀ j, j < L → ¬ cyc D rg j) ∧ Zc d 44 [aR 0] s = rI (-1) s) := by
  obtain ⟨d, rfl⟩ : ∃ e, d = e + 1 := ⟨d - 1, by omega⟩
  have h0 : Zc (d + 1) 44 [aR 0] s = Ze d 44 2 [aR 0, aI ((0 : Nat) : Int), aU, aU, aU] [] s := by
    have z0 : ((0 : Nat) : Int) = 0 := rfl
    simp (disch := first | exact obC_0 | omega | (simp only [aN1_35, aN1_40]; omega) | (simp only [List.length_cons, List.length_nil]; omega)) only [en44, x44_0, x44_1, x44_3, x44_4, x44_7, x44_10, x44_11, x44_14, x44_15, x44_16, x44_17, x44_20, x44_23, x44_24, x44_27, x44_28, x44_29, x44_30, x44_31, x44_33, x44_34, x44_37, x44_38, x44_39, x44_40, x44_44, x44_45, x44_48, x44_51, x44_52, x44_54, x44_55, x44_56, x44_57, x44_58, x44_61, x44_62, x44_65, x44_67, x44_68, x44_69, x44_72, x44_73, x44_74, x44_77, x44_79, x44_80, x44_81, x44_82, x44_85, x44_88, x44_91, x44_92, x44_93, x44_94, x44_95, x44_96, x44_97, x44_100, x44_101, x44_102, x44_105, x44_108, x44_109, fcn_0_44, fcn_0_49, if_true, if_false, eq_self, Int.reduceEq, Int.reduceLT, Int.reduceLE, Int.reduceAdd, Int.reduceSub, Int.reduceMul, Int.reduceToNat, Nat.reduceAdd, Nat.reduceMul, Nat.reduceEqDiff, Int.toNat_natCast, wrap_id, z0]
  rw [h0]
  rcases lp_all (d := d) hD L 0 aU aU aU (Nat.zero_add _) with ⟨k, k1, k2, k3, k4, k5⟩ | ⟨k1, k2⟩
  · exact Or.inl ⟨k, k2, k3, fun j hj => k4 j (Nat.zero_le _) hj, k5⟩
  · exact Or.inr ⟨fun j hj => k1 j (Nat.zero_le _) hj, k2⟩
