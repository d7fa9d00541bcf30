/-! THE CLASS: the order of what is worked out -/
theorem nd_le : ∀ (L : Nat) (l : List Nat), l.Nodup → (∀ x, x ∈ l → x < L) → l.length ≤ L
  | 0, l, _, h => by
    cases l with
    | nil => exact Nat.le_refl _
    | cons x r => exact absurd (h x List.mem_cons_self) (by omega)
  | n + 1, l, hn, h => by
    by_cases hm : n ∈ l
    · have := nd_le n (l.erase n) (hn.erase n) (fun x hx => by
        have h1 := h x (List.mem_of_mem_erase hx)
        have h2 : x ≠ n := fun z => by
          rw [z] at hx
          exact hn.not_mem_erase hx
        omega)
      rw [List.length_erase_of_mem hm] at this
      omega
    · have := nd_le n l hn (fun x hx => by
        have h1 := h x hx
        have h2 : x ≠ n := fun z => hm (z ▸ hx)
        omega)
      omega
def basg (sg : List Sg) (g : Nat) : Prop := ∃ x, sg[g]? = some x ∧ bas x
theorem basg_x {sg : List Sg} {g : Nat} {x : Sg} (hx : sg[g]? = some x) : basg sg g ↔ bas x := by
  constructor
  · rintro ⟨y, hy, h⟩
    rw [hx] at hy
    injection hy with hy
    subst hy
    exact h
  · exact fun h => ⟨x, hx, h⟩
def OL (sg : List Sg) (lo : List Lo) (l : List Nat) : Prop := l.Nodup ∧ ∀ (i x : Nat), l[i]? = some x → x < sg.length ∧ ¬ basg sg x ∧ ∀ h, dpd sg lo x h → basg sg h ∨ h ∈ l.take i
theorem OL_le {sg : List Sg} {lo : List Lo} {l : List Nat} (h : OL sg lo l) : l.length ≤ sg.length := nd_le _ l h.1 (fun x hx => by
  obtain ⟨i, hi⟩ := List.getElem?_of_mem hx
  exact (h.2 i x hi).1)
theorem OL_lt {sg : List Sg} {lo : List Lo} {l : List Nat} {g : Nat} (h : OL sg lo l) (hg : g < sg.length) (hn : g ∉ l) : l.length < sg.length := by
  have := nd_le sg.length (g :: l) (List.nodup_cons.mpr ⟨hn, h.1⟩) (fun x hx => (List.mem_cons.mp hx).elim (fun z => z ▸ hg) (fun z => by
    obtain ⟨i, hi⟩ := List.getElem?_of_mem z
    exact (h.2 i x hi).1))
  rw [List.length_cons] at this
  omega
theorem OL_push {sg : List Sg} {lo : List Lo} {l : List Nat} {g : Nat} (h : OL sg lo l) (hg : g < sg.length) (hb : ¬ basg sg g) (hn : g ∉ l) (hd : ∀ q, dpd sg lo g q → basg sg q ∨ q ∈ l) : OL sg lo (l ++ [g]) := by
  refine ⟨?_, fun i x hx => ?_⟩
  · rw [List.nodup_append]
    refine ⟨h.1, by simp, fun a ha b hb => ?_⟩
    have : b = g := by simpa using hb
    subst this
    exact fun z => hn (z ▸ ha)
  · by_cases hi : i < l.length
    · rw [List.getElem?_append_left hi] at hx
      obtain ⟨a, b, c⟩ := h.2 i x hx
      refine ⟨a, b, fun q hq => ?_⟩
      rw [List.take_append_of_le_length (by omega)]
      exact c q hq
    · have hil := (List.getElem?_eq_some_iff.mp hx).1
      rw [List.length_append] at hil
      have hi' : i = l.length := by simp at hil; omega
      subst hi'
      rw [List.getElem?_append_right (Nat.le_refl _)] at hx
      have : x = g := by simpa using hx.symm
      subst this
      refine ⟨hg, hb, fun q hq => ?_⟩
      rw [List.take_append_of_le_length (Nat.le_refl _), List.take_length]
      exact hd q hq
/-- the order as the class has it -/
def OM (s : Mem) (o : Nat) (l : List Nat) : Prop := s (58 + o) 10 = l.length ∧ ∀ (i x : Nat), l[i]? = some x → s (79 + o) i = x
def KN (kn : Int) (sg : List Sg) (l : List Nat) : Prop := BT kn (fun h => basg sg h ∨ h ∈ l)
/-! the machine -/
theorem fo_set {d o k L kd f : Nat} {kn : Int} {l3 : AV} {s : Mem} (hd : 1 ≤ d) (ho : o = 0 ∨ o = 26) (hu : s (59 + o) 6 = L) (hk : k < L) (hL : L ≤ 24) (h1 : s (60 + o) k = kd) (h2 : s (64 + o) k = skI kd f) (hb : kd = 3 ∨ ¬ (isSk kd f ∨ kd = 4)) : Ze d 93 4 [aR (58 + o), aI kn, aI k, l3] [] s = Ze d 93 4 [aR (58 + o), aI (ior kn (ishl 1 k)), aI ((k + 1 : Nat) : Int), l3] [] s := by
  obtain ⟨w0, w1⟩ := k_sFree (d := d) hd ho (show k < 24 by omega) h1 h2
  rw [x93_4, show ((k + 1 : Nat) : Int) = (k : Int) + 1 from rfl]
  by_cases hs : isSk kd f ∨ kd = 4
  · have h3 : kd = 3 := hb.resolve_right (fun z => z hs)
    subst h3
    have z3 : ((3 : Nat) : Int) = 3 := rfl
    simp (disch := first | exact (obCO_58 ho) | exact (obCO_59 ho) | omega | (simp only [(aN1O_60 ho), (aN1O_78 ho), (aN1O_79 ho)]; omega) | (simp only [List.length_cons, List.length_nil]; omega)) only [en93, x93_0, x93_1, x93_2, x93_3, x93_5, x93_6, x93_9, x93_12, x93_15, x93_16, x93_19, x93_20, x93_23, x93_26, x93_27, x93_30, x93_33, x93_34, x93_35, x93_36, x93_39, x93_40, x93_41, x93_42, x93_43, x93_44, x93_45, x93_48, x93_51, x93_52, x93_53, x93_56, x93_57, x93_59, x93_60, x93_63, x93_66, x93_69, x93_70, x93_72, x93_73, x93_76, x93_79, x93_82, x93_83, x93_84, x93_85, x93_86, x93_87, x93_90, x93_91, x93_94, x93_95, x93_96, x93_97, x93_98, x93_99, x93_100, x93_103, x93_104, x93_107, x93_108, x93_111, x93_112, x93_113, x93_114, x93_114i, x93_115, x93_118, x93_119, x93_120, x93_123, x93_124, x93_125, x93_126, x93_127, x93_128, x93_129, x93_132, x93_135, x93_138, x93_141, (fcnO_58_0 ho), (fcnO_58_8 ho), (fcnO_58_9 ho), (fcnO_59_0 ho), if_true, if_false, eq_self, Int.reduceEq, Int.reduceLT, Int.reduceLE, Int.reduceAdd, Int.reduceSub, Int.reduceMul, Int.reduceToNat, Nat.reduceAdd, Nat.reduceMul, Nat.reduceEqDiff, Int.toNat_natCast, wrap_id, hu, if_pos (show (k : Int) < L by omega), w0 hs, zcI_r, h1, z3]
  · simp (disch := first | exact (obCO_58 ho) | exact (obCO_59 ho) | omega | (simp only [(aN1O_60 ho), (aN1O_78 ho), (aN1O_79 ho)]; omega) | (simp only [List.length_cons, List.length_nil]; omega)) only [en93, x93_0, x93_1, x93_2, x93_3, x93_5, x93_6, x93_9, x93_12, x93_15, x93_16, x93_19, x93_20, x93_23, x93_26, x93_27, x93_30, x93_33, x93_34, x93_35, x93_36, x93_39, x93_40, x93_41, x93_42, x93_43, x93_44, x93_45, x93_48, x93_51, x93_52, x93_53, x93_56, x93_57, x93_59, x93_60, x93_63, x93_66, x93_69, x93_70, x93_72, x93_73, x93_76, x93_79, x93_82, x93_83, x93_84, x93_85, x93_86, x93_87, x93_90, x93_91, x93_94, x93_95, x93_96, x93_97, x93_98, x93_99, x93_100, x93_103, x93_104, x93_107, x93_108, x93_111, x93_112, x93_113, x93_114, x93_114i, x93_115, x93_118, x93_119, x93_120, x93_123, x93_124, x93_125, x93_126, x93_127, x93_128, x93_129, x93_132, x93_135, x93_138, x93_141, (fcnO_58_0 ho), (fcnO_58_8 ho), (fcnO_58_9 ho), (fcnO_59_0 ho), if_true, if_false, eq_self, Int.reduceEq, Int.reduceLT, Int.reduceLE, Int.reduceAdd, Int.reduceSub, Int.reduceMul, Int.reduceToNat, Nat.reduceAdd, Nat.reduceMul, Nat.reduceEqDiff, Int.toNat_natCast, wrap_id, hu, if_pos (show (k : Int) < L by omega), w1 hs, zcI_r, if_neg (show ¬ (1 : Int) = 0 by decide)]
theorem fo_skip {d o k L kd f : Nat} {kn : Int} {l3 : AV} {s : Mem} (hd : 1 ≤ d) (ho : o = 0 ∨ o = 26) (hu : s (59 + o) 6 = L) (hk : k < L) (hL : L ≤ 24) (h1 : s (60 + o) k = kd) (h2 : s (64 + o) k = skI kd f) (h3 : ¬ kd = 3) (hs : isSk kd f ∨ kd = 4) : Ze d 93 4 [aR (58 + o), aI kn, aI k, l3] [] s = Ze d 93 4 [aR (58 + o), aI kn, aI ((k + 1 : Nat) : Int), l3] [] s := by
  obtain ⟨w0, w1⟩ := k_sFree (d := d) hd ho (show k < 24 by omega) h1 h2
  rw [x93_4, show ((k + 1 : Nat) : Int) = (k : Int) + 1 from rfl]
  simp (disch := first | exact (obCO_58 ho) | exact (obCO_59 ho) | omega | (simp only [(aN1O_60 ho), (aN1O_78 ho), (aN1O_79 ho)]; omega) | (simp only [List.length_cons, List.length_nil]; omega)) only [en93, x93_0, x93_1, x93_2, x93_3, x93_5, x93_6, x93_9, x93_12, x93_15, x93_16, x93_19, x93_20, x93_23, x93_26, x93_27, x93_30, x93_33, x93_34, x93_35, x93_36, x93_39, x93_40, x93_41, x93_42, x93_43, x93_44, x93_45, x93_48, x93_51, x93_52, x93_53, x93_56, x93_57, x93_59, x93_60, x93_63, x93_66, x93_69, x93_70, x93_72, x93_73, x93_76, x93_79, x93_82, x93_83, x93_84, x93_85, x93_86, x93_87, x93_90, x93_91, x93_94, x93_95, x93_96, x93_97, x93_98, x93_99, x93_100, x93_103, x93_104, x93_107, x93_108, x93_111, x93_112, x93_113, x93_114, x93_114i, x93_115, x93_118, x93_119, x93_120, x93_123, x93_124, x93_125, x93_126, x93_127, x93_128, x93_129, x93_132, x93_135, x93_138, x93_141, (fcnO_58_0 ho), (fcnO_58_8 ho), (fcnO_58_9 ho), (fcnO_59_0 ho), if_true, if_false, eq_self, Int.reduceEq, Int.reduceLT, Int.reduceLE, Int.reduceAdd, Int.reduceSub, Int.reduceMul, Int.reduceToNat, Nat.reduceAdd, Nat.reduceMul, Nat.reduceEqDiff, Int.toNat_natCast, wrap_id, hu, if_pos (show (k : Int) < L by omega), w0 hs, zcI_r, h1, if_neg (show ¬ (kd : Int) = 3 by omega)]
theorem fo_a_end {d o L : Nat} {kn : Int} {l3 : AV} {s : Mem} (ho : o = 0 ∨ o = 26) (hu : s (59 + o) 6 = L) : Ze d 93 4 [aR (58 + o), aI kn, aI L, l3] [] s = Ze d 93 58 [aR (58 + o), aI kn, aI ((0 : Nat) : Int), l3] [] (mu s (58 + o) 10 ((0 : Nat) : Int)) := by
  have z0 : ((0 : Nat) : Int) = 0 := rfl
  rw [x93_4]
  simp (disch := first | exact (obCO_58 ho) | exact (obCO_59 ho) | omega | (simp only [(aN1O_60 ho), (aN1O_78 ho), (aN1O_79 ho)]; omega) | (simp only [List.length_cons, List.length_nil]; omega)) only [en93, x93_0, x93_1, x93_2, x93_3, x93_5, x93_6, x93_9, x93_12, x93_15, x93_16, x93_19, x93_20, x93_23, x93_26, x93_27, x93_30, x93_33, x93_34, x93_35, x93_36, x93_39, x93_40, x93_41, x93_42, x93_43, x93_44, x93_45, x93_48, x93_51, x93_52, x93_53, x93_56, x93_57, x93_59, x93_60, x93_63, x93_66, x93_69, x93_70, x93_72, x93_73, x93_76, x93_79, x93_82, x93_83, x93_84, x93_85, x93_86, x93_87, x93_90, x93_91, x93_94, x93_95, x93_96, x93_97, x93_98, x93_99, x93_100, x93_103, x93_104, x93_107, x93_108, x93_111, x93_112, x93_113, x93_114, x93_114i, x93_115, x93_118, x93_119, x93_120, x93_123, x93_124, x93_125, x93_126, x93_127, x93_128, x93_129, x93_132, x93_135, x93_138, x93_141, (fcnO_58_0 ho), (fcnO_58_8 ho), (fcnO_58_9 ho), (fcnO_59_0 ho), if_true, if_false, eq_self, Int.reduceEq, Int.reduceLT, Int.reduceLE, Int.reduceAdd, Int.reduceSub, Int.reduceMul, Int.reduceToNat, Nat.reduceAdd, Nat.reduceMul, Nat.reduceEqDiff, Int.toNat_natCast, wrap_id, hu, if_neg (show ¬ (L : Int) < L by omega), z0]
theorem fo_r {d o L r : Nat} {kn : Int} {l3 : AV} {s : Mem} (ho : o = 0 ∨ o = 26) (hu : s (59 + o) 6 = L) (hr : r < L) : Ze d 93 58 [aR (58 + o), aI kn, aI r, l3] [] s = Ze d 93 71 [aR (58 + o), aI kn, aI r, aI ((0 : Nat) : Int)] [] s := by
  have z0 : ((0 : Nat) : Int) = 0 := rfl
  rw [x93_58]
  simp (disch := first | exact (obCO_58 ho) | exact (obCO_59 ho) | omega | (simp only [(aN1O_60 ho), (aN1O_78 ho), (aN1O_79 ho)]; omega) | (simp only [List.length_cons, List.length_nil]; omega)) only [en93, x93_0, x93_1, x93_2, x93_3, x93_5, x93_6, x93_9, x93_12, x93_15, x93_16, x93_19, x93_20, x93_23, x93_26, x93_27, x93_30, x93_33, x93_34, x93_35, x93_36, x93_39, x93_40, x93_41, x93_42, x93_43, x93_44, x93_45, x93_48, x93_51, x93_52, x93_53, x93_56, x93_57, x93_59, x93_60, x93_63, x93_66, x93_69, x93_70, x93_72, x93_73, x93_76, x93_79, x93_82, x93_83, x93_84, x93_85, x93_86, x93_87, x93_90, x93_91, x93_94, x93_95, x93_96, x93_97, x93_98, x93_99, x93_100, x93_103, x93_104, x93_107, x93_108, x93_111, x93_112, x93_113, x93_114, x93_114i, x93_115, x93_118, x93_119, x93_120, x93_123, x93_124, x93_125, x93_126, x93_127, x93_128, x93_129, x93_132, x93_135, x93_138, x93_141, (fcnO_58_0 ho), (fcnO_58_8 ho), (fcnO_58_9 ho), (fcnO_59_0 ho), if_true, if_false, eq_self, Int.reduceEq, Int.reduceLT, Int.reduceLE, Int.reduceAdd, Int.reduceSub, Int.reduceMul, Int.reduceToNat, Nat.reduceAdd, Nat.reduceMul, Nat.reduceEqDiff, Int.toNat_natCast, wrap_id, hu, if_pos (show (r : Int) < L by omega), z0]
theorem fo_r_end {d o L : Nat} {kn : Int} {l3 : AV} {s : Mem} (ho : o = 0 ∨ o = 26) (hu : s (59 + o) 6 = L) : Ze d 93 58 [aR (58 + o), aI kn, aI L, l3] [] s = rV s := by
  rw [x93_58]
  simp (disch := first | exact (obCO_58 ho) | exact (obCO_59 ho) | omega | (simp only [(aN1O_60 ho), (aN1O_78 ho), (aN1O_79 ho)]; omega) | (simp only [List.length_cons, List.length_nil]; omega)) only [en93, x93_0, x93_1, x93_2, x93_3, x93_5, x93_6, x93_9, x93_12, x93_15, x93_16, x93_19, x93_20, x93_23, x93_26, x93_27, x93_30, x93_33, x93_34, x93_35, x93_36, x93_39, x93_40, x93_41, x93_42, x93_43, x93_44, x93_45, x93_48, x93_51, x93_52, x93_53, x93_56, x93_57, x93_59, x93_60, x93_63, x93_66, x93_69, x93_70, x93_72, x93_73, x93_76, x93_79, x93_82, x93_83, x93_84, x93_85, x93_86, x93_87, x93_90, x93_91, x93_94, x93_95, x93_96, x93_97, x93_98, x93_99, x93_100, x93_103, x93_104, x93_107, x93_108, x93_111, x93_112, x93_113, x93_114, x93_114i, x93_115, x93_118, x93_119, x93_120, x93_123, x93_124, x93_125, x93_126, x93_127, x93_128, x93_129, x93_132, x93_135, x93_138, x93_141, (fcnO_58_0 ho), (fcnO_58_8 ho), (fcnO_58_9 ho), (fcnO_59_0 ho), if_true, if_false, eq_self, Int.reduceEq, Int.reduceLT, Int.reduceLE, Int.reduceAdd, Int.reduceSub, Int.reduceMul, Int.reduceToNat, Nat.reduceAdd, Nat.reduceMul, Nat.reduceEqDiff, Int.toNat_natCast, wrap_id, hu, if_neg (show ¬ (L : Int) < L by omega)]
theorem fo_k_end {d o L r : Nat} {kn : Int} {s : Mem} (ho : o = 0 ∨ o = 26) (hu : s (59 + o) 6 = L) (hr : r < L) (hL : L ≤ 24) : Ze d 93 71 [aR (58 + o), aI kn, aI r, aI L] [] s = Ze d 93 58 [aR (58 + o), aI kn, aI ((r + 1 : Nat) : Int), aI L] [] s := by
  rw [x93_71, show ((r + 1 : Nat) : Int) = (r : Int) + 1 from rfl]
  simp (disch := first | exact (obCO_58 ho) | exact (obCO_59 ho) | omega | (simp only [(aN1O_60 ho), (aN1O_78 ho), (aN1O_79 ho)]; omega) | (simp only [List.length_cons, List.length_nil]; omega)) only [en93, x93_0, x93_1, x93_2, x93_3, x93_5, x93_6, x93_9, x93_12, x93_15, x93_16, x93_19, x93_20, x93_23, x93_26, x93_27, x93_30, x93_33, x93_34, x93_35, x93_36, x93_39, x93_40, x93_41, x93_42, x93_43, x93_44, x93_45, x93_48, x93_51, x93_52, x93_53, x93_56, x93_57, x93_59, x93_60, x93_63, x93_66, x93_69, x93_70, x93_72, x93_73, x93_76, x93_79, x93_82, x93_83, x93_84, x93_85, x93_86, x93_87, x93_90, x93_91, x93_94, x93_95, x93_96, x93_97, x93_98, x93_99, x93_100, x93_103, x93_104, x93_107, x93_108, x93_111, x93_112, x93_113, x93_114, x93_114i, x93_115, x93_118, x93_119, x93_120, x93_123, x93_124, x93_125, x93_126, x93_127, x93_128, x93_129, x93_132, x93_135, x93_138, x93_141, (fcnO_58_0 ho), (fcnO_58_8 ho), (fcnO_58_9 ho), (fcnO_59_0 ho), if_true, if_false, eq_self, Int.reduceEq, Int.reduceLT, Int.reduceLE, Int.reduceAdd, Int.reduceSub, Int.reduceMul, Int.reduceToNat, Nat.reduceAdd, Nat.reduceMul, Nat.reduceEqDiff, Int.toNat_natCast, wrap_id, hu, if_neg (show ¬ (L : Int) < L by omega)]
theorem fo_no {d o L r k : Nat} {kn : Int} {s : Mem} (ho : o = 0 ∨ o = 26) (hu : s (59 + o) 6 = L) (hk : k < L) (hL : L ≤ 24) (h : iand (ishr kn k) 1 = 1 ∨ (iand (ishr kn k) 1 = 0 ∧ ¬ iand (s (78 + o) k) (ixor kn (-1)) = 0)) : Ze d 93 71 [aR (58 + o), aI kn, aI r, aI k] [] s = Ze d 93 71 [aR (58 + o), aI kn, aI r, aI ((k + 1 : Nat) : Int)] [] s := by
  rw [x93_71, show ((k + 1 : Nat) : Int) = (k : Int) + 1 from rfl]
  rcases h with h | ⟨h, h'⟩
  · simp (disch := first | exact (obCO_58 ho) | exact (obCO_59 ho) | omega | (simp only [(aN1O_60 ho), (aN1O_78 ho), (aN1O_79 ho)]; omega) | (simp only [List.length_cons, List.length_nil]; omega)) only [en93, x93_0, x93_1, x93_2, x93_3, x93_5, x93_6, x93_9, x93_12, x93_15, x93_16, x93_19, x93_20, x93_23, x93_26, x93_27, x93_30, x93_33, x93_34, x93_35, x93_36, x93_39, x93_40, x93_41, x93_42, x93_43, x93_44, x93_45, x93_48, x93_51, x93_52, x93_53, x93_56, x93_57, x93_59, x93_60, x93_63, x93_66, x93_69, x93_70, x93_72, x93_73, x93_76, x93_79, x93_82, x93_83, x93_84, x93_85, x93_86, x93_87, x93_90, x93_91, x93_94, x93_95, x93_96, x93_97, x93_98, x93_99, x93_100, x93_103, x93_104, x93_107, x93_108, x93_111, x93_112, x93_113, x93_114, x93_114i, x93_115, x93_118, x93_119, x93_120, x93_123, x93_124, x93_125, x93_126, x93_127, x93_128, x93_129, x93_132, x93_135, x93_138, x93_141, (fcnO_58_0 ho), (fcnO_58_8 ho), (fcnO_58_9 ho), (fcnO_59_0 ho), if_true, if_false, eq_self, Int.reduceEq, Int.reduceLT, Int.reduceLE, Int.reduceAdd, Int.reduceSub, Int.reduceMul, Int.reduceToNat, Nat.reduceAdd, Nat.reduceMul, Nat.reduceEqDiff, Int.toNat_natCast, wrap_id, hu, if_pos (show (k : Int) < L by omega), h, if_neg (show ¬ (1 : Int) = 0 by decide)]
  · simp (disch := first | exact (obCO_58 ho) | exact (obCO_59 ho) | omega | (simp only [(aN1O_60 ho), (aN1O_78 ho), (aN1O_79 ho)]; omega) | (simp only [List.length_cons, List.length_nil]; omega)) only [en93, x93_0, x93_1, x93_2, x93_3, x93_5, x93_6, x93_9, x93_12, x93_15, x93_16, x93_19, x93_20, x93_23, x93_26, x93_27, x93_30, x93_33, x93_34, x93_35, x93_36, x93_39, x93_40, x93_41, x93_42, x93_43, x93_44, x93_45, x93_48, x93_51, x93_52, x93_53, x93_56, x93_57, x93_59, x93_60, x93_63, x93_66, x93_69, x93_70, x93_72, x93_73, x93_76, x93_79, x93_82, x93_83, x93_84, x93_85, x93_86, x93_87, x93_90, x93_91, x93_94, x93_95, x93_96, x93_97, x93_98, x93_99, x93_100, x93_103, x93_104, x93_107, x93_108, x93_111, x93_112, x93_113, x93_114, x93_114i, x93_115, x93_118, x93_119, x93_120, x93_123, x93_124, x93_125, x93_126, x93_127, x93_128, x93_129, x93_132, x93_135, x93_138, x93_141, (fcnO_58_0 ho), (fcnO_58_8 ho), (fcnO_58_9 ho), (fcnO_59_0 ho), if_true, if_false, eq_self, Int.reduceEq, Int.reduceLT, Int.reduceLE, Int.reduceAdd, Int.reduceSub, Int.reduceMul, Int.reduceToNat, Nat.reduceAdd, Nat.reduceMul, Nat.reduceEqDiff, Int.toNat_natCast, wrap_id, hu, if_pos (show (k : Int) < L by omega), h, if_neg h']
theorem fo_yes {d o L r k n : Nat} {kn : Int} {s : Mem} (ho : o = 0 ∨ o = 26) (hu : s (59 + o) 6 = L) (hk : k < L) (hL : L ≤ 24) (h : iand (ishr kn k) 1 = 0) (h' : iand (s (78 + o) k) (ixor kn (-1)) = 0) (hn : s (58 + o) 10 = n) (hn2 : n < 24) : Ze d 93 71 [aR (58 + o), aI kn, aI r, aI k] [] s = Ze d 93 71 [aR (58 + o), aI (ior kn (ishl 1 k)), aI r, aI ((k + 1 : Nat) : Int)] [] (mu (mu s (79 + o) n k) (58 + o) 10 ((n + 1 : Nat) : Int)) := by
  rw [x93_71, show ((k + 1 : Nat) : Int) = (k : Int) + 1 from rfl, show ((n + 1 : Nat) : Int) = (n : Int) + 1 from rfl]
  simp (disch := first | exact (obCO_58 ho) | exact (obCO_59 ho) | omega | (simp only [(aN1O_60 ho), (aN1O_78 ho), (aN1O_79 ho)]; omega) | (simp only [List.length_cons, List.length_nil]; omega)) only [en93, x93_0, x93_1, x93_2, x93_3, x93_5, x93_6, x93_9, x93_12, x93_15, x93_16, x93_19, x93_20, x93_23, x93_26, x93_27, x93_30, x93_33, x93_34, x93_35, x93_36, x93_39, x93_40, x93_41, x93_42, x93_43, x93_44, x93_45, x93_48, x93_51, x93_52, x93_53, x93_56, x93_57, x93_59, x93_60, x93_63, x93_66, x93_69, x93_70, x93_72, x93_73, x93_76, x93_79, x93_82, x93_83, x93_84, x93_85, x93_86, x93_87, x93_90, x93_91, x93_94, x93_95, x93_96, x93_97, x93_98, x93_99, x93_100, x93_103, x93_104, x93_107, x93_108, x93_111, x93_112, x93_113, x93_114, x93_114i, x93_115, x93_118, x93_119, x93_120, x93_123, x93_124, x93_125, x93_126, x93_127, x93_128, x93_129, x93_132, x93_135, x93_138, x93_141, (fcnO_58_0 ho), (fcnO_58_8 ho), (fcnO_58_9 ho), (fcnO_59_0 ho), if_true, if_false, eq_self, Int.reduceEq, Int.reduceLT, Int.reduceLE, Int.reduceAdd, Int.reduceSub, Int.reduceMul, Int.reduceToNat, Nat.reduceAdd, Nat.reduceMul, Nat.reduceEqDiff, Int.toNat_natCast, wrap_id, hu, if_pos (show (k : Int) < L by omega), h, h', hn, mu_c]
theorem fo_start {d o : Nat} {s : Mem} : Zc (d + 1) 93 [aR (58 + o)] s = Ze d 93 4 [aR (58 + o), aI 0, aI ((0 : Nat) : Int), aU] [] s := by
  have z0 : ((0 : Nat) : Int) = 0 := rfl
  simp (disch := first | exact obC_58 | exact obC_59 | exact obC_84 | exact obC_85 | omega | (simp only [aN1_104, aN1_105, aN1_60, aN1_78, aN1_79, aN1_86]; omega) | (simp only [List.length_cons, List.length_nil]; omega)) only [en93, x93_0, x93_1, x93_2, x93_3, x93_5, x93_6, x93_9, x93_12, x93_15, x93_16, x93_19, x93_20, x93_23, x93_26, x93_27, x93_30, x93_33, x93_34, x93_35, x93_36, x93_39, x93_40, x93_41, x93_42, x93_43, x93_44, x93_45, x93_48, x93_51, x93_52, x93_53, x93_56, x93_57, x93_59, x93_60, x93_63, x93_66, x93_69, x93_70, x93_72, x93_73, x93_76, x93_79, x93_82, x93_83, x93_84, x93_85, x93_86, x93_87, x93_90, x93_91, x93_94, x93_95, x93_96, x93_97, x93_98, x93_99, x93_100, x93_103, x93_104, x93_107, x93_108, x93_111, x93_112, x93_113, x93_114, x93_114i, x93_115, x93_118, x93_119, x93_120, x93_123, x93_124, x93_125, x93_126, x93_127, x93_128, x93_129, x93_132, x93_135, x93_138, x93_141, fcn_58_0, fcn_58_8, fcn_58_9, fcn_59_0, fcn_84_0, fcn_84_8, fcn_84_9, fcn_85_0, if_true, if_false, eq_self, Int.reduceEq, Int.reduceLT, Int.reduceLE, Int.reduceAdd, Int.reduceSub, Int.reduceMul, Int.reduceToNat, Nat.reduceAdd, Nat.reduceMul, Nat.reduceEqDiff, Int.toNat_natCast, wrap_id, z0]
