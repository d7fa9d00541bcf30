/-! THE CLASS: where the lowering begins -/
def st0 (sg : List Sg) (g : Nat) : Nat := match sg[g]? with
  | some x => if x.1 = 3 then g else 24
  | none => 24
def now0 (sg : List Sg) (g : Nat) : Jvm.Term := match sg[g]? with
  | some x => if x.1 = 3 then .index g else .null
  | none => .null
def SGA (s : Mem) (o : Nat) (sg : List Sg) : Prop := s (59 + o) 6 = sg.length ∧ sg.length ≤ 24 ∧ ∀ (i : Nat) (x : Sg), sg[i]? = some x → s (60 + o) i = x.1 ∧ s (64 + o) i = skI x.1 x.2.2.1
theorem SGA_put {s s' : Mem} {o : Nat} {sg : List Sg} (h : SGA s o sg) (f1 : s' (59 + o) 6 = s (59 + o) 6) (f2 : ∀ j, s' (60 + o) j = s (60 + o) j ∧ s' (64 + o) j = s (64 + o) j) : SGA s' o sg := ⟨by rw [f1, h.1], h.2.1, fun i x hx => by rw [(f2 i).1, (f2 i).2]; exact h.2.2 i x hx⟩
theorem bg_loop {d o : Nat} {sg : List Sg} (ho : o = 0 ∨ o = 26) : ∀ (m k : Nat) (s : Mem) (l3 : AV), k + m = 24 → SGA s o sg → (∀ g, g < k → s 139 g = (st0 sg g : Nat)) → ∃ s', Ze d 104 17 [aR 137, aR (58 + o), aI k, l3] [] s = rV s' ∧ (∀ g, g < 24 → s' 139 g = (st0 sg g : Nat)) ∧ Fr (fun k _ => k = 139) s s' := by
  intro m
  induction m with
  | zero =>
    intro k s l3 hk h hg
    have : k = 24 := by omega
    subst this
    refine ⟨s, ?_, hg, Fr.rf s⟩
    rw [x104_17]
    simp (disch := first | exact obC_137 | exact (obCO_58 ho) | exact (obCO_59 ho) | omega | (simp only [aN1_139, (aN1O_60 ho)]; omega) | (simp only [List.length_cons, List.length_nil]; omega)) only [en104, x104_0, x104_1, x104_2, x104_5, x104_6, x104_7, x104_10, x104_11, x104_12, x104_15, x104_16, x104_18, x104_20, x104_23, x104_24, x104_25, x104_28, x104_31, x104_34, x104_35, x104_38, x104_41, x104_42, x104_43, x104_44, x104_47, x104_48, x104_51, x104_52, x104_53, x104_54, x104_57, x104_58, x104_59, x104_62, x104_63, x104_66, x104_68, x104_69, x104_72, x104_75, fcn_137_3, (fcnO_58_0 ho), (fcnO_59_0 ho), if_true, if_false, eq_self, Int.reduceEq, Int.reduceLT, Int.reduceLE, Int.reduceAdd, Int.reduceSub, Int.reduceMul, Int.reduceToNat, Nat.reduceAdd, Nat.reduceMul, Nat.reduceEqDiff, Int.toNat_natCast, wrap_id, if_neg (show ¬ ((24 : Nat) : Int) < 24 by decide)]
  | succ m ih =>
    intro k s l3 hk h hg
    have hk24 : k < 24 := by omega
    have e0 : ∃ l3', Ze d 104 17 [aR 137, aR (58 + o), aI k, l3] [] s = Ze d 104 17 [aR 137, aR (58 + o), aI ((k + 1 : Nat) : Int), l3'] [] (mu s 139 k (st0 sg k : Nat)) := by
      rw [x104_17, show ((k + 1 : Nat) : Int) = (k : Int) + 1 from rfl]
      by_cases hkl : k < sg.length
      · have hx := List.getElem?_eq_getElem hkl
        obtain ⟨h3, -⟩ := h.2.2 k _ hx
        have hst : st0 sg k = if sg[k].1 = 3 then k else 24 := by unfold st0; rw [hx]
        rw [hst]
        by_cases hr : sg[k].1 = 3
        · rw [if_pos hr]
          rw [hr] at h3
          have z3 : ((3 : Nat) : Int) = 3 := rfl
          refine ⟨aI 1, ?_⟩
          simp (disch := first | exact obC_137 | exact (obCO_58 ho) | exact (obCO_59 ho) | omega | (simp only [aN1_139, (aN1O_60 ho)]; omega) | (simp only [List.length_cons, List.length_nil]; omega)) only [en104, x104_0, x104_1, x104_2, x104_5, x104_6, x104_7, x104_10, x104_11, x104_12, x104_15, x104_16, x104_18, x104_20, x104_23, x104_24, x104_25, x104_28, x104_31, x104_34, x104_35, x104_38, x104_41, x104_42, x104_43, x104_44, x104_47, x104_48, x104_51, x104_52, x104_53, x104_54, x104_57, x104_58, x104_59, x104_62, x104_63, x104_66, x104_68, x104_69, x104_72, x104_75, fcn_137_3, (fcnO_58_0 ho), (fcnO_59_0 ho), if_true, if_false, eq_self, Int.reduceEq, Int.reduceLT, Int.reduceLE, Int.reduceAdd, Int.reduceSub, Int.reduceMul, Int.reduceToNat, Nat.reduceAdd, Nat.reduceMul, Nat.reduceEqDiff, Int.toNat_natCast, wrap_id, if_pos (show (k : Int) < 24 by omega), h.1, if_pos (show (k : Int) < sg.length by omega), h3, z3, if_neg (show ¬ (1 : Int) = 0 by decide)]
        · rw [if_neg hr]
          refine ⟨aI 0, ?_⟩
          have z24 : ((24 : Nat) : Int) = 24 := rfl
          simp (disch := first | exact obC_137 | exact (obCO_58 ho) | exact (obCO_59 ho) | omega | (simp only [aN1_139, (aN1O_60 ho)]; omega) | (simp only [List.length_cons, List.length_nil]; omega)) only [en104, x104_0, x104_1, x104_2, x104_5, x104_6, x104_7, x104_10, x104_11, x104_12, x104_15, x104_16, x104_18, x104_20, x104_23, x104_24, x104_25, x104_28, x104_31, x104_34, x104_35, x104_38, x104_41, x104_42, x104_43, x104_44, x104_47, x104_48, x104_51, x104_52, x104_53, x104_54, x104_57, x104_58, x104_59, x104_62, x104_63, x104_66, x104_68, x104_69, x104_72, x104_75, fcn_137_3, (fcnO_58_0 ho), (fcnO_59_0 ho), if_true, if_false, eq_self, Int.reduceEq, Int.reduceLT, Int.reduceLE, Int.reduceAdd, Int.reduceSub, Int.reduceMul, Int.reduceToNat, Nat.reduceAdd, Nat.reduceMul, Nat.reduceEqDiff, Int.toNat_natCast, wrap_id, if_pos (show (k : Int) < 24 by omega), h.1, if_pos (show (k : Int) < sg.length by omega), h3, if_neg (show ¬ (sg[k].1 : Int) = 3 by omega), z24]
      · have hst : st0 sg k = 24 := by unfold st0; rw [List.getElem?_eq_none (by omega)]
        rw [hst]
        have z24 : ((24 : Nat) : Int) = 24 := rfl
        refine ⟨aI 0, ?_⟩
        simp (disch := first | exact obC_137 | exact (obCO_58 ho) | exact (obCO_59 ho) | omega | (simp only [aN1_139, (aN1O_60 ho)]; omega) | (simp only [List.length_cons, List.length_nil]; omega)) only [en104, x104_0, x104_1, x104_2, x104_5, x104_6, x104_7, x104_10, x104_11, x104_12, x104_15, x104_16, x104_18, x104_20, x104_23, x104_24, x104_25, x104_28, x104_31, x104_34, x104_35, x104_38, x104_41, x104_42, x104_43, x104_44, x104_47, x104_48, x104_51, x104_52, x104_53, x104_54, x104_57, x104_58, x104_59, x104_62, x104_63, x104_66, x104_68, x104_69, x104_72, x104_75, fcn_137_3, (fcnO_58_0 ho), (fcnO_59_0 ho), if_true, if_false, eq_self, Int.reduceEq, Int.reduceLT, Int.reduceLE, Int.reduceAdd, Int.reduceSub, Int.reduceMul, Int.reduceToNat, Nat.reduceAdd, Nat.reduceMul, Nat.reduceEqDiff, Int.toNat_natCast, wrap_id, if_pos (show (k : Int) < 24 by omega), h.1, if_neg (show ¬ (k : Int) < sg.length by omega), z24]
    obtain ⟨l3', e0⟩ := e0
    obtain ⟨s', e1, e2, e3⟩ := ih (k + 1) (mu s 139 k (st0 sg k : Nat)) l3' (by omega) (SGA_put h (mu_c (by omega)) (fun j => ⟨mu_c (by omega), mu_c (by omega)⟩)) (fun g hg' => by
      by_cases hgk : g = k
      · rw [hgk, mu_s]
      · rw [mu_i hgk]
        exact hg g (by omega))
    have F1 : Fr (fun k _ => k = 139) s (mu s 139 k (st0 sg k : Nat)) := (Fr.rf s).mu rfl
    exact ⟨s', by rw [e0, e1], e2, F1.tr e3⟩
def BGF (o k j : Nat) : Prop := k = 139 ∨ (k = 137 ∧ (j = 9 ∨ j = 10)) ∨ (k = 58 + o ∧ j = 6)
theorem k_lbegin {d o : Nat} {sg : List Sg} {s : Mem} (hd : 1 ≤ d) (ho : o = 0 ∨ o = 26) (h : SGA s o sg) : ∃ s', Zc d 104 [aR 137, aR (58 + o)] s = rV s' ∧ (∀ g, g < 24 → s' 139 g = (st0 sg g : Nat)) ∧ s' 137 9 = 0 ∧ s' 137 10 = 0 ∧ s' (58 + o) 6 = 0 ∧ Fr (BGF o) s s' := by
  obtain ⟨d, rfl⟩ : ∃ e, d = e + 1 := ⟨d - 1, by omega⟩
  have e0 : Zc (d + 1) 104 [aR 137, aR (58 + o)] s = Ze d 104 17 [aR 137, aR (58 + o), aI ((0 : Nat) : Int), aU] [] (mu (mu (mu s 137 9 0) 137 10 0) (58 + o) 6 0) := by
    have z0 : ((0 : Nat) : Int) = 0 := rfl
    simp (disch := first | exact obC_137 | exact (obCO_58 ho) | exact (obCO_59 ho) | omega | (simp only [aN1_139, (aN1O_60 ho)]; omega) | (simp only [List.length_cons, List.length_nil]; omega)) only [en104, x104_0, x104_1, x104_2, x104_5, x104_6, x104_7, x104_10, x104_11, x104_12, x104_15, x104_16, x104_18, x104_20, x104_23, x104_24, x104_25, x104_28, x104_31, x104_34, x104_35, x104_38, x104_41, x104_42, x104_43, x104_44, x104_47, x104_48, x104_51, x104_52, x104_53, x104_54, x104_57, x104_58, x104_59, x104_62, x104_63, x104_66, x104_68, x104_69, x104_72, x104_75, fcn_137_3, (fcnO_58_0 ho), (fcnO_59_0 ho), if_true, if_false, eq_self, Int.reduceEq, Int.reduceLT, Int.reduceLE, Int.reduceAdd, Int.reduceSub, Int.reduceMul, Int.reduceToNat, Nat.reduceAdd, Nat.reduceMul, Nat.reduceEqDiff, Int.toNat_natCast, wrap_id, z0]
  obtain ⟨s', e1, e2, e3⟩ := bg_loop (d := d) (sg := sg) ho 24 0 (mu (mu (mu s 137 9 0) 137 10 0) (58 + o) 6 0) aU rfl (SGA_put h (by rw [mu_c (by omega), mu_c (by omega), mu_c (by omega)]) (fun j => ⟨by rw [mu_c (by omega), mu_c (by omega), mu_c (by omega)], by rw [mu_c (by omega), mu_c (by omega), mu_c (by omega)]⟩)) (fun g hg => by omega)
  refine ⟨s', by rw [e0, e1], e2, ?_, ?_, ?_, ((((Fr.rf s).mu (Or.inr (Or.inl ⟨rfl, Or.inl rfl⟩))).mu (Or.inr (Or.inl ⟨rfl, Or.inr rfl⟩))).mu (Or.inr (Or.inr ⟨rfl, rfl⟩))).tr (e3.mono (fun _ _ h => Or.inl h))⟩
  · rw [e3 _ _ (by decide), mu_c (by omega), mu_i (by decide), mu_s]
  · rw [e3 _ _ (by decide), mu_c (by omega), mu_s]
  · rw [e3 _ _ (by omega), mu_s]
/-! THE CLASS: where the lowering ends -/
theorem k_sFree {d o g k : Nat} {f : Nat} {s : Mem} (hd : 1 ≤ d) (ho : o = 0 ∨ o = 26) (hg : g < 24) (h1 : s (60 + o) g = k) (h2 : s (64 + o) g = skI k f) : (isSk k f ∨ k = 4 → Zc d 145 [aR (59 + o), aI g] s = rI 0 s) ∧ (¬ (isSk k f ∨ k = 4) → Zc d 145 [aR (59 + o), aI g] s = rI 1 s) := by
  obtain ⟨d, rfl⟩ : ∃ e, d = e + 1 := ⟨d - 1, by omega⟩
  have hs1 : isSk k f → skI k f = 1 := fun h => by unfold skI; rw [if_pos h]
  have hs0 : ¬ isSk k f → skI k f = 0 := fun h => by unfold skI; rw [if_neg h]
  refine ⟨fun h => ?_, fun h => ?_⟩
  · by_cases hk : isSk k f
    · rw [hs1 hk] at h2
      simp (disch := first | exact (obCO_59 ho) | omega | (simp only [(aN1O_60 ho), (aN2O_64 ho)]; omega) | (simp only [List.length_cons, List.length_nil]; omega)) only [en145, x145_0, x145_1, x145_4, x145_5, x145_6, x145_9, x145_10, x145_13, x145_14, x145_15, x145_16, x145_19, x145_20, x145_23, x145_24, (fcnO_59_0 ho), (fcnO_59_4 ho), if_true, if_false, eq_self, Int.reduceEq, Int.reduceLT, Int.reduceLE, Int.reduceAdd, Int.reduceSub, Int.reduceMul, Int.reduceToNat, Nat.reduceAdd, Nat.reduceMul, Nat.reduceEqDiff, Int.toNat_natCast, wrap_id, h2, if_neg (show ¬ (1 : Int) = 0 by decide)]
    · rw [hs0 hk] at h2
      have h4 : k = 4 := h.resolve_left hk
      subst h4
      have z4 : ((4 : Nat) : Int) = 4 := rfl
      simp (disch := first | exact (obCO_59 ho) | omega | (simp only [(aN1O_60 ho), (aN2O_64 ho)]; omega) | (simp only [List.length_cons, List.length_nil]; omega)) only [en145, x145_0, x145_1, x145_4, x145_5, x145_6, x145_9, x145_10, x145_13, x145_14, x145_15, x145_16, x145_19, x145_20, x145_23, x145_24, (fcnO_59_0 ho), (fcnO_59_4 ho), if_true, if_false, eq_self, Int.reduceEq, Int.reduceLT, Int.reduceLE, Int.reduceAdd, Int.reduceSub, Int.reduceMul, Int.reduceToNat, Nat.reduceAdd, Nat.reduceMul, Nat.reduceEqDiff, Int.toNat_natCast, wrap_id, h2, h1, z4]
  · rw [hs0 (fun z => h (Or.inl z))] at h2
    have h4 : ¬ k = 4 := fun z => h (Or.inr z)
    simp (disch := first | exact (obCO_59 ho) | omega | (simp only [(aN1O_60 ho), (aN2O_64 ho)]; omega) | (simp only [List.length_cons, List.length_nil]; omega)) only [en145, x145_0, x145_1, x145_4, x145_5, x145_6, x145_9, x145_10, x145_13, x145_14, x145_15, x145_16, x145_19, x145_20, x145_23, x145_24, (fcnO_59_0 ho), (fcnO_59_4 ho), if_true, if_false, eq_self, Int.reduceEq, Int.reduceLT, Int.reduceLE, Int.reduceAdd, Int.reduceSub, Int.reduceMul, Int.reduceToNat, Nat.reduceAdd, Nat.reduceMul, Nat.reduceEqDiff, Int.toNat_natCast, wrap_id, h2, h1, if_neg (show ¬ (k : Int) = 4 by omega)]
theorem fin_sink {d o L g v : Nat} {s : Mem} (ho : o = 0 ∨ o = 26) (hu : s (59 + o) 6 = L) (hg : g < L) (hL : L ≤ 24) (hs : s (64 + o) g = 1) (hv : s 139 g = v) (hv2 : v < 1065) (e : Zc d 145 [aR (59 + o), aI g] (mu s (77 + o) g v) = rI 0 (mu s (77 + o) g v)) : Ze d 109 2 [aR 137, aR (58 + o), aI g] [] s = Ze d 109 2 [aR 137, aR (58 + o), aI ((g + 1 : Nat) : Int)] [] (mu (mu s (77 + o) g v) (78 + o) g (s 138 v)) := by
  rw [x109_2, show ((g + 1 : Nat) : Int) = (g : Int) + 1 from rfl]
  simp (disch := first | exact obC_137 | exact (obCO_58 ho) | exact (obCO_59 ho) | omega | (simp only [aN1_138, aN1_139, (aN1O_77 ho), (aN1O_78 ho), (aN2O_64 ho)]; omega) | (simp only [List.length_cons, List.length_nil]; omega)) only [en109, x109_0, x109_1, x109_3, x109_4, x109_7, x109_10, x109_13, x109_14, x109_17, x109_20, x109_21, x109_22, x109_25, x109_26, x109_29, x109_30, x109_31, x109_34, x109_35, x109_36, x109_37, x109_38, x109_41, x109_42, x109_43, x109_46, x109_47, x109_50, x109_53, x109_54, x109_57, x109_58, x109_61, x109_62, x109_65, x109_66, x109_67, x109_68, x109_69, x109_72, x109_75, fcn_137_2, fcn_137_3, (fcnO_58_0 ho), (fcnO_58_7 ho), (fcnO_58_8 ho), (fcnO_59_4 ho), if_true, if_false, eq_self, Int.reduceEq, Int.reduceLT, Int.reduceLE, Int.reduceAdd, Int.reduceSub, Int.reduceMul, Int.reduceToNat, Nat.reduceAdd, Nat.reduceMul, Nat.reduceEqDiff, Int.toNat_natCast, wrap_id, hu, if_pos (show (g : Int) < L by omega), hs, hv, e, zcI_r, mu_s, mu_c, if_neg (show ¬ (1 : Int) = 0 by decide)]
theorem fin_node {d o L g v : Nat} {s : Mem} (ho : o = 0 ∨ o = 26) (hu : s (59 + o) 6 = L) (hg : g < L) (hL : L ≤ 24) (hs : s (64 + o) g = 0) (hv : s (77 + o) g = v) (hv2 : v < 1065) (e : Zc d 145 [aR (59 + o), aI g] s = rI 0 s) : Ze d 109 2 [aR 137, aR (58 + o), aI g] [] s = Ze d 109 2 [aR 137, aR (58 + o), aI ((g + 1 : Nat) : Int)] [] (mu s (78 + o) g (s 138 v)) := by
  rw [x109_2, show ((g + 1 : Nat) : Int) = (g : Int) + 1 from rfl]
  simp (disch := first | exact obC_137 | exact (obCO_58 ho) | exact (obCO_59 ho) | omega | (simp only [aN1_138, aN1_139, (aN1O_77 ho), (aN1O_78 ho), (aN2O_64 ho)]; omega) | (simp only [List.length_cons, List.length_nil]; omega)) only [en109, x109_0, x109_1, x109_3, x109_4, x109_7, x109_10, x109_13, x109_14, x109_17, x109_20, x109_21, x109_22, x109_25, x109_26, x109_29, x109_30, x109_31, x109_34, x109_35, x109_36, x109_37, x109_38, x109_41, x109_42, x109_43, x109_46, x109_47, x109_50, x109_53, x109_54, x109_57, x109_58, x109_61, x109_62, x109_65, x109_66, x109_67, x109_68, x109_69, x109_72, x109_75, fcn_137_2, fcn_137_3, (fcnO_58_0 ho), (fcnO_58_7 ho), (fcnO_58_8 ho), (fcnO_59_4 ho), if_true, if_false, eq_self, Int.reduceEq, Int.reduceLT, Int.reduceLE, Int.reduceAdd, Int.reduceSub, Int.reduceMul, Int.reduceToNat, Nat.reduceAdd, Nat.reduceMul, Nat.reduceEqDiff, Int.toNat_natCast, wrap_id, hu, if_pos (show (g : Int) < L by omega), hs, hv, e, zcI_r]
theorem fin_free {d o L g : Nat} {s : Mem} (ho : o = 0 ∨ o = 26) (hu : s (59 + o) 6 = L) (hg : g < L) (hL : L ≤ 24) (hs : s (64 + o) g = 0) (e : Zc d 145 [aR (59 + o), aI g] s = rI 1 s) : Ze d 109 2 [aR 137, aR (58 + o), aI g] [] s = Ze d 109 2 [aR 137, aR (58 + o), aI ((g + 1 : Nat) : Int)] [] (mu s (78 + o) g 0) := by
  rw [x109_2, show ((g + 1 : Nat) : Int) = (g : Int) + 1 from rfl]
  simp (disch := first | exact obC_137 | exact (obCO_58 ho) | exact (obCO_59 ho) | omega | (simp only [aN1_138, aN1_139, (aN1O_77 ho), (aN1O_78 ho), (aN2O_64 ho)]; omega) | (simp only [List.length_cons, List.length_nil]; omega)) only [en109, x109_0, x109_1, x109_3, x109_4, x109_7, x109_10, x109_13, x109_14, x109_17, x109_20, x109_21, x109_22, x109_25, x109_26, x109_29, x109_30, x109_31, x109_34, x109_35, x109_36, x109_37, x109_38, x109_41, x109_42, x109_43, x109_46, x109_47, x109_50, x109_53, x109_54, x109_57, x109_58, x109_61, x109_62, x109_65, x109_66, x109_67, x109_68, x109_69, x109_72, x109_75, fcn_137_2, fcn_137_3, (fcnO_58_0 ho), (fcnO_58_7 ho), (fcnO_58_8 ho), (fcnO_59_4 ho), if_true, if_false, eq_self, Int.reduceEq, Int.reduceLT, Int.reduceLE, Int.reduceAdd, Int.reduceSub, Int.reduceMul, Int.reduceToNat, Nat.reduceAdd, Nat.reduceMul, Nat.reduceEqDiff, Int.toNat_natCast, wrap_id, hu, if_pos (show (g : Int) < L by omega), hs, e, zcI_r, if_neg (show ¬ (1 : Int) = 0 by decide)]
theorem fin_end {d o L : Nat} {s : Mem} (ho : o = 0 ∨ o = 26) (hu : s (59 + o) 6 = L) : Ze d 109 2 [aR 137, aR (58 + o), aI L] [] s = rV s := by
  rw [x109_2]
  simp (disch := first | exact obC_137 | exact (obCO_58 ho) | exact (obCO_59 ho) | omega | (simp only [aN1_138, aN1_139, (aN1O_77 ho), (aN1O_78 ho), (aN2O_64 ho)]; omega) | (simp only [List.length_cons, List.length_nil]; omega)) only [en109, x109_0, x109_1, x109_3, x109_4, x109_7, x109_10, x109_13, x109_14, x109_17, x109_20, x109_21, x109_22, x109_25, x109_26, x109_29, x109_30, x109_31, x109_34, x109_35, x109_36, x109_37, x109_38, x109_41, x109_42, x109_43, x109_46, x109_47, x109_50, x109_53, x109_54, x109_57, x109_58, x109_61, x109_62, x109_65, x109_66, x109_67, x109_68, x109_69, x109_72, x109_75, fcn_137_2, fcn_137_3, (fcnO_58_0 ho), (fcnO_58_7 ho), (fcnO_58_8 ho), (fcnO_59_4 ho), if_true, if_false, eq_self, Int.reduceEq, Int.reduceLT, Int.reduceLE, Int.reduceAdd, Int.reduceSub, Int.reduceMul, Int.reduceToNat, Nat.reduceAdd, Nat.reduceMul, Nat.reduceEqDiff, Int.toNat_natCast, wrap_id, hu, if_neg (show ¬ (L : Int) < L by omega)]
