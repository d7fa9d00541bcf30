/-! THE CLASS: widths of the signals -/
theorem k_measure {d o L N : Nat} {W : Nat → Nat} {cv : List (Option Jvm.Term)} {s : Mem} (hd : 3 ≤ d) (ho : o = 0 ∨ o = 26) (hL : L ≤ 24) (hN2 : N ≤ 225) (hN3 : 25 ≤ N) (hix : ∀ e, some e ∈ cv → ixb L e) (hN : s (66 + o) 7 = N) (hcv : CVc s o L 25 cv N) (hS : SWc s o L W) :
    (∃ s', Zc d 117 [aR (66 + o), aR (62 + o)] s = rI 1 s' ∧ WAc s' o W N ∧ Fr (WNF o N) s s') ∨ (twA W cv ∧ ∃ s', Zc d 117 [aR (66 + o), aR (62 + o)] s = rI 0 s' ∧ Fr (WNF o N) s s') := by
  obtain ⟨d, rfl⟩ : ∃ e, d = e + 1 := ⟨d - 1, by omega⟩
  have e0 : Zc (d + 1) 117 [aR (66 + o), aR (62 + o)] s = Ze d 117 3 [aR (66 + o), aR (62 + o), aI ((25 : Nat) : Int)] [] s := by
    have z0 : ((25 : Nat) : Int) = 25 := rfl
    simp (disch := first | exact (obCO_66 ho) | omega | (simp only [(aN1O_72 ho)]; omega) | (simp only [List.length_cons, List.length_nil]; omega)) only [en117, x117_0, x117_2, x117_4, x117_5, x117_8, x117_11, x117_12, x117_15, x117_16, x117_17, x117_18, x117_19, x117_22, x117_23, x117_24, x117_27, x117_28, x117_29, x117_31, x117_34, x117_35, x117_36, x117_39, x117_42, x117_43, (fcnO_66_5 ho), if_true, if_false, eq_self, Int.reduceEq, Int.reduceLT, Int.reduceLE, Int.reduceAdd, Int.reduceSub, Int.reduceMul, Int.reduceToNat, Nat.reduceAdd, Nat.reduceMul, Nat.reduceEqDiff, Int.toNat_natCast, wrap_id, z0]
  rw [e0]
  exact ms_loop (d := d) (by omega) ho hL hN2 hix (N - 25) 25 s (by omega) (Nat.le_refl _) hN hcv (fun e m hc hm hi => by have := esz_pos e; omega) hS
theorem ior01 {a b : Int} (ha : a = 0 ∨ a = 1) (hb : b = 0 ∨ b = 1) : ior a b = if a = 1 ∨ b = 1 then 1 else 0 := by
  rw [ior_def]
  rcases ha with rfl | rfl <;> rcases hb with rfl | rfl <;> decide
/-- what raising does to the widths: those at first, those then, whether one has grown -/
def REL (sg : List Sg) (lo : List Lo) (Wp W1 W : Nat → Nat) (c : Int) : Prop := (∀ g, W1 g ≤ W g) ∧ ((c = 0 ∧ ∀ g, W g = W1 g) ∨ (c = 1 ∧ ∃ g, g < sg.length ∧ W1 g < W g)) ∧ (∀ V, W0le sg V → Cl sg lo V → (∀ g, g < sg.length → Wp g ≤ V g) → (∀ g, g < sg.length → W1 g ≤ V g) → ∀ g, g < sg.length → W g ≤ V g) ∧ (∀ g, sg.length ≤ g → W g = W1 g) ∧ ((∀ g, g < sg.length → W1 g ≤ 16) → ∀ g, g < sg.length → W g ≤ 16)
theorem REL_rf {sg : List Sg} {lo : List Lo} {Wp W : Nat → Nat} : REL sg lo Wp W W 0 := ⟨fun _ => Nat.le_refl _, Or.inl ⟨rfl, fun _ => rfl⟩, fun V _ _ _ h => h, fun _ _ => rfl, fun h => h⟩
theorem REL_tr {sg : List Sg} {lo : List Lo} {Wp W1 W2 W3 : Nat → Nat} {a b : Int} (h1 : REL sg lo Wp W1 W2 a) (h2 : REL sg lo Wp W2 W3 b) : REL sg lo Wp W1 W3 (ior a b) := by
  obtain ⟨a1, a2, a3, a4, a5⟩ := h1
  obtain ⟨b1, b2, b3, b4, b5⟩ := h2
  refine ⟨fun g => Nat.le_trans (a1 g) (b1 g), ?_, fun V h1 h2 h3 h4 => b3 V h1 h2 h3 (a3 V h1 h2 h3 h4), fun g hg => (b4 g hg).trans (a4 g hg), fun h => b5 (a5 h)⟩
  have ha : a = 0 ∨ a = 1 := a2.elim (fun h => Or.inl h.1) (fun h => Or.inr h.1)
  have hb : b = 0 ∨ b = 1 := b2.elim (fun h => Or.inl h.1) (fun h => Or.inr h.1)
  rw [ior01 ha hb]
  rcases a2 with ⟨rfl, a2⟩ | ⟨rfl, g, hg, a2⟩
  · rcases b2 with ⟨rfl, b2⟩ | ⟨rfl, g, hg, b2⟩
    · exact Or.inl ⟨by decide, fun g => (b2 g).trans (a2 g)⟩
    · exact Or.inr ⟨by decide, g, hg, by rw [← a2 g]; exact b2⟩
  · exact Or.inr ⟨by rw [if_pos (Or.inl rfl)], g, hg, Nat.lt_of_lt_of_le a2 (b1 g)⟩
theorem REL_01 {sg : List Sg} {lo : List Lo} {Wp W1 W : Nat → Nat} {c : Int} (h : REL sg lo Wp W1 W c) : c = 0 ∨ c = 1 := by
  rcases h.2.1 with ⟨h, -⟩ | ⟨h, -⟩
  · exact Or.inl h
  · exact Or.inr h
/-- what does not change while the widths are found -/
def ZS (s : Mem) (o N : Nat) (sg : List Sg) (cv : List (Option Jvm.Term)) (xs : List (Nat × Nat × List Lo)) : Prop := s 124 4 = xs.length ∧ xs.length ≤ 200 ∧ s (66 + o) 7 = N ∧ (25 ≤ N ∧ N ≤ 225) ∧ s (59 + o) 6 = sg.length ∧ sg.length ≤ 24 ∧ (o = 0 ∨ o = 26) ∧ (∀ j x, xs[j]? = some x → XS s o N sg j x) ∧ CVc s o sg.length 25 cv N ∧ (∀ (i : Nat) (x : Sg), sg[i]? = some x → s (65 + o) i = grI x.1 x.2.2.2.1)
def WZ (o k _j : Nat) : Prop := k = 62 + o ∨ k = 72 + o
theorem ZS_put {s s' : Mem} {o N : Nat} {sg : List Sg} {cv : List (Option Jvm.Term)} {xs : List (Nat × Nat × List Lo)} (h : ZS s o N sg cv xs) (f : Fr (WZ o) s s') : ZS s' o N sg cv xs := by
  obtain ⟨h1, h2, h3, h4, h5, h6, ho, h7, h8, h9⟩ := h
  have hA : ∀ a b, AN o s s' a b := fun a b k j hk _ _ => f _ _ (by unfold WZ; omega)
  refine ⟨by rw [f _ _ (by unfold WZ; omega), h1], h2, by rw [f _ _ (by unfold WZ; omega), h3], h4, by rw [f _ _ (by unfold WZ; omega), h5], h6, ho, fun j x hx => ?_, CVc_put _ _ _ (hA _ _) h8, fun i x hx => by rw [f _ _ (by unfold WZ; omega)]; exact h9 i x hx⟩
  have := XS_put (sg2 := []) (h7 j x hx) (Nat.le_refl N) (fun q h1 h2 => f _ _ (by unfold WZ; omega)) (hA _ _) (fun j _ => f _ _ (by unfold WZ; omega)) (fun j => f _ _ (by unfold WZ; omega))
  rw [List.append_nil] at this
  exact this
theorem WAc_w {s s' : Mem} {o N : Nat} {W : Nat → Nat} (h : WAc s o W N) (f : ∀ k j, k ≠ 62 + o → s' k j = s k j) : WAc s' o W N := by
  intro e m hc hm hi
  have hc' : CR s o e m := CR_put hc (fun k j hk _ _ => (f _ _ (by omega)).symm)
  obtain ⟨g1, g2⟩ := h e m hc' hm hi
  exact ⟨by rw [f _ _ (by omega), g1], g2⟩
theorem rz_one {d o k v w : Nat} {s : Mem} (hd : 1 ≤ d) (ho : o = 0 ∨ o = 26) (hk : k < 24) (hv : v < 225) (hw : if v < 24 then s (62 + o) v = w else s (72 + o) v = w) {x : Nat} (hx : s (62 + o) k = x) : Zc d 152 [aR (58 + o), aI k, aI v] s = if w ≤ x then rI 0 s else rI 1 (mu s (62 + o) k w) := by
  obtain ⟨d, rfl⟩ : ∃ e, d = e + 1 := ⟨d - 1, by omega⟩
  by_cases h24 : v < 24
  · rw [if_pos h24] at hw
    by_cases hwx : w ≤ x
    · rw [if_pos hwx]
      simp (disch := first | exact (obCO_58 ho) | exact (obCO_59 ho) | exact (obCO_66 ho) | omega | (simp only [(aN1O_62 ho), (aN1O_72 ho)]; omega) | (simp only [List.length_cons, List.length_nil]; omega)) only [en152, x152_0, x152_1, x152_4, x152_7, x152_8, x152_9, x152_11, x152_14, x152_15, x152_16, x152_17, x152_20, x152_21, x152_24, x152_27, x152_28, x152_29, x152_31, x152_33, x152_34, x152_35, x152_36, x152_39, x152_40, x152_41, x152_42, x152_43, x152_45, x152_46, x152_47, (fcnO_58_0 ho), (fcnO_58_1 ho), (fcnO_59_2 ho), (fcnO_66_5 ho), if_true, if_false, eq_self, Int.reduceEq, Int.reduceLT, Int.reduceLE, Int.reduceAdd, Int.reduceSub, Int.reduceMul, Int.reduceToNat, Nat.reduceAdd, Nat.reduceMul, Nat.reduceEqDiff, Int.toNat_natCast, wrap_id, if_pos (show (v : Int) < 24 by omega), hw, hx, if_neg (show ¬ (x : Int) < w by omega)]
    · rw [if_neg hwx]
      simp (disch := first | exact (obCO_58 ho) | exact (obCO_59 ho) | exact (obCO_66 ho) | omega | (simp only [(aN1O_62 ho), (aN1O_72 ho)]; omega) | (simp only [List.length_cons, List.length_nil]; omega)) only [en152, x152_0, x152_1, x152_4, x152_7, x152_8, x152_9, x152_11, x152_14, x152_15, x152_16, x152_17, x152_20, x152_21, x152_24, x152_27, x152_28, x152_29, x152_31, x152_33, x152_34, x152_35, x152_36, x152_39, x152_40, x152_41, x152_42, x152_43, x152_45, x152_46, x152_47, (fcnO_58_0 ho), (fcnO_58_1 ho), (fcnO_59_2 ho), (fcnO_66_5 ho), if_true, if_false, eq_self, Int.reduceEq, Int.reduceLT, Int.reduceLE, Int.reduceAdd, Int.reduceSub, Int.reduceMul, Int.reduceToNat, Nat.reduceAdd, Nat.reduceMul, Nat.reduceEqDiff, Int.toNat_natCast, wrap_id, if_pos (show (v : Int) < 24 by omega), hw, hx, if_pos (show (x : Int) < w by omega)]
  · rw [if_neg h24] at hw
    by_cases hwx : w ≤ x
    · rw [if_pos hwx]
      simp (disch := first | exact (obCO_58 ho) | exact (obCO_59 ho) | exact (obCO_66 ho) | omega | (simp only [(aN1O_62 ho), (aN1O_72 ho)]; omega) | (simp only [List.length_cons, List.length_nil]; omega)) only [en152, x152_0, x152_1, x152_4, x152_7, x152_8, x152_9, x152_11, x152_14, x152_15, x152_16, x152_17, x152_20, x152_21, x152_24, x152_27, x152_28, x152_29, x152_31, x152_33, x152_34, x152_35, x152_36, x152_39, x152_40, x152_41, x152_42, x152_43, x152_45, x152_46, x152_47, (fcnO_58_0 ho), (fcnO_58_1 ho), (fcnO_59_2 ho), (fcnO_66_5 ho), if_true, if_false, eq_self, Int.reduceEq, Int.reduceLT, Int.reduceLE, Int.reduceAdd, Int.reduceSub, Int.reduceMul, Int.reduceToNat, Nat.reduceAdd, Nat.reduceMul, Nat.reduceEqDiff, Int.toNat_natCast, wrap_id, if_neg (show ¬ (v : Int) < 24 by omega), hw, hx, if_neg (show ¬ (x : Int) < w by omega)]
    · rw [if_neg hwx]
      simp (disch := first | exact (obCO_58 ho) | exact (obCO_59 ho) | exact (obCO_66 ho) | omega | (simp only [(aN1O_62 ho), (aN1O_72 ho)]; omega) | (simp only [List.length_cons, List.length_nil]; omega)) only [en152, x152_0, x152_1, x152_4, x152_7, x152_8, x152_9, x152_11, x152_14, x152_15, x152_16, x152_17, x152_20, x152_21, x152_24, x152_27, x152_28, x152_29, x152_31, x152_33, x152_34, x152_35, x152_36, x152_39, x152_40, x152_41, x152_42, x152_43, x152_45, x152_46, x152_47, (fcnO_58_0 ho), (fcnO_58_1 ho), (fcnO_59_2 ho), (fcnO_66_5 ho), if_true, if_false, eq_self, Int.reduceEq, Int.reduceLT, Int.reduceLE, Int.reduceAdd, Int.reduceSub, Int.reduceMul, Int.reduceToNat, Nat.reduceAdd, Nat.reduceMul, Nat.reduceEqDiff, Int.toNat_natCast, wrap_id, if_neg (show ¬ (v : Int) < 24 by omega), hw, hx, if_pos (show (x : Int) < w by omega)]
/-- the width of a source: that of the signal now, or that of the expression when the nodes were measured -/
def srcW (Wp W : Nat → Nat) (e : Jvm.Term) (w : Nat) : Prop := (∃ g, e = .index g ∧ w = W g) ∨ w = wE Wp e
theorem rz_rel {sg : List Sg} {lo : List Lo} {Wp W : Nat → Nat} {g w : Nat} {e : Jvm.Term} (hg : g < sg.length) (hw : srcW Wp W e w) (hw16 : w ≤ 16) (hix : ixb sg.length e) (hV : ∀ V, W0le sg V → Cl sg lo V → wE V e ≤ V g) (h : ¬ w ≤ W g) : REL sg lo Wp W (wUp W g w) 1 := by
  refine ⟨fun i => ?_, Or.inr ⟨rfl, g, hg, by unfold wUp; rw [if_pos rfl]; omega⟩, fun V h1 h2 h3 h4 i hi => ?_, fun i hi => by unfold wUp; rw [if_neg (by omega)], fun h16 i hi => ?_⟩
  · unfold wUp
    split
    next e => rw [e]; omega
    next => exact Nat.le_refl _
  · unfold wUp
    split
    next e' =>
      rw [e']
      have hc := hV V h1 h2
      rcases hw with ⟨g', rfl, rfl⟩ | rfl
      · have hg' : g' < sg.length := hix
        exact Nat.le_trans (h4 g' hg') hc
      · exact Nat.le_trans (wE_mono h3 hix) hc
    next => exact h4 i hi
  · unfold wUp
    split
    · exact hw16
    · exact h16 i hi
theorem SW_up {s : Mem} {o L g w : Nat} {W : Nat → Nat} (h : SWc s o L W) (hw : w ≤ 16) : SWc (mu s (62 + o) g w) o L (wUp W g w) := by
  intro i hi
  unfold wUp
  by_cases e : i = g
  · rw [if_pos e, e, mu_s]
    exact ⟨rfl, hw⟩
  · rw [if_neg e, mu_i e]
    exact h i hi
/-- what a step of the widening comes to -/
def WO1 (o N : Nat) (sg : List Sg) (lo : List Lo) (Wp W : Nat → Nat) (s : Mem) (Z : Option Res) (O : Prop) : Prop := ∃ (s' : Mem) (W' : Nat → Nat) (c : Int), Z = rI c s' ∧ SWc s' o sg.length W' ∧ REL sg lo Wp W W' c ∧ (c = 0 → O) ∧ Fr (fun k _ => k = 62 + o) s s'
theorem k_raise {d o N g v : Nat} {sg : List Sg} {lo : List Lo} {cv : List (Option Jvm.Term)} {xs : List (Nat × Nat × List Lo)} {Wp W : Nat → Nat} {e : Jvm.Term} {s : Mem} (hd : 1 ≤ d) (hZ : ZS s o N sg cv xs) (hS : SWc s o sg.length W) (hW : WAc s o Wp N) (hg : g < sg.length) (hv : SRCc s o N sg.length e v) (hix : ixb sg.length e) (hV : ∀ V, W0le sg V → Cl sg lo V → wE V e ≤ V g) : WO1 o N sg lo Wp W s (Zc d 152 [aR (58 + o), aI g, aI v] s) ((∀ g', e = .index g' → Wp g' ≤ W g') → wE Wp e ≤ W g) := by
  obtain ⟨h1, h2, h3, h4, h5, h6, ho, h7, h8, h9⟩ := hZ
  have key : ∃ w, srcW Wp W e w ∧ w ≤ 16 ∧ v < 225 ∧ (if v < 24 then s (62 + o) v = w else s (72 + o) v = w) ∧ ((∀ g', e = .index g' → Wp g' ≤ W g') → wE Wp e ≤ w) := by
    rcases hv with ⟨g', rfl, h1, rfl⟩ | ⟨m, i1, rfl, i3, i4⟩
    · exact ⟨W v, Or.inl ⟨v, rfl, rfl⟩, (hS v h1).2, by omega, by rw [if_pos (by omega)]; exact (hS v h1).1, fun z => z v rfl⟩
    · have hp := esz_pos e
      obtain ⟨w1, w2⟩ := hW e m i1 i3 i4
      exact ⟨wE Wp e, Or.inr rfl, tw_16 w2, by omega, by rw [if_neg (by omega)]; exact w1, fun _ => Nat.le_refl _⟩
  obtain ⟨w, k1, k2, k3, k4, k5⟩ := key
  have hr := rz_one (d := d) hd ho (show g < 24 by omega) k3 k4 (hS g hg).1
  by_cases hwx : w ≤ W g
  · rw [if_pos hwx] at hr
    exact ⟨s, W, 0, hr, hS, REL_rf, fun _ hz => Nat.le_trans (k5 hz) hwx, Fr.rf s⟩
  · rw [if_neg hwx] at hr
    exact ⟨_, wUp W g w, 1, hr, SW_up hS k2, rz_rel hg k1 k2 hix hV hwx, fun z => by omega, (Fr.rf s).mu rfl⟩
theorem ws_one {d o k n i g v : Nat} {c r : Int} {l6 : AV} {s s' : Mem} (ho : o = 0 ∨ o = 26) (hi : i < n) (hn : n ≤ 24) (e1 : Zc d 99 [aR 130, aR (58 + o), aI k, aI i] s = rI g s) (hg : g < 24) (hgr : s (65 + o) g = 1) (e2 : Zc d 100 [aR 130, aR (58 + o), aI k, aI i] s = rI v s) (e3 : Zc d 152 [aR (58 + o), aI g, aI v] s = rI r s') : Ze d 151 16 [aR 136, aR (58 + o), aI k, aI c, aI n, aI i, l6] [] s = Ze d 151 16 [aR 136, aR (58 + o), aI k, aI (ior c r), aI n, aI ((i + 1 : Nat) : Int), aI g] [] s' := by
  rw [x151_16, show ((i + 1 : Nat) : Int) = (i : Int) + 1 from rfl]
  simp (disch := first | exact obC_130 | exact obC_136 | exact (obCO_58 ho) | exact (obCO_59 ho) | omega | (simp only [(aN2O_65 ho)]; omega) | (simp only [List.length_cons, List.length_nil]; omega)) only [en151, x151_0, x151_1, x151_2, x151_3, x151_6, x151_7, x151_8, x151_11, x151_13, x151_14, x151_18, x151_20, x151_23, x151_24, x151_27, x151_28, x151_29, x151_31, x151_34, x151_36, x151_37, x151_40, x151_43, x151_45, x151_46, x151_49, x151_50, x151_51, x151_53, x151_54, x151_57, x151_58, x151_59, x151_61, x151_64, x151_67, x151_68, x151_69, x151_72, x151_75, x151_76, fcn_136_1, (fcnO_58_0 ho), (fcnO_59_5 ho), if_true, if_false, eq_self, Int.reduceEq, Int.reduceLT, Int.reduceLE, Int.reduceAdd, Int.reduceSub, Int.reduceMul, Int.reduceToNat, Nat.reduceAdd, Nat.reduceMul, Nat.reduceEqDiff, Int.toNat_natCast, wrap_id, if_pos (show (i : Int) < n by omega), e1, e2, e3, zcI_r, hgr, if_neg (show ¬ (1 : Int) = 0 by decide)]
theorem ws_skip {d o k n i g : Nat} {c : Int} {l6 : AV} {s : Mem} (ho : o = 0 ∨ o = 26) (hi : i < n) (hn : n ≤ 24) (e1 : Zc d 99 [aR 130, aR (58 + o), aI k, aI i] s = rI g s) (hg : g < 24) (hgr : s (65 + o) g = 0) : Ze d 151 16 [aR 136, aR (58 + o), aI k, aI c, aI n, aI i, l6] [] s = Ze d 151 16 [aR 136, aR (58 + o), aI k, aI c, aI n, aI ((i + 1 : Nat) : Int), aI g] [] s := by
  rw [x151_16, show ((i + 1 : Nat) : Int) = (i : Int) + 1 from rfl]
  simp (disch := first | exact obC_130 | exact obC_136 | exact (obCO_58 ho) | exact (obCO_59 ho) | omega | (simp only [(aN2O_65 ho)]; omega) | (simp only [List.length_cons, List.length_nil]; omega)) only [en151, x151_0, x151_1, x151_2, x151_3, x151_6, x151_7, x151_8, x151_11, x151_13, x151_14, x151_18, x151_20, x151_23, x151_24, x151_27, x151_28, x151_29, x151_31, x151_34, x151_36, x151_37, x151_40, x151_43, x151_45, x151_46, x151_49, x151_50, x151_51, x151_53, x151_54, x151_57, x151_58, x151_59, x151_61, x151_64, x151_67, x151_68, x151_69, x151_72, x151_75, x151_76, fcn_136_1, (fcnO_58_0 ho), (fcnO_59_5 ho), if_true, if_false, eq_self, Int.reduceEq, Int.reduceLT, Int.reduceLE, Int.reduceAdd, Int.reduceSub, Int.reduceMul, Int.reduceToNat, Nat.reduceAdd, Nat.reduceMul, Nat.reduceEqDiff, Int.toNat_natCast, wrap_id, if_pos (show (i : Int) < n by omega), e1, zcI_r, hgr]
theorem ws_end {d o k n : Nat} {c : Int} {l6 : AV} {s : Mem} (hc : c = 0 ∨ c = 1) : Ze d 151 16 [aR 136, aR (58 + o), aI k, aI c, aI n, aI n, l6] [] s = rI c s := by
  rw [x151_16]
  simp (disch := first | exact obC_130 | exact obC_136 | exact (obCO_58 ho) | exact (obCO_59 ho) | omega | (simp only [(aN2O_65 ho)]; omega) | (simp only [List.length_cons, List.length_nil]; omega)) only [en151, x151_0, x151_1, x151_2, x151_3, x151_6, x151_7, x151_8, x151_11, x151_13, x151_14, x151_18, x151_20, x151_23, x151_24, x151_27, x151_28, x151_29, x151_31, x151_34, x151_36, x151_37, x151_40, x151_43, x151_45, x151_46, x151_49, x151_50, x151_51, x151_53, x151_54, x151_57, x151_58, x151_59, x151_61, x151_64, x151_67, x151_68, x151_69, x151_72, x151_75, x151_76, fcn_136_1, fcn_58_0, fcn_59_5, fcn_84_0, fcn_85_5, if_true, if_false, eq_self, Int.reduceEq, Int.reduceLT, Int.reduceLE, Int.reduceAdd, Int.reduceSub, Int.reduceMul, Int.reduceToNat, Nat.reduceAdd, Nat.reduceMul, Nat.reduceEqDiff, Int.toNat_natCast, wrap_id, if_neg (show ¬ (n : Int) < n by omega)]
/-- what the class needs of the signals' kinds -/
def SK (sg : List Sg) : Prop := ∀ (i : Nat) (x : Sg), sg[i]? = some x → (x.1 = 4 ↔ x.2.2.2.2 ≠ .null) ∧ x.2.2.2.1 ≤ 16 ∧ (x.1 = 4 → x.2.2.2.1 = 0)
theorem gr_free {s : Mem} {o N g : Nat} {sg : List Sg} {cv : List (Option Jvm.Term)} {xs : List (Nat × Nat × List Lo)} (hZ : ZS s o N sg cv xs) (hK : SK sg) (hg : g < sg.length) : (s (65 + o) g = 1 ∧ free sg g) ∨ (s (65 + o) g = 0 ∧ ¬ free sg g) := by
  obtain ⟨x, hx⟩ : ∃ x, sg[g]? = some x := ⟨sg[g], List.getElem?_eq_getElem hg⟩
  have h := hZ.2.2.2.2.2.2.2.2.2 g x hx
  obtain ⟨k1, k2, k3⟩ := hK g x hx
  unfold grI at h
  by_cases hc : x.2.2.2.1 = 0 ∧ ¬ x.1 = 4
  · rw [if_pos hc] at h
    exact Or.inl ⟨h, x, hx, hc.1, Decidable.byContradiction fun z => hc.2 (k1.mpr z)⟩
  · rw [if_neg hc] at h
    refine Or.inr ⟨h, fun ⟨y, hy, y1, y2⟩ => ?_⟩
    rw [hx] at hy
    injection hy with hy
    subst hy
    exact hc ⟨y1, fun z => k1.mp z y2⟩
/-- a step's pairs from the i-th on -/
def OBL (sg : List Sg) (Wp W : Nat → Nat) (x : Lo) : Prop := free sg x.2.1 → (∀ g', x.2.2 = .index g' → Wp g' ≤ W g') → wE Wp x.2.2 ≤ W x.2.1
theorem ws_loop {d o k N : Nat} {sg : List Sg} {lo lo' : List Lo} {cv : List (Option Jvm.Term)} {xs : List (Nat × Nat × List Lo)} {Wp : Nat → Nat} (hd : 2 ≤ d) (hK : SK sg) (hk : k < 200) (hsub : ∀ x, x ∈ lo' → x ∈ lo) (hix : ∀ x, x ∈ lo → ixb sg.length x.2.2) : ∀ (m i : Nat) (c : Int) (s : Mem) (W : Nat → Nat) (l6 : AV), i + m = lo'.length → lo'.length ≤ 24 → ZS s o N sg cv xs → PRS s o k N sg.length lo' → SWc s o sg.length W → WAc s o Wp N → (c = 0 ∨ c = 1) →
    ∃ (s' : Mem) (W' : Nat → Nat) (c' : Int), Ze d 151 16 [aR 136, aR (58 + o), aI k, aI c, aI lo'.length, aI i, l6] [] s = rI (ior c c') s' ∧ SWc s' o sg.length W' ∧ REL sg lo Wp W W' c' ∧ (c' = 0 → ∀ j x, i ≤ j → lo'[j]? = some x → OBL sg Wp W x) ∧ Fr (fun q _ => q = 62 + o) s s' := by
  intro m
  induction m with
  | zero =>
    intro i c s W l6 hi hl hZ hP hS hW hc
    have : i = lo'.length := by omega
    subst this
    refine ⟨s, W, 0, ?_, hS, REL_rf, fun _ j x hj hx => ?_, Fr.rf s⟩
    · rw [ws_end hc, ior01 hc (Or.inl rfl)]
      rcases hc with rfl | rfl <;> rfl
    · have := (List.getElem?_eq_some_iff.mp hx).1
      omega
  | succ m ih =>
    intro i c s W l6 hi hl hZ hP hS hW hc
    have hil : i < lo'.length := by omega
    obtain ⟨x, hx⟩ : ∃ x, lo'[i]? = some x := ⟨lo'[i], List.getElem?_eq_getElem hil⟩
    obtain ⟨h1, h2, h3, ⟨h4, h4'⟩, h5, h6, ho, h7, h8, h9⟩ := hZ
    have hZ : ZS s o N sg cv xs := ⟨h1, h2, h3, ⟨h4, h4'⟩, h5, h6, ho, h7, h8, h9⟩
    obtain ⟨x0, xl⟩ := PRS_lt hP hx
    have hxm : x ∈ lo' := List.mem_of_getElem? hx
    have hsk := k_sinkOf (d := d) hd ho hk h4' h6 hP hx
    rcases gr_free hZ hK xl with ⟨g1, g2⟩ | ⟨g1, g2⟩
    · obtain ⟨v, v1, v2⟩ := k_sourceOf (d := d) hd ho hk h4' h6 hP hx
      have hV : ∀ V, W0le sg V → Cl sg lo V → wE V x.2.2 ≤ V x.2.1 := fun V _ hc' => by
        obtain ⟨j, hj⟩ := List.getElem?_of_mem (hsub x hxm)
        exact hc'.2 j x hj x0 g2
      obtain ⟨s1, W1, r, r1, r2, r3, r4, r5⟩ := k_raise (d := d) (lo := lo) (by omega) hZ hS hW xl v2 (hix x (hsub x hxm)) hV
      have r01 := REL_01 r3
      rw [ws_one ho hil hl hsk (by omega) g1 v1 r1]
      have hZ1 := ZS_put hZ (r5.mono (fun _ _ h => Or.inl h))
      have hP1 := PRS_put hP (Nat.le_refl _) (Nat.le_refl _) ⟨r5 _ _ (by omega), r5 _ _ (by omega)⟩ (fun k j hk _ _ => r5 _ _ (by omega)) (fun j _ => r5 _ _ (by omega)) (fun j => r5 _ _ (by omega))
      have hior : ior c r = 0 ∨ ior c r = 1 := by rw [ior01 hc r01]; split <;> simp
      obtain ⟨s2, W2, c2, e1, e2, e3, e4, e5⟩ := ih (i + 1) (ior c r) s1 W1 (aI x.2.1) (by omega) hl hZ1 hP1 r2 (WAc_w hW (fun k j hk => r5 _ _ hk)) hior
      have c01 := REL_01 e3
      refine ⟨s2, W2, ior r c2, ?_, e2, REL_tr r3 e3, fun hz j y hj hy => ?_, r5.tr e5⟩
      · rw [e1]
        congr 1
        rw [ior01 hior c01, ior01 hc r01, ior01 hc (show ior r c2 = 0 ∨ ior r c2 = 1 by rw [ior01 r01 c01]; split <;> simp), ior01 r01 c01]
        rcases hc with rfl | rfl <;> rcases r01 with rfl | rfl <;> rcases c01 with rfl | rfl <;> decide
      · rw [ior01 r01 c01] at hz
        have hr0 : r = 0 := by
          rcases r01 with h | h
          · exact h
          · rw [if_pos (Or.inl h)] at hz
            omega
        have hc0 : c2 = 0 := by
          rcases c01 with h | h
          · exact h
          · rw [if_pos (Or.inr h)] at hz
            omega
        have hWW : ∀ g, W1 g = W g := by
          rcases r3.2.1 with ⟨-, h⟩ | ⟨h, -⟩
          · exact h
          · omega
        by_cases hji : j = i
        · subst hji
          rw [hx] at hy
          injection hy with hy
          subst hy
          exact fun _ hz => r4 hr0 hz
        · have := e4 hc0 j y (by omega) hy
          intro f hz'
          have t := this f (fun g' hg' => by rw [hWW]; exact hz' g' hg')
          rw [hWW] at t
          exact t
    · rw [ws_skip ho hil hl hsk (by omega) g1]
      obtain ⟨s2, W2, c2, e1, e2, e3, e4, e5⟩ := ih (i + 1) c s W (aI x.2.1) (by omega) hl hZ hP hS hW hc
      refine ⟨s2, W2, c2, e1, e2, e3, fun hz j y hj hy => ?_, e5⟩
      by_cases hji : j = i
      · subst hji
        rw [hx] at hy
        injection hy with hy
        subst hy
        exact fun hf => absurd hf g2
      · exact e4 hz j y (by omega) hy
theorem k_widenSinks {d o k N : Nat} {sg : List Sg} {lo lo' : List Lo} {cv : List (Option Jvm.Term)} {xs : List (Nat × Nat × List Lo)} {Wp W : Nat → Nat} {s : Mem} (hd : 3 ≤ d) (hK : SK sg) (hk : k < 200) (hsub : ∀ x, x ∈ lo' → x ∈ lo) (hix : ∀ x, x ∈ lo → ixb sg.length x.2.2) (hl : lo'.length ≤ 24) (hZ : ZS s o N sg cv xs) (hP : PRS s o k N sg.length lo') (hS : SWc s o sg.length W) (hW : WAc s o Wp N) :
    WO1 o N sg lo Wp W s (Zc d 151 [aR 136, aR (58 + o), aI k] s) (∀ x, x ∈ lo' → OBL sg Wp W x) := by
  obtain ⟨d, rfl⟩ : ∃ e, d = e + 1 := ⟨d - 1, by omega⟩
  have ho := hZ.2.2.2.2.2.2.1
  have hpo := k_pairsOf (d := d) (by omega) ho hk hZ.2.2.2.1.2 hP
  obtain ⟨s', W', c, e1, e2, e3, e4, e5⟩ := ws_loop (d := d) (by omega) hK hk hsub hix lo'.length 0 0 s W aU (Nat.zero_add _) hl hZ hP hS hW (Or.inl rfl)
  have c01 := REL_01 e3
  have hior : ior 0 c = c := by
    rw [ior01 (Or.inl rfl) c01]
    rcases c01 with rfl | rfl <;> rfl
  rw [hior] at e1
  refine ⟨s', W', c, ?_, e2, e3, fun hz x hx => ?_, e5⟩
  · rw [← e1]
    have z0 : ((0 : Nat) : Int) = 0 := rfl
    simp (disch := first | exact obC_130 | exact obC_136 | exact (obCO_58 ho) | exact (obCO_59 ho) | omega | (simp only [(aN2O_65 ho)]; omega) | (simp only [List.length_cons, List.length_nil]; omega)) only [en151, x151_0, x151_1, x151_2, x151_3, x151_6, x151_7, x151_8, x151_11, x151_13, x151_14, x151_18, x151_20, x151_23, x151_24, x151_27, x151_28, x151_29, x151_31, x151_34, x151_36, x151_37, x151_40, x151_43, x151_45, x151_46, x151_49, x151_50, x151_51, x151_53, x151_54, x151_57, x151_58, x151_59, x151_61, x151_64, x151_67, x151_68, x151_69, x151_72, x151_75, x151_76, fcn_136_1, (fcnO_58_0 ho), (fcnO_59_5 ho), if_true, if_false, eq_self, Int.reduceEq, Int.reduceLT, Int.reduceLE, Int.reduceAdd, Int.reduceSub, Int.reduceMul, Int.reduceToNat, Nat.reduceAdd, Nat.reduceMul, Nat.reduceEqDiff, Int.toNat_natCast, wrap_id, hpo, zcI_r, z0]
  · obtain ⟨j, hj⟩ := List.getElem?_of_mem hx
    exact e4 hz j x (Nat.zero_le _) hj
