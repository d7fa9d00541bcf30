/-! THE CLASS: what a signal comes to -/
/-- what the evaluation needs of the nodes -/
def HX (o k _j : Nat) : Prop := k = 73 + o
theorem HX_AN {o c d : Nat} {s s' : Mem} (f : Fr (HX o) s s') : AN o s s' c d := fun k j hk _ _ => f _ _ (by unfold HX; omega)
theorem HX_WA {o N : Nat} {s s' : Mem} {W : Nat → Nat} (f : Fr (HX o) s s') (h : WAc s o W N) : WAc s' o W N := WAc_fr h (fun k j hk => f _ _ (by unfold HX; omega))
theorem HX_CD {o N L : Nat} {s s' : Mem} (f : Fr (HX o) s s') {t : Jvm.Term} {v K : Nat} (h : CD s o N L t v K) : CD s' o N L t v K := CD_put (K0 := K) (HX_AN f) (fun c j h1 h2 _ => f _ _ (by unfold HX; omega)) K t v K (Nat.le_refl _) (Nat.le_refl _) h
theorem HX_of {o a b : Nat} {s s' : Mem} (f : Fr (HeF o a b) s s') : Fr (HX o) s s' := f.mono (fun _ _ h => h.1)
theorem ro_more {d o k i K v rt x : Nat} {c : Int} {s s1 : Mem} {l4 l5 : AV} (ho : o = 0 ∨ o = 26) (hK : s (58 + o) 6 = K) (hi : i < K) (hK2 : K ≤ 840) (hv : v < K) (hr : s (74 + o) v = rt) (e : Zc d 120 [aR (66 + o), aI rt, aR (80 + o)] s = rI c s1) (hx : x = if c = 0 then s1 (76 + o) v else s1 (75 + o) v) : ∃ l4' l5', Ze d 95 9 [aR (58 + o), aI k, aI ((225 + v : Nat) : Int), aI i, l4, l5] [] s = Ze d 95 9 [aR (58 + o), aI k, aI x, aI ((i + 1 : Nat) : Int), l4', l5'] [] s1 := by
  have z : ((225 + v : Nat) : Int) - 225 = v := by omega
  have n1 : ¬ ((225 + v : Nat) : Int) < 225 := by omega
  rw [x95_9, show ((i + 1 : Nat) : Int) = (i : Int) + 1 from rfl]
  by_cases hc : c = 0
  · rw [if_pos hc] at hx
    subst hc
    refine ⟨aI v, aI 0, ?_⟩
    rw [hx]
    simp (disch := first | exact (obCO_58 ho) | exact (obCO_59 ho) | exact (obCO_66 ho) | omega | (simp only [(aN1O_62 ho), (aN1O_74 ho), (aN1O_75 ho), (aN1O_76 ho), (aN1O_77 ho), (aN1O_80 ho)]; omega) | (simp only [List.length_cons, List.length_nil]; omega)) only [en95, x95_0, x95_1, x95_4, x95_5, x95_6, x95_7, x95_8, x95_10, x95_11, x95_14, x95_17, x95_18, x95_21, x95_24, x95_25, x95_28, x95_29, x95_31, x95_32, x95_35, x95_36, x95_39, x95_41, x95_42, x95_43, x95_46, x95_49, x95_52, x95_53, x95_56, x95_57, x95_59, x95_61, x95_64, x95_65, x95_68, x95_70, x95_71, x95_74, x95_75, x95_78, x95_80, x95_81, x95_82, x95_85, x95_88, x95_89, x95_92, x95_93, x95_94, x95_97, x95_100, x95_101, x95_104, x95_107, x95_108, x95_109, x95_112, x95_113, (fcnO_58_0 ho), (fcnO_58_1 ho), (fcnO_58_11 ho), (fcnO_58_3 ho), (fcnO_58_4 ho), (fcnO_58_5 ho), (fcnO_58_7 ho), (fcnO_59_2 ho), if_true, if_false, eq_self, Int.reduceEq, Int.reduceLT, Int.reduceLE, Int.reduceAdd, Int.reduceSub, Int.reduceMul, Int.reduceToNat, Nat.reduceAdd, Nat.reduceMul, Nat.reduceEqDiff, Int.toNat_natCast, wrap_id, hK, if_pos (show (i : Int) < K by omega), if_neg n1, z, hr, e, zcI_r]
  · rw [if_neg hc] at hx
    refine ⟨aI v, aI 1, ?_⟩
    rw [hx]
    simp (disch := first | exact (obCO_58 ho) | exact (obCO_59 ho) | exact (obCO_66 ho) | omega | (simp only [(aN1O_62 ho), (aN1O_74 ho), (aN1O_75 ho), (aN1O_76 ho), (aN1O_77 ho), (aN1O_80 ho)]; omega) | (simp only [List.length_cons, List.length_nil]; omega)) only [en95, x95_0, x95_1, x95_4, x95_5, x95_6, x95_7, x95_8, x95_10, x95_11, x95_14, x95_17, x95_18, x95_21, x95_24, x95_25, x95_28, x95_29, x95_31, x95_32, x95_35, x95_36, x95_39, x95_41, x95_42, x95_43, x95_46, x95_49, x95_52, x95_53, x95_56, x95_57, x95_59, x95_61, x95_64, x95_65, x95_68, x95_70, x95_71, x95_74, x95_75, x95_78, x95_80, x95_81, x95_82, x95_85, x95_88, x95_89, x95_92, x95_93, x95_94, x95_97, x95_100, x95_101, x95_104, x95_107, x95_108, x95_109, x95_112, x95_113, (fcnO_58_0 ho), (fcnO_58_1 ho), (fcnO_58_11 ho), (fcnO_58_3 ho), (fcnO_58_4 ho), (fcnO_58_5 ho), (fcnO_58_7 ho), (fcnO_59_2 ho), if_true, if_false, eq_self, Int.reduceEq, Int.reduceLT, Int.reduceLE, Int.reduceAdd, Int.reduceSub, Int.reduceMul, Int.reduceToNat, Nat.reduceAdd, Nat.reduceMul, Nat.reduceEqDiff, Int.toNat_natCast, wrap_id, hK, if_pos (show (i : Int) < K by omega), if_neg n1, z, hr, e, zcI_r, if_neg hc, if_neg (show ¬ (1 : Int) = 0 by decide)]
theorem ro_end {d o k i K v w : Nat} {c : Int} {s s1 : Mem} {l4 l5 : AV} (hd : 1 ≤ d) (ho : o = 0 ∨ o = 26) (hk : k < 24) (hK : s (58 + o) 6 = K) (hv : v < 225) (e : Zc d 120 [aR (66 + o), aI v, aR (80 + o)] s = rI c s1) (hw : s1 (62 + o) k = w) : Ze d 95 9 [aR (58 + o), aI k, aI v, aI i, l4, l5] [] s = rI (iand c (msk w)) s1 := by
  have hm := k_maskOf (d := d) (w := w) hd s1
  rw [x95_9]
  by_cases hi : (i : Int) < K
  · simp (disch := first | exact (obCO_58 ho) | exact (obCO_59 ho) | exact (obCO_66 ho) | omega | (simp only [(aN1O_62 ho), (aN1O_74 ho), (aN1O_75 ho), (aN1O_76 ho), (aN1O_77 ho), (aN1O_80 ho)]; omega) | (simp only [List.length_cons, List.length_nil]; omega)) only [en95, x95_0, x95_1, x95_4, x95_5, x95_6, x95_7, x95_8, x95_10, x95_11, x95_14, x95_17, x95_18, x95_21, x95_24, x95_25, x95_28, x95_29, x95_31, x95_32, x95_35, x95_36, x95_39, x95_41, x95_42, x95_43, x95_46, x95_49, x95_52, x95_53, x95_56, x95_57, x95_59, x95_61, x95_64, x95_65, x95_68, x95_70, x95_71, x95_74, x95_75, x95_78, x95_80, x95_81, x95_82, x95_85, x95_88, x95_89, x95_92, x95_93, x95_94, x95_97, x95_100, x95_101, x95_104, x95_107, x95_108, x95_109, x95_112, x95_113, (fcnO_58_0 ho), (fcnO_58_1 ho), (fcnO_58_11 ho), (fcnO_58_3 ho), (fcnO_58_4 ho), (fcnO_58_5 ho), (fcnO_58_7 ho), (fcnO_59_2 ho), if_true, if_false, eq_self, Int.reduceEq, Int.reduceLT, Int.reduceLE, Int.reduceAdd, Int.reduceSub, Int.reduceMul, Int.reduceToNat, Nat.reduceAdd, Nat.reduceMul, Nat.reduceEqDiff, Int.toNat_natCast, wrap_id, hK, if_pos hi, if_pos (show (v : Int) < 225 by omega), e, zcI_r, hw, hm]
  · simp (disch := first | exact (obCO_58 ho) | exact (obCO_59 ho) | exact (obCO_66 ho) | omega | (simp only [(aN1O_62 ho), (aN1O_74 ho), (aN1O_75 ho), (aN1O_76 ho), (aN1O_77 ho), (aN1O_80 ho)]; omega) | (simp only [List.length_cons, List.length_nil]; omega)) only [en95, x95_0, x95_1, x95_4, x95_5, x95_6, x95_7, x95_8, x95_10, x95_11, x95_14, x95_17, x95_18, x95_21, x95_24, x95_25, x95_28, x95_29, x95_31, x95_32, x95_35, x95_36, x95_39, x95_41, x95_42, x95_43, x95_46, x95_49, x95_52, x95_53, x95_56, x95_57, x95_59, x95_61, x95_64, x95_65, x95_68, x95_70, x95_71, x95_74, x95_75, x95_78, x95_80, x95_81, x95_82, x95_85, x95_88, x95_89, x95_92, x95_93, x95_94, x95_97, x95_100, x95_101, x95_104, x95_107, x95_108, x95_109, x95_112, x95_113, (fcnO_58_0 ho), (fcnO_58_1 ho), (fcnO_58_11 ho), (fcnO_58_3 ho), (fcnO_58_4 ho), (fcnO_58_5 ho), (fcnO_58_7 ho), (fcnO_59_2 ho), if_true, if_false, eq_self, Int.reduceEq, Int.reduceLT, Int.reduceLE, Int.reduceAdd, Int.reduceSub, Int.reduceMul, Int.reduceToNat, Nat.reduceAdd, Nat.reduceMul, Nat.reduceEqDiff, Int.toNat_natCast, wrap_id, hK, if_neg hi, e, zcI_r, hw, hm]
/-- what one form comes to, without choices -/
theorem ro_val {d o N L v : Nat} {val : Nat → Int} {W : Nat → Nat} {t : Jvm.Term} {v0 : Int} {s : Mem} (hd : 3 ≤ d) (ho : o = 0 ∨ o = 26) (hN : N ≤ 225) (hL : L ≤ 24) (hv : SRCc s o N L t v) (hW : WAc s o W N) (hval : ∀ g, g < 24 → s (80 + o) g = val g) (hm : ∀ g, g < L → iand (val g) (msk (W g)) = val g) : v < 225 ∧ ∃ s', Zc d 120 [aR (66 + o), aI v, aR (80 + o)] s = rI (vF val W v0 t) s' ∧ Fr (HX o) s s' := by
  obtain ⟨d, rfl⟩ : ∃ e, d = e + 1 := ⟨d - 1, by omega⟩
  rcases hv with ⟨g, rfl, h1, rfl⟩ | ⟨m, h1, rfl, h3, h4⟩
  · refine ⟨by omega, s, ?_, Fr.rf s⟩
    rw [evc_sig ho (by omega), hval v (by omega)]
    show _ = rI (iand (val v) (msk (W v))) s
    rw [hm v h1]
  · have hp := esz_pos t
    obtain ⟨s', a1, a2⟩ := k_evaluate (d := d + 1) (by omega) ho hN h1 hW hval h3 h4
    refine ⟨by omega, s', ?_, HX_of a2⟩
    rw [a1]
    have : vF val W v0 t = vE val W t := by
      refine vF_src ?_ ?_ val W v0
      · intro z; rw [z] at h1; exact h1.elim
      · intro c a b z; rw [z] at h1; exact h1.elim
    rw [this]
theorem ro_loop {d o N L K k w : Nat} {val : Nat → Int} {W : Nat → Nat} {v0 : Int} (hd : 3 ≤ d) (ho : o = 0 ∨ o = 26) (hN : N ≤ 225) (hL : L ≤ 24) (hk : k < 24) (hK : K ≤ 840) (hm : ∀ g, g < L → iand (val g) (msk (W g)) = val g) : ∀ (n : Nat) (t : Jvm.Term) (v q i : Nat) (s : Mem) (l4 l5 : AV), q ≤ n → q + i ≤ K → ini t = true → CD s o N L t v q → WAc s o W N → (∀ g, g < 24 → s (80 + o) g = val g) → s (58 + o) 6 = K → s (62 + o) k = w → ∃ s', Ze d 95 9 [aR (58 + o), aI k, aI v, aI i, l4, l5] [] s = rI (iand (vF val W v0 t) (msk w)) s' ∧ Fr (HX o) s s' := by
  intro n
  induction n with
  | zero =>
    intro t v q i s l4 l5 hq hqi hi hc hW hval hch hw
    revert hi hc
    fun_cases CD s o N L t v q with
    | case1 => intro hi; cases hi
    | case2 c a b => rintro - ⟨j, x, y, m, ⟨h1, -⟩, -⟩; omega
    | case3 =>
      intro hi hc
      obtain ⟨b1, s', b2, b3⟩ := ro_val (v0 := v0) hd ho hN hL hc hW hval hm
      exact ⟨s', ro_end (by omega) ho hk hch b1 b2 (by rw [b3 _ _ (by unfold HX; omega), hw]), b3⟩
  | succ n ih =>
    intro t v q i s l4 l5 hq hqi hi hc hW hval hch hw
    revert hi hc
    fun_cases CD s o N L t v q with
    | case1 => intro hi; cases hi
    | case2 c a b =>
      rintro hi ⟨j, x, y, m, ⟨h1, rfl⟩, ⟨h2, h3, h4, h5⟩, ⟨h6, h7⟩, h8, h9⟩
      have hi' : ini a = true ∧ ini b = true := by
        have : (ini a && ini b) = true := hi
        simpa using this
      have hp := esz_pos c
      obtain ⟨s1, a1, a2⟩ := k_evaluate (d := d) hd ho hN h3 hW hval h4 h5
      have F := HX_of a2
      have nx : ∀ (t' : Jvm.Term) (x : Nat), ini t' = true → CD s o N L t' x j → vF val W v0 (.elem c (.rem a b)) = vF val W v0 t' → (x : Int) = (if vE val W c = 0 then s1 (76 + o) j else s1 (75 + o) j) → ∃ s', Ze d 95 9 [aR (58 + o), aI k, aI ((225 + j : Nat) : Int), aI i, l4, l5] [] s = rI (iand (vF val W v0 (.elem c (.rem a b))) (msk w)) s' ∧ Fr (HX o) s s' := by
        intro t' x q1 q2 q3 q4
        obtain ⟨l4', l5', e1⟩ := ro_more (k := k) (l4 := l4) (l5 := l5) ho hch (show i < K by omega) hK (show j < K by omega) h2 a1 q4
        obtain ⟨s2, f1, f2⟩ := ih t' x j (i + 1) s1 l4' l5' (by omega) (by omega) q1 (HX_CD F q2) (HX_WA F hW) (fun g hg => by rw [F _ _ (by unfold HX; omega)]; exact hval g hg) (by rw [F _ _ (by unfold HX; omega), hch]) (by rw [F _ _ (by unfold HX; omega), hw])
        exact ⟨s2, by rw [e1, f1, q3], F.tr f2⟩
      by_cases h0 : vE val W c = 0
      · refine nx b y hi'.2 h9 (if_pos h0) ?_
        rw [if_pos h0, F _ _ (by unfold HX; omega), h8]
      · refine nx a x hi'.1 h7 (if_neg h0) ?_
        rw [if_neg h0, F _ _ (by unfold HX; omega), h6]
    | case3 =>
      intro hi hc
      obtain ⟨b1, s', b2, b3⟩ := ro_val (v0 := v0) hd ho hN hL hc hW hval hm
      exact ⟨s', ro_end (by omega) ho hk hch b1 b2 (by rw [b3 _ _ (by unfold HX; omega), hw]), b3⟩
theorem k_resultOf {d o N L K k v w : Nat} {val : Nat → Int} {W : Nat → Nat} {t : Jvm.Term} {s : Mem} (v0 : Int) (hd : 4 ≤ d) (ho : o = 0 ∨ o = 26) (hN : N ≤ 225) (hL : L ≤ 24) (hk : k < 24) (hK : K ≤ 840) (hm : ∀ g, g < L → iand (val g) (msk (W g)) = val g) (hi : ini t = true) (hv : s (77 + o) k = v) (hc : CD s o N L t v K) (hW : WAc s o W N) (hval : ∀ g, g < 24 → s (80 + o) g = val g) (hch : s (58 + o) 6 = K) (hw : s (62 + o) k = w) : ∃ s', Zc d 95 [aR (58 + o), aI k] s = rI (iand (vF val W v0 t) (msk w)) s' ∧ Fr (HX o) s s' := by
  obtain ⟨d, rfl⟩ : ∃ e, d = e + 1 := ⟨d - 1, by omega⟩
  obtain ⟨s', a1, a2⟩ := ro_loop (d := d) (v0 := v0) (by omega) ho hN hL hk hK hm K t v K 0 s aU aU (Nat.le_refl _) (Nat.le_refl _) hi hc hW hval hch hw
  refine ⟨s', ?_, a2⟩
  rw [← a1]
  have z0 : ((0 : Nat) : Int) = 0 := rfl
  simp (disch := first | exact (obCO_58 ho) | exact (obCO_59 ho) | exact (obCO_66 ho) | omega | (simp only [(aN1O_62 ho), (aN1O_74 ho), (aN1O_75 ho), (aN1O_76 ho), (aN1O_77 ho), (aN1O_80 ho)]; omega) | (simp only [List.length_cons, List.length_nil]; omega)) only [en95, x95_0, x95_1, x95_4, x95_5, x95_6, x95_7, x95_8, x95_10, x95_11, x95_14, x95_17, x95_18, x95_21, x95_24, x95_25, x95_28, x95_29, x95_31, x95_32, x95_35, x95_36, x95_39, x95_41, x95_42, x95_43, x95_46, x95_49, x95_52, x95_53, x95_56, x95_57, x95_59, x95_61, x95_64, x95_65, x95_68, x95_70, x95_71, x95_74, x95_75, x95_78, x95_80, x95_81, x95_82, x95_85, x95_88, x95_89, x95_92, x95_93, x95_94, x95_97, x95_100, x95_101, x95_104, x95_107, x95_108, x95_109, x95_112, x95_113, (fcnO_58_0 ho), (fcnO_58_1 ho), (fcnO_58_11 ho), (fcnO_58_3 ho), (fcnO_58_4 ho), (fcnO_58_5 ho), (fcnO_58_7 ho), (fcnO_59_2 ho), if_true, if_false, eq_self, Int.reduceEq, Int.reduceLT, Int.reduceLE, Int.reduceAdd, Int.reduceSub, Int.reduceMul, Int.reduceToNat, Nat.reduceAdd, Nat.reduceMul, Nat.reduceEqDiff, Int.toNat_natCast, wrap_id, hv, z0]
