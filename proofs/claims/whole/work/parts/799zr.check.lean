/-! THE CLASS: the whole check -/
/-- the places from i on hold v -/
def flS (s : Mem) (r : Nat) (v : Int) (n : Nat) : Mem := fun k j => if k = r ∧ j < n then v else s k j
theorem afl_loop {d r n : Nat} {v : Int} {s0 : Mem} (hn : aN1 r = n) (hk : (kd r).1 = 1) (hn2 : n ≤ 2000) : ∀ m i : Nat, i + m = n → Ze d 63 5 [aR r, aI v, aI i, aI n] [] (flS s0 r v i) = rV (flS s0 r v n) := by
  intro m
  induction m with
  | zero =>
    intro i hi
    have : i = n := by omega
    subst this
    rw [x63_5]
    simp (disch := first | exact obC_0 | omega | (simp only [List.length_cons, List.length_nil]; omega)) only [en63, x63_0, x63_1, x63_2, x63_3, x63_4, x63_6, x63_7, x63_10, x63_11, x63_12, x63_13, x63_14, x63_17, x63_20, if_true, if_false, eq_self, Int.reduceEq, Int.reduceLT, Int.reduceLE, Int.reduceAdd, Int.reduceSub, Int.reduceMul, Int.reduceToNat, Nat.reduceAdd, Nat.reduceMul, Nat.reduceEqDiff, Int.toNat_natCast, wrap_id, if_neg (show ¬ (i : Int) < i by omega)]
  | succ m ih =>
    intro i hi
    have e : mu (flS s0 r v i) r i v = flS s0 r v (i + 1) := by
      funext a b
      unfold mu flS
      by_cases h1 : a = r ∧ b = i
      · rw [if_pos h1, if_pos ⟨h1.1, by omega⟩]
      · rw [if_neg h1]
        by_cases h2 : a = r ∧ b < i
        · rw [if_pos h2, if_pos ⟨h2.1, by omega⟩]
        · rw [if_neg h2, if_neg (by omega)]
    rw [← ih (i + 1) (by omega), x63_5, show ((i + 1 : Nat) : Int) = (i : Int) + 1 from rfl, ← e]
    have hlt : (i : Int) < aN1 r := by omega
    simp (disch := first | exact obC_0 | omega | (simp only [List.length_cons, List.length_nil]; omega)) only [en63, x63_0, x63_1, x63_2, x63_3, x63_4, x63_6, x63_7, x63_10, x63_11, x63_12, x63_13, x63_14, x63_17, x63_20, if_true, if_false, eq_self, Int.reduceEq, Int.reduceLT, Int.reduceLE, Int.reduceAdd, Int.reduceSub, Int.reduceMul, Int.reduceToNat, Nat.reduceAdd, Nat.reduceMul, Nat.reduceEqDiff, Int.toNat_natCast, wrap_id, if_pos (show (i : Int) < n by omega)]
theorem k_fill {d r n : Nat} {v : Int} {s : Mem} (hd : 1 ≤ d) (hn : aN1 r = n) (hk : (kd r).1 = 1) (hn2 : n ≤ 2000) : Zc d 63 [aR r, aI v] s = rV (flS s r v n) := by
  obtain ⟨d, rfl⟩ : ∃ e, d = e + 1 := ⟨d - 1, by omega⟩
  have e0 : s = flS s r v 0 := by
    funext a b
    unfold flS
    rw [if_neg (by omega)]
  have hkd : (((kd r).2 : Nat) : Int) = n := by
    unfold aN1 at hn
    rw [if_pos hk] at hn
    exact hn
  have z0 : ((0 : Nat) : Int) = 0 := rfl
  have := afl_loop (d := d) (v := v) (s0 := s) hn hk hn2 n 0 (Nat.zero_add _)
  rw [← e0, z0] at this
  rw [← this]
  simp (disch := first | exact hk | omega) only [en63, x63_0, x63_1, x63_2, x63_3, x63_4, x63_6, x63_7, x63_10, x63_11, x63_12, x63_13, x63_14, x63_17, x63_20, if_true, if_false, eq_self, Int.reduceEq, Int.reduceLT, Int.reduceLE, Int.reduceAdd, Int.reduceSub, Int.reduceMul, Int.reduceToNat, Nat.reduceAdd, Nat.reduceMul, Nat.reduceEqDiff, Int.toNat_natCast, wrap_id, hkd]
/-- what the check begins with -/
def ckS (s : Mem) (o : Nat) : Mem := flS (mu (mu (mu (mu s 133 5 ((59 + o : Nat) : Int)) 133 6 ((66 + o : Nat) : Int)) (59 + o) 6 0) (58 + o) 2 0) 134 (-1) 26
theorem k_typeErrorIn {d o P U C N : Nat} {its : List It} {s : Mem} (hd : 10 ≤ d) (ho : o = 0 ∨ o = 26) (hI : CIs s o P U C 0 25 its) (hcn : CN s o its.length (25 + nszs its) P U C) (hb : its.length ≤ 200 ∧ 25 + nszs its ≤ 225 ∧ P ≤ 200 ∧ 1 ≤ U ∧ U ≤ 201 ∧ C ≤ 200) (ht0 : s 115 0 = 0 ∧ s 116 0 = 0 ∧ s 118 0 = 1) (hC : ∀ i, i ∈ its → iC i) (hN : N = 25 + nszs its) :
    match ckA (fun _ => none) [] [] its with
    | .ok (sg', lo') => ∃ s', Zc d 77 [aR 133, aR (58 + o)] s = rI (-1) s' ∧ CKD s' o U C N (cvA (fun _ => none) [] its) sg' lo' (cst (fun _ => none) [] its) ∧ Fr (fun c j => CKG o c j ∨ c = 133) s s'
    | .error p => ∃ s', Zc d 77 [aR 133, aR (58 + o)] s = rI p s' ∧ Fr (fun c j => CKG o c j ∨ c = 133) s s' := by
  obtain ⟨d, rfl⟩ : ∃ e, d = e + 1 := ⟨d - 1, by omega⟩
  obtain ⟨hb1, hb2, hb3, hb4, hb5, hb6⟩ := hb
  obtain ⟨n1, n2, n3, n4, n5⟩ := hcn
  have hL : lyt.length = 151 := by decide +kernel
  have hq1 : 59 + o < lyt.length := by omega
  have hq2 : 66 + o < lyt.length := by omega
  have q6 : ∀ s, 0 ≤ mu (mu s 133 5 ((59 + o : Nat) : Int)) 133 6 ((66 + o : Nat) : Int) 133 5 := fun s => by rw [mu_i (by decide), mu_s]; omega
  have hfl := fun s => k_fill (d := d) (r := 134) (n := 26) (v := -1) (s := s) (by omega) rfl rfl (by omega)
  have e0 : Zc (d + 1) 77 [aR 133, aR (58 + o)] s = Ze d 77 39 [aR 133, aR (58 + o), aI ((0 : Nat) : Int)] [] (ckS s o) := by
    have z0 : ((0 : Nat) : Int) = 0 := rfl
    unfold ckS
    simp (disch := first | exact obC_124 | exact obC_130 | exact obC_133 | exact (obCO_58 ho) | exact (obCO_59 ho) | exact (obCO_66 ho) | omega | (simp only [aN1_125, aN1_126, aN1_134]; omega) | (simp only [List.length_cons, List.length_nil]; omega)) only [en77, x77_0, x77_1, x77_2, x77_5, x77_8, x77_9, x77_10, x77_13, x77_16, x77_20, x77_21, x77_24, x77_25, x77_26, x77_29, x77_30, x77_33, x77_34, x77_37, x77_38, x77_40, x77_41, x77_44, x77_47, x77_50, x77_51, x77_52, x77_55, x77_58, x77_59, x77_62, x77_65, x77_66, x77_67, x77_68, x77_69, x77_72, x77_75, x77_76, x77_77, x77_78, x77_81, x77_82, x77_83, x77_84, x77_87, x77_90, x77_91, x77_94, x77_97, x77_98, x77_99, x77_100, x77_101, x77_101i, x77_102, x77_105, x77_106, x77_109, x77_110, x77_111, x77_114, x77_115, x77_118, x77_121, x77_124, x77_125, fcn_124_0, fcn_124_1, fcn_133_1, fcn_133_2, fcn_133_3, (fcnO_58_0 ho), (fcnO_58_1 ho), if_true, if_false, eq_self, Int.reduceEq, Int.reduceLT, Int.reduceLE, Int.reduceAdd, Int.reduceSub, Int.reduceMul, Int.reduceToNat, Nat.reduceAdd, Nat.reduceMul, Nat.reduceEqDiff, Int.toNat_natCast, wrap_id]
    rw [x77_17 obC_133 (q6 s)]
    simp (disch := first | exact obC_124 | exact obC_130 | exact obC_133 | exact (obCO_58 ho) | exact (obCO_59 ho) | exact (obCO_66 ho) | omega | (simp only [aN1_125, aN1_126, aN1_134]; omega) | (simp only [List.length_cons, List.length_nil]; omega)) only [en77, x77_0, x77_1, x77_2, x77_5, x77_8, x77_9, x77_10, x77_13, x77_16, x77_17, x77_20, x77_21, x77_24, x77_25, x77_26, x77_29, x77_30, x77_33, x77_34, x77_37, x77_38, x77_40, x77_41, x77_44, x77_47, x77_50, x77_51, x77_52, x77_55, x77_58, x77_59, x77_62, x77_65, x77_66, x77_67, x77_68, x77_69, x77_72, x77_75, x77_76, x77_77, x77_78, x77_81, x77_82, x77_83, x77_84, x77_87, x77_90, x77_91, x77_94, x77_97, x77_98, x77_99, x77_100, x77_101, x77_101i, x77_102, x77_105, x77_106, x77_109, x77_110, x77_111, x77_114, x77_115, x77_118, x77_121, x77_124, x77_125, fcn_124_0, fcn_124_1, fcn_133_1, fcn_133_2, fcn_133_3, (fcnO_58_0 ho), (fcnO_58_1 ho), if_true, if_false, eq_self, Int.reduceEq, Int.reduceLT, Int.reduceLE, Int.reduceAdd, Int.reduceSub, Int.reduceMul, Int.reduceToNat, Nat.reduceAdd, Nat.reduceMul, Nat.reduceEqDiff, Int.toNat_natCast, wrap_id, mu_i, mu_s, hfl, zcV_r, z0]
  have g : ∀ c j, c ≠ 134 → c ≠ 133 → ¬ (c = 59 + o ∧ j = 6) → ¬ (c = 58 + o ∧ j = 2) → ckS s o c j = s c j := fun c j a b hn1 hn2 => by
    unfold ckS flS
    rw [if_neg (fun z => a z.1)]
    by_cases e1 : c = 58 + o
    · rw [mu_i (by omega), mu_c (by omega), mu_c b, mu_c b]
    · rw [mu_c e1]
      by_cases e2 : c = 59 + o
      · rw [mu_i (by omega), mu_c b, mu_c b]
      · rw [mu_c e2, mu_c b, mu_c b]
  have g1 : ∀ d', d' < 26 → ckS s o 134 d' = -1 := fun d' hd' => by
    unfold ckS flS
    rw [if_pos ⟨rfl, hd'⟩]
  have g2 : ckS s o 133 5 = ((59 + o : Nat) : Int) ∧ ckS s o 133 6 = ((66 + o : Nat) : Int) := by
    unfold ckS flS
    refine ⟨?_, ?_⟩
    · rw [if_neg (by decide), mu_c (by omega), mu_c (by omega), mu_i (by decide), mu_s]
    · rw [if_neg (by decide), mu_c (by omega), mu_c (by omega), mu_s]
  have g3 : ckS s o (59 + o) 6 = ((0 : Nat) : Int) ∧ ckS s o (58 + o) 2 = ((0 : Nat) : Int) := by
    unfold ckS flS
    refine ⟨?_, ?_⟩
    · rw [if_neg (by omega), mu_c (by omega), mu_s]
      rfl
    · rw [if_neg (by omega), mu_s]
      rfl
  have F0 : Fr (fun c j => CKG o c j ∨ c = 133) s (ckS s o) := fun c j hn => g c j (fun z => hn (Or.inl (Or.inr (Or.inr (Or.inl z))))) (fun z => hn (Or.inr z)) (fun z => hn (Or.inl (Or.inr (Or.inl (Or.inl z))))) (fun z => hn (Or.inl (Or.inr (Or.inr (Or.inr (Or.inr (Or.inr z)))))))
  generalize ckS s o = s1 at *
  have hI1 : CIs s1 o P U C 0 25 its := by
    have put : ∀ (l : List It) (k n : Nat), CIs s o P U C k n l → CIs s1 o P U C k n l := by
      intro l
      induction l with
      | nil => intro k n _; trivial
      | cons i r ih =>
        intro k n h
        exact ⟨CIt_gen h.1 (fun q h1 h2 => g _ _ (by omega) (by omega) (by omega) (by omega)) (fun a b ha => ⟨fun q j hq h1 _ => g _ _ (by omega) (by omega) (by omega) (by omega), fun j _ => g _ _ (by decide) (by decide) (by omega) (by omega)⟩) (fun q j hq => g _ _ (by omega) (by omega) (by omega) (by omega)), ih _ _ h.2⟩
    exact put _ _ _ hI
  have hK : KCc s1 o U C (fun _ => none) [] := ⟨fun d' hd' => g1 d' hd', fun d' t b h => (by cases h), fun d' t b h => (by cases h), g3.1, Nat.zero_le _, fun i x h => by simp at h, ⟨g2.1, g2.2, ho⟩, by rw [g _ _ (by decide) (by decide) (by omega) (by omega), n4], by rw [g _ _ (by decide) (by decide) (by omega) (by omega), n5], hb5, hb6⟩
  have hA := ckc_all (d := d) (by omega) hb4 hb3 hb1 its (fun _ => none) [] [] [] [] 0 25 s1 hK hI1 hC (by rw [g _ _ (by decide) (by decide) (by omega) (by omega), n1]) (Nat.zero_add _) rfl (fun j x h => by simp at h) rfl (Nat.le_refl _) hb2 g3.2 (Nat.zero_le _) rfl ⟨by rw [g _ _ (by decide) (by decide) (by omega) (by omega), ht0.1], by rw [g _ _ (by decide) (by decide) (by omega) (by omega), ht0.2.1], by rw [g _ _ (by decide) (by decide) (by omega) (by omega), ht0.2.2]⟩
  rw [List.nil_append, List.nil_append] at hA
  subst hN
  cases hx : ckA (fun _ => none) [] [] its with
  | error p =>
    rw [hx] at hA
    obtain ⟨s', e1, e2⟩ := hA
    exact ⟨s', e0.trans e1, F0.tr (e2.mono (fun _ _ h => Or.inl h))⟩
  | ok y =>
    obtain ⟨sg', lo'⟩ := y
    rw [hx] at hA
    obtain ⟨s', e1, e2, e3⟩ := hA
    exact ⟨s', e0.trans e1, e2, F0.tr (e3.mono (fun _ _ h => Or.inl h))⟩
