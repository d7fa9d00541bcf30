/-! THE CLASS: items -/
def sAdd (s : Mem) (K : Nat) (a b c e : Int) : Mem := mu (mu (mu (mu (mu s 125 K a) 126 K b) 127 K c) 128 K e) 124 4 ((K : Int) + 1)
theorem k_sAdd {d K : Nat} {a b c e : Int} {s : Mem} (hd : 1 ≤ d) (hK : s 124 4 = K) (hK2 : K < 200) : Zc d 154 [aR 124, aI a, aI b, aI c, aI e] s = rV (sAdd s K a b c e) := by
  obtain ⟨d, rfl⟩ : ∃ e, d = e + 1 := ⟨d - 1, by omega⟩
  unfold sAdd
  simp (disch := first | exact obC_124 | omega | (simp only [aN1_125, aN1_126, aN1_127, aN1_128]; omega) | (simp only [List.length_cons, List.length_nil]; omega)) only [en154, x154_0, x154_1, x154_4, x154_5, x154_8, x154_9, x154_10, x154_11, x154_14, x154_15, x154_18, x154_19, x154_20, x154_21, x154_24, x154_25, x154_28, x154_29, x154_30, x154_31, x154_34, x154_35, x154_38, x154_40, x154_41, x154_42, x154_42i, x154_43, x154_46, x154_47, x154_48, x154_51, fcn_124_0, fcn_124_1, fcn_124_2, fcn_124_3, if_true, if_false, eq_self, Int.reduceEq, Int.reduceLT, Int.reduceLE, Int.reduceAdd, Int.reduceSub, Int.reduceMul, Int.reduceToNat, Nat.reduceAdd, Nat.reduceMul, Nat.reduceEqDiff, Int.toNat_natCast, wrap_id, hK, mu_c, mu_i, mu_s]
theorem sAdd_at {s : Mem} {K : Nat} {a b c e : Int} : sAdd s K a b c e 125 K = a ∧ sAdd s K a b c e 126 K = b ∧ sAdd s K a b c e 127 K = c ∧ sAdd s K a b c e 128 K = e ∧ sAdd s K a b c e 124 4 = ((K + 1 : Nat) : Int) ∧ (∀ k j, (k < 124 ∨ 128 < k ∨ (k = 124 ∧ j ≠ 4) ∨ (124 < k ∧ j ≠ K)) → sAdd s K a b c e k j = s k j) := by
  unfold sAdd
  refine ⟨?_, ?_, ?_, ?_, ?_, fun k j h => ?_⟩
  · rw [mu_c (by decide), mu_c (by decide), mu_c (by decide), mu_c (by decide), mu_s]
  · rw [mu_c (by decide), mu_c (by decide), mu_c (by decide), mu_s]
  · rw [mu_c (by decide), mu_c (by decide), mu_s]
  · rw [mu_c (by decide), mu_s]
  · rw [mu_s]
    rfl
  · by_cases e : k < 124 ∨ 128 < k
    · rw [mu_c (by omega), mu_c (by omega), mu_c (by omega), mu_c (by omega), mu_c (by omega)]
    · by_cases e2 : k = 124
      · rw [mu_i (by omega), mu_c (by omega), mu_c (by omega), mu_c (by omega), mu_c (by omega)]
      · rw [mu_c (by omega), mu_i (by omega), mu_i (by omega), mu_i (by omega), mu_i (by omega)]
/-- what an item leaves: steps from K on, nodes from N on, parts of paths from P on, types from M on, fields from C on -/
def PC (o K N P M C k j : Nat) : Prop := XF o N P k j ∨ YF M C k j ∨ (k = 124 ∧ j = 4) ∨ (125 ≤ k ∧ k ≤ 128 ∧ K ≤ j)
def PCX (o K N P M C k j : Nat) : Prop := PC o K N P M C k j ∨ (k = 131 ∧ j = 5)
theorem PC_X {o K N P M C k j : Nat} (h : PC o K N P M C k j) : PCX o K N P M C k j := Or.inl h
theorem XF_PC {o K N P M C k j : Nat} (h : XF o N P k j) : PC o K N P M C k j := Or.inl h
theorem YF_PC {o K N P M C k j : Nat} (h : YF M C k j) : PC o K N P M C k j := Or.inr (Or.inl h)
theorem NX_PC {o K N P M C k j : Nat} (h : NX k j) : PC o K N P M C k j := Or.inl (NX_XF h)
theorem XFX_PC {o K N P M C k j : Nat} (h : XFX o N P k j) : PCX o K N P M C k j := h.elim (fun h => Or.inl (Or.inl h)) Or.inr
theorem YFX_PC {o K N P M C k j : Nat} (h : YFX M C k j) : PCX o K N P M C k j := h.elim (fun h => Or.inl (Or.inr (Or.inl h))) Or.inr
theorem NF_PC {o K N P M C k j : Nat} (h : NF k j) : PCX o K N P M C k j := Or.inr h
theorem sAdd_fr {o K N P M C n : Nat} {s : Mem} {a b c e : Int} (h : K ≤ n) : Fr (PC o K N P M C) s (sAdd s n a b c e) := by
  unfold sAdd
  exact (((((Fr.rf s).mu (Or.inr (Or.inr (Or.inr ⟨by omega, by omega, h⟩)))).mu (Or.inr (Or.inr (Or.inr ⟨by omega, by omega, h⟩)))).mu (Or.inr (Or.inr (Or.inr ⟨by omega, by omega, h⟩)))).mu (Or.inr (Or.inr (Or.inr ⟨by omega, by omega, h⟩)))).mu (Or.inr (Or.inr (Or.inl ⟨rfl, rfl⟩)))
theorem PC_le {o K N P M C K' N' P' M' C' k j : Nat} (h1 : K ≤ K') (h2 : N ≤ N') (h3 : P ≤ P') (h4 : M ≤ M') (h5 : C ≤ C') (h : PC o K' N' P' M' C' k j) : PC o K N P M C k j := by
  rcases h with h | h | h | h
  · exact Or.inl (XF_le h2 h3 h)
  · exact Or.inr (Or.inl (YF_le h4 h5 h))
  · exact Or.inr (Or.inr (Or.inl h))
  · exact Or.inr (Or.inr (Or.inr ⟨h.1, h.2.1, by omega⟩))
theorem PCX_le {o K N P M C K' N' P' M' C' k j : Nat} (h1 : K ≤ K') (h2 : N ≤ N') (h3 : P ≤ P') (h4 : M ≤ M') (h5 : C ≤ C') (h : PCX o K' N' P' M' C' k j) : PCX o K N P M C k j := h.elim (fun h => Or.inl (PC_le h1 h2 h3 h4 h5 h)) Or.inr
theorem PCX_no {o K N P M C : Nat} (ho : o = 0 ∨ o = 26) : (∀ q j, q = 112 ∨ q = 111 ∨ q = 113 → ¬ PCX o K N P M C q j) ∧ ¬ PCX o K N P M C 131 3 := by
  refine ⟨fun q j hq h => ?_, fun h => ?_⟩
  · rcases h with (h | h | h | h) | h
    · unfold XF at h; omega
    · unfold YF at h; omega
    · omega
    · omega
    · omega
  · rcases h with (h | h | h | h) | h
    · unfold XF at h; omega
    · unfold YF at h; omega
    · omega
    · omega
    · omega
theorem KS_P {s s' : Mem} {T : Tx} {u o k k' K N P M C : Nat} (h : KS s T u o k) (f : Fr (PCX o K N P M C) s s') (h3 : s' 131 4 = k') (h4 : k' ≤ u) : KS s' T u o k' :=
  KS_put h f (PCX_no h.2.2.2.2.2.2).1 (PCX_no h.2.2.2.2.2.2).2 h3 h4
/-- how much there is -/
def CN (s : Mem) (o K N P M C : Nat) : Prop := s 124 4 = K ∧ s (66 + o) 7 = N ∧ s 124 6 = P ∧ s 114 4 = M ∧ s 114 10 = C
/-- the letter that a declared signal's kind has -/
def kLt (k : Nat) : Int := if k = 0 then 73 else if k = 1 then 79 else if k = 2 then 87 else 82
/-- an item as the class's steps have it at k; its nodes lie from n on -/
def CIt (s : Mem) (o k n P M C : Nat) (i : It) : Prop :=
  s 126 k = i.2.1 ∧
  ((i.1 = 0 ∧ s 125 k = 3 ∧ s 127 k = n ∧ s 128 k = ((n + esz i.2.2.2.2.2 : Nat) : Int) ∧ (∃ (x : Nat) (r : Jvm.Term), i.2.2.2.2.1 = eRef x r) ∧ CE s o P i.2.2.2.2.1 n ∧ CE s o P i.2.2.2.2.2 (n + 1)) ∨
   (i.1 = 1 ∧ s 125 k = 63 ∧ s 127 k = ((n + esz i.2.2.2.2.2 - 1 : Nat) : Int) ∧ CE s o P i.2.2.2.2.2 n) ∨
   (i.1 = 2 ∧ s 125 k = 58) ∨ (i.1 = 3 ∧ s 125 k = 125) ∨
   (i.1 = 4 ∧ s 125 k = kLt i.2.2.2.1 ∧ i.2.2.2.1 < 4 ∧ s 127 k = i.2.2.1 ∧ i.2.2.1 < 26 ∧ ∃ t : Nat, s 128 k = t ∧ CT s true i.2.2.2.2.2 t M 0 C 0) ∨
   (i.1 = 5 ∧ s 125 k = 78 ∧ i.2.2.2.1 = 4 ∧ s 127 k = i.2.2.1 ∧ i.2.2.1 < 26 ∧ s 128 k = ((n + esz i.2.2.2.2.2 - 1 : Nat) : Int) ∧ CE s o P i.2.2.2.2.2 n))
/-- what an item comes to -/
def IO (T : Tx) (u o k K N P M C : Nat) (s : Mem) (Z : Option Res) (x : PR It) : Prop := match x with
  | .ok (i, q) => ∃ (s' : Mem) (k' P' M' C' : Nat), Z = rV s' ∧ KS s' T u o k' ∧ tP T k' = q ∧ k + 4 ≤ k' ∧ CIt s' o K N P' M' C' i ∧ CN s' o (K + 1) (N + nsz i) P' M' C' ∧ (P ≤ P' ∧ M ≤ M' ∧ C ≤ C') ∧ (nsz i + k ≤ k' ∧ P' + k ≤ P + k' ∧ M' + k ≤ M + k' ∧ C' + k ≤ C + k') ∧ Fr (PC o K N P M C) s s'
  | .error f => ∃ s', Z = rV s' ∧ s' 131 5 = f ∧ Fr (PCX o K N P M C) s s'
theorem IO_er {T : Tx} {u o k K N P M C f : Nat} {s s1 s2 : Mem} {Z : Option Res} (f1 : Fr (PC o K N P M C) s s1) (f2 : Fr NF s1 s2) (h1 : Z = rV s2) (h2 : s2 131 5 = f) : IO T u o k K N P M C s Z (.error f) :=
  ⟨s2, h1, h2, (f1.mono (fun _ _ h => PC_X h)).tr (f2.mono (fun _ _ h => NF_PC h))⟩
/-- up to the name and the sign behind it -/
theorem pIH_k {d k u o : Nat} {T : Tx} {s : Mem} {c : Int} (hd : 2 ≤ d) (h : KS s T u o k) (hlt : k < u) (hp1 : tP T (k + 1) = sk T (tP T k + 1)) (hc : 32 < c ∧ ¬ isD c ∧ c ≠ 60) :
    match pIH T c (tP T k) with
    | .ok (n, q) => ∃ s1 s2, Zc d 139 [aR 131] (mu s 131 4 ((k : Int) + 1)) = rI n s1 ∧ Zc d 141 [aR 131, aI c] s1 = rI 1 s2 ∧ n < 26 ∧ KS s2 T u o (k + 3) ∧ tP T (k + 3) = q ∧ Fr NX s s2
    | .error f => (∃ s1, Zc d 139 [aR 131] (mu s 131 4 ((k : Int) + 1)) = rI (-1) s1 ∧ s1 131 5 = f ∧ Fr (fun k j => NX k j ∨ NF k j) s s1) ∨
        (∃ (s1 s2 : Mem) (n : Nat), Zc d 139 [aR 131] (mu s 131 4 ((k : Int) + 1)) = rI n s1 ∧ Zc d 141 [aR 131, aI c] s1 = rI 0 s2 ∧ s2 131 5 = f ∧ Fr (fun k j => NX k j ∨ NF k j) s s2) := by
  have h1 := KS_nx h hlt
  have f1 : Fr NX s (mu s 131 4 ((k : Int) + 1)) := (Fr.rf s).mu ⟨rfl, rfl⟩
  unfold pIH pNm
  rw [← hp1]
  by_cases hN : isN (cA T (tP T (k + 1)))
  · rw [if_pos hN, bd_ok]
    obtain ⟨s1, e1, e2, e3, e4⟩ := kt_name (d := d) hd h1 hN
    rw [← e3]
    generalize hnn : cA T (tP T (k + 1)) - 97 = v at e1 ⊢
    obtain ⟨n, rfl⟩ : ∃ w : Nat, v = w := ⟨v.toNat, by omega⟩
    rw [Int.toNat_natCast]
    unfold pTk
    by_cases h58 : cA T (tP T (k + 1 + 1)) = c
    · rw [if_pos h58, bd_ok]
      obtain ⟨s3, g1, g2, g3, g4⟩ := kt_take (d := d) hd e2 hc h58
      exact ⟨s1, s3, e1, g1, by omega, g2, g3, (f1.tr e4).tr g4⟩
    · rw [if_neg h58, bd_er]
      obtain ⟨s3, g1, g2, g3⟩ := kt_takeF (d := d) hd e2 hc h58
      exact Or.inr ⟨s1, s3, n, e1, g1, g2, ((f1.tr e4).mono (fun _ _ h => Or.inl h)).tr (g3.mono (fun _ _ h => Or.inr h))⟩
  · rw [if_neg hN, bd_er]
    obtain ⟨s1, e1, e2, e3⟩ := kt_nameF (d := d) hd h1 hN
    exact Or.inl ⟨s1, e1, e2, (f1.mono (fun _ _ h => Or.inl h)).tr (e3.mono (fun _ _ h => Or.inr h))⟩
theorem k_at {k u o : Nat} {T : Tx} {s : Mem} (h : KS s T u o k) : s 112 k = tP T k := TKS_at h.1 h.2.2.2.2.1
theorem dc_ok {d k u o K : Nat} {T : Tx} {s s1 s2 s3 s4 : Mem} {c : Int} {n t : Nat} (hd : 1 ≤ d) (h : KS s T u o k) (hk : s 111 k = c) (hdp : ¬ 0 < s 131 6) (e1 : Zc d 139 [aR 131] (mu s 131 4 ((k : Int) + 1)) = rI n s1) (e2 : Zc d 141 [aR 131, aI 58] s1 = rI 1 s2) (e3 : Zc d 130 [aR 131, aI 1] s2 = rI t s3) (e4 : Zc d 141 [aR 131, aI 59] s3 = rI 1 s4) (hK : s4 124 4 = K) (hK2 : K < 200) :
    Zc (d + 1) 125 [aR 131] s = rV (sAdd s4 K c (tP T k) n t) := by
  have hn : s 131 4 = k := h.2.2.2.1
  have hk2 := KS_le h
  simp (disch := first | exact obC_110 | exact obC_124 | exact obC_131 | omega | (simp only [aN1_112]; omega) | (simp only [List.length_cons, List.length_nil]; omega)) only [en125, x125_0, x125_1, x125_4, x125_7, x125_8, x125_11, x125_12, x125_13, x125_14, x125_17, x125_18, x125_19, x125_22, x125_25, x125_26, x125_29, x125_30, x125_31, x125_32, x125_32i, x125_33, x125_36, x125_37, x125_38, x125_41, x125_42, x125_45, x125_46, x125_47, x125_48, x125_51, x125_52, x125_54, x125_57, x125_60, x125_61, x125_62, x125_65, x125_68, x125_69, x125_71, x125_73, x125_74, x125_77, x125_78, x125_80, x125_83, x125_86, x125_87, x125_90, x125_91, x125_92, x125_93, x125_95, x125_98, fcn_110_1, fcn_131_0, fcn_131_2, if_true, if_false, eq_self, Int.reduceEq, Int.reduceLT, Int.reduceLE, Int.reduceAdd, Int.reduceSub, Int.reduceMul, Int.reduceToNat, Nat.reduceAdd, Nat.reduceMul, Nat.reduceEqDiff, Int.toNat_natCast, wrap_id, if_neg hdp, kt_kind hd h, hk, zcI_r, zcV_r, hn, k_at h, e1, e2, e3, e4, if_neg (show ¬ ((n : Nat) : Int) = -1 by omega), if_neg (show ¬ ((t : Nat) : Int) = -1 by omega), k_sAdd (d := d) hd hK hK2]
theorem dc_F {d k u o : Nat} {T : Tx} {s s1 s2 s3 s4 : Mem} {c : Int} {n t : Nat} (hd : 1 ≤ d) (h : KS s T u o k) (hk : s 111 k = c) (hdp : ¬ 0 < s 131 6)
    (H : Zc d 139 [aR 131] (mu s 131 4 ((k : Int) + 1)) = rI (-1) s4 ∨ (Zc d 139 [aR 131] (mu s 131 4 ((k : Int) + 1)) = rI n s1 ∧ Zc d 141 [aR 131, aI 58] s1 = rI 0 s4) ∨
      (Zc d 139 [aR 131] (mu s 131 4 ((k : Int) + 1)) = rI n s1 ∧ Zc d 141 [aR 131, aI 58] s1 = rI 1 s2 ∧ Zc d 130 [aR 131, aI 1] s2 = rI (-1) s4) ∨
      (Zc d 139 [aR 131] (mu s 131 4 ((k : Int) + 1)) = rI n s1 ∧ Zc d 141 [aR 131, aI 58] s1 = rI 1 s2 ∧ Zc d 130 [aR 131, aI 1] s2 = rI t s3 ∧ Zc d 141 [aR 131, aI 59] s3 = rI 0 s4)) :
    Zc (d + 1) 125 [aR 131] s = rV s4 := by
  have hn : s 131 4 = k := h.2.2.2.1
  have hk2 := KS_le h
  rcases H with e1 | ⟨e1, e2⟩ | ⟨e1, e2, e3⟩ | ⟨e1, e2, e3, e4⟩
  · simp (disch := first | exact obC_110 | exact obC_124 | exact obC_131 | omega | (simp only [aN1_112]; omega) | (simp only [List.length_cons, List.length_nil]; omega)) only [en125, x125_0, x125_1, x125_4, x125_7, x125_8, x125_11, x125_12, x125_13, x125_14, x125_17, x125_18, x125_19, x125_22, x125_25, x125_26, x125_29, x125_30, x125_31, x125_32, x125_32i, x125_33, x125_36, x125_37, x125_38, x125_41, x125_42, x125_45, x125_46, x125_47, x125_48, x125_51, x125_52, x125_54, x125_57, x125_60, x125_61, x125_62, x125_65, x125_68, x125_69, x125_71, x125_73, x125_74, x125_77, x125_78, x125_80, x125_83, x125_86, x125_87, x125_90, x125_91, x125_92, x125_93, x125_95, x125_98, fcn_110_1, fcn_131_0, fcn_131_2, if_true, if_false, eq_self, Int.reduceEq, Int.reduceLT, Int.reduceLE, Int.reduceAdd, Int.reduceSub, Int.reduceMul, Int.reduceToNat, Nat.reduceAdd, Nat.reduceMul, Nat.reduceEqDiff, Int.toNat_natCast, wrap_id, if_neg hdp, kt_kind hd h, hk, zcI_r, zcV_r, hn, k_at h, e1]
  · simp (disch := first | exact obC_110 | exact obC_124 | exact obC_131 | omega | (simp only [aN1_112]; omega) | (simp only [List.length_cons, List.length_nil]; omega)) only [en125, x125_0, x125_1, x125_4, x125_7, x125_8, x125_11, x125_12, x125_13, x125_14, x125_17, x125_18, x125_19, x125_22, x125_25, x125_26, x125_29, x125_30, x125_31, x125_32, x125_32i, x125_33, x125_36, x125_37, x125_38, x125_41, x125_42, x125_45, x125_46, x125_47, x125_48, x125_51, x125_52, x125_54, x125_57, x125_60, x125_61, x125_62, x125_65, x125_68, x125_69, x125_71, x125_73, x125_74, x125_77, x125_78, x125_80, x125_83, x125_86, x125_87, x125_90, x125_91, x125_92, x125_93, x125_95, x125_98, fcn_110_1, fcn_131_0, fcn_131_2, if_true, if_false, eq_self, Int.reduceEq, Int.reduceLT, Int.reduceLE, Int.reduceAdd, Int.reduceSub, Int.reduceMul, Int.reduceToNat, Nat.reduceAdd, Nat.reduceMul, Nat.reduceEqDiff, Int.toNat_natCast, wrap_id, if_neg hdp, kt_kind hd h, hk, zcI_r, zcV_r, hn, k_at h, e1, e2, if_neg (show ¬ ((n : Nat) : Int) = -1 by omega)]
  · simp (disch := first | exact obC_110 | exact obC_124 | exact obC_131 | omega | (simp only [aN1_112]; omega) | (simp only [List.length_cons, List.length_nil]; omega)) only [en125, x125_0, x125_1, x125_4, x125_7, x125_8, x125_11, x125_12, x125_13, x125_14, x125_17, x125_18, x125_19, x125_22, x125_25, x125_26, x125_29, x125_30, x125_31, x125_32, x125_32i, x125_33, x125_36, x125_37, x125_38, x125_41, x125_42, x125_45, x125_46, x125_47, x125_48, x125_51, x125_52, x125_54, x125_57, x125_60, x125_61, x125_62, x125_65, x125_68, x125_69, x125_71, x125_73, x125_74, x125_77, x125_78, x125_80, x125_83, x125_86, x125_87, x125_90, x125_91, x125_92, x125_93, x125_95, x125_98, fcn_110_1, fcn_131_0, fcn_131_2, if_true, if_false, eq_self, Int.reduceEq, Int.reduceLT, Int.reduceLE, Int.reduceAdd, Int.reduceSub, Int.reduceMul, Int.reduceToNat, Nat.reduceAdd, Nat.reduceMul, Nat.reduceEqDiff, Int.toNat_natCast, wrap_id, if_neg hdp, kt_kind hd h, hk, zcI_r, zcV_r, hn, k_at h, e1, e2, e3, if_neg (show ¬ ((n : Nat) : Int) = -1 by omega)]
  · simp (disch := first | exact obC_110 | exact obC_124 | exact obC_131 | omega | (simp only [aN1_112]; omega) | (simp only [List.length_cons, List.length_nil]; omega)) only [en125, x125_0, x125_1, x125_4, x125_7, x125_8, x125_11, x125_12, x125_13, x125_14, x125_17, x125_18, x125_19, x125_22, x125_25, x125_26, x125_29, x125_30, x125_31, x125_32, x125_32i, x125_33, x125_36, x125_37, x125_38, x125_41, x125_42, x125_45, x125_46, x125_47, x125_48, x125_51, x125_52, x125_54, x125_57, x125_60, x125_61, x125_62, x125_65, x125_68, x125_69, x125_71, x125_73, x125_74, x125_77, x125_78, x125_80, x125_83, x125_86, x125_87, x125_90, x125_91, x125_92, x125_93, x125_95, x125_98, fcn_110_1, fcn_131_0, fcn_131_2, if_true, if_false, eq_self, Int.reduceEq, Int.reduceLT, Int.reduceLE, Int.reduceAdd, Int.reduceSub, Int.reduceMul, Int.reduceToNat, Nat.reduceAdd, Nat.reduceMul, Nat.reduceEqDiff, Int.toNat_natCast, wrap_id, if_neg hdp, kt_kind hd h, hk, zcI_r, zcV_r, hn, k_at h, e1, e2, e3, e4, if_neg (show ¬ ((n : Nat) : Int) = -1 by omega), if_neg (show ¬ ((t : Nat) : Int) = -1 by omega)]
theorem nd_ok {d k u o K : Nat} {T : Tx} {s s1 s2 s3 s4 : Mem} {n t : Nat} (hd : 1 ≤ d) (h : KS s T u o k) (hdp : ¬ 0 < s 131 6) (e1 : Zc d 139 [aR 131] (mu s 131 4 ((k : Int) + 1)) = rI n s1) (e2 : Zc d 141 [aR 131, aI 61] s1 = rI 1 s2) (e3 : Zc d 135 [aR 131, aI 1] s2 = rI t s3) (e4 : Zc d 141 [aR 131, aI 59] s3 = rI 1 s4) (hK : s4 124 4 = K) (hK2 : K < 200) :
    Zc (d + 1) 126 [aR 131] s = rV (sAdd s4 K 78 (tP T k) n t) := by
  have hn : s 131 4 = k := h.2.2.2.1
  have hk2 := KS_le h
  simp (disch := first | exact obC_110 | exact obC_124 | exact obC_131 | omega | (simp only [aN1_112]; omega) | (simp only [List.length_cons, List.length_nil]; omega)) only [en126, x126_0, x126_1, x126_4, x126_7, x126_8, x126_11, x126_12, x126_13, x126_14, x126_17, x126_20, x126_21, x126_24, x126_25, x126_26, x126_27, x126_27i, x126_28, x126_31, x126_32, x126_33, x126_36, x126_37, x126_40, x126_41, x126_42, x126_43, x126_46, x126_47, x126_49, x126_52, x126_55, x126_56, x126_57, x126_60, x126_63, x126_64, x126_65, x126_66, x126_67, x126_70, x126_71, x126_73, x126_76, x126_79, x126_80, x126_83, x126_85, x126_86, x126_87, x126_88, x126_91, fcn_110_1, fcn_131_0, fcn_131_2, if_true, if_false, eq_self, Int.reduceEq, Int.reduceLT, Int.reduceLE, Int.reduceAdd, Int.reduceSub, Int.reduceMul, Int.reduceToNat, Nat.reduceAdd, Nat.reduceMul, Nat.reduceEqDiff, Int.toNat_natCast, wrap_id, if_neg hdp, zcI_r, zcV_r, hn, k_at h, e1, e2, e3, e4, if_neg (show ¬ ((n : Nat) : Int) = -1 by omega), if_neg (show ¬ ((t : Nat) : Int) = -1 by omega), k_sAdd (d := d) hd hK hK2]
theorem nd_F {d k u o : Nat} {T : Tx} {s s1 s2 s3 s4 : Mem} {n t : Nat} (h : KS s T u o k) (hdp : ¬ 0 < s 131 6)
    (H : Zc d 139 [aR 131] (mu s 131 4 ((k : Int) + 1)) = rI (-1) s4 ∨ (Zc d 139 [aR 131] (mu s 131 4 ((k : Int) + 1)) = rI n s1 ∧ Zc d 141 [aR 131, aI 61] s1 = rI 0 s4) ∨
      (Zc d 139 [aR 131] (mu s 131 4 ((k : Int) + 1)) = rI n s1 ∧ Zc d 141 [aR 131, aI 61] s1 = rI 1 s2 ∧ Zc d 135 [aR 131, aI 1] s2 = rI (-1) s4) ∨
      (Zc d 139 [aR 131] (mu s 131 4 ((k : Int) + 1)) = rI n s1 ∧ Zc d 141 [aR 131, aI 61] s1 = rI 1 s2 ∧ Zc d 135 [aR 131, aI 1] s2 = rI t s3 ∧ Zc d 141 [aR 131, aI 59] s3 = rI 0 s4)) :
    Zc (d + 1) 126 [aR 131] s = rV s4 := by
  have hn : s 131 4 = k := h.2.2.2.1
  have hk2 := KS_le h
  rcases H with e1 | ⟨e1, e2⟩ | ⟨e1, e2, e3⟩ | ⟨e1, e2, e3, e4⟩
  · simp (disch := first | exact obC_110 | exact obC_124 | exact obC_131 | omega | (simp only [aN1_112]; omega) | (simp only [List.length_cons, List.length_nil]; omega)) only [en126, x126_0, x126_1, x126_4, x126_7, x126_8, x126_11, x126_12, x126_13, x126_14, x126_17, x126_20, x126_21, x126_24, x126_25, x126_26, x126_27, x126_27i, x126_28, x126_31, x126_32, x126_33, x126_36, x126_37, x126_40, x126_41, x126_42, x126_43, x126_46, x126_47, x126_49, x126_52, x126_55, x126_56, x126_57, x126_60, x126_63, x126_64, x126_65, x126_66, x126_67, x126_70, x126_71, x126_73, x126_76, x126_79, x126_80, x126_83, x126_85, x126_86, x126_87, x126_88, x126_91, fcn_110_1, fcn_131_0, fcn_131_2, if_true, if_false, eq_self, Int.reduceEq, Int.reduceLT, Int.reduceLE, Int.reduceAdd, Int.reduceSub, Int.reduceMul, Int.reduceToNat, Nat.reduceAdd, Nat.reduceMul, Nat.reduceEqDiff, Int.toNat_natCast, wrap_id, if_neg hdp, zcI_r, zcV_r, hn, k_at h, e1]
  · simp (disch := first | exact obC_110 | exact obC_124 | exact obC_131 | omega | (simp only [aN1_112]; omega) | (simp only [List.length_cons, List.length_nil]; omega)) only [en126, x126_0, x126_1, x126_4, x126_7, x126_8, x126_11, x126_12, x126_13, x126_14, x126_17, x126_20, x126_21, x126_24, x126_25, x126_26, x126_27, x126_27i, x126_28, x126_31, x126_32, x126_33, x126_36, x126_37, x126_40, x126_41, x126_42, x126_43, x126_46, x126_47, x126_49, x126_52, x126_55, x126_56, x126_57, x126_60, x126_63, x126_64, x126_65, x126_66, x126_67, x126_70, x126_71, x126_73, x126_76, x126_79, x126_80, x126_83, x126_85, x126_86, x126_87, x126_88, x126_91, fcn_110_1, fcn_131_0, fcn_131_2, if_true, if_false, eq_self, Int.reduceEq, Int.reduceLT, Int.reduceLE, Int.reduceAdd, Int.reduceSub, Int.reduceMul, Int.reduceToNat, Nat.reduceAdd, Nat.reduceMul, Nat.reduceEqDiff, Int.toNat_natCast, wrap_id, if_neg hdp, zcI_r, zcV_r, hn, k_at h, e1, e2, if_neg (show ¬ ((n : Nat) : Int) = -1 by omega)]
  · simp (disch := first | exact obC_110 | exact obC_124 | exact obC_131 | omega | (simp only [aN1_112]; omega) | (simp only [List.length_cons, List.length_nil]; omega)) only [en126, x126_0, x126_1, x126_4, x126_7, x126_8, x126_11, x126_12, x126_13, x126_14, x126_17, x126_20, x126_21, x126_24, x126_25, x126_26, x126_27, x126_27i, x126_28, x126_31, x126_32, x126_33, x126_36, x126_37, x126_40, x126_41, x126_42, x126_43, x126_46, x126_47, x126_49, x126_52, x126_55, x126_56, x126_57, x126_60, x126_63, x126_64, x126_65, x126_66, x126_67, x126_70, x126_71, x126_73, x126_76, x126_79, x126_80, x126_83, x126_85, x126_86, x126_87, x126_88, x126_91, fcn_110_1, fcn_131_0, fcn_131_2, if_true, if_false, eq_self, Int.reduceEq, Int.reduceLT, Int.reduceLE, Int.reduceAdd, Int.reduceSub, Int.reduceMul, Int.reduceToNat, Nat.reduceAdd, Nat.reduceMul, Nat.reduceEqDiff, Int.toNat_natCast, wrap_id, if_neg hdp, zcI_r, zcV_r, hn, k_at h, e1, e2, e3, if_neg (show ¬ ((n : Nat) : Int) = -1 by omega)]
  · simp (disch := first | exact obC_110 | exact obC_124 | exact obC_131 | omega | (simp only [aN1_112]; omega) | (simp only [List.length_cons, List.length_nil]; omega)) only [en126, x126_0, x126_1, x126_4, x126_7, x126_8, x126_11, x126_12, x126_13, x126_14, x126_17, x126_20, x126_21, x126_24, x126_25, x126_26, x126_27, x126_27i, x126_28, x126_31, x126_32, x126_33, x126_36, x126_37, x126_40, x126_41, x126_42, x126_43, x126_46, x126_47, x126_49, x126_52, x126_55, x126_56, x126_57, x126_60, x126_63, x126_64, x126_65, x126_66, x126_67, x126_70, x126_71, x126_73, x126_76, x126_79, x126_80, x126_83, x126_85, x126_86, x126_87, x126_88, x126_91, fcn_110_1, fcn_131_0, fcn_131_2, if_true, if_false, eq_self, Int.reduceEq, Int.reduceLT, Int.reduceLE, Int.reduceAdd, Int.reduceSub, Int.reduceMul, Int.reduceToNat, Nat.reduceAdd, Nat.reduceMul, Nat.reduceEqDiff, Int.toNat_natCast, wrap_id, if_neg hdp, zcI_r, zcV_r, hn, k_at h, e1, e2, e3, e4, if_neg (show ¬ ((n : Nat) : Int) = -1 by omega), if_neg (show ¬ ((t : Nat) : Int) = -1 by omega)]
theorem cn_ok {d k u o K : Nat} {T : Tx} {s s1 s2 s3 s4 : Mem} {n t : Nat} (hd : 1 ≤ d) (h : KS s T u o k) (e1 : Zc d 137 [aR 131] s = rI n s1) (e2 : Zc d 141 [aR 131, aI 3] s1 = rI 1 s2) (e3 : Zc d 135 [aR 131, aI 1] s2 = rI t s3) (e4 : Zc d 141 [aR 131, aI 59] s3 = rI 1 s4) (hK : s4 124 4 = K) (hK2 : K < 200) :
    Zc (d + 1) 127 [aR 131] s = rV (sAdd s4 K 3 (tP T k) n t) := by
  have hn : s 131 4 = k := h.2.2.2.1
  have hk2 := KS_le h
  simp (disch := first | exact obC_110 | exact obC_124 | exact obC_131 | omega | (simp only [aN1_112]; omega) | (simp only [List.length_cons, List.length_nil]; omega)) only [en127, x127_0, x127_1, x127_4, x127_7, x127_8, x127_11, x127_12, x127_13, x127_14, x127_17, x127_18, x127_19, x127_20, x127_23, x127_24, x127_25, x127_28, x127_31, x127_32, x127_33, x127_36, x127_39, x127_40, x127_41, x127_42, x127_43, x127_46, x127_47, x127_49, x127_52, x127_55, x127_56, x127_59, x127_60, x127_61, x127_62, x127_63, x127_66, fcn_110_1, fcn_131_0, fcn_131_2, if_true, if_false, eq_self, Int.reduceEq, Int.reduceLT, Int.reduceLE, Int.reduceAdd, Int.reduceSub, Int.reduceMul, Int.reduceToNat, Nat.reduceAdd, Nat.reduceMul, Nat.reduceEqDiff, Int.toNat_natCast, wrap_id, zcI_r, zcV_r, hn, k_at h, e1, e2, e3, e4, if_neg (show ¬ ((n : Nat) : Int) = -1 by omega), if_neg (show ¬ ((t : Nat) : Int) = -1 by omega), k_sAdd (d := d) hd hK hK2]
theorem cn_F {d k u o : Nat} {T : Tx} {s s1 s2 s3 s4 : Mem} {n t : Nat} (h : KS s T u o k)
    (H : Zc d 137 [aR 131] s = rI (-1) s4 ∨ (Zc d 137 [aR 131] s = rI n s1 ∧ Zc d 141 [aR 131, aI 3] s1 = rI 0 s4) ∨
      (Zc d 137 [aR 131] s = rI n s1 ∧ Zc d 141 [aR 131, aI 3] s1 = rI 1 s2 ∧ Zc d 135 [aR 131, aI 1] s2 = rI (-1) s4) ∨
      (Zc d 137 [aR 131] s = rI n s1 ∧ Zc d 141 [aR 131, aI 3] s1 = rI 1 s2 ∧ Zc d 135 [aR 131, aI 1] s2 = rI t s3 ∧ Zc d 141 [aR 131, aI 59] s3 = rI 0 s4)) :
    Zc (d + 1) 127 [aR 131] s = rV s4 := by
  have hn : s 131 4 = k := h.2.2.2.1
  have hk2 := KS_le h
  rcases H with e1 | ⟨e1, e2⟩ | ⟨e1, e2, e3⟩ | ⟨e1, e2, e3, e4⟩
  · simp (disch := first | exact obC_110 | exact obC_124 | exact obC_131 | omega | (simp only [aN1_112]; omega) | (simp only [List.length_cons, List.length_nil]; omega)) only [en127, x127_0, x127_1, x127_4, x127_7, x127_8, x127_11, x127_12, x127_13, x127_14, x127_17, x127_18, x127_19, x127_20, x127_23, x127_24, x127_25, x127_28, x127_31, x127_32, x127_33, x127_36, x127_39, x127_40, x127_41, x127_42, x127_43, x127_46, x127_47, x127_49, x127_52, x127_55, x127_56, x127_59, x127_60, x127_61, x127_62, x127_63, x127_66, fcn_110_1, fcn_131_0, fcn_131_2, if_true, if_false, eq_self, Int.reduceEq, Int.reduceLT, Int.reduceLE, Int.reduceAdd, Int.reduceSub, Int.reduceMul, Int.reduceToNat, Nat.reduceAdd, Nat.reduceMul, Nat.reduceEqDiff, Int.toNat_natCast, wrap_id, zcI_r, zcV_r, hn, k_at h, e1]
  · simp (disch := first | exact obC_110 | exact obC_124 | exact obC_131 | omega | (simp only [aN1_112]; omega) | (simp only [List.length_cons, List.length_nil]; omega)) only [en127, x127_0, x127_1, x127_4, x127_7, x127_8, x127_11, x127_12, x127_13, x127_14, x127_17, x127_18, x127_19, x127_20, x127_23, x127_24, x127_25, x127_28, x127_31, x127_32, x127_33, x127_36, x127_39, x127_40, x127_41, x127_42, x127_43, x127_46, x127_47, x127_49, x127_52, x127_55, x127_56, x127_59, x127_60, x127_61, x127_62, x127_63, x127_66, fcn_110_1, fcn_131_0, fcn_131_2, if_true, if_false, eq_self, Int.reduceEq, Int.reduceLT, Int.reduceLE, Int.reduceAdd, Int.reduceSub, Int.reduceMul, Int.reduceToNat, Nat.reduceAdd, Nat.reduceMul, Nat.reduceEqDiff, Int.toNat_natCast, wrap_id, zcI_r, zcV_r, hn, k_at h, e1, e2, if_neg (show ¬ ((n : Nat) : Int) = -1 by omega)]
  · simp (disch := first | exact obC_110 | exact obC_124 | exact obC_131 | omega | (simp only [aN1_112]; omega) | (simp only [List.length_cons, List.length_nil]; omega)) only [en127, x127_0, x127_1, x127_4, x127_7, x127_8, x127_11, x127_12, x127_13, x127_14, x127_17, x127_18, x127_19, x127_20, x127_23, x127_24, x127_25, x127_28, x127_31, x127_32, x127_33, x127_36, x127_39, x127_40, x127_41, x127_42, x127_43, x127_46, x127_47, x127_49, x127_52, x127_55, x127_56, x127_59, x127_60, x127_61, x127_62, x127_63, x127_66, fcn_110_1, fcn_131_0, fcn_131_2, if_true, if_false, eq_self, Int.reduceEq, Int.reduceLT, Int.reduceLE, Int.reduceAdd, Int.reduceSub, Int.reduceMul, Int.reduceToNat, Nat.reduceAdd, Nat.reduceMul, Nat.reduceEqDiff, Int.toNat_natCast, wrap_id, zcI_r, zcV_r, hn, k_at h, e1, e2, e3, if_neg (show ¬ ((n : Nat) : Int) = -1 by omega)]
  · simp (disch := first | exact obC_110 | exact obC_124 | exact obC_131 | omega | (simp only [aN1_112]; omega) | (simp only [List.length_cons, List.length_nil]; omega)) only [en127, x127_0, x127_1, x127_4, x127_7, x127_8, x127_11, x127_12, x127_13, x127_14, x127_17, x127_18, x127_19, x127_20, x127_23, x127_24, x127_25, x127_28, x127_31, x127_32, x127_33, x127_36, x127_39, x127_40, x127_41, x127_42, x127_43, x127_46, x127_47, x127_49, x127_52, x127_55, x127_56, x127_59, x127_60, x127_61, x127_62, x127_63, x127_66, fcn_110_1, fcn_131_0, fcn_131_2, if_true, if_false, eq_self, Int.reduceEq, Int.reduceLT, Int.reduceLE, Int.reduceAdd, Int.reduceSub, Int.reduceMul, Int.reduceToNat, Nat.reduceAdd, Nat.reduceMul, Nat.reduceEqDiff, Int.toNat_natCast, wrap_id, zcI_r, zcV_r, hn, k_at h, e1, e2, e3, e4, if_neg (show ¬ ((n : Nat) : Int) = -1 by omega), if_neg (show ¬ ((t : Nat) : Int) = -1 by omega)]
