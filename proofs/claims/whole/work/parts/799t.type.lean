/-! THE CLASS: types and fields -/
/-- the type (true) or the fields (false) as the class's types and fields have them at n: types below b, fields from c up to e, the first field off signals behind -/
def CT (s : Mem) : Bool → Jvm.Term → Int → Nat → Nat → Nat → Nat → Prop
  | true, .arg w, n, b, _, _, _ => 0 ≤ n ∧ n < b ∧ s 115 n.toNat = 0 ∧ s 116 n.toNat = w ∧ s 118 n.toNat = 1 ∧ w ≤ 16
  | true, .mul (.arg k) t, n, b, c, e, _ => 0 ≤ n ∧ n < b ∧ s 115 n.toNat = 2 ∧ s 117 n.toNat = k ∧ s 118 n.toNat = ((min 25 (k * tsz t) : Nat) : Int) ∧ (1 ≤ k ∧ k ≤ 4) ∧ CT s true t (s 116 n.toNat) n.toNat c e 0
  | true, .sum fs, n, b, c, e, _ => 0 ≤ n ∧ n < b ∧ s 115 n.toNat = 1 ∧ s 118 n.toNat = ((min 25 (tsz fs) : Nat) : Int) ∧ 1 ≤ tsz fs ∧ CT s false fs (s 116 n.toNat) n.toNat c e 0
  | false, .div (.sub (.arg nm) (.arg bk)) (.rem t r), f, b, c, e, off => (c : Int) ≤ f ∧ f < e ∧ s 119 f.toNat = nm ∧ s 120 f.toNat = bk ∧ (nm < 26 ∧ bk ≤ 1) ∧ s 122 f.toNat = off ∧ CT s true t (s 121 f.toNat) b c f.toNat 0 ∧ CT s false r (s 123 f.toNat) b (f.toNat + 1) e (off + min 25 (tsz t))
  | false, .null, f, _, _, _, _ => f = -1
  | _, _, _, _, _, _, _ => False
/-- the types below b and the fields from c up to e are the same -/
def AY (s s' : Mem) (b c e : Nat) : Prop := ∀ k j, (115 ≤ k ∧ k ≤ 118 ∧ j < b) ∨ (119 ≤ k ∧ k ≤ 123 ∧ c ≤ j ∧ j < e) → s' k j = s k j
theorem AY.sub {s s' : Mem} {b c e b' c' e' : Nat} (h : AY s s' b c e) (h1 : b' ≤ b) (h2 : c ≤ c') (h3 : e' ≤ e) : AY s s' b' c' e' := fun k j hk => h k j (by omega)
theorem CT_put {s s' : Mem} {b c e off : Nat} {y : Bool} {t : Jvm.Term} {n : Int} : CT s y t n b c e off → AY s s' b c e → CT s' y t n b c e off := by
  fun_induction CT s y t n b c e off with
  | case1 w n b c e off =>
    rintro ⟨h1, h2, h3, h4, h5, h6⟩ g
    exact ⟨h1, h2, by rw [g _ _ (by omega), h3], by rw [g _ _ (by omega), h4], by rw [g _ _ (by omega), h5], h6⟩
  | case2 k t n b c e off ih =>
    rintro ⟨h1, h2, h3, h4, h5, h6, h7⟩ g
    exact ⟨h1, h2, by rw [g _ _ (by omega), h3], by rw [g _ _ (by omega), h4], by rw [g _ _ (by omega), h5], h6, by rw [g _ _ (by omega)]; exact ih h7 (g.sub (by omega) (Nat.le_refl _) (Nat.le_refl _))⟩
  | case3 fs n b c e off ih =>
    rintro ⟨h1, h2, h3, h5, h6, h7⟩ g
    exact ⟨h1, h2, by rw [g _ _ (by omega), h3], by rw [g _ _ (by omega), h5], h6, by rw [g _ _ (by omega)]; exact ih h7 (g.sub (by omega) (Nat.le_refl _) (Nat.le_refl _))⟩
  | case4 nm bk t r f b c e off ih1 ih2 =>
    rintro ⟨h1, h2, h3, h4, h5, h6, h7, h8⟩ g
    exact ⟨h1, h2, by rw [g _ _ (by omega), h3], by rw [g _ _ (by omega), h4], h5, by rw [g _ _ (by omega), h6], by rw [g _ _ (by omega)]; exact ih1 h7 (g.sub (by omega) (by omega) (by omega)), by rw [g _ _ (by omega)]; exact ih2 h8 (g.sub (by omega) (by omega) (by omega))⟩
  | case5 => exact fun h _ => h
  | case6 => exact fun h _ => h.elim
theorem CT_wide {s : Mem} {b c e off : Nat} {y : Bool} {t : Jvm.Term} {n : Int} : ∀ {b' c' e' : Nat}, CT s y t n b c e off → b ≤ b' → c' ≤ c → e ≤ e' → CT s y t n b' c' e' off := by
  fun_induction CT s y t n b c e off with
  | case1 w n b c e off =>
    rintro b' c' e' ⟨h1, h2, h3, h4, h5, h6⟩ g1 g2 g3
    exact ⟨h1, by omega, h3, h4, h5, h6⟩
  | case2 k t n b c e off ih =>
    rintro b' c' e' ⟨h1, h2, h3, h4, h5, h6, h7⟩ g1 g2 g3
    exact ⟨h1, by omega, h3, h4, h5, h6, ih h7 (Nat.le_refl _) g2 g3⟩
  | case3 fs n b c e off ih =>
    rintro b' c' e' ⟨h1, h2, h3, h5, h6, h7⟩ g1 g2 g3
    exact ⟨h1, by omega, h3, h5, h6, ih h7 (Nat.le_refl _) g2 g3⟩
  | case4 nm bk t r f b c e off ih1 ih2 =>
    rintro b' c' e' ⟨h1, h2, h3, h4, h5, h6, h7, h8⟩ g1 g2 g3
    exact ⟨by omega, by omega, h3, h4, h5, h6, ih1 h7 g1 g2 (Nat.le_refl _), ih2 h8 g1 (Nat.le_refl _) g3⟩
  | case5 => exact fun h _ _ _ => h
  | case6 => exact fun h _ _ _ => h.elim
theorem CT_size {s : Mem} {b c e off : Nat} {y : Bool} {t : Jvm.Term} {n : Int} : CT s y t n b c e off → y = true → 0 ≤ n ∧ n < b ∧ s 118 n.toNat = ((min 25 (tsz t) : Nat) : Int) ∧ 1 ≤ tsz t := by
  fun_induction CT s y t n b c e off with
  | case1 w n b c e off =>
    rintro ⟨h1, h2, h3, h4, h5, h6⟩ -
    exact ⟨h1, h2, h5, Nat.le_refl _⟩
  | case2 k t n b c e off ih =>
    rintro ⟨h1, h2, h3, h4, h5, h6, h7⟩ -
    have := (ih h7 rfl).2.2.2
    exact ⟨h1, h2, h5, Nat.mul_pos (by omega) this⟩
  | case3 fs n b c e off ih =>
    rintro ⟨h1, h2, h3, h5, h6, h7⟩ -
    exact ⟨h1, h2, h5, h6⟩
  | case4 => intro _ h; cases h
  | case5 => intro _ h; cases h
  | case6 => exact fun h _ => h.elim
/-- a chain of fields, their offsets not yet found -/
def CC (s : Mem) : Jvm.Term → Int → Nat → Nat → Nat → Prop
  | .div (.sub (.arg nm) (.arg bk)) (.rem t r), f, b, c, e => (c : Int) ≤ f ∧ f < e ∧ s 119 f.toNat = nm ∧ s 120 f.toNat = bk ∧ (nm < 26 ∧ bk ≤ 1) ∧ CT s true t (s 121 f.toNat) b c f.toNat 0 ∧ CC s r (s 123 f.toNat) b (f.toNat + 1) e
  | .null, f, _, _, _ => f = -1
  | _, _, _, _, _ => False
theorem CC_put {s s' : Mem} {b c e : Nat} {t : Jvm.Term} {n : Int} : CC s t n b c e → AY s s' b c e → CC s' t n b c e := by
  fun_induction CC s t n b c e with
  | case1 nm bk t r f b c e ih2 =>
    rintro ⟨h1, h2, h3, h4, h5, h7, h8⟩ g
    exact ⟨h1, h2, by rw [g _ _ (by omega), h3], by rw [g _ _ (by omega), h4], h5, by rw [g _ _ (by omega)]; exact CT_put h7 (g.sub (by omega) (by omega) (by omega)), by rw [g _ _ (by omega)]; exact ih2 h8 (g.sub (by omega) (by omega) (by omega))⟩
  | case2 => exact fun h _ => h
  | case3 => exact fun h _ => h.elim
theorem CC_wide {s : Mem} {b c e : Nat} {t : Jvm.Term} {n : Int} : ∀ {b' c' e' : Nat}, CC s t n b c e → b ≤ b' → c' ≤ c → e ≤ e' → CC s t n b' c' e' := by
  fun_induction CC s t n b c e with
  | case1 nm bk t r f b c e ih2 =>
    rintro b' c' e' ⟨h1, h2, h3, h4, h5, h7, h8⟩ g1 g2 g3
    exact ⟨by omega, by omega, h3, h4, h5, CT_wide h7 g1 g2 (Nat.le_refl _), ih2 h8 g1 (Nat.le_refl _) g3⟩
  | case2 => exact fun h _ _ _ => h
  | case3 => exact fun h _ _ _ => h.elim
def csz : Jvm.Term → Nat
  | .div _ (.rem t r) => min 25 (tsz t) + csz r
  | _ => 0
theorem csz_min {s : Mem} {b c e : Nat} {t : Jvm.Term} {n : Int} : CC s t n b c e → min 25 (csz t) = min 25 (tsz t) := by
  fun_induction CC s t n b c e with
  | case1 nm bk t r f b c e ih2 =>
    rintro ⟨h1, h2, h3, h4, h5, h7, h8⟩
    have := ih2 h8
    simp only [csz, tsz]
    omega
  | case2 => exact fun _ => rfl
  | case3 => exact fun h => h.elim
/-- a type is added -/
def tAdd (s : Mem) (M : Nat) (a p l : Int) (z : Nat) : Mem := mu (mu (mu (mu (mu s 115 M a) 116 M p) 117 M l) 118 M ((min 25 z : Nat) : Int)) 114 4 ((M : Int) + 1)
theorem k_tAdd {d M z : Nat} {a p l : Int} {s : Mem} (hd : 1 ≤ d) (hM : s 114 4 = M) (hM2 : M < 201) : Zc d 165 [aR 114, aI a, aI p, aI l, aI z] s = rI M (tAdd s M a p l z) := by
  obtain ⟨d, rfl⟩ : ∃ e, d = e + 1 := ⟨d - 1, by omega⟩
  have e : min (z : Int) 25 = ((min 25 z : Nat) : Int) := by omega
  unfold tAdd
  simp (disch := first | exact obC_114 | omega | (simp only [aN1_115, aN1_116, aN1_117, aN1_118]; omega) | (simp only [List.length_cons, List.length_nil]; omega)) only [en165, x165_0, x165_1, x165_4, x165_6, x165_7, x165_10, x165_12, x165_13, x165_14, x165_15, x165_18, x165_20, x165_21, x165_22, x165_23, x165_26, x165_28, x165_29, x165_30, x165_31, x165_34, x165_36, x165_38, x165_40, x165_43, x165_44, x165_45, x165_45i, x165_46, x165_49, x165_50, x165_51, x165_54, x165_56, fcn_114_0, fcn_114_1, fcn_114_2, fcn_114_3, if_true, if_false, eq_self, Int.reduceEq, Int.reduceLT, Int.reduceLE, Int.reduceAdd, Int.reduceSub, Int.reduceMul, Int.reduceToNat, Nat.reduceAdd, Nat.reduceMul, Nat.reduceEqDiff, Int.toNat_natCast, wrap_id, hM, mu_c, mu_i, mu_s, e]
theorem k_addGround {d M : Nat} {w : Int} {s : Mem} (hd : 2 ≤ d) (hM : s 114 4 = M) (hM2 : M < 201) : Zc d 162 [aR 114, aI w] s = rI M (tAdd s M 0 w 0 1) := by
  obtain ⟨d, rfl⟩ : ∃ e, d = e + 1 := ⟨d - 1, by omega⟩
  have g := k_tAdd (d := d) (z := 1) (a := 0) (p := w) (l := 0) (by omega) hM hM2
  have z1 : ((1 : Nat) : Int) = 1 := rfl
  rw [z1] at g
  simp (disch := first | exact obC_114 | omega | (simp only [List.length_cons, List.length_nil]; omega)) only [en162, x162_0, x162_1, x162_2, x162_3, x162_4, x162_5, x162_8, if_true, if_false, eq_self, Int.reduceEq, Int.reduceLT, Int.reduceLE, Int.reduceAdd, Int.reduceSub, Int.reduceMul, Int.reduceToNat, Nat.reduceAdd, Nat.reduceMul, Nat.reduceEqDiff, Int.toNat_natCast, wrap_id, g, zcI_r]
theorem k_addVector {d M n k z : Nat} {s : Mem} (hd : 2 ≤ d) (hM : s 114 4 = M) (hM2 : M < 201) (hn : n < 201) (hz : s 118 n = ((min 25 z : Nat) : Int)) (hk : 1 ≤ k ∧ k ≤ 4) : Zc d 163 [aR 114, aI n, aI k] s = rI M (tAdd s M 2 n k (k * z)) := by
  obtain ⟨d, rfl⟩ : ∃ e, d = e + 1 := ⟨d - 1, by omega⟩
  have e : ((min 25 z : Nat) : Int) * (k : Int) = ((min 25 z * k : Nat) : Int) := by rw [Int.natCast_mul]
  have g := k_tAdd (d := d) (z := min 25 z * k) (a := 2) (p := n) (l := k) (by omega) hM hM2
  have hb : min 25 z * k ≤ 100 := by
    have : min 25 z * k ≤ 25 * 4 := Nat.mul_le_mul (by omega) hk.2
    omega
  have e2 : tAdd s M 2 n k (min 25 z * k) = tAdd s M 2 n k (k * z) := by
    unfold tAdd
    have : min 25 (min 25 z * k) = min 25 (k * z) := by
      rcases (by omega : k = 1 ∨ k = 2 ∨ k = 3 ∨ k = 4) with rfl | rfl | rfl | rfl <;> omega
    rw [this]
  rw [e2] at g
  simp (disch := first | exact obC_114 | omega | (simp only [aN1_118]; omega) | (simp only [List.length_cons, List.length_nil]; omega)) only [en163, x163_0, x163_1, x163_2, x163_3, x163_4, x163_5, x163_8, x163_9, x163_10, x163_11, x163_12, x163_15, fcn_114_3, if_true, if_false, eq_self, Int.reduceEq, Int.reduceLT, Int.reduceLE, Int.reduceAdd, Int.reduceSub, Int.reduceMul, Int.reduceToNat, Nat.reduceAdd, Nat.reduceMul, Nat.reduceEqDiff, Int.toNat_natCast, wrap_id, hz, e, g, zcI_r]
theorem bl_loop {d C : Nat} {fst : Int} (hC : C ≤ 200) : ∀ (m : Nat) (fs : Jvm.Term) (f : Int) (b c e off i : Nat) (s : Mem), tnz fs ≤ m → CC s fs f b c e → e ≤ C → c ≤ C → i ≤ c → b ≤ 201 → off ≤ 25 * c → s 114 10 = C →
    ∃ (s' : Mem) (l4 : AV), Ze d 164 7 [aR 114, aI fst, aI off, aI f, aI i] [] s = Ze d 164 55 [aR 114, aI fst, aI ((off + csz fs : Nat) : Int), aI (-1), l4] [] s' ∧ CT s' false fs f b c e off ∧ off + csz fs ≤ 25 * C ∧ Fr (fun k j => k = 122 ∧ c ≤ j ∧ j < e) s s' := by
  intro m
  induction m with
  | zero =>
    intro fs f b c e off i s hm
    have : 1 ≤ tnz fs := by unfold tnz; split <;> omega
    omega
  | succ m ih =>
    intro fs f b c e off i s hm h he hcC hi hb ho hf
    rw [x164_7]
    unfold CC at h
    split at h
    next nm bk t r =>
      obtain ⟨h1, h2, h3, h4, h5, h7, h8⟩ := h
      obtain ⟨g, rfl⟩ : ∃ g : Nat, f = g := ⟨f.toNat, by omega⟩
      rw [Int.toNat_natCast] at *
      obtain ⟨z1, z2, z3, z4⟩ := CT_size h7 rfl
      obtain ⟨q, hq⟩ : ∃ q : Nat, s 121 g = q := ⟨(s 121 g).toNat, by omega⟩
      rw [hq, Int.toNat_natCast] at z3
      rw [hq] at z2
      have hof : ((off + min 25 (tsz t) : Nat) : Int) = (off : Int) + ((min 25 (tsz t) : Nat) : Int) := rfl
      have e0 : Ze d 164 9 [aR 114, aI fst, aI off, aI g, aI i] [aI i] s = Ze d 164 7 [aR 114, aI fst, aI ((off + min 25 (tsz t) : Nat) : Int), aI (s 123 g), aI ((i + 1 : Nat) : Int)] [] (mu s 122 g off) := by
        rw [hof, show ((i + 1 : Nat) : Int) = (i : Int) + 1 from rfl]
        simp (disch := first | exact obC_114 | omega | (simp only [aN1_118, aN1_121, aN1_122, aN1_123]; omega) | (simp only [List.length_cons, List.length_nil]; omega)) only [en164, x164_0, x164_1, x164_2, x164_3, x164_4, x164_5, x164_9, x164_10, x164_13, x164_16, x164_17, x164_18, x164_21, x164_22, x164_25, x164_26, x164_27, x164_28, x164_29, x164_30, x164_33, x164_34, x164_37, x164_38, x164_39, x164_40, x164_41, x164_42, x164_43, x164_46, x164_47, x164_48, x164_49, x164_52, x164_56, x164_57, x164_58, x164_59, x164_60, x164_63, fcn_114_3, fcn_114_7, fcn_114_8, fcn_114_9, if_true, if_false, eq_self, Int.reduceEq, Int.reduceLT, Int.reduceLE, Int.reduceAdd, Int.reduceSub, Int.reduceMul, Int.reduceToNat, Nat.reduceAdd, Nat.reduceMul, Nat.reduceEqDiff, Int.toNat_natCast, wrap_id, hf, if_pos (show (i : Int) < C by omega), if_neg (show ¬ (g : Int) = -1 by omega), mu_c, hq, z3]
      have A : AY s (mu s 122 g off) b (g + 1) e := fun k j hk => by
        by_cases e : j = g
        · exact mu_c (by omega)
        · exact mu_i e
      obtain ⟨s', l4, i1, i2, i3, i4⟩ := ih r (s 123 g) b (g + 1) e (off + min 25 (tsz t)) (i + 1) (mu s 122 g off) (by simp only [tnz] at hm; omega) (CC_put h8 A) he (by omega) (by omega) hb (by omega) (by rw [mu_c (by decide), hf])
      rw [e0, i1]
      have A2 : AY s s' b c g := fun k j hk => by
        rw [i4 _ _ (by omega)]
        by_cases e : k = 122
        · exact mu_i (by omega)
        · exact mu_c e
      have hk' : ∀ k, k ≠ 122 → s' k g = s k g := fun k hk => by rw [i4 _ _ (by omega), mu_c hk]
      refine ⟨s', l4, ?_, ?_, ?_, ?_⟩
      · simp only [csz]
        rw [Nat.add_assoc]
      · refine ⟨h1, h2, ?_, ?_, h5, ?_, ?_, ?_⟩
        · rw [Int.toNat_natCast, hk' _ (by decide), h3]
        · rw [Int.toNat_natCast, hk' _ (by decide), h4]
        · rw [Int.toNat_natCast, i4 _ _ (by omega), mu_s]
        · rw [Int.toNat_natCast, hk' _ (by decide)]
          rw [hq] at h7 ⊢
          exact CT_put h7 A2
        · rw [Int.toNat_natCast, hk' _ (by decide)]
          exact i2
      · simp only [csz]
        omega
      · exact ((Fr.rf s).mu (by omega)).tr (i4.mono (fun k j h => by omega))
    next =>
      subst h
      refine ⟨s, aI i, ?_, rfl, by simp only [csz]; omega, Fr.rf s⟩
      simp only [csz]
      rw [Nat.add_zero]
      by_cases hiC : (i : Int) < C
      · simp (disch := first | exact obC_114 | omega | (simp only [aN1_118, aN1_121, aN1_122, aN1_123]; omega) | (simp only [List.length_cons, List.length_nil]; omega)) only [en164, x164_0, x164_1, x164_2, x164_3, x164_4, x164_5, x164_9, x164_10, x164_13, x164_16, x164_17, x164_18, x164_21, x164_22, x164_25, x164_26, x164_27, x164_28, x164_29, x164_30, x164_33, x164_34, x164_37, x164_38, x164_39, x164_40, x164_41, x164_42, x164_43, x164_46, x164_47, x164_48, x164_49, x164_52, x164_56, x164_57, x164_58, x164_59, x164_60, x164_63, fcn_114_3, fcn_114_7, fcn_114_8, fcn_114_9, if_true, if_false, eq_self, Int.reduceEq, Int.reduceLT, Int.reduceLE, Int.reduceAdd, Int.reduceSub, Int.reduceMul, Int.reduceToNat, Nat.reduceAdd, Nat.reduceMul, Nat.reduceEqDiff, Int.toNat_natCast, wrap_id, hf, if_pos hiC]
      · simp (disch := first | exact obC_114 | omega | (simp only [aN1_118, aN1_121, aN1_122, aN1_123]; omega) | (simp only [List.length_cons, List.length_nil]; omega)) only [en164, x164_0, x164_1, x164_2, x164_3, x164_4, x164_5, x164_9, x164_10, x164_13, x164_16, x164_17, x164_18, x164_21, x164_22, x164_25, x164_26, x164_27, x164_28, x164_29, x164_30, x164_33, x164_34, x164_37, x164_38, x164_39, x164_40, x164_41, x164_42, x164_43, x164_46, x164_47, x164_48, x164_49, x164_52, x164_56, x164_57, x164_58, x164_59, x164_60, x164_63, fcn_114_3, fcn_114_7, fcn_114_8, fcn_114_9, if_true, if_false, eq_self, Int.reduceEq, Int.reduceLT, Int.reduceLE, Int.reduceAdd, Int.reduceSub, Int.reduceMul, Int.reduceToNat, Nat.reduceAdd, Nat.reduceMul, Nat.reduceEqDiff, Int.toNat_natCast, wrap_id, hf, if_neg hiC]
    next => exact h.elim
theorem tAdd_at {s : Mem} {M z : Nat} {a p l : Int} : tAdd s M a p l z 115 M = a ∧ tAdd s M a p l z 116 M = p ∧ tAdd s M a p l z 117 M = l ∧ tAdd s M a p l z 118 M = ((min 25 z : Nat) : Int) ∧ tAdd s M a p l z 114 4 = ((M + 1 : Nat) : Int) ∧ (∀ k j, (k < 114 ∨ 118 < k ∨ (k = 114 ∧ j ≠ 4) ∨ (114 < k ∧ j ≠ M)) → tAdd s M a p l z k j = s k j) := by
  unfold tAdd
  refine ⟨?_, ?_, ?_, ?_, ?_, fun k j h => ?_⟩
  · rw [mu_c (by decide), mu_c (by decide), mu_c (by decide), mu_c (by decide), mu_s]
  · rw [mu_c (by decide), mu_c (by decide), mu_c (by decide), mu_s]
  · rw [mu_c (by decide), mu_c (by decide), mu_s]
  · rw [mu_c (by decide), mu_s]
  · rw [mu_s]
    rfl
  · by_cases e : k < 114 ∨ 118 < k
    · rw [mu_c (by omega), mu_c (by omega), mu_c (by omega), mu_c (by omega), mu_c (by omega)]
    · by_cases e2 : k = 114
      · rw [mu_i (by omega), mu_c (by omega), mu_c (by omega), mu_c (by omega), mu_c (by omega)]
      · rw [mu_c (by omega), mu_i (by omega), mu_i (by omega), mu_i (by omega), mu_i (by omega)]
/-- what reading a type writes -/
def YF (M C k j : Nat) : Prop := (k = 131 ∧ j = 4) ∨ (k = 114 ∧ (j = 4 ∨ j = 10)) ∨ (115 ≤ k ∧ k ≤ 118 ∧ M ≤ j) ∨ (119 ≤ k ∧ k ≤ 123 ∧ C ≤ j)
def YFX (M C k j : Nat) : Prop := YF M C k j ∨ (k = 131 ∧ j = 5)
theorem YF_X {M C k j : Nat} (h : YF M C k j) : YFX M C k j := Or.inl h
theorem YF_le {M C M' C' k j : Nat} (h1 : M ≤ M') (h2 : C ≤ C') (h : YF M' C' k j) : YF M C k j := by
  rcases h with h | h | h | h
  · exact Or.inl h
  · exact Or.inr (Or.inl h)
  · exact Or.inr (Or.inr (Or.inl ⟨h.1, h.2.1, by omega⟩))
  · exact Or.inr (Or.inr (Or.inr ⟨h.1, h.2.1, by omega⟩))
theorem YFX_le {M C M' C' k j : Nat} (h1 : M ≤ M') (h2 : C ≤ C') (h : YFX M' C' k j) : YFX M C k j := h.elim (fun h => Or.inl (YF_le h1 h2 h)) Or.inr
theorem NX_YF {M C k j : Nat} (h : NX k j) : YF M C k j := Or.inl h
theorem NF_YFX {M C k j : Nat} (h : NF k j) : YFX M C k j := Or.inr h
theorem YFX_no {M C : Nat} : (∀ q j, q = 112 ∨ q = 111 ∨ q = 113 → ¬ YFX M C q j) ∧ ¬ YFX M C 131 3 := by
  unfold YFX YF
  refine ⟨fun q j hq => ?_, ?_⟩ <;> omega
theorem KS_Y {s s' : Mem} {T : Tx} {u o k k' M C : Nat} (h : KS s T u o k) (f : Fr (YFX M C) s s') (h3 : s' 131 4 = k') (h4 : k' ≤ u) : KS s' T u o k' :=
  KS_put h f YFX_no.1 YFX_no.2 h3 h4
theorem tAdd_fr {s : Mem} {M m z C : Nat} {a p l : Int} (h : M ≤ m) : Fr (YF M C) s (tAdd s m a p l z) := by
  unfold tAdd
  exact (((((Fr.rf s).mu (Or.inr (Or.inr (Or.inl ⟨by omega, by omega, h⟩)))).mu (Or.inr (Or.inr (Or.inl ⟨by omega, by omega, h⟩)))).mu (Or.inr (Or.inr (Or.inl ⟨by omega, by omega, h⟩)))).mu (Or.inr (Or.inr (Or.inl ⟨by omega, by omega, h⟩)))).mu (Or.inr (Or.inl ⟨rfl, Or.inl rfl⟩))
theorem k_addBundle {d M C b c : Nat} {fs : Jvm.Term} {f : Int} {s : Mem} (hd : 2 ≤ d) (hM : s 114 4 = M) (hM2 : M < 201) (hC : s 114 10 = C) (hC2 : C ≤ 200) (h : CC s fs f b c C) (hbM : b ≤ M) (hcC : c ≤ C) (hfs : 1 ≤ tsz fs) :
    ∃ s', Zc d 164 [aR 114, aI f] s = rI M s' ∧ CT s' true (tB fs) M (M + 1) c C 0 ∧ s' 114 4 = ((M + 1 : Nat) : Int) ∧ s' 114 10 = C ∧ s' 131 4 = s 131 4 ∧ Fr (YF M c) s s' := by
  obtain ⟨d, rfl⟩ : ∃ e, d = e + 1 := ⟨d - 1, by omega⟩
  have e0 : Zc (d + 1) 164 [aR 114, aI f] s = Ze d 164 7 [aR 114, aI f, aI ((0 : Nat) : Int), aI f, aI ((0 : Nat) : Int)] [] s := by
    have z0 : ((0 : Nat) : Int) = 0 := rfl
    simp (disch := first | exact obC_114 | omega | (simp only [aN1_118, aN1_121, aN1_122, aN1_123]; omega) | (simp only [List.length_cons, List.length_nil]; omega)) only [en164, x164_0, x164_1, x164_2, x164_3, x164_4, x164_5, x164_9, x164_10, x164_13, x164_16, x164_17, x164_18, x164_21, x164_22, x164_25, x164_26, x164_27, x164_28, x164_29, x164_30, x164_33, x164_34, x164_37, x164_38, x164_39, x164_40, x164_41, x164_42, x164_43, x164_46, x164_47, x164_48, x164_49, x164_52, x164_55, x164_56, x164_57, x164_58, x164_59, x164_60, x164_63, fcn_114_3, fcn_114_7, fcn_114_8, fcn_114_9, if_true, if_false, eq_self, Int.reduceEq, Int.reduceLT, Int.reduceLE, Int.reduceAdd, Int.reduceSub, Int.reduceMul, Int.reduceToNat, Nat.reduceAdd, Nat.reduceMul, Nat.reduceEqDiff, Int.toNat_natCast, wrap_id, z0]
  obtain ⟨s', l4, i1, i2, i3, i4⟩ := bl_loop (d := d) (fst := f) hC2 (tnz fs) fs f b c C 0 0 s (Nat.le_refl _) h (Nat.le_refl _) hcC (Nat.zero_le _) (by omega) (Nat.zero_le _) hC
  rw [Nat.zero_add] at i1 i3
  have hM' : s' 114 4 = M := by rw [i4 _ _ (by omega), hM]
  have g := k_tAdd (d := d) (z := csz fs) (a := 1) (p := f) (l := 0) (by omega) hM' hM2
  obtain ⟨a1, a2, a3, a4, a5, a6⟩ := tAdd_at (s := s') (M := M) (z := csz fs) (a := 1) (p := f) (l := 0)
  refine ⟨tAdd s' M 1 f 0 (csz fs), ?_, ⟨by omega, by omega, ?_, ?_, hfs, ?_⟩, a5, ?_, ?_, ?_⟩
  · rw [e0, i1]
    simp (disch := first | exact obC_114 | omega | (simp only [aN1_118, aN1_121, aN1_122, aN1_123]; omega) | (simp only [List.length_cons, List.length_nil]; omega)) only [en164, x164_0, x164_1, x164_2, x164_3, x164_4, x164_5, x164_9, x164_10, x164_13, x164_16, x164_17, x164_18, x164_21, x164_22, x164_25, x164_26, x164_27, x164_28, x164_29, x164_30, x164_33, x164_34, x164_37, x164_38, x164_39, x164_40, x164_41, x164_42, x164_43, x164_46, x164_47, x164_48, x164_49, x164_52, x164_55, x164_56, x164_57, x164_58, x164_59, x164_60, x164_63, fcn_114_3, fcn_114_7, fcn_114_8, fcn_114_9, if_true, if_false, eq_self, Int.reduceEq, Int.reduceLT, Int.reduceLE, Int.reduceAdd, Int.reduceSub, Int.reduceMul, Int.reduceToNat, Nat.reduceAdd, Nat.reduceMul, Nat.reduceEqDiff, Int.toNat_natCast, wrap_id, g, zcI_r]
  · rw [Int.toNat_natCast, a1]
  · rw [Int.toNat_natCast, a4, csz_min h]
  · rw [Int.toNat_natCast, a2]
    exact CT_wide (CT_put i2 (fun k j hk => a6 _ _ (by omega))) hbM (Nat.le_refl _) (Nat.le_refl _)
  · rw [a6 _ _ (by omega), i4 _ _ (by omega), hC]
  · rw [a6 _ _ (by omega), i4 _ _ (by omega)]
  · exact (i4.mono (fun k j h => Or.inr (Or.inr (Or.inr (by omega))))).tr (tAdd_fr (Nat.le_refl _))
