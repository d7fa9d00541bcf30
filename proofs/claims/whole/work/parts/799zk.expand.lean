/-! THE CLASS: ground signals are added -/
noncomputable def skI (k f : Nat) : Int := @ite _ (isSk k f) (Classical.propDecidable _) 1 0
theorem skI_01 {k f : Nat} : skI k f = 0 ∨ skI k f = 1 := by unfold skI; split <;> simp
theorem k_isSink {d k f : Nat} {s : Mem} (hd : 1 ≤ d) (hf : f ≤ 1) : Zc d 144 [aI k, aI f] s = rI (skI k f) s := by
  obtain ⟨d, rfl⟩ : ∃ e, d = e + 1 := ⟨d - 1, by omega⟩
  have hf2 : ((f : Nat) : Int) = 0 ∨ ((f : Nat) : Int) = 1 := by omega
  unfold skI isSk
  by_cases h0 : k = 0
  · subst h0
    have z0 : ((0 : Nat) : Int) = 0 := rfl
    by_cases h1 : f = 1
    · subst h1
      have z1 : ((1 : Nat) : Int) = 1 := rfl
      rw [if_pos (by omega)]
      simp (disch := first | exact obC_0 | omega | (simp only [List.length_cons, List.length_nil]; omega)) only [en144, x144_0, x144_1, x144_4, x144_5, x144_6, x144_7, x144_8, x144_11, x144_12, x144_15, x144_16, x144_19, x144_20, x144_21, x144_22, x144_23, x144_26, x144_27, x144_28, x144_31, x144_32, x144_35, x144_36, if_true, if_false, eq_self, Int.reduceEq, Int.reduceLT, Int.reduceLE, Int.reduceAdd, Int.reduceSub, Int.reduceMul, Int.reduceToNat, Nat.reduceAdd, Nat.reduceMul, Nat.reduceEqDiff, Int.toNat_natCast, wrap_id, z0, z1]
    · have h1' : f = 0 := by omega
      subst h1'
      rw [if_neg (by omega)]
      simp (disch := first | exact obC_0 | omega | (simp only [List.length_cons, List.length_nil]; omega)) only [en144, x144_0, x144_1, x144_4, x144_5, x144_6, x144_7, x144_8, x144_11, x144_12, x144_15, x144_16, x144_19, x144_20, x144_21, x144_22, x144_23, x144_26, x144_27, x144_28, x144_31, x144_32, x144_35, x144_36, if_true, if_false, eq_self, Int.reduceEq, Int.reduceLT, Int.reduceLE, Int.reduceAdd, Int.reduceSub, Int.reduceMul, Int.reduceToNat, Nat.reduceAdd, Nat.reduceMul, Nat.reduceEqDiff, Int.toNat_natCast, wrap_id, z0]
  · by_cases h1 : k = 1
    · subst h1
      have z1 : ((1 : Nat) : Int) = 1 := rfl
      by_cases h2 : f = 1
      · subst h2
        rw [if_neg (by omega)]
        simp (disch := first | exact obC_0 | omega | (simp only [List.length_cons, List.length_nil]; omega)) only [en144, x144_0, x144_1, x144_4, x144_5, x144_6, x144_7, x144_8, x144_11, x144_12, x144_15, x144_16, x144_19, x144_20, x144_21, x144_22, x144_23, x144_26, x144_27, x144_28, x144_31, x144_32, x144_35, x144_36, if_true, if_false, eq_self, Int.reduceEq, Int.reduceLT, Int.reduceLE, Int.reduceAdd, Int.reduceSub, Int.reduceMul, Int.reduceToNat, Nat.reduceAdd, Nat.reduceMul, Nat.reduceEqDiff, Int.toNat_natCast, wrap_id, z1, if_neg (show ¬ (1 : Int) = 0 by decide)]
      · have h2' : f = 0 := by omega
        subst h2'
        have z0 : ((0 : Nat) : Int) = 0 := rfl
        rw [if_pos (by omega)]
        simp (disch := first | exact obC_0 | omega | (simp only [List.length_cons, List.length_nil]; omega)) only [en144, x144_0, x144_1, x144_4, x144_5, x144_6, x144_7, x144_8, x144_11, x144_12, x144_15, x144_16, x144_19, x144_20, x144_21, x144_22, x144_23, x144_26, x144_27, x144_28, x144_31, x144_32, x144_35, x144_36, if_true, if_false, eq_self, Int.reduceEq, Int.reduceLT, Int.reduceLE, Int.reduceAdd, Int.reduceSub, Int.reduceMul, Int.reduceToNat, Nat.reduceAdd, Nat.reduceMul, Nat.reduceEqDiff, Int.toNat_natCast, wrap_id, z1, z0, if_neg (show ¬ (1 : Int) = 0 by decide)]
    · by_cases h2 : k = 2
      · subst h2
        have z2 : ((2 : Nat) : Int) = 2 := rfl
        rw [if_pos (by omega)]
        simp (disch := first | exact obC_0 | omega | (simp only [List.length_cons, List.length_nil]; omega)) only [en144, x144_0, x144_1, x144_4, x144_5, x144_6, x144_7, x144_8, x144_11, x144_12, x144_15, x144_16, x144_19, x144_20, x144_21, x144_22, x144_23, x144_26, x144_27, x144_28, x144_31, x144_32, x144_35, x144_36, if_true, if_false, eq_self, Int.reduceEq, Int.reduceLT, Int.reduceLE, Int.reduceAdd, Int.reduceSub, Int.reduceMul, Int.reduceToNat, Nat.reduceAdd, Nat.reduceMul, Nat.reduceEqDiff, Int.toNat_natCast, wrap_id, z2, if_neg (show ¬ (2 : Int) = 0 by decide), if_neg (show ¬ (2 : Int) = 1 by decide)]
      · by_cases h3 : k = 3
        · subst h3
          have z3 : ((3 : Nat) : Int) = 3 := rfl
          rw [if_pos (by omega)]
          simp (disch := first | exact obC_0 | omega | (simp only [List.length_cons, List.length_nil]; omega)) only [en144, x144_0, x144_1, x144_4, x144_5, x144_6, x144_7, x144_8, x144_11, x144_12, x144_15, x144_16, x144_19, x144_20, x144_21, x144_22, x144_23, x144_26, x144_27, x144_28, x144_31, x144_32, x144_35, x144_36, if_true, if_false, eq_self, Int.reduceEq, Int.reduceLT, Int.reduceLE, Int.reduceAdd, Int.reduceSub, Int.reduceMul, Int.reduceToNat, Nat.reduceAdd, Nat.reduceMul, Nat.reduceEqDiff, Int.toNat_natCast, wrap_id, z3, if_neg (show ¬ (3 : Int) = 0 by decide), if_neg (show ¬ (3 : Int) = 1 by decide)]
        · rw [if_neg (by omega)]
          simp (disch := first | exact obC_0 | omega | (simp only [List.length_cons, List.length_nil]; omega)) only [en144, x144_0, x144_1, x144_4, x144_5, x144_6, x144_7, x144_8, x144_11, x144_12, x144_15, x144_16, x144_19, x144_20, x144_21, x144_22, x144_23, x144_26, x144_27, x144_28, x144_31, x144_32, x144_35, x144_36, if_true, if_false, eq_self, Int.reduceEq, Int.reduceLT, Int.reduceLE, Int.reduceAdd, Int.reduceSub, Int.reduceMul, Int.reduceToNat, Nat.reduceAdd, Nat.reduceMul, Nat.reduceEqDiff, Int.toNat_natCast, wrap_id, if_neg (show ¬ (k : Int) = 0 by omega), if_neg (show ¬ (k : Int) = 1 by omega), if_neg (show ¬ (k : Int) = 2 by omega), if_neg (show ¬ (k : Int) = 3 by omega)]
def grI (k w : Nat) : Int := if w = 0 ∧ ¬ k = 4 then 1 else 0
noncomputable def gAdd (s : Mem) (o u k nm w f : Nat) : Mem := mu (mu (mu (mu (mu (mu (mu s (60 + o) u k) (61 + o) u nm) (62 + o) u w) (63 + o) u f) (64 + o) u (skI k f)) (65 + o) u (grI k w)) (59 + o) 6 ((u : Int) + 1)
theorem k_gAdd {d o u k nm w f : Nat} {s : Mem} (hd : 2 ≤ d) (ho : o = 0 ∨ o = 26) (hu : s (59 + o) 6 = u) (hu2 : u < 24) (hf : f ≤ 1) : Zc d 143 [aR (59 + o), aI k, aI nm, aI w, aI f] s = rV (gAdd s o u k nm w f) := by
  obtain ⟨d, rfl⟩ : ∃ e, d = e + 1 := ⟨d - 1, by omega⟩
  have hs := fun s => k_isSink (d := d) (k := k) (f := f) (s := s) (by omega) hf
  have h01 := skI_01 (k := k) (f := f)
  unfold gAdd grI
  by_cases hw : w = 0
  · by_cases hk : k = 4
    · rw [if_neg (by omega)]
      have hk' : (k : Int) = 4 := by omega
      simp (disch := first | exact (obCO_59 ho) | omega | (simp only [(aN1O_60 ho), (aN1O_61 ho), (aN1O_62 ho), (aN2O_63 ho), (aN2O_64 ho), (aN2O_65 ho)]; omega) | (simp only [List.length_cons, List.length_nil]; omega)) only [en143, x143_0, x143_1, x143_4, x143_5, x143_8, x143_9, x143_10, x143_11, x143_14, x143_15, x143_18, x143_19, x143_20, x143_21, x143_24, x143_25, x143_28, x143_29, x143_30, x143_31, x143_34, x143_35, x143_38, x143_40, x143_41, x143_42, x143_45, x143_46, x143_49, x143_50, x143_52, x143_55, x143_56, x143_57, x143_60, x143_61, x143_64, x143_65, x143_68, x143_69, x143_70, x143_73, x143_74, x143_77, x143_78, x143_79, x143_80, x143_80i, x143_81, x143_84, x143_85, x143_86, x143_89, (fcnO_59_0 ho), (fcnO_59_1 ho), (fcnO_59_2 ho), (fcnO_59_3 ho), (fcnO_59_4 ho), (fcnO_59_5 ho), if_true, if_false, eq_self, Int.reduceEq, Int.reduceLT, Int.reduceLE, Int.reduceAdd, Int.reduceSub, Int.reduceMul, Int.reduceToNat, Nat.reduceAdd, Nat.reduceMul, Nat.reduceEqDiff, Int.toNat_natCast, wrap_id, hu, mu_c, mu_i, mu_s, hs, zcI_r, if_pos (show (w : Int) = 0 by omega), if_pos hk']
    · rw [if_pos ⟨hw, hk⟩]
      simp (disch := first | exact (obCO_59 ho) | omega | (simp only [(aN1O_60 ho), (aN1O_61 ho), (aN1O_62 ho), (aN2O_63 ho), (aN2O_64 ho), (aN2O_65 ho)]; omega) | (simp only [List.length_cons, List.length_nil]; omega)) only [en143, x143_0, x143_1, x143_4, x143_5, x143_8, x143_9, x143_10, x143_11, x143_14, x143_15, x143_18, x143_19, x143_20, x143_21, x143_24, x143_25, x143_28, x143_29, x143_30, x143_31, x143_34, x143_35, x143_38, x143_40, x143_41, x143_42, x143_45, x143_46, x143_49, x143_50, x143_52, x143_55, x143_56, x143_57, x143_60, x143_61, x143_64, x143_65, x143_68, x143_69, x143_70, x143_73, x143_74, x143_77, x143_78, x143_79, x143_80, x143_80i, x143_81, x143_84, x143_85, x143_86, x143_89, (fcnO_59_0 ho), (fcnO_59_1 ho), (fcnO_59_2 ho), (fcnO_59_3 ho), (fcnO_59_4 ho), (fcnO_59_5 ho), if_true, if_false, eq_self, Int.reduceEq, Int.reduceLT, Int.reduceLE, Int.reduceAdd, Int.reduceSub, Int.reduceMul, Int.reduceToNat, Nat.reduceAdd, Nat.reduceMul, Nat.reduceEqDiff, Int.toNat_natCast, wrap_id, hu, mu_c, mu_i, mu_s, hs, zcI_r, if_pos (show (w : Int) = 0 by omega), if_neg (show ¬ (k : Int) = 4 by omega)]
  · rw [if_neg (fun z => hw z.1)]
    simp (disch := first | exact (obCO_59 ho) | omega | (simp only [(aN1O_60 ho), (aN1O_61 ho), (aN1O_62 ho), (aN2O_63 ho), (aN2O_64 ho), (aN2O_65 ho)]; omega) | (simp only [List.length_cons, List.length_nil]; omega)) only [en143, x143_0, x143_1, x143_4, x143_5, x143_8, x143_9, x143_10, x143_11, x143_14, x143_15, x143_18, x143_19, x143_20, x143_21, x143_24, x143_25, x143_28, x143_29, x143_30, x143_31, x143_34, x143_35, x143_38, x143_40, x143_41, x143_42, x143_45, x143_46, x143_49, x143_50, x143_52, x143_55, x143_56, x143_57, x143_60, x143_61, x143_64, x143_65, x143_68, x143_69, x143_70, x143_73, x143_74, x143_77, x143_78, x143_79, x143_80, x143_80i, x143_81, x143_84, x143_85, x143_86, x143_89, (fcnO_59_0 ho), (fcnO_59_1 ho), (fcnO_59_2 ho), (fcnO_59_3 ho), (fcnO_59_4 ho), (fcnO_59_5 ho), if_true, if_false, eq_self, Int.reduceEq, Int.reduceLT, Int.reduceLE, Int.reduceAdd, Int.reduceSub, Int.reduceMul, Int.reduceToNat, Nat.reduceAdd, Nat.reduceMul, Nat.reduceEqDiff, Int.toNat_natCast, wrap_id, hu, mu_c, mu_i, mu_s, hs, zcI_r, if_neg (show ¬ (w : Int) = 0 by omega)]
/-- a ground signal as the class has it: kind, name, flipped, the width that is said -/
def SGc (s : Mem) (o i : Nat) (x : Nat × Nat × Nat × Nat) : Prop := s (60 + o) i = x.1 ∧ s (61 + o) i = x.2.1 ∧ s (63 + o) i = x.2.2.1 ∧ s (62 + o) i = x.2.2.2 ∧ s (64 + o) i = skI x.1 x.2.2.1 ∧ s (65 + o) i = grI x.1 x.2.2.2
/-- the signals from a up to b are added -/
def SGF (o a b k j : Nat) : Prop := (k = 59 + o ∧ j = 6) ∨ (60 + o ≤ k ∧ k ≤ 65 + o ∧ a ≤ j ∧ j < b)
theorem SGF_le {o a b a' b' k j : Nat} (h1 : a ≤ a') (h2 : b' ≤ b) (h : SGF o a' b' k j) : SGF o a b k j := h.imp id (fun h => ⟨h.1, h.2.1, by have := h.2.2.1; omega, by have := h.2.2.2; omega⟩)
theorem gAdd_fr {o u k nm w f : Nat} {s : Mem} : Fr (SGF o u (u + 1)) s (gAdd s o u k nm w f) := by
  unfold gAdd
  exact (((((((Fr.rf s).mu (Or.inr ⟨by omega, by omega, by omega, by omega⟩)).mu (Or.inr ⟨by omega, by omega, by omega, by omega⟩)).mu (Or.inr ⟨by omega, by omega, by omega, by omega⟩)).mu (Or.inr ⟨by omega, by omega, by omega, by omega⟩)).mu (Or.inr ⟨by omega, by omega, by omega, by omega⟩)).mu (Or.inr ⟨by omega, by omega, by omega, by omega⟩)).mu (Or.inl ⟨rfl, rfl⟩)
theorem gAdd_at {o u k nm w f : Nat} {s : Mem} : SGc (gAdd s o u k nm w f) o u (k, nm, f, w) ∧ gAdd s o u k nm w f (59 + o) 6 = ((u + 1 : Nat) : Int) := by
  unfold gAdd
  refine ⟨⟨?_, ?_, ?_, ?_, ?_, ?_⟩, ?_⟩
  · rw [mu_c (by omega), mu_c (by omega), mu_c (by omega), mu_c (by omega), mu_c (by omega), mu_c (by omega), mu_s]
  · rw [mu_c (by omega), mu_c (by omega), mu_c (by omega), mu_c (by omega), mu_c (by omega), mu_s]
  · rw [mu_c (by omega), mu_c (by omega), mu_c (by omega), mu_s]
  · rw [mu_c (by omega), mu_c (by omega), mu_c (by omega), mu_c (by omega), mu_s]
  · rw [mu_c (by omega), mu_c (by omega), mu_s]
  · rw [mu_c (by omega), mu_s]
  · rw [mu_s]
    rfl
/-- the list l of widths and ~ has been added behind b -/
def EXL (o b k nm : Nat) (l : List (Nat × Nat)) (s s' : Mem) : Prop := s' (59 + o) 6 = ((b + l.length : Nat) : Int) ∧ (∀ i x, l[i]? = some x → SGc s' o (b + i) (k, nm, x.2 % 2, x.1)) ∧ Fr (SGF o b (b + l.length)) s s'
theorem SGc_put {s s' : Mem} {o i : Nat} {x : Nat × Nat × Nat × Nat} (h : SGc s o i x) (g : ∀ k, 60 ≤ k → k ≤ 65 → s' (k + o) i = s (k + o) i) : SGc s' o i x := by
  obtain ⟨h1, h2, h3, h4, h5, h6⟩ := h
  exact ⟨by rw [g _ (by decide) (by decide), h1], by rw [g _ (by decide) (by decide), h2], by rw [g _ (by decide) (by decide), h3], by rw [g _ (by decide) (by decide), h4], by rw [g _ (by decide) (by decide), h5], by rw [g _ (by decide) (by decide), h6]⟩
theorem EXL_nil {o b k nm : Nat} {s : Mem} (h : s (59 + o) 6 = b) : EXL o b k nm [] s s := ⟨by rw [h]; rfl, fun i x hx => by simp at hx, Fr.rf s⟩
theorem EXL_app {o b k nm : Nat} {l l' : List (Nat × Nat)} {s s1 s2 : Mem} (h1 : EXL o b k nm l s s1) (h2 : EXL o (b + l.length) k nm l' s1 s2) : EXL o b k nm (l ++ l') s s2 := by
  obtain ⟨a1, a2, a3⟩ := h1
  obtain ⟨b1, b2, b3⟩ := h2
  refine ⟨by rw [b1, List.length_append, Nat.add_assoc], fun i x hx => ?_, ?_⟩
  · by_cases hi : i < l.length
    · rw [List.getElem?_append_left hi] at hx
      exact SGc_put (a2 i x hx) (fun k hk hk2 => b3 _ _ (by unfold SGF; omega))
    · rw [List.getElem?_append_right (by omega)] at hx
      have := b2 _ x hx
      rw [show b + l.length + (i - l.length) = b + i by omega] at this
      exact this
  · rw [List.length_append]
    exact (a3.mono (fun _ _ h => SGF_le (Nat.le_refl _) (by omega) h)).tr (b3.mono (fun _ _ h => SGF_le (by omega) (by omega) h))
/-- n times the same list -/
def rep (n : Nat) (l : List (Nat × Nat)) : List (Nat × Nat) := (List.replicate n l).flatten
theorem rep_0 {l : List (Nat × Nat)} : rep 0 l = [] := rfl
theorem rep_s {n : Nat} {l : List (Nat × Nat)} : rep (n + 1) l = l ++ rep n l := by unfold rep; rw [List.replicate_succ, List.flatten_cons]
theorem rep_add {n m : Nat} {l : List (Nat × Nat)} : rep (n + m) l = rep n l ++ rep m l := by
  induction n with
  | zero => rw [Nat.zero_add]; rfl
  | succ n ih => rw [show n + 1 + m = n + m + 1 by omega, rep_s, rep_s, ih, List.append_assoc]
theorem rep_len {n : Nat} {l : List (Nat × Nat)} : (rep n l).length = n * l.length := by
  induction n with
  | zero => rw [rep_0, Nat.zero_mul]; rfl
  | succ n ih => rw [rep_s, List.length_append, ih, Nat.succ_mul, Nat.add_comm]
theorem rep_rep {c n : Nat} {l : List (Nat × Nat)} : rep c (rep n l) = rep (c * n) l := by
  induction c with
  | zero => rw [Nat.zero_mul]; rfl
  | succ c ih => rw [rep_s, ih, Nat.succ_mul, Nat.add_comm, rep_add]
/-- the ground signals of a type: widths and ~ -/
def flt : Jvm.Term → Nat → List (Nat × Nat)
  | .arg w, f => [(w, f)]
  | .mul (.arg n) t, f => rep n (flt t f)
  | .sum fs, f => flt fs f
  | .div (.sub (.arg _) (.arg bk)) (.rem t r), f => flt t (f + bk) ++ flt r f
  | _, _ => []
theorem rep_get {n : Nat} {l : List (Nat × Nat)} : ∀ i, i < n * l.length → (rep n l)[i]? = l[i % l.length]? := by
  induction n with
  | zero => intro i hi; rw [Nat.zero_mul] at hi; omega
  | succ n ih =>
    intro i hi
    rw [rep_s]
    by_cases h : i < l.length
    · rw [List.getElem?_append_left h, Nat.mod_eq_of_lt h]
    · have hi2 : i < n * l.length + l.length := by rw [← Nat.succ_mul]; exact hi
      have e := ih (i - l.length) (by omega)
      rw [List.getElem?_append_right (by omega), e, Nat.mod_eq_sub_mod (show i ≥ l.length by omega)]
/-- the same as the document's, place by place -/
theorem flt_lf {s : Mem} {y : Bool} {t : Jvm.Term} {n : Int} {b c e off : Nat} : CT s y t n b c e off → ∀ f, (flt t f).length = tsz t ∧ ∀ i, i < tsz t → (flt t f)[i]? = some (lf t i f) := by
  fun_induction CT s y t n b c e off with
  | case1 w n b c e off =>
    intro _ f
    refine ⟨rfl, fun i hi => ?_⟩
    have : i = 0 := by have : i < 1 := hi; omega
    subst this
    rfl
  | case2 k t n b c e off ih =>
    rintro ⟨h1, h2, h3, h4, h5, h6, h7⟩ f
    obtain ⟨l1, l2⟩ := ih h7 f
    have hz := (CT_size h7 rfl).2.2.2
    simp only [flt, tsz, lf]
    refine ⟨by rw [rep_len, l1], fun i hi => ?_⟩
    rw [rep_get i (by rw [l1]; exact hi), l1]
    exact l2 _ (Nat.mod_lt _ hz)
  | case3 fs n b c e off ih =>
    rintro ⟨h1, h2, h3, h5, h6, h7⟩ f
    exact ih h7 f
  | case4 nm bk t r f b c e off ih1 ih2 =>
    rintro ⟨h1, h2, h3, h4, h5, h6, h7, h8⟩ fl
    obtain ⟨l1, l2⟩ := ih1 h7 (fl + bk)
    obtain ⟨l3, l4⟩ := ih2 h8 fl
    simp only [flt, tsz, lf]
    refine ⟨by rw [List.length_append, l1, l3], fun i hi => ?_⟩
    by_cases h : i < tsz t
    · rw [if_pos h, List.getElem?_append_left (by omega)]
      exact l2 i h
    · rw [if_neg h, List.getElem?_append_right (by omega), l1]
      exact l4 _ (by omega)
  | case5 => exact fun _ f => ⟨rfl, fun i hi => by simp only [tsz] at hi; omega⟩
  | case6 => exact fun h => h.elim
theorem ev_step {d o q p z c i U k nm fl dp : Nat} {ty : Int} {s : Mem} (ho : o = 0 ∨ o = 26) (hU : s 114 4 = U) (hi : i < U) (hU2 : U ≤ 201) (hq : q < 201) (h1 : s 115 q = 2) (hz : s 117 q = z) (hp : s 116 q = p) (hcz : c * z ≤ 100) :
    Ze d 83 16 [aR 133, aI k, aI nm, aI ty, aI fl, aI dp, aI q, aI c, aI i] [] s = Ze d 83 16 [aR 133, aI k, aI nm, aI ty, aI fl, aI dp, aI p, aI ((c * z : Nat) : Int), aI ((i + 1 : Nat) : Int)] [] s := by
  rw [x83_16, show ((i + 1 : Nat) : Int) = (i : Int) + 1 from rfl]
  have hm : (c : Int) * z = ((c * z : Nat) : Int) := by rw [Int.natCast_mul]
  simp (disch := first | exact obC_114 | exact obC_133 | exact (obCO_59 ho) | omega | (simp only [aN1_115, aN1_116, aN1_117]; omega) | (simp only [List.length_cons, List.length_nil]; omega)) only [en83, x83_0, x83_2, x83_3, x83_6, x83_7, x83_8, x83_10, x83_11, x83_13, x83_14, x83_18, x83_19, x83_22, x83_25, x83_28, x83_29, x83_32, x83_35, x83_37, x83_38, x83_39, x83_42, x83_44, x83_45, x83_48, x83_51, x83_53, x83_54, x83_55, x83_57, x83_58, x83_61, x83_64, x83_66, x83_67, x83_69, x83_72, x83_75, x83_76, x83_80, x83_82, x83_85, x83_86, x83_89, x83_92, x83_94, x83_95, x83_98, x83_99, x83_102, x83_103, x83_104, x83_105, x83_108, x83_111, x83_113, x83_114, x83_116, x83_119, x83_122, x83_123, x83_124, x83_125, x83_126, x83_129, x83_132, x83_134, x83_135, x83_137, x83_139, x83_142, x83_145, x83_148, fcn_114_0, fcn_114_1, fcn_114_2, fcn_133_0, if_true, if_false, eq_self, Int.reduceEq, Int.reduceLT, Int.reduceLE, Int.reduceAdd, Int.reduceSub, Int.reduceMul, Int.reduceToNat, Nat.reduceAdd, Nat.reduceMul, Nat.reduceEqDiff, Int.toNat_natCast, wrap_id, hU, if_pos (show (i : Int) < U by omega), h1, hz, hp, hm]
theorem ev_out {d o q c i U k nm fl dp : Nat} {ty f : Int} {s : Mem} (ho : o = 0 ∨ o = 26) (hU : s 114 4 = U) (hq : q < 201) (h1 : s 115 q = f) (hf : ¬ f = 2) :
    Ze d 83 16 [aR 133, aI k, aI nm, aI ty, aI fl, aI dp, aI q, aI c, aI i] [] s = Ze d 83 78 [aR 133, aI k, aI nm, aI ty, aI fl, aI dp, aI q, aI c, aI ((0 : Nat) : Int)] [] s := by
  rw [x83_16]
  have z0 : ((0 : Nat) : Int) = 0 := rfl
  by_cases hi : (i : Int) < U
  · simp (disch := first | exact obC_114 | exact obC_133 | exact (obCO_59 ho) | omega | (simp only [aN1_115, aN1_116, aN1_117]; omega) | (simp only [List.length_cons, List.length_nil]; omega)) only [en83, x83_0, x83_2, x83_3, x83_6, x83_7, x83_8, x83_10, x83_11, x83_13, x83_14, x83_18, x83_19, x83_22, x83_25, x83_28, x83_29, x83_32, x83_35, x83_37, x83_38, x83_39, x83_42, x83_44, x83_45, x83_48, x83_51, x83_53, x83_54, x83_55, x83_57, x83_58, x83_61, x83_64, x83_66, x83_67, x83_69, x83_72, x83_75, x83_76, x83_80, x83_82, x83_85, x83_86, x83_89, x83_92, x83_94, x83_95, x83_98, x83_99, x83_102, x83_103, x83_104, x83_105, x83_108, x83_111, x83_113, x83_114, x83_116, x83_119, x83_122, x83_123, x83_124, x83_125, x83_126, x83_129, x83_132, x83_134, x83_135, x83_137, x83_139, x83_142, x83_145, x83_148, fcn_114_0, fcn_114_1, fcn_114_2, fcn_133_0, if_true, if_false, eq_self, Int.reduceEq, Int.reduceLT, Int.reduceLE, Int.reduceAdd, Int.reduceSub, Int.reduceMul, Int.reduceToNat, Nat.reduceAdd, Nat.reduceMul, Nat.reduceEqDiff, Int.toNat_natCast, wrap_id, hU, if_pos hi, h1, if_neg hf, z0]
  · simp (disch := first | exact obC_114 | exact obC_133 | exact (obCO_59 ho) | omega | (simp only [aN1_115, aN1_116, aN1_117]; omega) | (simp only [List.length_cons, List.length_nil]; omega)) only [en83, x83_0, x83_2, x83_3, x83_6, x83_7, x83_8, x83_10, x83_11, x83_13, x83_14, x83_18, x83_19, x83_22, x83_25, x83_28, x83_29, x83_32, x83_35, x83_37, x83_38, x83_39, x83_42, x83_44, x83_45, x83_48, x83_51, x83_53, x83_54, x83_55, x83_57, x83_58, x83_61, x83_64, x83_66, x83_67, x83_69, x83_72, x83_75, x83_76, x83_80, x83_82, x83_85, x83_86, x83_89, x83_92, x83_94, x83_95, x83_98, x83_99, x83_102, x83_103, x83_104, x83_105, x83_108, x83_111, x83_113, x83_114, x83_116, x83_119, x83_122, x83_123, x83_124, x83_125, x83_126, x83_129, x83_132, x83_134, x83_135, x83_137, x83_139, x83_142, x83_145, x83_148, fcn_114_0, fcn_114_1, fcn_114_2, fcn_133_0, if_true, if_false, eq_self, Int.reduceEq, Int.reduceLT, Int.reduceLE, Int.reduceAdd, Int.reduceSub, Int.reduceMul, Int.reduceToNat, Nat.reduceAdd, Nat.reduceMul, Nat.reduceEqDiff, Int.toNat_natCast, wrap_id, hU, if_neg hi, z0]
/-- the vectors around a type -/
theorem ev_loop {d o U C k nm fl dp : Nat} {ty : Int} {s : Mem} (ho : o = 0 ∨ o = 26) (hU : s 114 4 = U) (hU2 : U ≤ 201) : ∀ (n : Nat) (t : Jvm.Term) (q b c i : Nat), tnz t ≤ n → CT s true t q b 0 C 0 → b ≤ U → q + i < U → c * tsz t ≤ 24 →
    ∃ (t' : Jvm.Term) (q' b' c' : Nat), Ze d 83 16 [aR 133, aI k, aI nm, aI ty, aI fl, aI dp, aI q, aI c, aI i] [] s = Ze d 83 78 [aR 133, aI k, aI nm, aI ty, aI fl, aI dp, aI q', aI c', aI ((0 : Nat) : Int)] [] s ∧ CT s true t' q' b' 0 C 0 ∧ b' ≤ U ∧ tnz t' ≤ n ∧ dpt t' = dpt t ∧ (∀ f, rep c' (flt t' f) = rep c (flt t f)) ∧ c' * tsz t' = c * tsz t ∧ ((∃ w, t' = .arg w) ∨ (∃ fs, t' = .sum fs)) := by
  intro n
  induction n with
  | zero =>
    intro t q b c i hn
    have : 1 ≤ tnz t := by unfold tnz; split <;> omega
    omega
  | succ n ih =>
    intro t q b c i hn hT hb hi hz
    have z1 := CT_size hT rfl
    rcases CT_inv hT with ⟨w, rfl, h2, h3, h4, h5, h6⟩ | ⟨z, t, p1, rfl, h2, h3, h4, h5, h6, h7, h8⟩ | ⟨fs, rfl, h2, h3, h5, h6, h7⟩
    · exact ⟨_, q, b, c, ev_out ho hU (by omega) h3 (by decide), hT, hb, hn, rfl, fun _ => rfl, rfl, Or.inl ⟨w, rfl⟩⟩
    · have z2 := CT_size h8 rfl
      have hz' : c * z * tsz t ≤ 24 := by
        have : tsz (.mul (.arg z) t) = z * tsz t := rfl
        rw [this, ← Nat.mul_assoc] at hz
        exact hz
      have hcz : c * z ≤ 24 := by
        have : c * z * 1 ≤ c * z * tsz t := Nat.mul_le_mul_left _ z2.2.2.2
        omega
      obtain ⟨t', q', b', c', e1, e2, e3, e4, e5, e6, e7, e8⟩ := ih t p1 q (c * z) (i + 1) (by simp only [tnz] at hn; omega) h8 (by omega) (by omega) hz'
      refine ⟨t', q', b', c', (ev_step ho hU (by omega) hU2 (by omega) h3 h4 h7 (by omega)).trans e1, e2, e3, by omega, e5, fun f => ?_, ?_, e8⟩
      · rw [e6 f]
        simp only [flt]
        rw [rep_rep]
      · rw [e7]
        show c * z * tsz t = c * (z * tsz t)
        rw [Nat.mul_assoc]
    · exact ⟨_, q, b, c, ev_out ho hU (by omega) h3 (by decide), hT, hb, hn, rfl, fun _ => rfl, rfl, Or.inr ⟨fs, rfl⟩⟩
theorem ec_gr {d o q c j u w k nm fl dp : Nat} {ty : Int} {s : Mem} (hd : 2 ≤ d) (hCH : CHS s o) (hq : q < 201) (h1 : s 115 q = 0) (hp : s 116 q = w) (hj : j < c) (hc : c ≤ 100) (hu : s (59 + o) 6 = u) (hu2 : u < 24) (hf : fl ≤ 1) :
    Ze d 83 78 [aR 133, aI k, aI nm, aI ty, aI fl, aI dp, aI q, aI c, aI j] [] s = Ze d 83 78 [aR 133, aI k, aI nm, aI ty, aI fl, aI dp, aI q, aI c, aI ((j + 1 : Nat) : Int)] [] (gAdd s o u k nm w fl) := by
  obtain ⟨c1, c2, ho⟩ := hCH
  rw [x83_78, show ((j + 1 : Nat) : Int) = (j : Int) + 1 from rfl]
  simp (disch := first | exact obC_114 | exact obC_133 | exact (obCO_59 ho) | omega | (simp only [aN1_115, aN1_116, aN1_117]; omega) | (simp only [List.length_cons, List.length_nil]; omega)) only [en83, x83_0, x83_2, x83_3, x83_6, x83_7, x83_8, x83_10, x83_11, x83_13, x83_14, x83_18, x83_19, x83_22, x83_25, x83_28, x83_29, x83_32, x83_35, x83_37, x83_38, x83_39, x83_42, x83_44, x83_45, x83_48, x83_51, x83_53, x83_54, x83_55, x83_57, x83_58, x83_61, x83_64, x83_66, x83_67, x83_69, x83_72, x83_75, x83_76, x83_80, x83_82, x83_85, x83_86, x83_89, x83_92, x83_94, x83_95, x83_98, x83_99, x83_102, x83_103, x83_104, x83_105, x83_108, x83_111, x83_113, x83_114, x83_116, x83_119, x83_122, x83_123, x83_124, x83_125, x83_126, x83_129, x83_132, x83_134, x83_135, x83_137, x83_139, x83_142, x83_145, x83_148, fcn_114_0, fcn_114_1, fcn_114_2, fcn_133_0, if_true, if_false, eq_self, Int.reduceEq, Int.reduceLT, Int.reduceLE, Int.reduceAdd, Int.reduceSub, Int.reduceMul, Int.reduceToNat, Nat.reduceAdd, Nat.reduceMul, Nat.reduceEqDiff, Int.toNat_natCast, wrap_id, if_pos (show (j : Int) < c by omega), h1, hp, c1, k_gAdd (d := d) (k := k) (nm := nm) (w := w) hd ho hu hu2 hf, zcV_r]
theorem ec_fs {d o q c j k nm fl dp : Nat} {ty : Int} {s s' : Mem} (ho : o = 0 ∨ o = 26) (hq : q < 201) (h1 : s 115 q = 1) (hj : j < c) (hc : c ≤ 100) (e : Zc d 84 [aR 133, aI k, aI nm, aI (s 116 q), aI fl, aI dp] s = rV s') :
    Ze d 83 78 [aR 133, aI k, aI nm, aI ty, aI fl, aI dp, aI q, aI c, aI j] [] s = Ze d 83 78 [aR 133, aI k, aI nm, aI ty, aI fl, aI dp, aI q, aI c, aI ((j + 1 : Nat) : Int)] [] s' := by
  rw [x83_78, show ((j + 1 : Nat) : Int) = (j : Int) + 1 from rfl]
  simp (disch := first | exact obC_114 | exact obC_133 | exact (obCO_59 ho) | omega | (simp only [aN1_115, aN1_116, aN1_117]; omega) | (simp only [List.length_cons, List.length_nil]; omega)) only [en83, x83_0, x83_2, x83_3, x83_6, x83_7, x83_8, x83_10, x83_11, x83_13, x83_14, x83_18, x83_19, x83_22, x83_25, x83_28, x83_29, x83_32, x83_35, x83_37, x83_38, x83_39, x83_42, x83_44, x83_45, x83_48, x83_51, x83_53, x83_54, x83_55, x83_57, x83_58, x83_61, x83_64, x83_66, x83_67, x83_69, x83_72, x83_75, x83_76, x83_80, x83_82, x83_85, x83_86, x83_89, x83_92, x83_94, x83_95, x83_98, x83_99, x83_102, x83_103, x83_104, x83_105, x83_108, x83_111, x83_113, x83_114, x83_116, x83_119, x83_122, x83_123, x83_124, x83_125, x83_126, x83_129, x83_132, x83_134, x83_135, x83_137, x83_139, x83_142, x83_145, x83_148, fcn_114_0, fcn_114_1, fcn_114_2, fcn_133_0, if_true, if_false, eq_self, Int.reduceEq, Int.reduceLT, Int.reduceLE, Int.reduceAdd, Int.reduceSub, Int.reduceMul, Int.reduceToNat, Nat.reduceAdd, Nat.reduceMul, Nat.reduceEqDiff, Int.toNat_natCast, wrap_id, if_pos (show (j : Int) < c by omega), h1, if_neg (show ¬ (1 : Int) = 0 by decide), e, zcV_r]
theorem ec_end {d q c k nm fl dp : Nat} {ty : Int} {s : Mem} : Ze d 83 78 [aR 133, aI k, aI nm, aI ty, aI fl, aI dp, aI q, aI c, aI c] [] s = rV s := by
  rw [x83_78]
  simp (disch := first | exact obC_114 | exact obC_133 | omega | (simp only [aN1_115, aN1_116, aN1_117]; omega) | (simp only [List.length_cons, List.length_nil]; omega)) only [en83, x83_0, x83_2, x83_3, x83_6, x83_7, x83_8, x83_10, x83_11, x83_13, x83_14, x83_18, x83_19, x83_22, x83_25, x83_28, x83_29, x83_32, x83_35, x83_37, x83_38, x83_39, x83_42, x83_44, x83_45, x83_48, x83_51, x83_53, x83_54, x83_55, x83_57, x83_58, x83_61, x83_64, x83_66, x83_67, x83_69, x83_72, x83_75, x83_76, x83_80, x83_82, x83_85, x83_86, x83_89, x83_92, x83_94, x83_95, x83_98, x83_99, x83_102, x83_103, x83_104, x83_105, x83_108, x83_111, x83_113, x83_114, x83_116, x83_119, x83_122, x83_123, x83_124, x83_125, x83_126, x83_129, x83_132, x83_134, x83_135, x83_137, x83_139, x83_142, x83_145, x83_148, fcn_114_0, fcn_114_1, fcn_114_2, fcn_133_0, if_true, if_false, eq_self, Int.reduceEq, Int.reduceLT, Int.reduceLE, Int.reduceAdd, Int.reduceSub, Int.reduceMul, Int.reduceToNat, Nat.reduceAdd, Nat.reduceMul, Nat.reduceEqDiff, Int.toNat_natCast, wrap_id, if_neg (show ¬ (c : Int) < c by omega)]
theorem SGF_CHS {s s' : Mem} {o a b : Nat} (h : CHS s o) (f : Fr (SGF o a b) s s') : CHS s' o := by
  obtain ⟨c1, c2, ho⟩ := h
  exact ⟨by rw [f _ _ (by unfold SGF; omega), c1], by rw [f _ _ (by unfold SGF; omega), c2], ho⟩
theorem SGF_AY {s s' : Mem} {o a b x y z : Nat} (ho : o = 0 ∨ o = 26) (f : Fr (SGF o a b) s s') : AY s s' x y z := fun k j hk => f _ _ (by unfold SGF; omega)
/-- what expand, what expandFields does -/
def XPt (m U C : Nat) : Prop := ∀ (d o k nm f dp q b u : Nat) (t : Jvm.Term) (s : Mem), tnz t ≤ m → CHS s o → s 114 4 = U → s 114 10 = C → CT s true t q b 0 C 0 → b ≤ U → s (59 + o) 6 = u → u + tsz t ≤ 24 → dpt t + dp ≤ 3 → 2 * dpt t + 3 ≤ d →
  ∃ s', Zc d 83 [aR 133, aI k, aI nm, aI q, aI ((f % 2 : Nat) : Int), aI dp] s = rV s' ∧ EXL o u k nm (flt t f) s s'
def XPf (m U C : Nat) : Prop := ∀ (d o k nm f dp b c e off u i : Nat) (g f0 : Int) (t : Jvm.Term) (s : Mem), tnz t ≤ m → CHS s o → s 114 4 = U → s 114 10 = C → CT s false t g b c e off → b ≤ U → e ≤ C → i ≤ c → s (59 + o) 6 = u → u + tsz t ≤ 24 → dpt t + dp + 1 ≤ 3 → 2 * dpt t + 3 ≤ d →
  ∃ s', Ze d 84 6 [aR 133, aI k, aI nm, aI f0, aI ((f % 2 : Nat) : Int), aI dp, aI g, aI i] [] s = rV s' ∧ EXL o u k nm (flt t f) s s'
theorem xc_loop {d o U C k nm f dp q c : Nat} {ty : Int} {t : Jvm.Term} (hc : c ≤ 100)
    (H : ∀ (u j : Nat) (s : Mem), j < c → CHS s o → s 114 4 = U → s 114 10 = C → AY s s 0 0 0 → s (59 + o) 6 = u → u + (flt t f).length ≤ 24 → ∀ s0, AY s0 s U 0 C → CT s0 true t q U 0 C 0 →
      ∃ s', Ze d 83 78 [aR 133, aI k, aI nm, aI ty, aI ((f % 2 : Nat) : Int), aI dp, aI q, aI c, aI j] [] s = Ze d 83 78 [aR 133, aI k, aI nm, aI ty, aI ((f % 2 : Nat) : Int), aI dp, aI q, aI c, aI ((j + 1 : Nat) : Int)] [] s' ∧ EXL o u k nm (flt t f) s s') :
    ∀ (m u j : Nat) (s s0 : Mem), j + m = c → CHS s o → s 114 4 = U → s 114 10 = C → s (59 + o) 6 = u → u + m * (flt t f).length ≤ 24 → AY s0 s U 0 C → CT s0 true t q U 0 C 0 →
      ∃ s', Ze d 83 78 [aR 133, aI k, aI nm, aI ty, aI ((f % 2 : Nat) : Int), aI dp, aI q, aI c, aI j] [] s = rV s' ∧ EXL o u k nm (rep m (flt t f)) s s' := by
  intro m
  induction m with
  | zero =>
    intro u j s s0 hj hCH hU hC hu hz hA hT
    have : j = c := by omega
    subst this
    exact ⟨s, ec_end, EXL_nil hu⟩
  | succ m ih =>
    intro u j s s0 hj hCH hU hC hu hz hA hT
    rw [Nat.succ_mul] at hz
    obtain ⟨s1, e1, e2⟩ := H u j s (by omega) hCH hU hC (fun _ _ _ => rfl) hu (by omega) s0 hA hT
    have ho := hCH.2.2
    obtain ⟨s2, g1, g2⟩ := ih (u + (flt t f).length) (j + 1) s1 s0 (by omega) (SGF_CHS hCH e2.2.2) (by rw [e2.2.2 _ _ (by unfold SGF; omega), hU]) (by rw [e2.2.2 _ _ (by unfold SGF; omega), hC]) e2.1 (by omega) (fun k j hk => by rw [SGF_AY ho e2.2.2 (x := U) (y := 0) (z := C) k j hk]; exact hA k j hk) hT
    exact ⟨s2, e1.trans g1, by rw [rep_s]; exact EXL_app e2 g2⟩
theorem xpt_step {m U C : Nat} (hU2 : U ≤ 201) (ihf : XPf m U C) : XPt (m + 1) U C := by
  intro d o k nm f dp q b u t s hn hCH hU hC hT hb hu hz hdp hd
  obtain ⟨d, rfl⟩ : ∃ e, d = e + 1 := ⟨d - 1, by omega⟩
  have ho := hCH.2.2
  have z1 := CT_size hT rfl
  obtain ⟨t', q', b', c', e1, e2, e3, e4, e5, e6, e7, e8⟩ := ev_loop (d := d) (k := k) (nm := nm) (fl := f % 2) (dp := dp) (ty := q) ho hU hU2 (m + 1) t q b 1 0 hn hT hb (by omega) (by omega)
  rw [Nat.one_mul] at e7
  have e6' : rep c' (flt t' f) = flt t f := by rw [e6 f]; unfold rep; simp
  have z2 := CT_size e2 rfl
  have hlen := (flt_lf e2 f).1
  have hc24 : c' ≤ 24 := by
    have : c' * 1 ≤ c' * tsz t' := Nat.mul_le_mul_left _ z2.2.2.2
    omega
  have e0 : Zc (d + 1) 83 [aR 133, aI k, aI nm, aI q, aI ((f % 2 : Nat) : Int), aI dp] s = Ze d 83 16 [aR 133, aI k, aI nm, aI q, aI ((f % 2 : Nat) : Int), aI dp, aI q, aI ((1 : Nat) : Int), aI ((0 : Nat) : Int)] [] s := by
    have z0 : ((0 : Nat) : Int) = 0 := rfl
    have z1 : ((1 : Nat) : Int) = 1 := rfl
    simp (disch := first | exact obC_114 | exact obC_133 | omega | (simp only [aN1_115, aN1_116, aN1_117]; omega) | (simp only [List.length_cons, List.length_nil]; omega)) only [en83, x83_0, x83_2, x83_3, x83_6, x83_7, x83_8, x83_10, x83_11, x83_13, x83_14, x83_18, x83_19, x83_22, x83_25, x83_28, x83_29, x83_32, x83_35, x83_37, x83_38, x83_39, x83_42, x83_44, x83_45, x83_48, x83_51, x83_53, x83_54, x83_55, x83_57, x83_58, x83_61, x83_64, x83_66, x83_67, x83_69, x83_72, x83_75, x83_76, x83_80, x83_82, x83_85, x83_86, x83_89, x83_92, x83_94, x83_95, x83_98, x83_99, x83_102, x83_103, x83_104, x83_105, x83_108, x83_111, x83_113, x83_114, x83_116, x83_119, x83_122, x83_123, x83_124, x83_125, x83_126, x83_129, x83_132, x83_134, x83_135, x83_137, x83_139, x83_142, x83_145, x83_148, fcn_114_0, fcn_114_1, fcn_114_2, fcn_133_0, if_true, if_false, eq_self, Int.reduceEq, Int.reduceLT, Int.reduceLE, Int.reduceAdd, Int.reduceSub, Int.reduceMul, Int.reduceToNat, Nat.reduceAdd, Nat.reduceMul, Nat.reduceEqDiff, Int.toNat_natCast, wrap_id, z0, z1, if_neg (show ¬ 3 < (dp : Int) by omega)]
  have hT0 : CT s true t' q' U 0 C 0 := CT_wide e2 e3 (Nat.le_refl _) (Nat.le_refl _)
  have hzz : u + c' * (flt t' f).length ≤ 24 := by rw [hlen, e7]; exact hz
  rcases e8 with ⟨w, rfl⟩ | ⟨fs, rfl⟩
  · obtain ⟨s', g1, g2⟩ := xc_loop (d := d) (o := o) (U := U) (C := C) (k := k) (nm := nm) (f := f) (dp := dp) (q := q') (c := c') (ty := q) (t := .arg w) (by omega) (fun u j s hj hCH hU hC _ hu hl s0 hA hT => by
      rcases CT_inv (CT_put hT hA) with ⟨w', hw, h2, h3, h4, h5, h6⟩ | ⟨z, t, p1, hw, -⟩ | ⟨fs, hw, -⟩
      · injection hw with hw
        subst hw
        have hl1 : (flt (.arg w) f).length = 1 := rfl
        refine ⟨_, ec_gr (by omega) hCH (by omega) h3 h4 hj (by omega) hu (by omega) (by omega), ?_⟩
        have ga := gAdd_at (s := s) (o := o) (u := u) (k := k) (nm := nm) (w := w) (f := f % 2)
        refine ⟨ga.2, fun i x hx => ?_, gAdd_fr⟩
        have hi : i = 0 := by
          have := (List.getElem?_eq_some_iff.mp hx).1
          have : i < 1 := this
          omega
        subst hi
        injection hx with hx
        subst hx
        exact ga.1
      · cases hw
      · cases hw) c' u 0 s s (by omega) hCH hU hC hu hzz (fun _ _ _ => rfl) hT0
    exact ⟨s', (e0.trans e1).trans g1, by rw [← e6']; exact g2⟩
  · have hdf : dpt (.sum fs) = 1 + dpt fs := rfl
    obtain ⟨s', g1, g2⟩ := xc_loop (d := d) (o := o) (U := U) (C := C) (k := k) (nm := nm) (f := f) (dp := dp) (q := q') (c := c') (ty := q) (t := .sum fs) (by omega) (fun u j s hj hCH hU hC _ hu hl s0 hA hT => by
      rcases CT_inv (CT_put hT hA) with ⟨w', hw, -⟩ | ⟨z, t, p1, hw, -⟩ | ⟨fs', hw, h2, h3, h5, h6, h7⟩
      · cases hw
      · cases hw
      · injection hw with hw
        subst hw
        obtain ⟨d, rfl⟩ : ∃ e, d = e + 1 := ⟨d - 1, by omega⟩
        have hz0 : ((0 : Nat) : Int) = 0 := rfl
        have hlen' : (flt (.sum fs) f).length = tsz fs := (flt_lf (CT_put hT hA) f).1
        obtain ⟨s', i1, i2⟩ := ihf d o k nm f dp q' 0 C 0 u 0 (s 116 q') (s 116 q') fs s (by simp only [tnz] at e4; omega) hCH hU hC h7 (by omega) (Nat.le_refl _) (Nat.le_refl _) hu (by omega) (by omega) (by omega)
        refine ⟨s', ec_fs ho (by omega) h3 hj (by omega) ?_, i2⟩
        rw [← i1]
        simp (disch := first | exact obC_114 | exact obC_133 | omega | (simp only [aN1_121, aN1_123, aN2_120]; omega) | (simp only [List.length_cons, List.length_nil]; omega)) only [en84, x84_0, x84_1, x84_3, x84_4, x84_8, x84_9, x84_12, x84_15, x84_18, x84_20, x84_21, x84_24, x84_25, x84_26, x84_27, x84_28, x84_31, x84_34, x84_36, x84_37, x84_39, x84_40, x84_43, x84_46, x84_48, x84_49, x84_52, x84_53, x84_56, x84_57, x84_59, x84_60, x84_61, x84_64, x84_65, x84_68, x84_71, x84_73, x84_74, x84_76, x84_79, x84_82, fcn_114_6, fcn_114_7, fcn_114_9, fcn_133_0, if_true, if_false, eq_self, Int.reduceEq, Int.reduceLT, Int.reduceLE, Int.reduceAdd, Int.reduceSub, Int.reduceMul, Int.reduceToNat, Nat.reduceAdd, Nat.reduceMul, Nat.reduceEqDiff, Int.toNat_natCast, wrap_id, hz0]) c' u 0 s s (by omega) hCH hU hC hu hzz (fun _ _ _ => rfl) hT0
    exact ⟨s', (e0.trans e1).trans g1, by rw [← e6']; exact g2⟩
theorem xpf_step {m U C : Nat} (hU2 : U ≤ 201) (hC2 : C ≤ 200) (ihf : XPf m U C) (iht : XPt m U C) : XPf (m + 1) U C := by
  intro d o k nm f dp b c e off u i g f0 t s hn hCH hU hC hT hb he hi hu hz hdp hd
  have ho := hCH.2.2
  rw [x84_6]
  rcases CT_inf hT with ⟨rfl, rfl⟩ | ⟨n', bk, g1, q1, t, r, rfl, rfl, h1, h2, h3, h4, h5, h6, hq, h7, h8⟩
  · refine ⟨s, ?_, EXL_nil hu⟩
    by_cases hiC : (i : Int) < C
    · simp (disch := first | exact obC_114 | exact obC_133 | omega | (simp only [aN1_121, aN1_123, aN2_120]; omega) | (simp only [List.length_cons, List.length_nil]; omega)) only [en84, x84_0, x84_1, x84_3, x84_4, x84_8, x84_9, x84_12, x84_15, x84_18, x84_20, x84_21, x84_24, x84_25, x84_26, x84_27, x84_28, x84_31, x84_34, x84_36, x84_37, x84_39, x84_40, x84_43, x84_46, x84_48, x84_49, x84_52, x84_53, x84_56, x84_57, x84_59, x84_60, x84_61, x84_64, x84_65, x84_68, x84_71, x84_73, x84_74, x84_76, x84_79, x84_82, fcn_114_6, fcn_114_7, fcn_114_9, fcn_133_0, if_true, if_false, eq_self, Int.reduceEq, Int.reduceLT, Int.reduceLE, Int.reduceAdd, Int.reduceSub, Int.reduceMul, Int.reduceToNat, Nat.reduceAdd, Nat.reduceMul, Nat.reduceEqDiff, Int.toNat_natCast, wrap_id, hC, if_pos hiC]
    · simp (disch := first | exact obC_114 | exact obC_133 | omega | (simp only [aN1_121, aN1_123, aN2_120]; omega) | (simp only [List.length_cons, List.length_nil]; omega)) only [en84, x84_0, x84_1, x84_3, x84_4, x84_8, x84_9, x84_12, x84_15, x84_18, x84_20, x84_21, x84_24, x84_25, x84_26, x84_27, x84_28, x84_31, x84_34, x84_36, x84_37, x84_39, x84_40, x84_43, x84_46, x84_48, x84_49, x84_52, x84_53, x84_56, x84_57, x84_59, x84_60, x84_61, x84_64, x84_65, x84_68, x84_71, x84_73, x84_74, x84_76, x84_79, x84_82, fcn_114_6, fcn_114_7, fcn_114_9, fcn_133_0, if_true, if_false, eq_self, Int.reduceEq, Int.reduceLT, Int.reduceLE, Int.reduceAdd, Int.reduceSub, Int.reduceMul, Int.reduceToNat, Nat.reduceAdd, Nat.reduceMul, Nat.reduceEqDiff, Int.toNat_natCast, wrap_id, hC, if_neg hiC]
  · simp only [tnz] at hn
    have hdm : dpt (.div (.sub (.arg n') (.arg bk)) (.rem t r)) = max (dpt t) (dpt r) := rfl
    rw [hdm] at hdp hd
    simp only [tsz] at hz
    have hlen := (flt_lf h7 (f + bk)).1
    obtain ⟨s1, e1, e2⟩ := iht d o k nm (f + bk) (dp + 1) q1 b u t s (by omega) hCH hU hC (CT_wide h7 (Nat.le_refl _) (Nat.zero_le _) (by omega)) hb hu (by omega) (by omega) (by omega)
    have q1' := CT_size h7 rfl
    have hA := SGF_AY ho e2.2.2 (x := b) (y := c) (z := e)
    obtain ⟨s2, i1, i2⟩ := ihf d o k nm f dp b (g1 + 1) e (off + min 25 (tsz t)) (u + (flt t (f + bk)).length) (i + 1) (s1 123 g1) f0 r s1 (by omega) (SGF_CHS hCH e2.2.2) (by rw [e2.2.2 _ _ (by unfold SGF; omega), hU]) (by rw [e2.2.2 _ _ (by unfold SGF; omega), hC]) (by rw [hA _ _ (by omega)]; exact CT_put h8 (hA.sub (Nat.le_refl _) (by omega) (Nat.le_refl _))) hb he (by omega) e2.1 (by omega) (by omega) (by omega)
    refine ⟨s2, ?_, EXL_app e2 i2⟩
    rw [← i1]
    have hdp1 : ((dp + 1 : Nat) : Int) = (dp : Int) + 1 := rfl
    rw [show ((i + 1 : Nat) : Int) = (i : Int) + 1 from rfl]
    rw [hdp1] at e1
    have hfl : ((f % 2 : Nat) : Int) = bk ∧ (((f + bk) % 2 : Nat) : Int) = 0 ∨ ¬ ((f % 2 : Nat) : Int) = bk ∧ (((f + bk) % 2 : Nat) : Int) = 1 := by omega
    rcases hfl with ⟨hf1, hf2⟩ | ⟨hf1, hf2⟩
    · rw [hf2] at e1
      simp (disch := first | exact obC_114 | exact obC_133 | omega | (simp only [aN1_121, aN1_123, aN2_120]; omega) | (simp only [List.length_cons, List.length_nil]; omega)) only [en84, x84_0, x84_1, x84_3, x84_4, x84_8, x84_9, x84_12, x84_15, x84_18, x84_20, x84_21, x84_24, x84_25, x84_26, x84_27, x84_28, x84_31, x84_34, x84_36, x84_37, x84_39, x84_40, x84_43, x84_46, x84_48, x84_49, x84_52, x84_53, x84_56, x84_57, x84_59, x84_60, x84_61, x84_64, x84_65, x84_68, x84_71, x84_73, x84_74, x84_76, x84_79, x84_82, fcn_114_6, fcn_114_7, fcn_114_9, fcn_133_0, if_true, if_false, eq_self, Int.reduceEq, Int.reduceLT, Int.reduceLE, Int.reduceAdd, Int.reduceSub, Int.reduceMul, Int.reduceToNat, Nat.reduceAdd, Nat.reduceMul, Nat.reduceEqDiff, Int.toNat_natCast, wrap_id, hC, if_pos (show (i : Int) < C by omega), if_neg (show ¬ ((g1 : Nat) : Int) = -1 by omega), hq, h4, if_pos hf1, e1, zcV_r]
    · rw [hf2] at e1
      simp (disch := first | exact obC_114 | exact obC_133 | omega | (simp only [aN1_121, aN1_123, aN2_120]; omega) | (simp only [List.length_cons, List.length_nil]; omega)) only [en84, x84_0, x84_1, x84_3, x84_4, x84_8, x84_9, x84_12, x84_15, x84_18, x84_20, x84_21, x84_24, x84_25, x84_26, x84_27, x84_28, x84_31, x84_34, x84_36, x84_37, x84_39, x84_40, x84_43, x84_46, x84_48, x84_49, x84_52, x84_53, x84_56, x84_57, x84_59, x84_60, x84_61, x84_64, x84_65, x84_68, x84_71, x84_73, x84_74, x84_76, x84_79, x84_82, fcn_114_6, fcn_114_7, fcn_114_9, fcn_133_0, if_true, if_false, eq_self, Int.reduceEq, Int.reduceLT, Int.reduceLE, Int.reduceAdd, Int.reduceSub, Int.reduceMul, Int.reduceToNat, Nat.reduceAdd, Nat.reduceMul, Nat.reduceEqDiff, Int.toNat_natCast, wrap_id, hC, if_pos (show (i : Int) < C by omega), if_neg (show ¬ ((g1 : Nat) : Int) = -1 by omega), hq, h4, if_neg hf1, e1, zcV_r]
theorem xp_all {U C : Nat} (hU2 : U ≤ 201) (hC2 : C ≤ 200) : ∀ m, XPt m U C ∧ XPf m U C := by
  intro m
  induction m with
  | zero =>
    refine ⟨fun d o k nm f dp q b u t s hn => ?_, fun d o k nm f dp b c e off u i g f0 t s hn => ?_⟩
    all_goals
      have : 1 ≤ tnz t := by unfold tnz; split <;> omega
      omega
  | succ m ih => exact ⟨xpt_step hU2 ih.2, xpf_step hU2 hC2 ih.2 ih.1⟩
/-- a declaration's signals -/
theorem k_expand {d o U C k nm q u : Nat} {t : Jvm.Term} {s : Mem} (hd : 7 ≤ d) (hU2 : U ≤ 201) (hC2 : C ≤ 200) (hCH : CHS s o) (hU : s 114 4 = U) (hC : s 114 10 = C) (hT : CT s true t q U 0 C 0) (hu : s (59 + o) 6 = u) (hz : u + tsz t ≤ 24) (hdp : dpt t ≤ 2) :
    ∃ s', Zc d 83 [aR 133, aI k, aI nm, aI q, aI 0, aI 1] s = rV s' ∧ EXL o u k nm (flt t 0) s s' :=
  (xp_all hU2 hC2 (tnz t)).1 d o k nm 0 1 q U u t s (Nat.le_refl _) hCH hU hC hT (Nat.le_refl _) hu hz (by omega) (by omega)
