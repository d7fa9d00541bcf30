def nNode (s : Mem) (n : Nat) (k : Int) : Mem := mu (mu (mu (mu (mu (mu s 12 n k) 15 n (-1)) 16 n (-1)) 17 n (-1)) 21 n 0) 0 32 ((n : Int) + 1)
theorem t_newNode {d : Nat} (hd : 1 ≤ d) (s : Mem) {n : Nat} (hn : s 0 32 = n) (hn2 : n < 220) (k : Int) : Zc d 16 [aR 0, aI k] s = rI n (nNode s n k) := by
  obtain ⟨d, rfl⟩ : ∃ e, d = e + 1 := ⟨d - 1, by omega⟩
  simp (disch := first | exact obC_0 | omega | (simp only [aN1_12, aN1_15, aN1_16, aN1_17, aN1_21]; omega) | (simp only [List.length_cons, List.length_nil]; omega)) only [en16, x16_0, x16_1, x16_4, x16_5, x16_8, x16_9, x16_10, x16_11, x16_14, x16_15, x16_18, x16_19, x16_20, x16_21, x16_24, x16_25, x16_28, x16_29, x16_30, x16_31, x16_34, x16_35, x16_38, x16_39, x16_40, x16_41, x16_44, x16_45, x16_48, x16_49, x16_50, x16_51, x16_51i, x16_52, x16_55, x16_56, x16_57, x16_60, x16_61, x16_64, x16_65, x16_66, fcn_0_19, fcn_0_22, fcn_0_23, fcn_0_24, fcn_0_28, mu_s, mu_c, hn, Int.toNat_natCast, wrap_id, mu_i]
  rw [show (n : Int) + 1 - 1 = n by omega]
  rfl
def nType (s : Mem) (n : Nat) (a b c e : Int) : Mem := mu (mu (mu (mu (mu s 2 n a) 3 n b) 4 n c) 5 n e) 0 16 ((n : Int) + 1)
theorem t_newType {d : Nat} (hd : 1 ≤ d) (s : Mem) {n : Nat} (hn : s 0 16 = n) (hn2 : n < 220) (a b c e : Int) : Zc d 13 [aR 0, aI a, aI b, aI c, aI e] s = rI n (nType s n a b c e) := by
  obtain ⟨d, rfl⟩ : ∃ e, d = e + 1 := ⟨d - 1, by omega⟩
  simp (disch := first | exact obC_0 | omega | (simp only [aN1_2, aN1_3, aN1_4, aN1_5]; omega) | (simp only [List.length_cons, List.length_nil]; omega)) only [en13, x13_0, x13_1, x13_4, x13_5, x13_8, x13_9, x13_10, x13_11, x13_14, x13_15, x13_18, x13_19, x13_20, x13_21, x13_24, x13_25, x13_28, x13_29, x13_30, x13_31, x13_34, x13_35, x13_38, x13_40, x13_41, x13_42, x13_42i, x13_43, x13_46, x13_47, x13_48, x13_51, x13_52, x13_55, x13_56, x13_57, fcn_0_6, fcn_0_7, fcn_0_8, fcn_0_9, mu_s, mu_c, hn, Int.toNat_natCast, wrap_id, mu_i]
  rw [show (n : Int) + 1 - 1 = n by omega]
  rfl
def nStep (s : Mem) (n : Nat) (o p : Int) : Mem := mu (mu (mu s 25 n o) 26 n p) 0 40 ((n : Int) + 1)
theorem t_newStep {d : Nat} (hd : 1 ≤ d) (s : Mem) {n : Nat} (hn : s 0 40 = n) (hn2 : n < 120) (o p : Int) : Zc d 23 [aR 0, aI o, aI p] s = rI n (nStep s n o p) := by
  obtain ⟨d, rfl⟩ : ∃ e, d = e + 1 := ⟨d - 1, by omega⟩
  simp (disch := first | exact obC_0 | omega | (simp only [aN1_25, aN1_26]; omega) | (simp only [List.length_cons, List.length_nil]; omega)) only [en23, x23_0, x23_1, x23_4, x23_5, x23_8, x23_9, x23_10, x23_11, x23_14, x23_15, x23_18, x23_19, x23_20, x23_21, x23_21i, x23_22, x23_25, x23_26, x23_27, x23_30, x23_31, x23_34, x23_35, x23_36, fcn_0_33, fcn_0_34, mu_s, mu_c, hn, Int.toNat_natCast, wrap_id, mu_i]
  rw [show (n : Int) + 1 - 1 = n by omega]
  rfl
theorem t_put {d : Nat} (hd : 1 ≤ d) (s : Mem) {n : Nat} (hn2 : n < 220) (k v : Int) : Zc d 20 [aR 0, aI n, aI k, aI v] s = rV (if k = 0 then mu s 15 n v else if k = 1 then mu s 16 n v else mu s 17 n v) := by
  obtain ⟨d, rfl⟩ : ∃ e, d = e + 1 := ⟨d - 1, by omega⟩
  simp (disch := first | exact obC_0 | omega | (simp only [aN1_15, aN1_16, aN1_17]; omega) | (simp only [List.length_cons, List.length_nil]; omega)) only [en20, x20_0, x20_1, x20_4, x20_5, x20_8, x20_9, x20_10, x20_11, x20_14, x20_15, x20_16, x20_19, x20_20, x20_23, x20_24, x20_25, x20_26, x20_29, x20_30, x20_33, x20_34, x20_35, x20_36, fcn_0_22, fcn_0_23, fcn_0_24, Int.toNat_natCast]
  split
  · rfl
  · split
    · rfl
    · rfl
abbrev two (c : Int) : Prop := c = 43 ∨ c = 45 ∨ c = 38 ∨ c = 124 ∨ c = 94 ∨ c = 61 ∨ c = 60 ∨ c = 35
theorem t_isTwo {d : Nat} (hd : 1 ≤ d) (s : Mem) (c : Int) : Zc d 18 [aI c] s = rI (if two c then 1 else 0) s := by
  obtain ⟨d, rfl⟩ : ∃ e, d = e + 1 := ⟨d - 1, by omega⟩
  simp (disch := first | exact obC_0 | omega | (simp only [List.length_cons, List.length_nil]; omega)) only [en18, x18_0, x18_1, x18_3, x18_6, x18_7, x18_9, x18_12, x18_13, x18_15, x18_18, x18_19, x18_21, x18_24, x18_25, x18_27, x18_30, x18_31, x18_33, x18_36, x18_37, x18_39, x18_42, x18_43, x18_45, x18_48, x18_49, x18_52, x18_53]
  by_cases h : two c
  · rw [if_pos h]
    rcases h with rfl | rfl | rfl | rfl | rfl | rfl | rfl | rfl <;> rfl
  · rw [if_neg h]
    simp only [two, not_or] at h
    obtain ⟨h1, h2, h3, h4, h5, h6, h7, h8⟩ := h
    rw [if_neg h1, if_neg h2, if_neg h3, if_neg h4, if_neg h5, if_neg h6, if_neg h7, if_neg h8]
/-- how many parts the operation c (at the place p) has, 0 if it is none -/
def prt (T : Tx) (p : Nat) (c : Int) : Int := if two c ∧ ¬ (c = 60 ∧ cA T (p + 1) = 61) then 2 else if c = 33 ∨ c = 84 then 1 else if c = 77 then 3 else 0
theorem t_parts {d : Nat} (hd : 2 ≤ d) (s : Mem) (ho : okT s) {p : Nat} (hp : s 0 2 = p) (hp2 : p ≤ 300) (c : Int) : Zc d 19 [aR 0, aI c] s = rI (prt (tx s) p c) s := by
  obtain ⟨d, rfl⟩ : ∃ e, d = e + 1 := ⟨d - 1, by omega⟩
  have hca : Zc d 6 [aR 0, aI ((p : Int) + 1)] s = rI (cA (tx s) (p + 1)) s := t_charAt (by omega) s ho (p + 1)
  simp (disch := first | exact obC_0 | omega | (simp only [List.length_cons, List.length_nil]; omega)) only [en19, x19_0, x19_1, x19_4, x19_7, x19_8, x19_10, x19_13, x19_14, x19_15, x19_18, x19_19, x19_20, x19_23, x19_25, x19_28, x19_29, x19_32, x19_33, x19_35, x19_38, x19_39, x19_41, x19_44, x19_45, x19_48, x19_49, x19_51, x19_54, x19_55, x19_58, x19_59, t_isTwo, zcI_r, hp, wrap_id, hca]
  unfold prt
  clear hca hp ho
  generalize cA (tx s) (p + 1) = e
  by_cases h : two c
  · simp only [if_pos h]
    have h' : (two c ∧ ¬(c = 60 ∧ e = 61)) ↔ ¬(c = 60 ∧ e = 61) := ⟨fun q => q.2, fun q => ⟨h, q⟩⟩
    simp only [h']
    grind
  · simp only [if_neg h]
    have h' : (two c ∧ ¬(c = 60 ∧ e = 61)) ↔ False := ⟨fun q => h q.1, fun q => q.elim⟩
    simp only [h']
    grind
