/-! THE CLASS: nodes and parts of paths are added -/
def nAdd (s : Mem) (o n : Nat) (a b c e : Int) : Mem := mu (mu (mu (mu (mu s (67 + o) n a) (68 + o) n b) (69 + o) n c) (70 + o) n e) (66 + o) 7 ((n : Int) + 1)
theorem k_nAdd {d o n : Nat} {a b c e : Int} {s : Mem} (hd : 1 ≤ d) (ho : o = 0 ∨ o = 26) (hn : s (66 + o) 7 = n) (hn2 : n < 225) : Zc d 115 [aR (66 + o), aI a, aI b, aI c, aI e] s = rI n (nAdd s o n a b c e) := by
  obtain ⟨d, rfl⟩ : ∃ e, d = e + 1 := ⟨d - 1, by omega⟩
  unfold nAdd
  simp (disch := first | exact (obCO_66 ho) | omega | (simp only [(aN1O_67 ho), (aN1O_68 ho), (aN1O_69 ho), (aN1O_70 ho)]; omega) | (simp only [List.length_cons, List.length_nil]; omega)) only [en115, x115_0, x115_1, x115_4, x115_6, x115_7, x115_10, x115_12, x115_13, x115_14, x115_15, x115_18, x115_20, x115_21, x115_22, x115_23, x115_26, x115_28, x115_29, x115_30, x115_31, x115_34, x115_36, x115_38, x115_39, x115_40, x115_40i, x115_41, x115_44, x115_45, x115_46, x115_49, x115_51, (fcnO_66_0 ho), (fcnO_66_1 ho), (fcnO_66_2 ho), (fcnO_66_3 ho), if_true, if_false, eq_self, Int.reduceEq, Int.reduceLT, Int.reduceLE, Int.reduceAdd, Int.reduceSub, Int.reduceMul, Int.reduceToNat, Nat.reduceAdd, Nat.reduceMul, Nat.reduceEqDiff, Int.toNat_natCast, wrap_id, hn, mu_c, mu_i, mu_s]
def nLeaf (s : Mem) (o n : Nat) (a b c e : Int) : Mem := mu (nAdd s o n a b c e) (71 + o) n n
theorem k_nLeaf {d o n : Nat} {a b c e : Int} {s : Mem} (hd : 2 ≤ d) (ho : o = 0 ∨ o = 26) (hn : s (66 + o) 7 = n) (hn2 : n < 225) : Zc d 113 [aR (66 + o), aI a, aI b, aI c, aI e] s = rI n (nLeaf s o n a b c e) := by
  obtain ⟨d, rfl⟩ : ∃ e, d = e + 1 := ⟨d - 1, by omega⟩
  unfold nLeaf
  simp (disch := first | exact (obCO_66 ho) | omega | (simp only [(aN1O_71 ho)]; omega) | (simp only [List.length_cons, List.length_nil]; omega)) only [en113, x113_0, x113_1, x113_2, x113_3, x113_4, x113_6, x113_9, x113_11, x113_12, x113_15, x113_17, x113_19, x113_20, x113_22, (fcnO_66_4 ho), if_true, if_false, eq_self, Int.reduceEq, Int.reduceLT, Int.reduceLE, Int.reduceAdd, Int.reduceSub, Int.reduceMul, Int.reduceToNat, Nat.reduceAdd, Nat.reduceMul, Nat.reduceEqDiff, Int.toNat_natCast, wrap_id, k_nAdd (d := d) (by omega) ho hn hn2, zcI_r]
def nWhole (s : Mem) (o n l : Nat) (a c e : Int) : Mem := mu (nAdd s o n a l c e) (71 + o) n (s (71 + o) l)
theorem k_nWhole {d o n l : Nat} {a c e : Int} {s : Mem} (hd : 2 ≤ d) (ho : o = 0 ∨ o = 26) (hn : s (66 + o) 7 = n) (hn2 : n < 225) (hl : l < 225) : Zc d 114 [aR (66 + o), aI a, aI l, aI c, aI e] s = rI n (nWhole s o n l a c e) := by
  obtain ⟨d, rfl⟩ : ∃ e, d = e + 1 := ⟨d - 1, by omega⟩
  have e1 : nAdd s o n a l c e (71 + o) l = s (71 + o) l := by
    unfold nAdd
    rw [mu_c (by omega), mu_c (by omega), mu_c (by omega), mu_c (by omega), mu_c (by omega)]
  unfold nWhole
  simp (disch := first | exact (obCO_66 ho) | omega | (simp only [(aN1O_71 ho)]; omega) | (simp only [List.length_cons, List.length_nil]; omega)) only [en114, x114_0, x114_1, x114_2, x114_3, x114_4, x114_6, x114_9, x114_11, x114_12, x114_15, x114_17, x114_18, x114_21, x114_22, x114_23, x114_24, x114_26, (fcnO_66_4 ho), if_true, if_false, eq_self, Int.reduceEq, Int.reduceLT, Int.reduceLE, Int.reduceAdd, Int.reduceSub, Int.reduceMul, Int.reduceToNat, Nat.reduceAdd, Nat.reduceMul, Nat.reduceEqDiff, Int.toNat_natCast, wrap_id, k_nAdd (d := d) (by omega) ho hn hn2, zcI_r, e1]
def tPart (s : Mem) (P : Nat) (v : Int) : Mem := mu (mu s 129 P v) 124 6 ((P : Int) + 1)
theorem k_addPart {d P : Nat} {v : Int} {s : Mem} (hd : 1 ≤ d) (hP : s 124 6 = P) (hP2 : P < 200) : Zc d 155 [aR 124, aI v] s = rV (tPart s P v) := by
  obtain ⟨d, rfl⟩ : ∃ e, d = e + 1 := ⟨d - 1, by omega⟩
  unfold tPart
  simp (disch := first | exact obC_124 | omega | (simp only [aN1_129]; omega) | (simp only [List.length_cons, List.length_nil]; omega)) only [en155, x155_0, x155_1, x155_4, x155_5, x155_8, x155_9, x155_10, x155_11, x155_11i, x155_12, x155_15, x155_16, x155_17, x155_20, fcn_124_5, if_true, if_false, eq_self, Int.reduceEq, Int.reduceLT, Int.reduceLE, Int.reduceAdd, Int.reduceSub, Int.reduceMul, Int.reduceToNat, Nat.reduceAdd, Nat.reduceMul, Nat.reduceEqDiff, Int.toNat_natCast, wrap_id, hP, mu_c, mu_i, mu_s]
theorem k_fieldPart {d : Nat} {v : Int} {s : Mem} (hd : 1 ≤ d) (hv : 0 ≤ v ∧ v ≤ 100) : Zc d 156 [aI v] s = rI (-1 - v) s := by
  obtain ⟨d, rfl⟩ : ∃ e, d = e + 1 := ⟨d - 1, by omega⟩
  simp (disch := first | exact obC_0 | omega | (simp only [List.length_cons, List.length_nil]; omega)) only [en156, x156_0, x156_1, x156_2, x156_3, if_true, if_false, eq_self, Int.reduceEq, Int.reduceLT, Int.reduceLE, Int.reduceAdd, Int.reduceSub, Int.reduceMul, Int.reduceToNat, Nat.reduceAdd, Nat.reduceMul, Nat.reduceEqDiff, Int.toNat_natCast, wrap_id]
/-- how many parts a sign has -/
def prtK (c : Int) : Int := if c = 33 ∨ c = 84 then 1 else if c = 43 ∨ c = 45 ∨ c = 38 ∨ c = 124 ∨ c = 94 ∨ c = 61 ∨ c = 60 ∨ c = 35 then 2 else if c = 77 then 3 else 0
theorem k_partsOf {d : Nat} {c : Int} {s : Mem} (hd : 1 ≤ d) : Zc d 116 [aI c] s = rI (prtK c) s := by
  obtain ⟨d, rfl⟩ : ∃ e, d = e + 1 := ⟨d - 1, by omega⟩
  unfold prtK
  simp (disch := first | exact obC_0 | omega | (simp only [List.length_cons, List.length_nil]; omega)) only [en116, x116_0, x116_1, x116_100, x116_101, x116_102, x116_103, x116_104, x116_105, x116_106, x116_107, selZ]
  (repeat' split) <;> first | rfl | (exfalso; omega)
/-- what the class's steps have of a path: m parts from a on -/
def CPath (s : Mem) : Jvm.Term → Nat → Nat → Prop
  | .elem (.arg k) r, a, m => 1 ≤ m ∧ s 129 a = (if k < 100 then -1 - (k : Int) else (k : Int) - 100) ∧ (k < 26 ∨ 100 ≤ k) ∧ CPath s r (a + 1) (m - 1)
  | _, _, m => m = 0
theorem CPath_put {s s' : Mem} {r : Jvm.Term} {a m : Nat} : (∀ j, a ≤ j → j < a + m → s' 129 j = s 129 j) → CPath s r a m → CPath s' r a m := by
  fun_induction CPath s r a m with
  | case1 k r a m ih =>
    rintro f ⟨h1, h2, h3, h4⟩
    exact ⟨h1, by rw [f a (by omega) (by omega)]; exact h2, h3, ih (fun j hj hj2 => f j (by omega) (by omega)) h4⟩
  | case2 r a m =>
    intro _ h
    unfold CPath
    split
    next hh => simp_all
    next => exact h
/-- the expression e as the class's nodes have it from n on, its whole last; paths lie below P -/
def CE (s : Mem) (o P : Nat) : Jvm.Term → Nat → Prop
  | .old a, n => s (67 + o) (n + esz a) = 33 ∧ s (68 + o) (n + esz a) = ((n + esz a - 1 : Nat) : Int) ∧ s (71 + o) (n + esz a) = n ∧ CE s o P a n
  | .mul (.add (.arg h) (.arg l)) a, n => s (67 + o) (n + esz a) = 84 ∧ s (68 + o) (n + esz a) = ((n + esz a - 1 : Nat) : Int) ∧ s (69 + o) (n + esz a) = h ∧ s (70 + o) (n + esz a) = l ∧ (h ≤ 15 ∧ l ≤ h) ∧ s (71 + o) (n + esz a) = n ∧ CE s o P a n
  | .div (.arg c) (.rem a b), n => s (67 + o) (n + esz a + esz b) = c ∧ two c ∧ s (68 + o) (n + esz a + esz b) = ((n + esz a - 1 : Nat) : Int) ∧ s (69 + o) (n + esz a + esz b) = ((n + esz a + esz b - 1 : Nat) : Int) ∧ s (71 + o) (n + esz a + esz b) = n ∧ CE s o P a n ∧ CE s o P b (n + esz a)
  | .sub c (.rem a b), n => s (67 + o) (n + esz c + esz a + esz b) = 77 ∧ s (68 + o) (n + esz c + esz a + esz b) = ((n + esz c - 1 : Nat) : Int) ∧ s (69 + o) (n + esz c + esz a + esz b) = ((n + esz c + esz a - 1 : Nat) : Int) ∧ s (70 + o) (n + esz c + esz a + esz b) = ((n + esz c + esz a + esz b - 1 : Nat) : Int) ∧ s (71 + o) (n + esz c + esz a + esz b) = n ∧ CE s o P c n ∧ CE s o P a (n + esz c) ∧ CE s o P b (n + esz c + esz a)
  | .add (.arg nm) r, n => s (67 + o) n = 4 ∧ s (70 + o) n = nm ∧ nm < 26 ∧ s (71 + o) n = n ∧ ∃ a m : Nat, s (68 + o) n = a ∧ s (69 + o) n = m ∧ a + m ≤ P ∧ CPath s r a m
  | .arg v, n => s (67 + o) n = 2 ∧ s (68 + o) n = v ∧ v ≤ 65535 ∧ s (71 + o) n = n
  | _, _ => False
/-- the class's nodes from a up to b, and the parts of paths below P, are the same -/
def AC (o P : Nat) (s s' : Mem) (a b : Nat) : Prop := (∀ k j, 67 ≤ k ∧ k ≤ 71 → a ≤ j → j < b → s' (k + o) j = s (k + o) j) ∧ ∀ j, j < P → s' 129 j = s 129 j
theorem AC.sub {o P a b c d : Nat} {s s' : Mem} (h : AC o P s s' a b) (h1 : a ≤ c) (h2 : d ≤ b) : AC o P s s' c d := ⟨fun k j hk h3 h4 => h.1 k j hk (by omega) (by omega), h.2⟩
theorem CE_put {s s' : Mem} {o P : Nat} {e : Jvm.Term} {n : Nat} : CE s o P e n → AC o P s s' n (n + esz e) → CE s' o P e n := by
  fun_induction CE s o P e n with
  | case1 a n ih =>
    intro h g
    have := esz_pos a
    simp only [esz] at g
    obtain ⟨h1, h2, h3, h4⟩ := h
    refine ⟨?_, ?_, ?_, ih h4 (g.sub (by omega) (by omega))⟩
    · rw [g.1 _ _ (by omega) (by omega) (by omega), h1]
    · rw [g.1 _ _ (by omega) (by omega) (by omega), h2]
    · rw [g.1 _ _ (by omega) (by omega) (by omega), h3]
  | case2 h l a n ih =>
    intro h g
    have := esz_pos a
    simp only [esz] at g
    obtain ⟨h1, h2, h3, h4, h5, h6, h7⟩ := h
    refine ⟨?_, ?_, ?_, ?_, h5, ?_, ih h7 (g.sub (by omega) (by omega))⟩
    · rw [g.1 _ _ (by omega) (by omega) (by omega), h1]
    · rw [g.1 _ _ (by omega) (by omega) (by omega), h2]
    · rw [g.1 _ _ (by omega) (by omega) (by omega), h3]
    · rw [g.1 _ _ (by omega) (by omega) (by omega), h4]
    · rw [g.1 _ _ (by omega) (by omega) (by omega), h6]
  | case3 c a b n ih1 ih2 =>
    intro h g
    have := esz_pos a
    have := esz_pos b
    simp only [esz] at g
    obtain ⟨h1, h2, h3, h4, h5, h6, h7⟩ := h
    refine ⟨?_, h2, ?_, ?_, ?_, ih1 h6 (g.sub (by omega) (by omega)), ih2 h7 (g.sub (by omega) (by omega))⟩
    · rw [g.1 _ _ (by omega) (by omega) (by omega), h1]
    · rw [g.1 _ _ (by omega) (by omega) (by omega), h3]
    · rw [g.1 _ _ (by omega) (by omega) (by omega), h4]
    · rw [g.1 _ _ (by omega) (by omega) (by omega), h5]
  | case4 c a b n ih1 ih2 ih3 =>
    intro h g
    have := esz_pos a
    have := esz_pos b
    have := esz_pos c
    simp only [esz] at g
    obtain ⟨h1, h2, h3, h4, h5, h6, h7, h8⟩ := h
    refine ⟨?_, ?_, ?_, ?_, ?_, ih1 h6 (g.sub (by omega) (by omega)), ih2 h7 (g.sub (by omega) (by omega)), ih3 h8 (g.sub (by omega) (by omega))⟩
    · rw [g.1 _ _ (by omega) (by omega) (by omega), h1]
    · rw [g.1 _ _ (by omega) (by omega) (by omega), h2]
    · rw [g.1 _ _ (by omega) (by omega) (by omega), h3]
    · rw [g.1 _ _ (by omega) (by omega) (by omega), h4]
    · rw [g.1 _ _ (by omega) (by omega) (by omega), h5]
  | case5 nm r n =>
    rintro ⟨h1, h2, h3, h4, a, m, h5, h6, h7, h8⟩ g
    simp only [esz] at g
    refine ⟨?_, ?_, h3, ?_, a, m, ?_, ?_, h7, CPath_put (fun j hj hj2 => g.2 j (by omega)) h8⟩
    · rw [g.1 _ _ (by omega) (by omega) (by omega), h1]
    · rw [g.1 _ _ (by omega) (by omega) (by omega), h2]
    · rw [g.1 _ _ (by omega) (by omega) (by omega), h4]
    · rw [g.1 _ _ (by omega) (by omega) (by omega), h5]
    · rw [g.1 _ _ (by omega) (by omega) (by omega), h6]
  | case6 v n =>
    rintro ⟨h1, h2, h3, h4⟩ g
    simp only [esz] at g
    refine ⟨?_, ?_, h3, ?_⟩
    · rw [g.1 _ _ (by omega) (by omega) (by omega), h1]
    · rw [g.1 _ _ (by omega) (by omega) (by omega), h2]
    · rw [g.1 _ _ (by omega) (by omega) (by omega), h4]
  | case7 => intro h; exact h.elim
theorem CE_P {s : Mem} {o P P' : Nat} {e : Jvm.Term} {n : Nat} (hP : P ≤ P') : CE s o P e n → CE s o P' e n := by
  fun_induction CE s o P e n with
  | case1 a n ih => rintro ⟨h1, h2, h3, h4⟩; exact ⟨h1, h2, h3, ih h4⟩
  | case2 h l a n ih => rintro ⟨h1, h2, h3, h4, h5, h6, h7⟩; exact ⟨h1, h2, h3, h4, h5, h6, ih h7⟩
  | case3 c a b n ih1 ih2 => rintro ⟨h1, h2, h3, h4, h5, h6, h7⟩; exact ⟨h1, h2, h3, h4, h5, ih1 h6, ih2 h7⟩
  | case4 c a b n ih1 ih2 ih3 => rintro ⟨h1, h2, h3, h4, h5, h6, h7, h8⟩; exact ⟨h1, h2, h3, h4, h5, ih1 h6, ih2 h7, ih3 h8⟩
  | case5 nm r n => rintro ⟨h1, h2, h3, h4, a, m, h5, h6, h7, h8⟩; exact ⟨h1, h2, h3, h4, a, m, h5, h6, by omega, h8⟩
  | case6 v n => exact fun h => h
  | case7 => exact fun h => h.elim
theorem CE_first {s : Mem} {o P : Nat} {e : Jvm.Term} {n : Nat} : CE s o P e n → s (71 + o) (n + esz e - 1) = n := by
  fun_induction CE s o P e n with
  | case1 a n ih =>
    rintro ⟨h1, h2, h3, h4⟩
    simp only [esz]
    rw [show n + (1 + esz a) - 1 = n + esz a by omega]
    exact h3
  | case2 h l a n ih =>
    rintro ⟨h1, h2, h3, h4, h5, h6, h7⟩
    simp only [esz]
    rw [show n + (1 + esz a) - 1 = n + esz a by omega]
    exact h6
  | case3 c a b n ih1 ih2 =>
    rintro ⟨h1, h2, h3, h4, h5, h6, h7⟩
    simp only [esz]
    rw [show n + (1 + esz a + esz b) - 1 = n + esz a + esz b by omega]
    exact h5
  | case4 c a b n ih1 ih2 ih3 =>
    rintro ⟨h1, h2, h3, h4, h5, h6, h7, h8⟩
    simp only [esz]
    rw [show n + (1 + esz c + esz a + esz b) - 1 = n + esz c + esz a + esz b by omega]
    exact h5
  | case5 nm r n => rintro ⟨h1, h2, h3, h4, -⟩; exact h4
  | case6 v n => rintro ⟨h1, h2, h3, h4⟩; exact h4
  | case7 => exact fun h => h.elim
