/-! THE CLASS: an expression is looked up -/
/-- the expression, looked up, as the class's nodes have it from n on -/
def CR (s : Mem) (o : Nat) : Jvm.Term → Nat → Prop
  | .old a, n => s (67 + o) (n + esz a) = 33 ∧ s (68 + o) (n + esz a) = ((n + esz a - 1 : Nat) : Int) ∧ s (71 + o) (n + esz a) = n ∧ CR s o a n
  | .mul (.add (.arg h) (.arg l)) a, n => s (67 + o) (n + esz a) = 84 ∧ s (68 + o) (n + esz a) = ((n + esz a - 1 : Nat) : Int) ∧ s (69 + o) (n + esz a) = h ∧ s (70 + o) (n + esz a) = l ∧ (h ≤ 15 ∧ l ≤ h) ∧ s (71 + o) (n + esz a) = n ∧ CR s o a n
  | .div (.arg c) (.rem a b), n => s (67 + o) (n + esz a + esz b) = c ∧ two c ∧ s (68 + o) (n + esz a + esz b) = ((n + esz a - 1 : Nat) : Int) ∧ s (69 + o) (n + esz a + esz b) = ((n + esz a + esz b - 1 : Nat) : Int) ∧ s (71 + o) (n + esz a + esz b) = n ∧ CR s o a n ∧ CR s o b (n + esz a)
  | .sub c (.rem a b), n => s (67 + o) (n + esz c + esz a + esz b) = 77 ∧ s (68 + o) (n + esz c + esz a + esz b) = ((n + esz c - 1 : Nat) : Int) ∧ s (69 + o) (n + esz c + esz a + esz b) = ((n + esz c + esz a - 1 : Nat) : Int) ∧ s (70 + o) (n + esz c + esz a + esz b) = ((n + esz c + esz a + esz b - 1 : Nat) : Int) ∧ s (71 + o) (n + esz c + esz a + esz b) = n ∧ CR s o c n ∧ CR s o a (n + esz c) ∧ CR s o b (n + esz c + esz a)
  | .index g, n => s (67 + o) n = 5 ∧ s (68 + o) n = g ∧ g < 24 ∧ s (71 + o) n = n
  | .arg v, n => s (67 + o) n = 2 ∧ s (68 + o) n = v ∧ v ≤ 65535 ∧ s (71 + o) n = n
  | _, _ => False
def AN (o : Nat) (s s' : Mem) (a b : Nat) : Prop := ∀ k j, 67 ≤ k ∧ k ≤ 71 → a ≤ j → j < b → s' (k + o) j = s (k + o) j
theorem AN.sub {o a b c d : Nat} {s s' : Mem} (h : AN o s s' a b) (h1 : a ≤ c) (h2 : d ≤ b) : AN o s s' c d := fun k j hk h3 h4 => h k j hk (by omega) (by omega)
theorem CR_put {s s' : Mem} {o : Nat} {e : Jvm.Term} {n : Nat} : CR s o e n → AN o s s' n (n + esz e) → CR s' o e n := by
  fun_induction CR s o e n with
  | case1 a n ih =>
    intro h g
    have := esz_pos a
    simp only [esz] at g
    obtain ⟨h1, h2, h3, h4⟩ := h
    refine ⟨?_, ?_, ?_, ih h4 (g.sub (by omega) (by omega))⟩
    · rw [g _ _ (by omega) (by omega) (by omega), h1]
    · rw [g _ _ (by omega) (by omega) (by omega), h2]
    · rw [g _ _ (by omega) (by omega) (by omega), h3]
  | case2 h l a n ih =>
    intro h g
    have := esz_pos a
    simp only [esz] at g
    obtain ⟨h1, h2, h3, h4, h5, h6, h7⟩ := h
    refine ⟨?_, ?_, ?_, ?_, h5, ?_, ih h7 (g.sub (by omega) (by omega))⟩
    · rw [g _ _ (by omega) (by omega) (by omega), h1]
    · rw [g _ _ (by omega) (by omega) (by omega), h2]
    · rw [g _ _ (by omega) (by omega) (by omega), h3]
    · rw [g _ _ (by omega) (by omega) (by omega), h4]
    · rw [g _ _ (by omega) (by omega) (by omega), h6]
  | case3 c a b n ih1 ih2 =>
    intro h g
    have := esz_pos a
    have := esz_pos b
    simp only [esz] at g
    obtain ⟨h1, h2, h3, h4, h5, h6, h7⟩ := h
    refine ⟨?_, h2, ?_, ?_, ?_, ih1 h6 (g.sub (by omega) (by omega)), ih2 h7 (g.sub (by omega) (by omega))⟩
    · rw [g _ _ (by omega) (by omega) (by omega), h1]
    · rw [g _ _ (by omega) (by omega) (by omega), h3]
    · rw [g _ _ (by omega) (by omega) (by omega), h4]
    · rw [g _ _ (by omega) (by omega) (by omega), h5]
  | case4 c a b n ih1 ih2 ih3 =>
    intro h g
    have := esz_pos a
    have := esz_pos b
    have := esz_pos c
    simp only [esz] at g
    obtain ⟨h1, h2, h3, h4, h5, h6, h7, h8⟩ := h
    refine ⟨?_, ?_, ?_, ?_, ?_, ih1 h6 (g.sub (by omega) (by omega)), ih2 h7 (g.sub (by omega) (by omega)), ih3 h8 (g.sub (by omega) (by omega))⟩
    · rw [g _ _ (by omega) (by omega) (by omega), h1]
    · rw [g _ _ (by omega) (by omega) (by omega), h2]
    · rw [g _ _ (by omega) (by omega) (by omega), h3]
    · rw [g _ _ (by omega) (by omega) (by omega), h4]
    · rw [g _ _ (by omega) (by omega) (by omega), h5]
  | case5 x n =>
    rintro ⟨h1, h2, h3, h4⟩ g
    simp only [esz] at g
    refine ⟨?_, ?_, h3, ?_⟩
    · rw [g _ _ (by omega) (by omega) (by omega), h1]
    · rw [g _ _ (by omega) (by omega) (by omega), h2]
    · rw [g _ _ (by omega) (by omega) (by omega), h4]
  | case6 v n =>
    rintro ⟨h1, h2, h3, h4⟩ g
    simp only [esz] at g
    refine ⟨?_, ?_, h3, ?_⟩
    · rw [g _ _ (by omega) (by omega) (by omega), h1]
    · rw [g _ _ (by omega) (by omega) (by omega), h2]
    · rw [g _ _ (by omega) (by omega) (by omega), h4]
  | case7 => intro h; exact h.elim
theorem CR_first {s : Mem} {o : Nat} {e : Jvm.Term} {n : Nat} : CR s o e n → s (71 + o) (n + esz e - 1) = n := by
  fun_induction CR s o e n with
  | case1 a n ih =>
    rintro ⟨h1, h2, h3, h4⟩
    simp only [esz]
    rw [show n + (1 + esz a) - 1 = n + esz a by omega]
    exact h3
  | case2 h l a n ih =>
    rintro ⟨h1, h2, h3, h4, h5, h6, h7⟩
    simp only [esz]
    rw [show n + (1 + esz a) - 1 = n + esz a by omega]
    exact h6
  | case3 c a b n ih1 ih2 =>
    rintro ⟨h1, h2, h3, h4, h5, h6, h7⟩
    simp only [esz]
    rw [show n + (1 + esz a + esz b) - 1 = n + esz a + esz b by omega]
    exact h5
  | case4 c a b n ih1 ih2 ih3 =>
    rintro ⟨h1, h2, h3, h4, h5, h6, h7, h8⟩
    simp only [esz]
    rw [show n + (1 + esz c + esz a + esz b) - 1 = n + esz c + esz a + esz b by omega]
    exact h5
  | case5 x n => rintro ⟨h1, h2, h3, h4⟩; exact h4
  | case6 v n => rintro ⟨h1, h2, h3, h4⟩; exact h4
  | case7 => exact fun h => h.elim
/-- the nodes from a up to b are looked up -/
def LUF (o a b k j : Nat) : Prop := 67 + o ≤ k ∧ k ≤ 70 + o ∧ a ≤ j ∧ j < b
theorem LUF_le {o a b a' b' k j : Nat} (h1 : a ≤ a') (h2 : b' ≤ b) (h : LUF o a' b' k j) : LUF o a b k j := ⟨h.1, h.2.1, by have := h.2.2.1; omega, by have := h.2.2.2; omega⟩
theorem EC_put {s s' : Mem} {M C : Nat} {env : EnvT} (h : EC s M C env) (g : ∀ k j, (115 ≤ k ∧ k ≤ 123) ∨ k = 134 ∨ k = 135 → s' k j = s k j) : EC s' M C env := by
  intro d hd
  have := h d hd
  cases he : env d with
  | none =>
    rw [he] at this
    dsimp only at this ⊢
    rw [g _ _ (by decide), this]
  | some tb =>
    obtain ⟨t, b⟩ := tb
    rw [he] at this
    obtain ⟨h1, h2, q, h3, h4⟩ := this
    exact ⟨by rw [g _ _ (by decide), h1], h2, q, by rw [g _ _ (by decide), h3], CT_put h4 (fun k j hk => g _ _ (by omega))⟩
theorem LUF_EC {s s' : Mem} {o a b M C : Nat} {env : EnvT} (ho : o = 0 ∨ o = 26) (h : EC s M C env) (f : Fr (LUF o a b) s s') : EC s' M C env := EC_put h (fun k j hk => f _ _ (by unfold LUF; omega))
theorem LUF_CHS {s s' : Mem} {o a b : Nat} (h : CHS s o) (f : Fr (LUF o a b) s s') : CHS s' o := by
  obtain ⟨c1, c2, ho⟩ := h
  exact ⟨by rw [f _ _ (by unfold LUF; omega), c1], by rw [f _ _ (by unfold LUF; omega), c2], ho⟩
theorem LUF_CE {s s' : Mem} {o a b P n : Nat} {e : Jvm.Term} (ho : o = 0 ∨ o = 26) (f : Fr (LUF o a b) s s') (hn : n + esz e ≤ a ∨ b ≤ n) (h : CE s o P e n) : CE s' o P e n := CE_put h ⟨fun k j hk h1 h2 => f _ _ (by unfold LUF; omega), fun j _ => f _ _ (by unfold LUF; omega)⟩
theorem LUF_CR {s s' : Mem} {o a b n : Nat} {e : Jvm.Term} (f : Fr (LUF o a b) s s') (hn : n + esz e ≤ a ∨ b ≤ n) (h : CR s o e n) : CR s' o e n := CR_put h (fun k j hk h1 h2 => f _ _ (by unfold LUF; omega))
def IGR (d o P M C root : Nat) (env : EnvT) (e : Jvm.Term) : Prop := ∀ (n : Nat) (s : Mem), CE s o P e n → EC s M C env → CHS s o → s 114 10 = C → n + esz e ≤ root + 1 →
  match rE env e with
  | some e' => ∃ s', Ze d 85 10 [aR 133, aI root, aI n] [] s = Ze d 85 10 [aR 133, aI root, aI ((n + esz e : Nat) : Int)] [] s' ∧ CR s' o e' n ∧ Fr (LUF o n (n + esz e)) s s'
  | none => ∃ s', Ze d 85 10 [aR 133, aI root, aI n] [] s = rI 0 s' ∧ Fr (LUF o n (n + esz e)) s s'
theorem ig_skip {d o root n : Nat} {s : Mem} (hCH : CHS s o) (hr : root < 225) (hn : n ≤ root) (h : ¬ s (67 + o) n = 4) : Ze d 85 10 [aR 133, aI root, aI n] [] s = Ze d 85 10 [aR 133, aI root, aI ((n + 1 : Nat) : Int)] [] s := by
  obtain ⟨c1, c2, ho⟩ := hCH
  rw [x85_10, show ((n + 1 : Nat) : Int) = (n : Int) + 1 from rfl]
  simp (disch := first | exact obC_133 | exact (obCO_66 ho) | omega | (simp only [(aN1O_67 ho), (aN1O_71 ho)]; omega) | (simp only [List.length_cons, List.length_nil]; omega)) only [en85, x85_0, x85_1, x85_4, x85_7, x85_8, x85_9, x85_11, x85_12, x85_15, x85_16, x85_19, x85_22, x85_23, x85_24, x85_25, x85_28, x85_29, x85_30, x85_33, x85_36, x85_37, x85_38, x85_41, x85_44, x85_45, x85_46, x85_49, x85_52, x85_53, (fcnO_66_0 ho), (fcnO_66_4 ho), if_true, if_false, eq_self, Int.reduceEq, Int.reduceLT, Int.reduceLE, Int.reduceAdd, Int.reduceSub, Int.reduceMul, Int.reduceToNat, Nat.reduceAdd, Nat.reduceMul, Nat.reduceEqDiff, Int.toNat_natCast, wrap_id, if_neg (show ¬ (root : Int) < n by omega), c2, if_neg h]
theorem ig_ref {d o root n M C g q fl : Nat} {t : Jvm.Term} {s : Mem} (hd : 2 ≤ d) (hCH : CHS s o) (hM : M ≤ 201) (hr : root < 225) (hn : n ≤ root) (h : s (67 + o) n = 4) (hl : Zc d 89 [aR 133, aI n] s = rI 1 (luS s o n g q fl)) (hT : CT s true t q M 0 C 0) : Ze d 85 10 [aR 133, aI root, aI n] [] s = if isGr t = true then Ze d 85 10 [aR 133, aI root, aI ((n + 1 : Nat) : Int)] [] (luS s o n g q fl) else rI 0 (luS s o n g q fl) := by
  obtain ⟨c1, c2, ho⟩ := hCH
  obtain ⟨a1, a2, a3, a4, a5⟩ := luS_at (s := s) (o := o) (n := n) (g := g) (q := q) (fl := fl)
  have hg := k_isGround (d := d) (n := n) (by omega) hM (show CHS (luS s o n g q fl) o from ⟨by rw [a5 _ _ (by omega), c1], by rw [a5 _ _ (by omega), c2], ho⟩) (by omega) a3 (CT_put hT (fun k j hk => a5 _ _ (by omega)))
  rw [x85_10, show ((n + 1 : Nat) : Int) = (n : Int) + 1 from rfl]
  by_cases hgr : isGr t = true
  · rw [if_pos hgr] at hg ⊢
    simp (disch := first | exact obC_133 | exact (obCO_66 ho) | omega | (simp only [(aN1O_67 ho), (aN1O_71 ho)]; omega) | (simp only [List.length_cons, List.length_nil]; omega)) only [en85, x85_0, x85_1, x85_4, x85_7, x85_8, x85_9, x85_11, x85_12, x85_15, x85_16, x85_19, x85_22, x85_23, x85_24, x85_25, x85_28, x85_29, x85_30, x85_33, x85_36, x85_37, x85_38, x85_41, x85_44, x85_45, x85_46, x85_49, x85_52, x85_53, (fcnO_66_0 ho), (fcnO_66_4 ho), if_true, if_false, eq_self, Int.reduceEq, Int.reduceLT, Int.reduceLE, Int.reduceAdd, Int.reduceSub, Int.reduceMul, Int.reduceToNat, Nat.reduceAdd, Nat.reduceMul, Nat.reduceEqDiff, Int.toNat_natCast, wrap_id, if_neg (show ¬ (root : Int) < n by omega), c2, h, hl, hg, zcI_r, if_neg (show ¬ (1 : Int) = 0 by decide)]
  · rw [if_neg hgr] at hg ⊢
    simp (disch := first | exact obC_133 | exact (obCO_66 ho) | omega | (simp only [(aN1O_67 ho), (aN1O_71 ho)]; omega) | (simp only [List.length_cons, List.length_nil]; omega)) only [en85, x85_0, x85_1, x85_4, x85_7, x85_8, x85_9, x85_11, x85_12, x85_15, x85_16, x85_19, x85_22, x85_23, x85_24, x85_25, x85_28, x85_29, x85_30, x85_33, x85_36, x85_37, x85_38, x85_41, x85_44, x85_45, x85_46, x85_49, x85_52, x85_53, (fcnO_66_0 ho), (fcnO_66_4 ho), if_true, if_false, eq_self, Int.reduceEq, Int.reduceLT, Int.reduceLE, Int.reduceAdd, Int.reduceSub, Int.reduceMul, Int.reduceToNat, Nat.reduceAdd, Nat.reduceMul, Nat.reduceEqDiff, Int.toNat_natCast, wrap_id, if_neg (show ¬ (root : Int) < n by omega), c2, h, hl, hg, zcI_r, if_neg (show ¬ (1 : Int) = 0 by decide)]
theorem ig_refF {d o root n : Nat} {s : Mem} (hCH : CHS s o) (hr : root < 225) (hn : n ≤ root) (h : s (67 + o) n = 4) (hl : Zc d 89 [aR 133, aI n] s = rI 0 s) : Ze d 85 10 [aR 133, aI root, aI n] [] s = rI 0 s := by
  obtain ⟨c1, c2, ho⟩ := hCH
  rw [x85_10]
  simp (disch := first | exact obC_133 | exact (obCO_66 ho) | omega | (simp only [(aN1O_67 ho), (aN1O_71 ho)]; omega) | (simp only [List.length_cons, List.length_nil]; omega)) only [en85, x85_0, x85_1, x85_4, x85_7, x85_8, x85_9, x85_11, x85_12, x85_15, x85_16, x85_19, x85_22, x85_23, x85_24, x85_25, x85_28, x85_29, x85_30, x85_33, x85_36, x85_37, x85_38, x85_41, x85_44, x85_45, x85_46, x85_49, x85_52, x85_53, (fcnO_66_0 ho), (fcnO_66_4 ho), if_true, if_false, eq_self, Int.reduceEq, Int.reduceLT, Int.reduceLE, Int.reduceAdd, Int.reduceSub, Int.reduceMul, Int.reduceToNat, Nat.reduceAdd, Nat.reduceMul, Nat.reduceEqDiff, Int.toNat_natCast, wrap_id, if_neg (show ¬ (root : Int) < n by omega), c2, h, hl, zcI_r]
theorem luS_fr {s : Mem} {o n g q fl : Nat} : Fr (LUF o n (n + 1)) s (luS s o n g q fl) := fun k j hn => luS_at.2.2.2.2 k j (by unfold LUF at hn; omega)
theorem CE_leaf {s : Mem} {o P : Nat} {e : Jvm.Term} {n : Nat} (h : CE s o P e n) (h1 : ∀ a, e ≠ .old a) (h2 : ∀ x a, e ≠ .mul x a) (h3 : ∀ c a b, e ≠ .div c (.rem a b)) (h4 : ∀ c a b, e ≠ .sub c (.rem a b)) : (∃ nm r, e = .add (.arg nm) r ∧ s (67 + o) n = 4 ∧ s (70 + o) n = (nm : Nat) ∧ nm < 26 ∧ s (71 + o) n = n ∧ ∃ a m : Nat, s (68 + o) n = a ∧ s (69 + o) n = m ∧ a + m ≤ P ∧ CPath s r a m) ∨ (∃ v : Nat, e = .arg v ∧ s (67 + o) n = 2 ∧ s (68 + o) n = v ∧ v ≤ 65535 ∧ s (71 + o) n = n) := by
  revert h
  fun_cases CE s o P e n with
  | case1 a => exact absurd rfl (h1 _)
  | case2 h l a => exact absurd rfl (h2 _ _)
  | case3 c a b => exact absurd rfl (h3 _ _ _)
  | case4 c a b => exact absurd rfl (h4 _ _ _)
  | case5 nm r => exact fun h => Or.inl ⟨nm, r, rfl, h⟩
  | case6 v => exact fun h => Or.inr ⟨v, rfl, h⟩
  | case7 => exact fun h => h.elim
