/-! THE CLASS: set, clock, signal, count -/
theorem RK_run {s s' : Mem} {T : Tx} {w : Int} {cp : Bool} {lv : Live} {st val bf ch st' val' bf' ch' : Nat → Int} {ck cn ck' : Int} {o N K : Nat} {l : List Nat} (h : RK s T w cp lv st val bf ch ck cn o N K l) (f : Fr (RUNF o) s s') (r : RUK s' o N K lv.1 lv.2.1 lv.2.2 l st' val' bf' ch' ck') : RK s' T w cp lv st' val' bf' ch' ck' cn o N K l := by
  obtain ⟨⟨ho, b2, b3, b4, b5, b6⟩, h2, h3, h4, h5, h6⟩ := h
  have q : ∀ j, s' 56 j = s 56 j := fun j => f _ _ (by unfold RUNF; omega)
  exact ⟨⟨ho, b2, by rw [q, b3], fun j hj => by rw [f _ _ (by unfold RUNF; omega)]; exact b4 j hj, by rw [q, b5], by rw [q, b6]⟩, by rw [q, h2], by rw [q, h3], r, fun i x hx => by rw [f _ _ (by unfold RUNF; omega)]; exact h5 i x hx, by rw [f _ _ (by unfold RUNF; omega), h6]⟩
def fre (lv : Live) (n : Nat) : Prop := ∃ x, lv.1[n]? = some x ∧ ¬ (isSk x.1 x.2.2.1 ∨ x.1 = 4)
theorem k_setK {d : Nat} {k v : Int} {T : Tx} {w : Int} {cp : Bool} {lv : Live} {st val bf ch : Nat → Int} {ck cn : Int} {o N K : Nat} {l : List Nat} {s : Mem} (hd : 7 ≤ d) (h : RK s T w cp lv st val bf ch ck cn o N K l) :
    ((0 ≤ k ∧ k < lv.1.length) → fre lv k.toNat → ∃ s' val', Zc d 70 [aR 56, aI k, aI v] s = rI (st k.toNat) s' ∧ RK s' T w cp lv (vUp st k.toNat (iand v (msk (lv.2.2 k.toNat)))) val' bf ch ck cn o N K l) ∧
    ((0 ≤ k ∧ k < lv.1.length) → ¬ fre lv k.toNat → Zc d 70 [aR 56, aI k, aI v] s = rT 2 s) ∧
    (¬ (0 ≤ k ∧ k < lv.1.length) → Zc d 70 [aR 56, aI k, aI v] s = rT 6 s) := by
  obtain ⟨d, rfl⟩ : ∃ e, d = e + 1 := ⟨d - 1, by omega⟩
  have hRK := h
  obtain ⟨⟨ho, b2, b3, b4, b5, b6⟩, h2, h3, h4, h5, h6⟩ := h
  have q5 : 0 ≤ s 56 4 := by rw [b5]; omega
  obtain ⟨w1, w0⟩ := k_has (d := d) (k := k) (by omega) ho h4.1.1.1
  have hL := h4.1.1.2.1
  refine ⟨fun hk hf => ?_, fun hk hf => ?_, fun hk => ?_⟩
  · obtain ⟨n, rfl⟩ : ∃ n : Nat, k = n := ⟨k.toNat, by omega⟩
    rw [Int.toNat_natCast] at hf ⊢
    obtain ⟨x, hx, hx2⟩ := hf
    obtain ⟨q1, q2⟩ := h4.1.1.2.2 n x hx
    have e1 := (k_sFree (d := d) (by omega) ho (show n < 24 by omega) q1 q2).2 hx2
    obtain ⟨s', val', a1, a2, a3⟩ := k_put (d := d) (v := v) (by omega) ho h4 (show n < lv.1.length by omega) ⟨x, hx, Or.inr ⟨fun z => hx2 (Or.inr z), fun z => hx2 (Or.inl z)⟩⟩
    refine ⟨s', val', ?_, RK_run hRK (SEF_R a3) a2⟩
    simp (disch := first | exact obC_56 | exact (obCO_58 ho) | exact (obCO_59 ho) | omega | (simp only [List.length_cons, List.length_nil]; omega)) only [en70, x70_0, x70_1, x70_4, x70_5, x70_8, x70_11, x70_21, x70_22, x70_25, x70_28, x70_29, x70_32, x70_35, x70_45, x70_46, x70_49, x70_50, x70_51, x70_54, (fcnO_58_0 ho), if_true, if_false, eq_self, Int.reduceEq, Int.reduceLT, Int.reduceLE, Int.reduceAdd, Int.reduceSub, Int.reduceMul, Int.reduceToNat, Nat.reduceAdd, Nat.reduceMul, Nat.reduceEqDiff, Int.toNat_natCast, wrap_id, b5, w1 hk, zcI_r, e1, a1, if_neg (show ¬ (1 : Int) = 0 by decide)]
  · obtain ⟨n, rfl⟩ : ∃ n : Nat, k = n := ⟨k.toNat, by omega⟩
    rw [Int.toNat_natCast] at hf
    have hx := List.getElem?_eq_getElem (show n < lv.1.length by omega)
    obtain ⟨q1, q2⟩ := h4.1.1.2.2 n _ hx
    have e1 := (k_sFree (d := d) (by omega) ho (show n < 24 by omega) q1 q2).1 (Classical.byContradiction fun z => hf ⟨_, hx, z⟩)
    simp (disch := first | exact obC_56 | exact (obCO_58 ho) | exact (obCO_59 ho) | omega | (simp only [List.length_cons, List.length_nil]; omega)) only [en70, x70_0, x70_1, x70_4, x70_5, x70_8, x70_11, x70_21, x70_22, x70_25, x70_28, x70_29, x70_32, x70_35, x70_45, x70_46, x70_49, x70_50, x70_51, x70_54, (fcnO_58_0 ho), if_true, if_false, eq_self, Int.reduceEq, Int.reduceLT, Int.reduceLE, Int.reduceAdd, Int.reduceSub, Int.reduceMul, Int.reduceToNat, Nat.reduceAdd, Nat.reduceMul, Nat.reduceEqDiff, Int.toNat_natCast, wrap_id, b5, w1 hk, zcI_r, e1, if_neg (show ¬ (1 : Int) = 0 by decide)]
  · simp (disch := first | exact obC_56 | exact (obCO_58 ho) | exact (obCO_59 ho) | omega | (simp only [List.length_cons, List.length_nil]; omega)) only [en70, x70_0, x70_1, x70_4, x70_5, x70_8, x70_11, x70_21, x70_22, x70_25, x70_28, x70_29, x70_32, x70_35, x70_45, x70_46, x70_49, x70_50, x70_51, x70_54, (fcnO_58_0 ho), if_true, if_false, eq_self, Int.reduceEq, Int.reduceLT, Int.reduceLE, Int.reduceAdd, Int.reduceSub, Int.reduceMul, Int.reduceToNat, Nat.reduceAdd, Nat.reduceMul, Nat.reduceEqDiff, Int.toNat_natCast, wrap_id, b5, w0 hk, zcI_r]
theorem ckc_loop {d o N K : Nat} {T : Tx} {w : Int} {cp : Bool} {lv : Live} {cn : Int} {l : List Nat} (hd : 6 ≤ d) : ∀ (m i n : Nat) (s : Mem) (st val bf ch : Nat → Int) (ck : Int), i + m = n → n ≤ 40 → RK s T w cp lv st val bf ch ck cn o N K l →
    ∃ s' st' val' bf' ch' ck', Ze d 72 40 [aR 56, aI n, aI i] [] s = rI ck' s' ∧ clkR lv m st val bf ch ck st' val' bf' ch' ck' ∧ RK s' T w cp lv st' val' bf' ch' ck' cn o N K l := by
  intro m
  induction m with
  | zero =>
    intro i n s st val bf ch ck hi hn h
    have : i = n := by omega
    subst this
    have hck := h.2.2.2.1.2.2.2.2.2.2.2.2.2
    have ho := h.1.1
    have b5 := h.1.2.2.2.2.1
    have q5 : 0 ≤ s 56 4 := by rw [b5]; omega
    refine ⟨s, st, val, bf, ch, ck, ?_, ⟨rfl, rfl, rfl, rfl, rfl⟩, h⟩
    rw [x72_40]
    simp (disch := first | exact obC_56 | exact (obCO_58 ho) | omega | (simp only [List.length_cons, List.length_nil]; omega)) only [en72, x72_0, x72_1, x72_2, x72_5, x72_6, x72_8, x72_11, x72_21, x72_22, x72_25, x72_28, x72_38, x72_39, x72_41, x72_42, x72_45, x72_46, x72_49, x72_52, x72_55, x72_58, x72_59, x72_62, x72_65, if_true, if_false, eq_self, Int.reduceEq, Int.reduceLT, Int.reduceLE, Int.reduceAdd, Int.reduceSub, Int.reduceMul, Int.reduceToNat, Nat.reduceAdd, Nat.reduceMul, Nat.reduceEqDiff, Int.toNat_natCast, wrap_id, b5, hck, if_neg (show ¬ (i : Int) < i by omega)]
  | succ m ih =>
    intro i n s st val bf ch ck hi hn h
    have ho := h.1.1
    have b5 := h.1.2.2.2.2.1
    have q5 : 0 ≤ s 56 4 := by rw [b5]; omega
    obtain ⟨s1, val1, a1, a2, a3⟩ := k_tick (d := d) hd ho h.2.2.2.1
    obtain ⟨s', st', val', bf', ch', ck', c1, c2, c3⟩ := ih (i + 1) n s1 _ val1 _ _ _ (by omega) hn (RK_run h a3 a2)
    refine ⟨s', st', val', bf', ch', ck', ?_, ⟨val1, a2.2.2.2.2.2.2.2.1, c2⟩, c3⟩
    rw [← c1, x72_40, show ((i + 1 : Nat) : Int) = (i : Int) + 1 from rfl]
    simp (disch := first | exact obC_56 | exact (obCO_58 ho) | omega | (simp only [List.length_cons, List.length_nil]; omega)) only [en72, x72_0, x72_1, x72_2, x72_5, x72_6, x72_8, x72_11, x72_21, x72_22, x72_25, x72_28, x72_38, x72_39, x72_41, x72_42, x72_45, x72_46, x72_49, x72_52, x72_55, x72_58, x72_59, x72_62, x72_65, if_true, if_false, eq_self, Int.reduceEq, Int.reduceLT, Int.reduceLE, Int.reduceAdd, Int.reduceSub, Int.reduceMul, Int.reduceToNat, Nat.reduceAdd, Nat.reduceMul, Nat.reduceEqDiff, Int.toNat_natCast, wrap_id, b5, a1, zcV_r, if_pos (show (i : Int) < n by omega)]
theorem k_clockK {d o N K : Nat} {n : Int} {T : Tx} {w : Int} {cp : Bool} {lv : Live} {st val bf ch : Nat → Int} {ck cn : Int} {l : List Nat} {s : Mem} (hd : 7 ≤ d) (h : RK s T w cp lv st val bf ch ck cn o N K l) :
    ((1 ≤ n ∧ n ≤ 40) → cp = true → ∃ s' st' val' bf' ch' ck', Zc d 72 [aR 56, aI n] s = rI ck' s' ∧ clkR lv n.toNat st val bf ch ck st' val' bf' ch' ck' ∧ RK s' T w cp lv st' val' bf' ch' ck' cn o N K l) ∧
    ((1 ≤ n ∧ n ≤ 40) → cp = false → Zc d 72 [aR 56, aI n] s = rT 3 s) ∧
    (¬ (1 ≤ n ∧ n ≤ 40) → Zc d 72 [aR 56, aI n] s = rT 1 s) := by
  obtain ⟨d, rfl⟩ : ∃ e, d = e + 1 := ⟨d - 1, by omega⟩
  have hcp := h.2.2.1
  refine ⟨fun hn hc => ?_, fun hn hc => ?_, fun hn => ?_⟩
  · subst hc
    have hcp : s 56 3 = 1 := hcp
    obtain ⟨k, rfl⟩ : ∃ k : Nat, n = k := ⟨n.toNat, by omega⟩
    rw [Int.toNat_natCast]
    obtain ⟨s', st', val', bf', ch', ck', p1, p2, p3⟩ := ckc_loop (d := d) (by omega) k 0 k s st val bf ch ck (Nat.zero_add _) (by omega) h
    refine ⟨s', st', val', bf', ch', ck', Eq.trans ?_ p1, p2, p3⟩
    rw [show ((0 : Nat) : Int) = 0 from rfl]
    simp (disch := first | exact obC_56 | exact obC_58 | exact obC_84 | omega | (simp only [List.length_cons, List.length_nil]; omega)) only [en72, x72_0, x72_1, x72_2, x72_5, x72_6, x72_8, x72_11, x72_21, x72_22, x72_25, x72_28, x72_38, x72_39, x72_41, x72_42, x72_45, x72_46, x72_49, x72_52, x72_55, x72_58, x72_59, x72_62, x72_65, if_true, if_false, eq_self, Int.reduceEq, Int.reduceLT, Int.reduceLE, Int.reduceAdd, Int.reduceSub, Int.reduceMul, Int.reduceToNat, Nat.reduceAdd, Nat.reduceMul, Nat.reduceEqDiff, Int.toNat_natCast, wrap_id, hcp, if_neg (show ¬ (k : Int) < 1 by omega), if_neg (show ¬ (40 : Int) < k by omega), if_neg (show ¬ (1 : Int) = 0 by decide)]
  · subst hc
    have hcp : s 56 3 = 0 := hcp
    simp (disch := first | exact obC_56 | exact obC_58 | exact obC_84 | omega | (simp only [List.length_cons, List.length_nil]; omega)) only [en72, x72_0, x72_1, x72_2, x72_5, x72_6, x72_8, x72_11, x72_21, x72_22, x72_25, x72_28, x72_38, x72_39, x72_41, x72_42, x72_45, x72_46, x72_49, x72_52, x72_55, x72_58, x72_59, x72_62, x72_65, if_true, if_false, eq_self, Int.reduceEq, Int.reduceLT, Int.reduceLE, Int.reduceAdd, Int.reduceSub, Int.reduceMul, Int.reduceToNat, Nat.reduceAdd, Nat.reduceMul, Nat.reduceEqDiff, Int.toNat_natCast, wrap_id, hcp, if_neg (show ¬ n < 1 by omega), if_neg (show ¬ (40 : Int) < n by omega)]
  · by_cases h1 : n < 1
    · simp (disch := first | exact obC_56 | exact obC_58 | exact obC_84 | omega | (simp only [List.length_cons, List.length_nil]; omega)) only [en72, x72_0, x72_1, x72_2, x72_5, x72_6, x72_8, x72_11, x72_21, x72_22, x72_25, x72_28, x72_38, x72_39, x72_41, x72_42, x72_45, x72_46, x72_49, x72_52, x72_55, x72_58, x72_59, x72_62, x72_65, if_true, if_false, eq_self, Int.reduceEq, Int.reduceLT, Int.reduceLE, Int.reduceAdd, Int.reduceSub, Int.reduceMul, Int.reduceToNat, Nat.reduceAdd, Nat.reduceMul, Nat.reduceEqDiff, Int.toNat_natCast, wrap_id, if_pos h1]
    · simp (disch := first | exact obC_56 | exact obC_58 | exact obC_84 | omega | (simp only [List.length_cons, List.length_nil]; omega)) only [en72, x72_0, x72_1, x72_2, x72_5, x72_6, x72_8, x72_11, x72_21, x72_22, x72_25, x72_28, x72_38, x72_39, x72_41, x72_42, x72_45, x72_46, x72_49, x72_52, x72_55, x72_58, x72_59, x72_62, x72_65, if_true, if_false, eq_self, Int.reduceEq, Int.reduceLT, Int.reduceLE, Int.reduceAdd, Int.reduceSub, Int.reduceMul, Int.reduceToNat, Nat.reduceAdd, Nat.reduceMul, Nat.reduceEqDiff, Int.toNat_natCast, wrap_id, if_neg h1, if_pos (show (40 : Int) < n by omega)]
