/-! bits -/
theorem b_i32 (n : Nat) : i32 (n : Int) = nI n := by
  unfold i32 nI
  apply Int32.toBitVec_inj.mp
  simp
theorem b_sh : ∀ n : Fin 32, ((nI n &&& 31).toBitVec.smod 32).toNat = n := by decide +kernel
theorem b_shr {x n : Nat} (hx : x < 2 ^ 31) (hn : n < 32) : ishr x n = ((x / 2 ^ n : Nat) : Int) := by
  rw [ishr_def, b_i32, b_i32, pk_shrN hx _ n (b_sh ⟨n, hn⟩), nI_toInt (Nat.lt_of_le_of_lt (Nat.div_le_self _ _) hx)]
theorem b_shl {x n : Nat} (hx : x * 2 ^ n < 2 ^ 31) (hn : n < 32) : ishl x n = ((x * 2 ^ n : Nat) : Int) := by
  rw [ishl_def, b_i32, b_i32, pk_shlN _ n (b_sh ⟨n, hn⟩) (by omega), nI_toInt hx]
/-! THE DOCUMENT: widths -/
def nbF : Nat → Nat → Nat → Nat
  | 0, n, _ => n
  | f + 1, n, v => if v / 2 ^ n = 0 then n else nbF f (n + 1) v
/-- how many bits a number takes, at least one -/
def nbt (v : Nat) : Nat := nbF 16 1 v
def wE (W : Nat → Nat) : Jvm.Term → Nat
  | .index g => W g
  | .arg v => nbt v
  | .old a => wE W a
  | .mul (.add (.arg h) (.arg l)) _ => h - l + 1
  | .div (.arg c) (.rem a b) => if c = 43 then max (wE W a) (wE W b) + 1 else if c = 61 ∨ c = 60 then 1 else if c = 35 then wE W a + wE W b else max (wE W a) (wE W b)
  | .sub _ (.rem a b) => max (wE W a) (wE W b)
  | _ => 0
/-- a part of it is wider than 16 -/
def tw (W : Nat → Nat) : Jvm.Term → Prop
  | .old a => 16 < wE W (.old a) ∨ tw W a
  | .mul x a => 16 < wE W (.mul x a) ∨ tw W a
  | .div c (.rem a b) => 16 < wE W (.div c (.rem a b)) ∨ tw W a ∨ tw W b
  | .sub c (.rem a b) => 16 < wE W (.sub c (.rem a b)) ∨ tw W c ∨ tw W a ∨ tw W b
  | e => 16 < wE W e
/-- the widths of its nodes, as the reference has found them -/
def WE (s : Mem) (W : Nat → Nat) : Jvm.Term → Nat → Prop
  | .old a, n => s 19 n = wE W (.old a) ∧ WE s W a (n + 1)
  | .mul x a, n => s 19 n = wE W (.mul x a) ∧ WE s W a (n + 1)
  | .div c (.rem a b), n => s 19 n = wE W (.div c (.rem a b)) ∧ WE s W a (n + 1) ∧ WE s W b (n + 1 + esz a)
  | .sub c (.rem a b), n => s 19 n = wE W (.sub c (.rem a b)) ∧ WE s W c (n + 1) ∧ WE s W a (n + 1 + esz c) ∧ WE s W b (n + 1 + esz c + esz a)
  | e, n => s 19 n = wE W e
theorem WE_head {s : Mem} {W : Nat → Nat} {e : Jvm.Term} {n : Nat} (h : WE s W e n) : s 19 n = wE W e := by
  revert h
  fun_cases WE s W e n with
  | case1 => exact fun h => h.1
  | case2 => exact fun h => h.1
  | case3 => exact fun h => h.1
  | case4 => exact fun h => h.1
  | case5 => exact fun h => h
theorem WE_put {s s' : Mem} {W : Nat → Nat} {e : Jvm.Term} {n : Nat} : WE s W e n → (∀ j, n ≤ j → j < n + esz e → s' 19 j = s 19 j) → WE s' W e n := by
  fun_induction WE s W e n with
  | case1 a n ih =>
    intro h g
    simp only [esz] at g
    exact ⟨by rw [g _ (by omega) (by omega)]; exact h.1, ih h.2 (fun j h1 h2 => g j (by omega) (by omega))⟩
  | case2 x a n ih =>
    intro h g
    simp only [esz] at g
    exact ⟨by rw [g _ (by omega) (by omega)]; exact h.1, ih h.2 (fun j h1 h2 => g j (by omega) (by omega))⟩
  | case3 c a b n ih1 ih2 =>
    intro h g
    simp only [esz] at g
    exact ⟨by rw [g _ (by omega) (by omega)]; exact h.1, ih1 h.2.1 (fun j h1 h2 => g j (by omega) (by omega)), ih2 h.2.2 (fun j h1 h2 => g j (by omega) (by omega))⟩
  | case4 c a b n ih1 ih2 ih3 =>
    intro h g
    simp only [esz] at g
    exact ⟨by rw [g _ (by omega) (by omega)]; exact h.1, ih1 h.2.1 (fun j h1 h2 => g j (by omega) (by omega)), ih2 h.2.2.1 (fun j h1 h2 => g j (by omega) (by omega)), ih3 h.2.2.2 (fun j h1 h2 => g j (by omega) (by omega))⟩
  | case5 e n h1 h2 h3 h4 =>
    intro h g
    have := esz_pos e
    unfold WE
    split
    · exact absurd rfl (h1 _)
    · exact absurd rfl (h2 _ _)
    · exact absurd rfl (h3 _ _ _)
    · exact absurd rfl (h4 _ _ _)
    · rw [g _ (Nat.le_refl _) (by omega)]
      exact h
theorem nb_loop {d v : Nat} (hv : v < 65536) (s : Mem) : ∀ (f n : Nat), n + f = 17 → Ze d 37 2 [aI v, aI n] [] s = rI (nbF f n v) s := by
  intro f
  induction f with
  | zero =>
    intro n hn
    have e : ishr v n = ((v / 2 ^ n : Nat) : Int) := b_shr (by omega) (by omega)
    have h0 : v / 2 ^ n = 0 := Nat.div_eq_of_lt (Nat.lt_of_lt_of_le hv (by rw [show n = 17 by omega]; decide))
    rw [h0] at e
    have e : ishr v n = 0 := e
    rw [x37_2]
    simp (disch := first | exact obC_0 | omega | (simp only [List.length_cons, List.length_nil]; omega)) only [en37, x37_0, x37_1, x37_3, x37_4, x37_5, x37_8, x37_11, x37_14, x37_15, if_true, if_false, eq_self, Int.reduceEq, Int.reduceLT, Int.reduceLE, Int.reduceAdd, Int.reduceSub, Int.reduceMul, Int.reduceToNat, Nat.reduceAdd, Nat.reduceMul, Nat.reduceEqDiff, Int.toNat_natCast, wrap_id, e, nbF]
  | succ f ih =>
    intro n hn
    have e : ishr v n = ((v / 2 ^ n : Nat) : Int) := b_shr (by omega) (by omega)
    unfold nbF
    by_cases h0 : v / 2 ^ n = 0
    · rw [if_pos h0]
      rw [h0] at e
      have e : ishr v n = 0 := e
      rw [x37_2]
      simp (disch := first | exact obC_0 | omega | (simp only [List.length_cons, List.length_nil]; omega)) only [en37, x37_0, x37_1, x37_3, x37_4, x37_5, x37_8, x37_11, x37_14, x37_15, if_true, if_false, eq_self, Int.reduceEq, Int.reduceLT, Int.reduceLE, Int.reduceAdd, Int.reduceSub, Int.reduceMul, Int.reduceToNat, Nat.reduceAdd, Nat.reduceMul, Nat.reduceEqDiff, Int.toNat_natCast, wrap_id, e]
    · rw [if_neg h0, ← ih (n + 1) (by omega)]
      rw [show ((n + 1 : Nat) : Int) = (n : Int) + 1 by omega]
      generalize v / 2 ^ n = q at *
      rw [x37_2]
      simp (disch := first | exact obC_0 | omega | (simp only [List.length_cons, List.length_nil]; omega)) only [en37, x37_0, x37_1, x37_3, x37_4, x37_5, x37_8, x37_11, x37_14, x37_15, if_true, if_false, eq_self, Int.reduceEq, Int.reduceLT, Int.reduceLE, Int.reduceAdd, Int.reduceSub, Int.reduceMul, Int.reduceToNat, Nat.reduceAdd, Nat.reduceMul, Nat.reduceEqDiff, Int.toNat_natCast, wrap_id, e, if_pos (show 0 < (q : Int) by omega)]
theorem t_needs {d v : Nat} (hd : 1 ≤ d) (hv : v < 65536) (s : Mem) : Zc d 37 [aI v] s = rI (nbt v) s := by
  obtain ⟨d, rfl⟩ : ∃ e, d = e + 1 := ⟨d - 1, by omega⟩
  unfold nbt
  rw [← nb_loop (d := d) hv s 16 1 rfl]
  have z1 : ((1 : Nat) : Int) = 1 := rfl
  simp (disch := first | exact obC_0 | omega | (simp only [List.length_cons, List.length_nil]; omega)) only [en37, x37_0, x37_1, x37_3, x37_4, x37_5, x37_8, x37_11, x37_14, x37_15, if_true, if_false, eq_self, Int.reduceEq, Int.reduceLT, Int.reduceLE, Int.reduceAdd, Int.reduceSub, Int.reduceMul, Int.reduceToNat, Nat.reduceAdd, Nat.reduceMul, Nat.reduceEqDiff, Int.toNat_natCast, wrap_id, z1]
theorem nbF_le : ∀ (f n v : Nat), nbF f n v ≤ n + f
  | 0, _, _ => Nat.le_refl _
  | f + 1, n, v => by
    unfold nbF
    split
    · omega
    · have := nbF_le f (n + 1) v
      omega
theorem nbF_16 {v : Nat} (hv : v < 65536) : ∀ (f n : Nat), n + f = 17 → n ≤ 16 → nbF f n v ≤ 16
  | 0, n, h1, h2 => by omega
  | f + 1, n, h1, h2 => by
    unfold nbF
    split
    · omega
    next h =>
      by_cases hn : n = 16
      · exact absurd (Nat.div_eq_of_lt (by rw [hn]; exact hv)) h
      · exact nbF_16 hv f (n + 1) (by omega) (by omega)
theorem nbt_le {v : Nat} (hv : v < 65536) : nbt v ≤ 16 := nbF_16 hv 16 1 rfl (by decide)
theorem t_more {d a b : Nat} (hd : 1 ≤ d) (s : Mem) : Zc d 38 [aI a, aI b] s = rI ((max a b : Nat) : Int) s := by
  obtain ⟨d, rfl⟩ : ∃ e, d = e + 1 := ⟨d - 1, by omega⟩
  by_cases h : b < a
  · rw [show max a b = a by omega]
    simp (disch := first | exact obC_0 | omega | (simp only [List.length_cons, List.length_nil]; omega)) only [en38, x38_0, x38_1, x38_2, x38_5, x38_6, x38_9, x38_10, if_true, if_false, eq_self, Int.reduceEq, Int.reduceLT, Int.reduceLE, Int.reduceAdd, Int.reduceSub, Int.reduceMul, Int.reduceToNat, Nat.reduceAdd, Nat.reduceMul, Nat.reduceEqDiff, Int.toNat_natCast, wrap_id, if_neg (show ¬ (a : Int) ≤ b by omega), if_pos (show (b : Int) < a by omega)]
  · rw [show max a b = b by omega]
    simp (disch := first | exact obC_0 | omega | (simp only [List.length_cons, List.length_nil]; omega)) only [en38, x38_0, x38_1, x38_2, x38_5, x38_6, x38_9, x38_10, if_true, if_false, eq_self, Int.reduceEq, Int.reduceLT, Int.reduceLE, Int.reduceAdd, Int.reduceSub, Int.reduceMul, Int.reduceToNat, Nat.reduceAdd, Nat.reduceMul, Nat.reduceEqDiff, Int.toNat_natCast, wrap_id, if_pos (show (a : Int) ≤ b by omega), if_neg (show ¬ (b : Int) < a by omega)]
/-- widthOf, from what its case leaves -/
theorem wo_tail {d n w : Nat} {s : Mem} (hw : w ≤ 40) (l2 l3 : AV) : Ze d 39 249 [aR 0, aI n, l2, l3, aI w] [] s = rI ((min 17 w : Nat) : Int) s := by
  by_cases h : 17 < w
  · rw [show min 17 w = 17 by omega]
    simp (disch := first | exact obC_0 | omega | (simp only [aN1_12, aN1_13, aN1_14, aN1_15, aN1_16, aN1_17, aN1_19, aN1_38]; omega) | (simp only [List.length_cons, List.length_nil]; omega)) only [en39, x39_0, x39_1, x39_4, x39_5, x39_6, x39_7, x39_10, x39_11, x39_14, x39_15, x39_16, x39_19, x39_20, x39_23, x39_24, x39_27, x39_28, x39_31, x39_32, x39_33, x39_34, x39_35, x39_36, x39_39, x39_40, x39_41, x39_42, x39_45, x39_46, x39_49, x39_50, x39_51, x39_54, x39_55, x39_58, x39_59, x39_62, x39_63, x39_66, x39_67, x39_68, x39_69, x39_70, x39_71, x39_73, x39_74, x39_77, x39_78, x39_79, x39_160, x39_161, x39_164, x39_165, x39_168, x39_169, x39_170, x39_171, x39_172, x39_173, x39_176, x39_177, x39_178, x39_181, x39_182, x39_183, x39_184, x39_187, x39_188, x39_189, x39_191, x39_194, x39_195, x39_196, x39_197, x39_198, x39_199, x39_201, x39_204, x39_205, x39_206, x39_207, x39_208, x39_211, x39_212, x39_215, x39_216, x39_217, x39_218, x39_221, x39_223, x39_226, x39_227, x39_230, x39_231, x39_232, x39_233, x39_236, x39_237, x39_238, x39_239, x39_240, x39_241, x39_242, x39_243, x39_244, x39_247, x39_249, x39_251, x39_253, x39_256, x39_258, x39_261, x39_263, fcn_0_19, fcn_0_20, fcn_0_21, fcn_0_22, fcn_0_23, fcn_0_24, fcn_0_26, fcn_0_47, if_true, if_false, eq_self, Int.reduceEq, Int.reduceLT, Int.reduceLE, Int.reduceAdd, Int.reduceSub, Int.reduceMul, Int.reduceToNat, Nat.reduceAdd, Nat.reduceMul, Nat.reduceEqDiff, Int.toNat_natCast, wrap_id, if_pos (show 17 < (w : Int) by omega)]
    rfl
  · rw [show min 17 w = w by omega]
    simp (disch := first | exact obC_0 | omega | (simp only [aN1_12, aN1_13, aN1_14, aN1_15, aN1_16, aN1_17, aN1_19, aN1_38]; omega) | (simp only [List.length_cons, List.length_nil]; omega)) only [en39, x39_0, x39_1, x39_4, x39_5, x39_6, x39_7, x39_10, x39_11, x39_14, x39_15, x39_16, x39_19, x39_20, x39_23, x39_24, x39_27, x39_28, x39_31, x39_32, x39_33, x39_34, x39_35, x39_36, x39_39, x39_40, x39_41, x39_42, x39_45, x39_46, x39_49, x39_50, x39_51, x39_54, x39_55, x39_58, x39_59, x39_62, x39_63, x39_66, x39_67, x39_68, x39_69, x39_70, x39_71, x39_73, x39_74, x39_77, x39_78, x39_79, x39_160, x39_161, x39_164, x39_165, x39_168, x39_169, x39_170, x39_171, x39_172, x39_173, x39_176, x39_177, x39_178, x39_181, x39_182, x39_183, x39_184, x39_187, x39_188, x39_189, x39_191, x39_194, x39_195, x39_196, x39_197, x39_198, x39_199, x39_201, x39_204, x39_205, x39_206, x39_207, x39_208, x39_211, x39_212, x39_215, x39_216, x39_217, x39_218, x39_221, x39_223, x39_226, x39_227, x39_230, x39_231, x39_232, x39_233, x39_236, x39_237, x39_238, x39_239, x39_240, x39_241, x39_242, x39_243, x39_244, x39_247, x39_249, x39_251, x39_253, x39_256, x39_258, x39_261, x39_263, fcn_0_19, fcn_0_20, fcn_0_21, fcn_0_22, fcn_0_23, fcn_0_24, fcn_0_26, fcn_0_47, if_true, if_false, eq_self, Int.reduceEq, Int.reduceLT, Int.reduceLE, Int.reduceAdd, Int.reduceSub, Int.reduceMul, Int.reduceToNat, Nat.reduceAdd, Nat.reduceMul, Nat.reduceEqDiff, Int.toNat_natCast, wrap_id, if_neg (show ¬ 17 < (w : Int) by omega)]
theorem wo_index {d n g : Nat} {s : Mem} {w : Int} (hd : 2 ≤ d) (hn : n < 220) (hk : s 12 n = 0) (ha : s 15 n = g) (hg : g < 24) (hw : s 38 g = w) : Zc d 39 [aR 0, aI n] s = rI w s := by
  obtain ⟨d, rfl⟩ : ∃ e, d = e + 1 := ⟨d - 1, by omega⟩
  simp (disch := first | exact obC_0 | omega | (simp only [aN1_12, aN1_13, aN1_14, aN1_15, aN1_16, aN1_17, aN1_19, aN1_38]; omega) | (simp only [List.length_cons, List.length_nil]; omega)) only [en39, x39_0, x39_1, x39_4, x39_5, x39_6, x39_7, x39_10, x39_11, x39_14, x39_15, x39_16, x39_19, x39_20, x39_23, x39_24, x39_27, x39_28, x39_31, x39_32, x39_33, x39_34, x39_35, x39_36, x39_39, x39_40, x39_41, x39_42, x39_45, x39_46, x39_49, x39_50, x39_51, x39_54, x39_55, x39_58, x39_59, x39_62, x39_63, x39_66, x39_67, x39_68, x39_69, x39_70, x39_71, x39_73, x39_74, x39_77, x39_78, x39_79, x39_160, x39_161, x39_164, x39_165, x39_168, x39_169, x39_170, x39_171, x39_172, x39_173, x39_176, x39_177, x39_178, x39_181, x39_182, x39_183, x39_184, x39_187, x39_188, x39_189, x39_191, x39_194, x39_195, x39_196, x39_197, x39_198, x39_199, x39_201, x39_204, x39_205, x39_206, x39_207, x39_208, x39_211, x39_212, x39_215, x39_216, x39_217, x39_218, x39_221, x39_223, x39_226, x39_227, x39_230, x39_231, x39_232, x39_233, x39_236, x39_237, x39_238, x39_239, x39_240, x39_241, x39_242, x39_243, x39_244, x39_247, x39_249, x39_251, x39_253, x39_256, x39_258, x39_261, x39_263, fcn_0_19, fcn_0_20, fcn_0_21, fcn_0_22, fcn_0_23, fcn_0_24, fcn_0_26, fcn_0_47, if_true, if_false, eq_self, Int.reduceEq, Int.reduceLT, Int.reduceLE, Int.reduceAdd, Int.reduceSub, Int.reduceMul, Int.reduceToNat, Nat.reduceAdd, Nat.reduceMul, Nat.reduceEqDiff, Int.toNat_natCast, wrap_id, hk, ha, hw]
theorem wo_num {d n v : Nat} {s : Mem} (hd : 2 ≤ d) (hn : n < 220) (hk : s 12 n = 1) (ha : s 13 n = v) (hv : v < 65536) : Zc d 39 [aR 0, aI n] s = rI (nbt v) s := by
  obtain ⟨d, rfl⟩ : ∃ e, d = e + 1 := ⟨d - 1, by omega⟩
  simp (disch := first | exact obC_0 | omega | (simp only [aN1_12, aN1_13, aN1_14, aN1_15, aN1_16, aN1_17, aN1_19, aN1_38]; omega) | (simp only [List.length_cons, List.length_nil]; omega)) only [en39, x39_0, x39_1, x39_4, x39_5, x39_6, x39_7, x39_10, x39_11, x39_14, x39_15, x39_16, x39_19, x39_20, x39_23, x39_24, x39_27, x39_28, x39_31, x39_32, x39_33, x39_34, x39_35, x39_36, x39_39, x39_40, x39_41, x39_42, x39_45, x39_46, x39_49, x39_50, x39_51, x39_54, x39_55, x39_58, x39_59, x39_62, x39_63, x39_66, x39_67, x39_68, x39_69, x39_70, x39_71, x39_73, x39_74, x39_77, x39_78, x39_79, x39_160, x39_161, x39_164, x39_165, x39_168, x39_169, x39_170, x39_171, x39_172, x39_173, x39_176, x39_177, x39_178, x39_181, x39_182, x39_183, x39_184, x39_187, x39_188, x39_189, x39_191, x39_194, x39_195, x39_196, x39_197, x39_198, x39_199, x39_201, x39_204, x39_205, x39_206, x39_207, x39_208, x39_211, x39_212, x39_215, x39_216, x39_217, x39_218, x39_221, x39_223, x39_226, x39_227, x39_230, x39_231, x39_232, x39_233, x39_236, x39_237, x39_238, x39_239, x39_240, x39_241, x39_242, x39_243, x39_244, x39_247, x39_249, x39_251, x39_253, x39_256, x39_258, x39_261, x39_263, fcn_0_19, fcn_0_20, fcn_0_21, fcn_0_22, fcn_0_23, fcn_0_24, fcn_0_26, fcn_0_47, if_true, if_false, eq_self, Int.reduceEq, Int.reduceLT, Int.reduceLE, Int.reduceAdd, Int.reduceSub, Int.reduceMul, Int.reduceToNat, Nat.reduceAdd, Nat.reduceMul, Nat.reduceEqDiff, Int.toNat_natCast, wrap_id, hk, ha, t_needs (d := d) (by omega) hv, zcI_r]
theorem wo_old {d n a : Nat} {s : Mem} {w : Int} (hd : 2 ≤ d) (hn : n < 220) (hk : s 12 n = 33) (ha : s 15 n = a) (ha2 : a < 220) (hw : s 19 a = w) (hb : s 16 n = -1) : Zc d 39 [aR 0, aI n] s = rI w s := by
  obtain ⟨d, rfl⟩ : ∃ e, d = e + 1 := ⟨d - 1, by omega⟩
  simp (disch := first | exact obC_0 | omega | (simp only [aN1_12, aN1_13, aN1_14, aN1_15, aN1_16, aN1_17, aN1_19, aN1_38]; omega) | (simp only [List.length_cons, List.length_nil]; omega)) only [en39, x39_0, x39_1, x39_4, x39_5, x39_6, x39_7, x39_10, x39_11, x39_14, x39_15, x39_16, x39_19, x39_20, x39_23, x39_24, x39_27, x39_28, x39_31, x39_32, x39_33, x39_34, x39_35, x39_36, x39_39, x39_40, x39_41, x39_42, x39_45, x39_46, x39_49, x39_50, x39_51, x39_54, x39_55, x39_58, x39_59, x39_62, x39_63, x39_66, x39_67, x39_68, x39_69, x39_70, x39_71, x39_73, x39_74, x39_77, x39_78, x39_79, x39_160, x39_161, x39_164, x39_165, x39_168, x39_169, x39_170, x39_171, x39_172, x39_173, x39_176, x39_177, x39_178, x39_181, x39_182, x39_183, x39_184, x39_187, x39_188, x39_189, x39_191, x39_194, x39_195, x39_196, x39_197, x39_198, x39_199, x39_201, x39_204, x39_205, x39_206, x39_207, x39_208, x39_211, x39_212, x39_215, x39_216, x39_217, x39_218, x39_221, x39_223, x39_226, x39_227, x39_230, x39_231, x39_232, x39_233, x39_236, x39_237, x39_238, x39_239, x39_240, x39_241, x39_242, x39_243, x39_244, x39_247, x39_249, x39_251, x39_253, x39_256, x39_258, x39_261, x39_263, fcn_0_19, fcn_0_20, fcn_0_21, fcn_0_22, fcn_0_23, fcn_0_24, fcn_0_26, fcn_0_47, if_true, if_false, eq_self, Int.reduceEq, Int.reduceLT, Int.reduceLE, Int.reduceAdd, Int.reduceSub, Int.reduceMul, Int.reduceToNat, Nat.reduceAdd, Nat.reduceMul, Nat.reduceEqDiff, Int.toNat_natCast, wrap_id, hk, ha, hw, hb, if_neg (show ¬ (a : Int) < 0 by omega)]
theorem wo_bits {d n a h l : Nat} {s : Mem} (hd : 2 ≤ d) (hn : n < 220) (hk : s 12 n = 84) (ha : s 15 n = a) (ha2 : a < 220) (hh : s 14 n = h) (hl : s 13 n = l) (hhl : l ≤ h ∧ h ≤ 15) (hb : s 16 n = -1) : Zc d 39 [aR 0, aI n] s = rI ((h - l + 1 : Nat) : Int) s := by
  obtain ⟨d, rfl⟩ : ∃ e, d = e + 1 := ⟨d - 1, by omega⟩
  rw [show ((h - l + 1 : Nat) : Int) = (h : Int) - l + 1 by omega]
  simp (disch := first | exact obC_0 | omega | (simp only [aN1_12, aN1_13, aN1_14, aN1_15, aN1_16, aN1_17, aN1_19, aN1_38]; omega) | (simp only [List.length_cons, List.length_nil]; omega)) only [en39, x39_0, x39_1, x39_4, x39_5, x39_6, x39_7, x39_10, x39_11, x39_14, x39_15, x39_16, x39_19, x39_20, x39_23, x39_24, x39_27, x39_28, x39_31, x39_32, x39_33, x39_34, x39_35, x39_36, x39_39, x39_40, x39_41, x39_42, x39_45, x39_46, x39_49, x39_50, x39_51, x39_54, x39_55, x39_58, x39_59, x39_62, x39_63, x39_66, x39_67, x39_68, x39_69, x39_70, x39_71, x39_73, x39_74, x39_77, x39_78, x39_79, x39_160, x39_161, x39_164, x39_165, x39_168, x39_169, x39_170, x39_171, x39_172, x39_173, x39_176, x39_177, x39_178, x39_181, x39_182, x39_183, x39_184, x39_187, x39_188, x39_189, x39_191, x39_194, x39_195, x39_196, x39_197, x39_198, x39_199, x39_201, x39_204, x39_205, x39_206, x39_207, x39_208, x39_211, x39_212, x39_215, x39_216, x39_217, x39_218, x39_221, x39_223, x39_226, x39_227, x39_230, x39_231, x39_232, x39_233, x39_236, x39_237, x39_238, x39_239, x39_240, x39_241, x39_242, x39_243, x39_244, x39_247, x39_249, x39_251, x39_253, x39_256, x39_258, x39_261, x39_263, fcn_0_19, fcn_0_20, fcn_0_21, fcn_0_22, fcn_0_23, fcn_0_24, fcn_0_26, fcn_0_47, if_true, if_false, eq_self, Int.reduceEq, Int.reduceLT, Int.reduceLE, Int.reduceAdd, Int.reduceSub, Int.reduceMul, Int.reduceToNat, Nat.reduceAdd, Nat.reduceMul, Nat.reduceEqDiff, Int.toNat_natCast, wrap_id, hk, ha, hh, hl, hb, if_neg (show ¬ (a : Int) < 0 by omega)]
theorem wo_mux {d n a b c x y : Nat} {s : Mem} (hd : 2 ≤ d) (hn : n < 220) (hk : s 12 n = 77) (ha : s 15 n = a) (ha2 : a < 220) (hb : s 16 n = b) (hb2 : b < 220) (hc : s 17 n = c) (hc2 : c < 220) (hx : s 19 b = x) (hy : s 19 c = y) (hxy : x ≤ 16 ∧ y ≤ 16) : Zc d 39 [aR 0, aI n] s = rI ((max x y : Nat) : Int) s := by
  obtain ⟨d, rfl⟩ : ∃ e, d = e + 1 := ⟨d - 1, by omega⟩
  have ht := wo_tail (d := d) (n := n) (w := max x y) (s := s) (by omega) (aI (s 19 a)) (aI x)
  rw [show min 17 (max x y) = max x y by omega] at ht
  rw [← ht]
  simp (disch := first | exact obC_0 | omega | (simp only [aN1_12, aN1_13, aN1_14, aN1_15, aN1_16, aN1_17, aN1_19, aN1_38]; omega) | (simp only [List.length_cons, List.length_nil]; omega)) only [en39, x39_0, x39_1, x39_4, x39_5, x39_6, x39_7, x39_10, x39_11, x39_14, x39_15, x39_16, x39_19, x39_20, x39_23, x39_24, x39_27, x39_28, x39_31, x39_32, x39_33, x39_34, x39_35, x39_36, x39_39, x39_40, x39_41, x39_42, x39_45, x39_46, x39_49, x39_50, x39_51, x39_54, x39_55, x39_58, x39_59, x39_62, x39_63, x39_66, x39_67, x39_68, x39_69, x39_70, x39_71, x39_73, x39_74, x39_77, x39_78, x39_79, x39_160, x39_161, x39_164, x39_165, x39_168, x39_169, x39_170, x39_171, x39_172, x39_173, x39_176, x39_177, x39_178, x39_181, x39_182, x39_183, x39_184, x39_187, x39_188, x39_189, x39_191, x39_194, x39_195, x39_196, x39_197, x39_198, x39_199, x39_201, x39_204, x39_205, x39_206, x39_207, x39_208, x39_211, x39_212, x39_215, x39_216, x39_217, x39_218, x39_221, x39_223, x39_226, x39_227, x39_230, x39_231, x39_232, x39_233, x39_236, x39_237, x39_238, x39_239, x39_240, x39_241, x39_242, x39_243, x39_244, x39_247, x39_251, x39_253, x39_256, x39_258, x39_261, x39_263, fcn_0_19, fcn_0_20, fcn_0_21, fcn_0_22, fcn_0_23, fcn_0_24, fcn_0_26, fcn_0_47, if_true, if_false, eq_self, Int.reduceEq, Int.reduceLT, Int.reduceLE, Int.reduceAdd, Int.reduceSub, Int.reduceMul, Int.reduceToNat, Nat.reduceAdd, Nat.reduceMul, Nat.reduceEqDiff, Int.toNat_natCast, wrap_id, hk, ha, hb, hc, hx, hy, t_more (d := d) (by omega), zcI_r, if_neg (show ¬ (a : Int) < 0 by omega), if_neg (show ¬ (b : Int) < 0 by omega)]
theorem wo_two {d n a b c x y : Nat} {s : Mem} (hd : 2 ≤ d) (hn : n < 220) (h2 : two c) (hk : s 12 n = c) (ha : s 15 n = a) (ha2 : a < 220) (hb : s 16 n = b) (hb2 : b < 220) (hx : s 19 a = x) (hy : s 19 b = y) (hxy : x ≤ 16 ∧ y ≤ 16) : Zc d 39 [aR 0, aI n] s = rI ((min 17 (if c = 43 then max x y + 1 else if c = 61 ∨ c = 60 then 1 else if c = 35 then x + y else max x y) : Nat) : Int) s := by
  obtain ⟨d, rfl⟩ : ∃ e, d = e + 1 := ⟨d - 1, by omega⟩
  have t1 := wo_tail (d := d) (n := n) (w := max x y) (s := s) (by omega) (aI x) (aI y)
  have t2 := wo_tail (d := d) (n := n) (w := max x y + 1) (s := s) (by omega) (aI x) (aI y)
  have t3 := wo_tail (d := d) (n := n) (w := x + y) (s := s) (by omega) (aI x) (aI y)
  rw [show ((max x y + 1 : Nat) : Int) = ((max x y : Nat) : Int) + 1 from rfl] at t2
  rw [show ((x + y : Nat) : Int) = (x : Int) + y from rfl] at t3
  have hm : max x y ≤ 16 := by omega
  have tm := t_more (d := d) (a := x) (b := y) (by omega) s
  have hm1 : wrap (((max x y : Nat) : Int) + 1) = ((max x y : Nat) : Int) + 1 := wrap_id (by omega)
  have h2 : c = 43 ∨ c = 45 ∨ c = 38 ∨ c = 124 ∨ c = 94 ∨ c = 61 ∨ c = 60 ∨ c = 35 := by unfold two at h2; omega
  rcases h2 with rfl | rfl | rfl | rfl | rfl | rfl | rfl | rfl
  · have hk : s 12 n = 43 := hk
    rw [if_pos rfl, ← t2]
    generalize max x y = m at *
    simp (disch := first | exact obC_0 | omega | (simp only [aN1_12, aN1_13, aN1_14, aN1_15, aN1_16, aN1_17, aN1_19, aN1_38]; omega) | (simp only [List.length_cons, List.length_nil]; omega)) only [en39, x39_0, x39_1, x39_4, x39_5, x39_6, x39_7, x39_10, x39_11, x39_14, x39_15, x39_16, x39_19, x39_20, x39_23, x39_24, x39_27, x39_28, x39_31, x39_32, x39_33, x39_34, x39_35, x39_36, x39_39, x39_40, x39_41, x39_42, x39_45, x39_46, x39_49, x39_50, x39_51, x39_54, x39_55, x39_58, x39_59, x39_62, x39_63, x39_66, x39_67, x39_68, x39_69, x39_70, x39_71, x39_73, x39_74, x39_77, x39_78, x39_79, x39_160, x39_161, x39_164, x39_165, x39_168, x39_169, x39_170, x39_171, x39_172, x39_173, x39_176, x39_177, x39_178, x39_181, x39_182, x39_183, x39_184, x39_187, x39_188, x39_189, x39_191, x39_194, x39_195, x39_196, x39_197, x39_198, x39_199, x39_201, x39_204, x39_205, x39_206, x39_207, x39_208, x39_211, x39_212, x39_215, x39_216, x39_217, x39_218, x39_221, x39_223, x39_226, x39_227, x39_230, x39_231, x39_232, x39_233, x39_236, x39_237, x39_238, x39_239, x39_240, x39_241, x39_242, x39_243, x39_244, x39_247, x39_251, x39_253, x39_256, x39_258, x39_261, x39_263, fcn_0_19, fcn_0_20, fcn_0_21, fcn_0_22, fcn_0_23, fcn_0_24, fcn_0_26, fcn_0_47, if_true, if_false, eq_self, Int.reduceEq, Int.reduceLT, Int.reduceLE, Int.reduceAdd, Int.reduceSub, Int.reduceMul, Int.reduceToNat, Nat.reduceAdd, Nat.reduceMul, Nat.reduceEqDiff, Int.toNat_natCast, wrap_id, hk, ha, hb, hx, hy, tm, zcI_r, if_neg (show ¬ (a : Int) < 0 by omega), if_neg (show ¬ (b : Int) < 0 by omega)]
  · have hk : s 12 n = 45 := hk
    rw [if_neg (by decide), if_neg (by decide), if_neg (by decide), ← t1]
    generalize max x y = m at *
    simp (disch := first | exact obC_0 | omega | (simp only [aN1_12, aN1_13, aN1_14, aN1_15, aN1_16, aN1_17, aN1_19, aN1_38]; omega) | (simp only [List.length_cons, List.length_nil]; omega)) only [en39, x39_0, x39_1, x39_4, x39_5, x39_6, x39_7, x39_10, x39_11, x39_14, x39_15, x39_16, x39_19, x39_20, x39_23, x39_24, x39_27, x39_28, x39_31, x39_32, x39_33, x39_34, x39_35, x39_36, x39_39, x39_40, x39_41, x39_42, x39_45, x39_46, x39_49, x39_50, x39_51, x39_54, x39_55, x39_58, x39_59, x39_62, x39_63, x39_66, x39_67, x39_68, x39_69, x39_70, x39_71, x39_73, x39_74, x39_77, x39_78, x39_79, x39_160, x39_161, x39_164, x39_165, x39_168, x39_169, x39_170, x39_171, x39_172, x39_173, x39_176, x39_177, x39_178, x39_181, x39_182, x39_183, x39_184, x39_187, x39_188, x39_189, x39_191, x39_194, x39_195, x39_196, x39_197, x39_198, x39_199, x39_201, x39_204, x39_205, x39_206, x39_207, x39_208, x39_211, x39_212, x39_215, x39_216, x39_217, x39_218, x39_221, x39_223, x39_226, x39_227, x39_230, x39_231, x39_232, x39_233, x39_236, x39_237, x39_238, x39_239, x39_240, x39_241, x39_242, x39_243, x39_244, x39_247, x39_251, x39_253, x39_256, x39_258, x39_261, x39_263, fcn_0_19, fcn_0_20, fcn_0_21, fcn_0_22, fcn_0_23, fcn_0_24, fcn_0_26, fcn_0_47, if_true, if_false, eq_self, Int.reduceEq, Int.reduceLT, Int.reduceLE, Int.reduceAdd, Int.reduceSub, Int.reduceMul, Int.reduceToNat, Nat.reduceAdd, Nat.reduceMul, Nat.reduceEqDiff, Int.toNat_natCast, wrap_id, hk, ha, hb, hx, hy, tm, zcI_r, if_neg (show ¬ (a : Int) < 0 by omega), if_neg (show ¬ (b : Int) < 0 by omega)]
  · have hk : s 12 n = 38 := hk
    rw [if_neg (by decide), if_neg (by decide), if_neg (by decide), ← t1]
    generalize max x y = m at *
    simp (disch := first | exact obC_0 | omega | (simp only [aN1_12, aN1_13, aN1_14, aN1_15, aN1_16, aN1_17, aN1_19, aN1_38]; omega) | (simp only [List.length_cons, List.length_nil]; omega)) only [en39, x39_0, x39_1, x39_4, x39_5, x39_6, x39_7, x39_10, x39_11, x39_14, x39_15, x39_16, x39_19, x39_20, x39_23, x39_24, x39_27, x39_28, x39_31, x39_32, x39_33, x39_34, x39_35, x39_36, x39_39, x39_40, x39_41, x39_42, x39_45, x39_46, x39_49, x39_50, x39_51, x39_54, x39_55, x39_58, x39_59, x39_62, x39_63, x39_66, x39_67, x39_68, x39_69, x39_70, x39_71, x39_73, x39_74, x39_77, x39_78, x39_79, x39_160, x39_161, x39_164, x39_165, x39_168, x39_169, x39_170, x39_171, x39_172, x39_173, x39_176, x39_177, x39_178, x39_181, x39_182, x39_183, x39_184, x39_187, x39_188, x39_189, x39_191, x39_194, x39_195, x39_196, x39_197, x39_198, x39_199, x39_201, x39_204, x39_205, x39_206, x39_207, x39_208, x39_211, x39_212, x39_215, x39_216, x39_217, x39_218, x39_221, x39_223, x39_226, x39_227, x39_230, x39_231, x39_232, x39_233, x39_236, x39_237, x39_238, x39_239, x39_240, x39_241, x39_242, x39_243, x39_244, x39_247, x39_251, x39_253, x39_256, x39_258, x39_261, x39_263, fcn_0_19, fcn_0_20, fcn_0_21, fcn_0_22, fcn_0_23, fcn_0_24, fcn_0_26, fcn_0_47, if_true, if_false, eq_self, Int.reduceEq, Int.reduceLT, Int.reduceLE, Int.reduceAdd, Int.reduceSub, Int.reduceMul, Int.reduceToNat, Nat.reduceAdd, Nat.reduceMul, Nat.reduceEqDiff, Int.toNat_natCast, wrap_id, hk, ha, hb, hx, hy, tm, zcI_r, if_neg (show ¬ (a : Int) < 0 by omega), if_neg (show ¬ (b : Int) < 0 by omega)]
  · have hk : s 12 n = 124 := hk
    rw [if_neg (by decide), if_neg (by decide), if_neg (by decide), ← t1]
    generalize max x y = m at *
    simp (disch := first | exact obC_0 | omega | (simp only [aN1_12, aN1_13, aN1_14, aN1_15, aN1_16, aN1_17, aN1_19, aN1_38]; omega) | (simp only [List.length_cons, List.length_nil]; omega)) only [en39, x39_0, x39_1, x39_4, x39_5, x39_6, x39_7, x39_10, x39_11, x39_14, x39_15, x39_16, x39_19, x39_20, x39_23, x39_24, x39_27, x39_28, x39_31, x39_32, x39_33, x39_34, x39_35, x39_36, x39_39, x39_40, x39_41, x39_42, x39_45, x39_46, x39_49, x39_50, x39_51, x39_54, x39_55, x39_58, x39_59, x39_62, x39_63, x39_66, x39_67, x39_68, x39_69, x39_70, x39_71, x39_73, x39_74, x39_77, x39_78, x39_79, x39_160, x39_161, x39_164, x39_165, x39_168, x39_169, x39_170, x39_171, x39_172, x39_173, x39_176, x39_177, x39_178, x39_181, x39_182, x39_183, x39_184, x39_187, x39_188, x39_189, x39_191, x39_194, x39_195, x39_196, x39_197, x39_198, x39_199, x39_201, x39_204, x39_205, x39_206, x39_207, x39_208, x39_211, x39_212, x39_215, x39_216, x39_217, x39_218, x39_221, x39_223, x39_226, x39_227, x39_230, x39_231, x39_232, x39_233, x39_236, x39_237, x39_238, x39_239, x39_240, x39_241, x39_242, x39_243, x39_244, x39_247, x39_251, x39_253, x39_256, x39_258, x39_261, x39_263, fcn_0_19, fcn_0_20, fcn_0_21, fcn_0_22, fcn_0_23, fcn_0_24, fcn_0_26, fcn_0_47, if_true, if_false, eq_self, Int.reduceEq, Int.reduceLT, Int.reduceLE, Int.reduceAdd, Int.reduceSub, Int.reduceMul, Int.reduceToNat, Nat.reduceAdd, Nat.reduceMul, Nat.reduceEqDiff, Int.toNat_natCast, wrap_id, hk, ha, hb, hx, hy, tm, zcI_r, if_neg (show ¬ (a : Int) < 0 by omega), if_neg (show ¬ (b : Int) < 0 by omega)]
  · have hk : s 12 n = 94 := hk
    rw [if_neg (by decide), if_neg (by decide), if_neg (by decide), ← t1]
    generalize max x y = m at *
    simp (disch := first | exact obC_0 | omega | (simp only [aN1_12, aN1_13, aN1_14, aN1_15, aN1_16, aN1_17, aN1_19, aN1_38]; omega) | (simp only [List.length_cons, List.length_nil]; omega)) only [en39, x39_0, x39_1, x39_4, x39_5, x39_6, x39_7, x39_10, x39_11, x39_14, x39_15, x39_16, x39_19, x39_20, x39_23, x39_24, x39_27, x39_28, x39_31, x39_32, x39_33, x39_34, x39_35, x39_36, x39_39, x39_40, x39_41, x39_42, x39_45, x39_46, x39_49, x39_50, x39_51, x39_54, x39_55, x39_58, x39_59, x39_62, x39_63, x39_66, x39_67, x39_68, x39_69, x39_70, x39_71, x39_73, x39_74, x39_77, x39_78, x39_79, x39_160, x39_161, x39_164, x39_165, x39_168, x39_169, x39_170, x39_171, x39_172, x39_173, x39_176, x39_177, x39_178, x39_181, x39_182, x39_183, x39_184, x39_187, x39_188, x39_189, x39_191, x39_194, x39_195, x39_196, x39_197, x39_198, x39_199, x39_201, x39_204, x39_205, x39_206, x39_207, x39_208, x39_211, x39_212, x39_215, x39_216, x39_217, x39_218, x39_221, x39_223, x39_226, x39_227, x39_230, x39_231, x39_232, x39_233, x39_236, x39_237, x39_238, x39_239, x39_240, x39_241, x39_242, x39_243, x39_244, x39_247, x39_251, x39_253, x39_256, x39_258, x39_261, x39_263, fcn_0_19, fcn_0_20, fcn_0_21, fcn_0_22, fcn_0_23, fcn_0_24, fcn_0_26, fcn_0_47, if_true, if_false, eq_self, Int.reduceEq, Int.reduceLT, Int.reduceLE, Int.reduceAdd, Int.reduceSub, Int.reduceMul, Int.reduceToNat, Nat.reduceAdd, Nat.reduceMul, Nat.reduceEqDiff, Int.toNat_natCast, wrap_id, hk, ha, hb, hx, hy, tm, zcI_r, if_neg (show ¬ (a : Int) < 0 by omega), if_neg (show ¬ (b : Int) < 0 by omega)]
  · have hk : s 12 n = 61 := hk
    rw [if_neg (by decide), if_pos (by decide)]
    simp (disch := first | exact obC_0 | omega | (simp only [aN1_12, aN1_13, aN1_14, aN1_15, aN1_16, aN1_17, aN1_19, aN1_38]; omega) | (simp only [List.length_cons, List.length_nil]; omega)) only [en39, x39_0, x39_1, x39_4, x39_5, x39_6, x39_7, x39_10, x39_11, x39_14, x39_15, x39_16, x39_19, x39_20, x39_23, x39_24, x39_27, x39_28, x39_31, x39_32, x39_33, x39_34, x39_35, x39_36, x39_39, x39_40, x39_41, x39_42, x39_45, x39_46, x39_49, x39_50, x39_51, x39_54, x39_55, x39_58, x39_59, x39_62, x39_63, x39_66, x39_67, x39_68, x39_69, x39_70, x39_71, x39_73, x39_74, x39_77, x39_78, x39_79, x39_160, x39_161, x39_164, x39_165, x39_168, x39_169, x39_170, x39_171, x39_172, x39_173, x39_176, x39_177, x39_178, x39_181, x39_182, x39_183, x39_184, x39_187, x39_188, x39_189, x39_191, x39_194, x39_195, x39_196, x39_197, x39_198, x39_199, x39_201, x39_204, x39_205, x39_206, x39_207, x39_208, x39_211, x39_212, x39_215, x39_216, x39_217, x39_218, x39_221, x39_223, x39_226, x39_227, x39_230, x39_231, x39_232, x39_233, x39_236, x39_237, x39_238, x39_239, x39_240, x39_241, x39_242, x39_243, x39_244, x39_247, x39_249, x39_251, x39_253, x39_256, x39_258, x39_261, x39_263, fcn_0_19, fcn_0_20, fcn_0_21, fcn_0_22, fcn_0_23, fcn_0_24, fcn_0_26, fcn_0_47, if_true, if_false, eq_self, Int.reduceEq, Int.reduceLT, Int.reduceLE, Int.reduceAdd, Int.reduceSub, Int.reduceMul, Int.reduceToNat, Nat.reduceAdd, Nat.reduceMul, Nat.reduceEqDiff, Int.toNat_natCast, wrap_id, hk, ha, hb, hx, hy, zcI_r, if_neg (show ¬ (a : Int) < 0 by omega), if_neg (show ¬ (b : Int) < 0 by omega)]
    rfl
  · have hk : s 12 n = 60 := hk
    rw [if_neg (by decide), if_pos (by decide)]
    simp (disch := first | exact obC_0 | omega | (simp only [aN1_12, aN1_13, aN1_14, aN1_15, aN1_16, aN1_17, aN1_19, aN1_38]; omega) | (simp only [List.length_cons, List.length_nil]; omega)) only [en39, x39_0, x39_1, x39_4, x39_5, x39_6, x39_7, x39_10, x39_11, x39_14, x39_15, x39_16, x39_19, x39_20, x39_23, x39_24, x39_27, x39_28, x39_31, x39_32, x39_33, x39_34, x39_35, x39_36, x39_39, x39_40, x39_41, x39_42, x39_45, x39_46, x39_49, x39_50, x39_51, x39_54, x39_55, x39_58, x39_59, x39_62, x39_63, x39_66, x39_67, x39_68, x39_69, x39_70, x39_71, x39_73, x39_74, x39_77, x39_78, x39_79, x39_160, x39_161, x39_164, x39_165, x39_168, x39_169, x39_170, x39_171, x39_172, x39_173, x39_176, x39_177, x39_178, x39_181, x39_182, x39_183, x39_184, x39_187, x39_188, x39_189, x39_191, x39_194, x39_195, x39_196, x39_197, x39_198, x39_199, x39_201, x39_204, x39_205, x39_206, x39_207, x39_208, x39_211, x39_212, x39_215, x39_216, x39_217, x39_218, x39_221, x39_223, x39_226, x39_227, x39_230, x39_231, x39_232, x39_233, x39_236, x39_237, x39_238, x39_239, x39_240, x39_241, x39_242, x39_243, x39_244, x39_247, x39_249, x39_251, x39_253, x39_256, x39_258, x39_261, x39_263, fcn_0_19, fcn_0_20, fcn_0_21, fcn_0_22, fcn_0_23, fcn_0_24, fcn_0_26, fcn_0_47, if_true, if_false, eq_self, Int.reduceEq, Int.reduceLT, Int.reduceLE, Int.reduceAdd, Int.reduceSub, Int.reduceMul, Int.reduceToNat, Nat.reduceAdd, Nat.reduceMul, Nat.reduceEqDiff, Int.toNat_natCast, wrap_id, hk, ha, hb, hx, hy, zcI_r, if_neg (show ¬ (a : Int) < 0 by omega), if_neg (show ¬ (b : Int) < 0 by omega)]
    rfl
  · have hk : s 12 n = 35 := hk
    rw [if_neg (by decide), if_neg (by decide), if_pos rfl, ← t3]
    simp (disch := first | exact obC_0 | omega | (simp only [aN1_12, aN1_13, aN1_14, aN1_15, aN1_16, aN1_17, aN1_19, aN1_38]; omega) | (simp only [List.length_cons, List.length_nil]; omega)) only [en39, x39_0, x39_1, x39_4, x39_5, x39_6, x39_7, x39_10, x39_11, x39_14, x39_15, x39_16, x39_19, x39_20, x39_23, x39_24, x39_27, x39_28, x39_31, x39_32, x39_33, x39_34, x39_35, x39_36, x39_39, x39_40, x39_41, x39_42, x39_45, x39_46, x39_49, x39_50, x39_51, x39_54, x39_55, x39_58, x39_59, x39_62, x39_63, x39_66, x39_67, x39_68, x39_69, x39_70, x39_71, x39_73, x39_74, x39_77, x39_78, x39_79, x39_160, x39_161, x39_164, x39_165, x39_168, x39_169, x39_170, x39_171, x39_172, x39_173, x39_176, x39_177, x39_178, x39_181, x39_182, x39_183, x39_184, x39_187, x39_188, x39_189, x39_191, x39_194, x39_195, x39_196, x39_197, x39_198, x39_199, x39_201, x39_204, x39_205, x39_206, x39_207, x39_208, x39_211, x39_212, x39_215, x39_216, x39_217, x39_218, x39_221, x39_223, x39_226, x39_227, x39_230, x39_231, x39_232, x39_233, x39_236, x39_237, x39_238, x39_239, x39_240, x39_241, x39_242, x39_243, x39_244, x39_247, x39_251, x39_253, x39_256, x39_258, x39_261, x39_263, fcn_0_19, fcn_0_20, fcn_0_21, fcn_0_22, fcn_0_23, fcn_0_24, fcn_0_26, fcn_0_47, if_true, if_false, eq_self, Int.reduceEq, Int.reduceLT, Int.reduceLE, Int.reduceAdd, Int.reduceSub, Int.reduceMul, Int.reduceToNat, Nat.reduceAdd, Nat.reduceMul, Nat.reduceEqDiff, Int.toNat_natCast, wrap_id, hk, ha, hb, hx, hy, zcI_r, if_neg (show ¬ (a : Int) < 0 by omega), if_neg (show ¬ (b : Int) < 0 by omega)]
