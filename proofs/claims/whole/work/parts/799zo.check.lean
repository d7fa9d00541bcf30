/-! THE CLASS: a step of the check -/
theorem skI_1 {k f : Nat} : skI k f = 1 ↔ isSk k f := by
  unfold skI
  split
  next h => exact ⟨fun _ => h, fun _ => rfl⟩
  next h => exact ⟨fun z => by omega, fun z => absurd z h⟩
theorem KC_sink {s : Mem} {o U C g : Nat} {env : EnvT} {sg : List Sg} (h : KCc s o U C env sg) (hg : g < sg.length) : (s (64 + o) g = 0 ∨ s (64 + o) g = 1) ∧ (s (64 + o) g = 1 ↔ skA sg g) := by
  obtain ⟨x, hx⟩ : ∃ x, sg[g]? = some x := ⟨sg[g], List.getElem?_eq_getElem hg⟩
  have h5 := (h.2.2.2.2.2.1 g x hx).2.2.2.2.1
  rw [h5]
  refine ⟨skI_01, ?_⟩
  show skI x.1 x.2.2.1 = 1 ↔ _
  rw [skI_1]
  unfold skA
  constructor
  · exact fun z => ⟨x, hx, z⟩
  · rintro ⟨y, hy, z⟩
    rw [hx] at hy
    injection hy with hy
    rw [hy]
    exact z
theorem PRS_lt {s : Mem} {o k N L i : Nat} {lo : List Lo} {x : Lo} (h : PRS s o k N L lo) (hx : lo[i]? = some x) : x.1 = 0 ∧ x.2.1 < L := by
  obtain ⟨a, b, to, q, fl, h1, h2, h3, h4, h5, h6, h7, h8, h9, h10, h11, h12, h13⟩ := h
  have hi := (List.getElem?_eq_some_iff.mp hx).1
  rcases h13 with ⟨fr, i1, i2, i3, i4⟩ | ⟨i1, e', m, i2, i3, i4, i5, i6⟩
  · obtain ⟨g0, ⟨g1, g2, g3⟩ | ⟨g1, g2, g3⟩⟩ := i4 i x hx
    · exact ⟨g0, by omega⟩
    · exact ⟨g0, by omega⟩
  · subst i2
    have hi0 : i = 0 := by have : i < 1 := hi; omega
    subst hi0
    injection hx with hx
    subst hx
    have : ([(0, to, e')] : List Lo).length = 1 := rfl
    exact ⟨rfl, by show to < L; omega⟩
theorem cs_one {d o k i n g : Nat} {v : Int} {s : Mem} (hCH : CHS s o) (hi : i < n) (hn : n ≤ 24) (e : Zc d 99 [aR 130, aR (58 + o), aI k, aI i] s = rI g s) (hg : g < 24) (hv : s (64 + o) g = v) (hv2 : v = 0 ∨ v = 1) : Ze d 88 13 [aR 133, aR (58 + o), aI k, aI n, aI i] [] s = if v = 1 then Ze d 88 13 [aR 133, aR (58 + o), aI k, aI n, aI ((i + 1 : Nat) : Int)] [] s else rI 0 s := by
  obtain ⟨c1, c2, ho⟩ := hCH
  rw [x88_13, show ((i + 1 : Nat) : Int) = (i : Int) + 1 from rfl]
  rcases hv2 with rfl | rfl
  · rw [if_neg (show ¬ (0 : Int) = 1 by decide)]
    simp (disch := first | exact obC_130 | exact obC_133 | exact (obCO_59 ho) | omega | (simp only [(aN2O_64 ho)]; omega) | (simp only [List.length_cons, List.length_nil]; omega)) only [en88, x88_0, x88_1, x88_4, x88_5, x88_6, x88_9, x88_10, x88_11, x88_15, x88_16, x88_19, x88_20, x88_23, x88_26, x88_27, x88_30, x88_31, x88_32, x88_34, x88_37, x88_38, x88_41, x88_42, x88_43, x88_46, x88_49, x88_50, fcn_133_2, (fcnO_59_4 ho), if_true, if_false, eq_self, Int.reduceEq, Int.reduceLT, Int.reduceLE, Int.reduceAdd, Int.reduceSub, Int.reduceMul, Int.reduceToNat, Nat.reduceAdd, Nat.reduceMul, Nat.reduceEqDiff, Int.toNat_natCast, wrap_id, if_pos (show (i : Int) < n by omega), c1, e, zcI_r, hv]
  · rw [if_pos (show (1 : Int) = 1 from rfl)]
    simp (disch := first | exact obC_130 | exact obC_133 | exact (obCO_59 ho) | omega | (simp only [(aN2O_64 ho)]; omega) | (simp only [List.length_cons, List.length_nil]; omega)) only [en88, x88_0, x88_1, x88_4, x88_5, x88_6, x88_9, x88_10, x88_11, x88_15, x88_16, x88_19, x88_20, x88_23, x88_26, x88_27, x88_30, x88_31, x88_32, x88_34, x88_37, x88_38, x88_41, x88_42, x88_43, x88_46, x88_49, x88_50, fcn_133_2, (fcnO_59_4 ho), if_true, if_false, eq_self, Int.reduceEq, Int.reduceLT, Int.reduceLE, Int.reduceAdd, Int.reduceSub, Int.reduceMul, Int.reduceToNat, Nat.reduceAdd, Nat.reduceMul, Nat.reduceEqDiff, Int.toNat_natCast, wrap_id, if_pos (show (i : Int) < n by omega), c1, e, zcI_r, hv, if_neg (show ¬ (1 : Int) = 0 by decide)]
theorem cs_loop {d o k N U C : Nat} {env : EnvT} {sg : List Sg} {lo : List Lo} {s : Mem} (hd : 2 ≤ d) (hK : KCc s o U C env sg) (hk : k < 200) (hN : N ≤ 225) (hP : PRS s o k N sg.length lo) (hlen : lo.length ≤ 24) : ∀ m i : Nat, i + m = lo.length →
    Ze d 88 13 [aR 133, aR (58 + o), aI k, aI lo.length, aI i] [] s = rI (@ite _ (∀ x, x ∈ lo.drop i → skA sg x.2.1) (Classical.propDecidable _) 1 0) s := by
  have ho := hK.2.2.2.2.2.2.1.2.2
  have hL := hK.2.2.2.2.1
  intro m
  induction m with
  | zero =>
    intro i hi
    rw [if_pos (by rw [show i = lo.length by omega, List.drop_length]; simp), x88_13, show i = lo.length by omega]
    simp (disch := first | exact obC_130 | exact obC_133 | exact (obCO_59 ho) | omega | (simp only [(aN2O_64 ho)]; omega) | (simp only [List.length_cons, List.length_nil]; omega)) only [en88, x88_0, x88_1, x88_4, x88_5, x88_6, x88_9, x88_10, x88_11, x88_15, x88_16, x88_19, x88_20, x88_23, x88_26, x88_27, x88_30, x88_31, x88_32, x88_34, x88_37, x88_38, x88_41, x88_42, x88_43, x88_46, x88_49, x88_50, fcn_133_2, (fcnO_59_4 ho), if_true, if_false, eq_self, Int.reduceEq, Int.reduceLT, Int.reduceLE, Int.reduceAdd, Int.reduceSub, Int.reduceMul, Int.reduceToNat, Nat.reduceAdd, Nat.reduceMul, Nat.reduceEqDiff, Int.toNat_natCast, wrap_id, if_neg (show ¬ (lo.length : Int) < lo.length by omega)]
  | succ m ih =>
    intro i hi
    have hil : i < lo.length := by omega
    obtain ⟨x, hx⟩ : ∃ x, lo[i]? = some x := ⟨lo[i], List.getElem?_eq_getElem hil⟩
    have hdr : lo.drop i = x :: lo.drop (i + 1) := by
      rw [List.drop_eq_getElem_cons hil]
      have := List.getElem?_eq_getElem hil
      rw [hx] at this
      injection this with this
      rw [this]
    obtain ⟨p0, p1⟩ := PRS_lt hP hx
    obtain ⟨s0, s1⟩ := KC_sink hK p1
    rw [cs_one hK.2.2.2.2.2.2.1 hil hlen (k_sinkOf hd ho hk hN hL hP hx) (by omega) rfl s0]
    by_cases hs : s (64 + o) x.2.1 = 1
    · rw [if_pos hs, ih (i + 1) (by omega)]
      have hsk := s1.mp hs
      by_cases ha : ∀ y, y ∈ lo.drop (i + 1) → skA sg y.2.1
      · rw [if_pos ha, if_pos]
        intro y hy
        rw [hdr] at hy
        rcases List.mem_cons.mp hy with hy | hy
        · rw [hy]; exact hsk
        · exact ha y hy
      · rw [if_neg ha, if_neg]
        exact fun z => ha (fun y hy => z y (by rw [hdr]; exact List.mem_cons_of_mem _ hy))
    · rw [if_neg hs, if_neg]
      exact fun z => hs (s1.mpr (z x (by rw [hdr]; exact List.mem_cons_self)))
theorem k_connectsSinks {d o k N U C : Nat} {env : EnvT} {sg : List Sg} {lo : List Lo} {s : Mem} (hd : 3 ≤ d) (hK : KCc s o U C env sg) (hk : k < 200) (hN : N ≤ 225) (hP : PRS s o k N sg.length lo) (hlen : lo.length ≤ 24) :
    Zc d 88 [aR 133, aR (58 + o), aI k] s = rI (@ite _ (∀ x, x ∈ lo → skA sg x.2.1) (Classical.propDecidable _) 1 0) s := by
  obtain ⟨d, rfl⟩ : ∃ e, d = e + 1 := ⟨d - 1, by omega⟩
  have ho := hK.2.2.2.2.2.2.1.2.2
  have := cs_loop (d := d) (by omega) hK hk hN hP hlen lo.length 0 (Nat.zero_add _)
  rw [List.drop_zero] at this
  rw [← this]
  have z0 : ((0 : Nat) : Int) = 0 := rfl
  simp (disch := first | exact obC_130 | exact obC_133 | exact (obCO_59 ho) | omega | (simp only [(aN2O_64 ho)]; omega) | (simp only [List.length_cons, List.length_nil]; omega)) only [en88, x88_0, x88_1, x88_4, x88_5, x88_6, x88_9, x88_10, x88_11, x88_15, x88_16, x88_19, x88_20, x88_23, x88_26, x88_27, x88_30, x88_31, x88_32, x88_34, x88_37, x88_38, x88_41, x88_42, x88_43, x88_46, x88_49, x88_50, fcn_133_2, (fcnO_59_4 ho), if_true, if_false, eq_self, Int.reduceEq, Int.reduceLT, Int.reduceLE, Int.reduceAdd, Int.reduceSub, Int.reduceMul, Int.reduceToNat, Nat.reduceAdd, Nat.reduceMul, Nat.reduceEqDiff, Int.toNat_natCast, wrap_id, k_pairsOf (d := d) (by omega) ho hk hN hP, zcI_r, z0]
theorem k_mayDeclare {d o U C nm z : Nat} {env : EnvT} {sg : List Sg} {s : Mem} (hd : 1 ≤ d) (hK : KCc s o U C env sg) (hnm : nm < 26) (hz : z ≤ 100) : Zc d 81 [aR 133, aI nm, aI z] s = rI (if env nm = none ∧ sg.length + z ≤ 24 then 1 else 0) s := by
  obtain ⟨d, rfl⟩ : ∃ e, d = e + 1 := ⟨d - 1, by omega⟩
  obtain ⟨h1, h2, h3, h4, h5, h6, ⟨c1, c2, ho⟩, h8⟩ := hK
  have hE := h1 nm hnm
  cases he : env nm with
  | none =>
    rw [he] at hE
    dsimp only at hE
    by_cases hl : sg.length + z ≤ 24
    · rw [if_pos ⟨rfl, hl⟩]
      simp (disch := first | exact obC_133 | exact (obCO_59 ho) | omega | (simp only [aN1_134]; omega) | (simp only [List.length_cons, List.length_nil]; omega)) only [en81, x81_0, x81_1, x81_4, x81_5, x81_6, x81_7, x81_10, x81_11, x81_14, x81_17, x81_18, x81_19, x81_21, x81_24, x81_25, x81_28, x81_29, fcn_133_3, if_true, if_false, eq_self, Int.reduceEq, Int.reduceLT, Int.reduceLE, Int.reduceAdd, Int.reduceSub, Int.reduceMul, Int.reduceToNat, Nat.reduceAdd, Nat.reduceMul, Nat.reduceEqDiff, Int.toNat_natCast, wrap_id, hE, c1, h4, if_neg (show ¬ 24 < (sg.length : Int) + z by omega)]
    · rw [if_neg (fun y => hl y.2)]
      simp (disch := first | exact obC_133 | exact (obCO_59 ho) | omega | (simp only [aN1_134]; omega) | (simp only [List.length_cons, List.length_nil]; omega)) only [en81, x81_0, x81_1, x81_4, x81_5, x81_6, x81_7, x81_10, x81_11, x81_14, x81_17, x81_18, x81_19, x81_21, x81_24, x81_25, x81_28, x81_29, fcn_133_3, if_true, if_false, eq_self, Int.reduceEq, Int.reduceLT, Int.reduceLE, Int.reduceAdd, Int.reduceSub, Int.reduceMul, Int.reduceToNat, Nat.reduceAdd, Nat.reduceMul, Nat.reduceEqDiff, Int.toNat_natCast, wrap_id, hE, c1, h4, if_pos (show 24 < (sg.length : Int) + z by omega)]
  | some tb =>
    obtain ⟨t, b⟩ := tb
    rw [he] at hE
    obtain ⟨g1, g2, q, g3, g4⟩ := hE
    rw [if_neg (fun y => nomatch y.1)]
    simp (disch := first | exact obC_133 | exact (obCO_59 ho) | omega | (simp only [aN1_134]; omega) | (simp only [List.length_cons, List.length_nil]; omega)) only [en81, x81_0, x81_1, x81_4, x81_5, x81_6, x81_7, x81_10, x81_11, x81_14, x81_17, x81_18, x81_19, x81_21, x81_24, x81_25, x81_28, x81_29, fcn_133_3, if_true, if_false, eq_self, Int.reduceEq, Int.reduceLT, Int.reduceLE, Int.reduceAdd, Int.reduceSub, Int.reduceMul, Int.reduceToNat, Nat.reduceAdd, Nat.reduceMul, Nat.reduceEqDiff, Int.toNat_natCast, wrap_id, g1, if_neg (show ¬ (b : Int) = -1 by omega)]
theorem k_kindOf {d k : Nat} {s : Mem} (hd : 1 ≤ d) (hk : k < 4) : Zc d 82 [aI (kLt k)] s = rI k s := by
  obtain ⟨d, rfl⟩ : ∃ e, d = e + 1 := ⟨d - 1, by omega⟩
  rcases (by omega : k = 0 ∨ k = 1 ∨ k = 2 ∨ k = 3) with rfl | rfl | rfl | rfl
  · simp (disch := first | exact obC_0 | omega | (simp only [List.length_cons, List.length_nil]; omega)) only [en82, x82_0, x82_1, x82_36, x82_37, x82_38, x82_39, x82_40, x82_41, x82_42, x82_43, if_true, if_false, eq_self, Int.reduceEq, Int.reduceLT, Int.reduceLE, Int.reduceAdd, Int.reduceSub, Int.reduceMul, Int.reduceToNat, Nat.reduceAdd, Nat.reduceMul, Nat.reduceEqDiff, Int.toNat_natCast, wrap_id, show kLt 0 = 73 from rfl, selZ]
    rfl
  · simp (disch := first | exact obC_0 | omega | (simp only [List.length_cons, List.length_nil]; omega)) only [en82, x82_0, x82_1, x82_36, x82_37, x82_38, x82_39, x82_40, x82_41, x82_42, x82_43, if_true, if_false, eq_self, Int.reduceEq, Int.reduceLT, Int.reduceLE, Int.reduceAdd, Int.reduceSub, Int.reduceMul, Int.reduceToNat, Nat.reduceAdd, Nat.reduceMul, Nat.reduceEqDiff, Int.toNat_natCast, wrap_id, show kLt 1 = 79 from rfl, selZ]
    rfl
  · simp (disch := first | exact obC_0 | omega | (simp only [List.length_cons, List.length_nil]; omega)) only [en82, x82_0, x82_1, x82_36, x82_37, x82_38, x82_39, x82_40, x82_41, x82_42, x82_43, if_true, if_false, eq_self, Int.reduceEq, Int.reduceLT, Int.reduceLE, Int.reduceAdd, Int.reduceSub, Int.reduceMul, Int.reduceToNat, Nat.reduceAdd, Nat.reduceMul, Nat.reduceEqDiff, Int.toNat_natCast, wrap_id, show kLt 2 = 87 from rfl, selZ]
    rfl
  · simp (disch := first | exact obC_0 | omega | (simp only [List.length_cons, List.length_nil]; omega)) only [en82, x82_0, x82_1, x82_36, x82_37, x82_38, x82_39, x82_40, x82_41, x82_42, x82_43, if_true, if_false, eq_self, Int.reduceEq, Int.reduceLT, Int.reduceLE, Int.reduceAdd, Int.reduceSub, Int.reduceMul, Int.reduceToNat, Nat.reduceAdd, Nat.reduceMul, Nat.reduceEqDiff, Int.toNat_natCast, wrap_id, show kLt 3 = 82 from rfl, selZ]
    rfl
/-- what a step of the check writes: nodes from n up to n', signals behind L -/
def CKF (o k n n' L c j : Nat) : Prop := LUF o n n' c j ∨ SGF o L 24 c j ∨ c = 134 ∨ c = 135 ∨ (c = 127 ∧ j = k) ∨ (c = 58 + o ∧ j = 2)
theorem EC_up {s s' : Mem} {U C nm b q : Nat} {env : EnvT} {t : Jvm.Term} (h : EC s U C env) (h1 : s' 134 nm = b) (h2 : s' 135 nm = q) (h3 : CT s' true t q U 0 C 0) (h4 : b + tsz t ≤ 24) (g : ∀ j, j ≠ nm → s' 134 j = s 134 j ∧ s' 135 j = s 135 j) (g2 : AY s s' U 0 C) : EC s' U C (eUp env nm (t, b)) := by
  intro d hd
  unfold eUp
  by_cases e : d = nm
  · rw [if_pos e, e]
    exact ⟨h1, h4, q, h2, h3⟩
  · rw [if_neg e]
    have := h d hd
    cases he : env d with
    | none =>
      rw [he] at this
      dsimp only at this ⊢
      rw [(g d e).1, this]
    | some tb =>
      obtain ⟨t', b'⟩ := tb
      rw [he] at this
      obtain ⟨i1, i2, q', i3, i4⟩ := this
      exact ⟨by rw [(g d e).1, i1], i2, q', by rw [(g d e).2, i3], CT_put i4 g2⟩
theorem EXL_sg {o nm k : Nat} {t : Jvm.Term} {sg : List Sg} {s0 s s' : Mem} {y : Int} {b c e off : Nat} (hT : CT s0 true t y b c e off) (h6 : ∀ i x, sg[i]? = some x → SGc s o i (x.1, x.2.1, x.2.2.1, x.2.2.2.1)) (h : EXL o sg.length k nm (flt t 0) s s') : s' (59 + o) 6 = (sg ++ sgOf k nm t).length ∧ ∀ i x, (sg ++ sgOf k nm t)[i]? = some x → SGc s' o i (x.1, x.2.1, x.2.2.1, x.2.2.2.1) := by
  obtain ⟨h1, h2, h3⟩ := h
  obtain ⟨f1, f2⟩ := flt_lf hT 0
  refine ⟨by rw [h1, f1, List.length_append, sgOf_len], fun i x hx => ?_⟩
  by_cases hi : i < sg.length
  · rw [List.getElem?_append_left hi] at hx
    exact SGc_put (h6 i x hx) (fun k _ _ => h3 _ _ (by unfold SGF; omega))
  · rw [List.getElem?_append_right (by omega)] at hx
    obtain ⟨g1, g2⟩ := sgOf_get hx
    have := h2 (i - sg.length) _ (f2 _ g1)
    rw [show sg.length + (i - sg.length) = i by omega] at this
    subst g2
    exact this
theorem k_declares {d o U C k nm ty kd : Nat} {env : EnvT} {sg : List Sg} {t : Jvm.Term} {s : Mem} (hd : 8 ≤ d) (hK : KCc s o U C env sg) (hk2 : k < 200) (hkd : s 125 k = kLt kd) (hkd4 : kd < 4) (hl : s 127 k = nm) (hnm : nm < 26) (hr : s 128 k = ty) (hT : CT s true t ty U 0 C 0) (hdp : dpt t ≤ 2) :
    if env nm = none ∧ sg.length + tsz t ≤ 24 then ∃ s', Zc d 79 [aR 133, aI k] s = rI 1 s' ∧ KCc s' o U C (eUp env nm (t, sg.length)) (sg ++ sgOf kd nm t) ∧ Fr (fun c j => SGF o sg.length 24 c j ∨ c = 134 ∨ c = 135) s s'
    else Zc d 79 [aR 133, aI k] s = rI 0 s := by
  obtain ⟨d, rfl⟩ : ∃ e, d = e + 1 := ⟨d - 1, by omega⟩
  have hK' := hK
  obtain ⟨h1, h2, h3, h4, h5, h6, ⟨c1, c2, ho⟩, h8, h9, h10, h11⟩ := hK
  obtain ⟨z1, z2, z3, z4⟩ := CT_size hT rfl
  rw [Int.toNat_natCast] at z3
  have hmd := k_mayDeclare (d := d) (z := min 25 (tsz t)) (by omega) hK' hnm (by omega)
  by_cases hc : env nm = none ∧ sg.length + tsz t ≤ 24
  · rw [if_pos hc]
    rw [if_pos ⟨hc.1, by omega⟩] at hmd
    have g : ∀ c j, c ≠ 134 → c ≠ 135 → mu (mu s 134 nm sg.length) 135 nm ty c j = s c j := fun c j a b => by rw [mu_c b, mu_c a]
    have gf : mu (mu s 134 nm sg.length) 135 nm ty 134 nm = sg.length ∧ mu (mu s 134 nm sg.length) 135 nm ty 135 nm = ty := ⟨by rw [mu_c (by decide), mu_s], by rw [mu_s]⟩
    have go : ∀ j, j ≠ nm → mu (mu s 134 nm sg.length) 135 nm ty 134 j = s 134 j ∧ mu (mu s 134 nm sg.length) 135 nm ty 135 j = s 135 j := fun j hj => ⟨by rw [mu_c (by decide), mu_i hj], by rw [mu_i hj, mu_c (by decide)]⟩
    have hrun : ∀ s', Zc d 83 [aR 133, aI kd, aI nm, aI ty, aI 0, aI 1] (mu (mu s 134 nm sg.length) 135 nm ty) = rV s' → Zc (d + 1) 79 [aR 133, aI k] s = rI 1 s' := by
      intro s' e
      have hko := fun s => k_kindOf (d := d) (k := kd) (s := s) (by omega) hkd4
      simp (disch := first | exact obC_114 | exact obC_124 | exact obC_133 | exact (obCO_59 ho) | omega | (simp only [aN1_118, aN1_125, aN1_127, aN1_128, aN1_134, aN1_135]; omega) | (simp only [List.length_cons, List.length_nil]; omega) | ((repeat rw [mu_c (by omega)]); omega)) only [en79, x79_0, x79_1, x79_4, x79_7, x79_8, x79_9, x79_10, x79_11, x79_14, x79_17, x79_18, x79_19, x79_20, x79_21, x79_22, x79_23, x79_26, x79_29, x79_30, x79_31, x79_34, x79_37, x79_38, x79_39, x79_40, x79_43, x79_44, x79_45, x79_48, x79_51, x79_52, x79_53, x79_56, x79_57, x79_58, x79_59, x79_60, x79_61, x79_64, x79_67, x79_68, x79_69, x79_72, x79_73, x79_74, x79_75, x79_76, x79_79, x79_80, fcn_114_3, fcn_124_0, fcn_124_2, fcn_124_3, fcn_133_0, fcn_133_1, fcn_133_3, fcn_133_4, if_true, if_false, eq_self, Int.reduceEq, Int.reduceLT, Int.reduceLE, Int.reduceAdd, Int.reduceSub, Int.reduceMul, Int.reduceToNat, Nat.reduceAdd, Nat.reduceMul, Nat.reduceEqDiff, Int.toNat_natCast, wrap_id, hl, hr, z3, hmd, zcI_r, zcV_r, if_neg (show ¬ (1 : Int) = 0 by decide), c1, h4, mu_c, hkd, hko, e]
    have F1 : Fr (fun c j => SGF o sg.length 24 c j ∨ c = 134 ∨ c = 135) s (mu (mu s 134 nm sg.length) 135 nm ty) := ((Fr.rf s).mu (Or.inr (Or.inl rfl))).mu (Or.inr (Or.inr rfl))
    generalize mu (mu s 134 nm sg.length) 135 nm ty = s1 at *
    have hT1 : CT s1 true t ty U 0 C 0 := CT_put hT (fun k j hk => g _ _ (by omega) (by omega))
    have hCH1 : CHS s1 o := ⟨by rw [g _ _ (by decide) (by decide), c1], by rw [g _ _ (by decide) (by decide), c2], ho⟩
    obtain ⟨s2, e1, e2⟩ := k_expand (d := d) (o := o) (U := U) (C := C) (k := kd) (nm := nm) (q := ty) (u := sg.length) (t := t) (s := s1) (by omega) h10 h11 hCH1 (by rw [g _ _ (by decide) (by decide), h8]) (by rw [g _ _ (by decide) (by decide), h9]) hT1 (by rw [g _ _ (by omega) (by omega), h4]) hc.2 hdp
    obtain ⟨q1, q2⟩ := EXL_sg hT (fun i x hx => SGc_put (h6 i x hx) (fun k _ _ => g _ _ (by omega) (by omega))) e2
    have hlen : (flt t 0).length = tsz t := (flt_lf hT 0).1
    have e2f := e2.2.2
    have A : ∀ c j, c ≠ 59 + o → (c < 60 + o ∨ 65 + o < c) → s2 c j = s1 c j := fun c j a b => e2f _ _ (by unfold SGF; omega)
    refine ⟨s2, hrun _ e1, ⟨?_, ?_, ?_, q1, ?_, q2, SGF_CHS hCH1 e2f, ?_, ?_, h10, h11⟩, F1.tr (e2f.mono (fun _ _ h => Or.inl (SGF_le (Nat.le_refl _) (by omega) h)))⟩
    · refine EC_up h1 (by rw [A _ _ (by omega) (by omega), gf.1]) (by rw [A _ _ (by omega) (by omega), gf.2]) (CT_put hT1 (SGF_AY ho e2f)) hc.2 (fun j hj => ⟨by rw [A _ _ (by omega) (by omega), (go j hj).1], by rw [A _ _ (by omega) (by omega), (go j hj).2]⟩) (fun c j hk => by rw [A _ _ (by omega) (by omega), g _ _ (by omega) (by omega)])
    · rw [List.length_append, sgOf_len]
      exact eOK_up h2 (by omega) (Nat.le_refl _) (by omega) z4
    · intro d' t' b' he
      unfold eUp at he
      by_cases e : d' = nm
      · rw [if_pos e] at he
        injection he with he
        injection he with he1 he2
        subst he1 he2
        refine ⟨hdp, fun j hj => ?_⟩
        refine ⟨(kd, nm, (lf t j 0).2 % 2, (lf t j 0).1, .null), ?_, rfl⟩
        · rw [List.getElem?_append_right (by omega), show sg.length + j - sg.length = j by omega]
          unfold sgOf
          rw [List.getElem?_map, List.getElem?_range hj]
          rfl
      · rw [if_neg e] at he
        obtain ⟨i1, i2⟩ := h3 d' t' b' he
        refine ⟨i1, fun j hj => ?_⟩
        obtain ⟨x, x1, x2⟩ := i2 j hj
        exact ⟨x, by rw [List.getElem?_append_left (List.getElem?_eq_some_iff.mp x1).1]; exact x1, x2⟩
    · rw [List.length_append, sgOf_len]
      omega
    · rw [A _ _ (by omega) (by omega), g _ _ (by decide) (by decide), h8]
    · rw [A _ _ (by omega) (by omega), g _ _ (by decide) (by decide), h9]
  · rw [if_neg hc]
    rw [if_neg (fun z => hc ⟨z.1, by omega⟩)] at hmd
    simp (disch := first | exact obC_114 | exact obC_124 | exact obC_133 | exact (obCO_59 ho) | omega | (simp only [aN1_118, aN1_125, aN1_127, aN1_128, aN1_134, aN1_135]; omega) | (simp only [List.length_cons, List.length_nil]; omega)) only [en79, x79_0, x79_1, x79_4, x79_7, x79_8, x79_9, x79_10, x79_11, x79_14, x79_17, x79_18, x79_19, x79_20, x79_21, x79_22, x79_23, x79_26, x79_29, x79_30, x79_31, x79_34, x79_37, x79_38, x79_39, x79_40, x79_43, x79_44, x79_45, x79_48, x79_51, x79_52, x79_53, x79_56, x79_57, x79_58, x79_59, x79_60, x79_61, x79_64, x79_67, x79_68, x79_69, x79_72, x79_73, x79_74, x79_75, x79_76, x79_79, x79_80, fcn_114_3, fcn_124_0, fcn_124_2, fcn_124_3, fcn_133_0, fcn_133_1, fcn_133_3, fcn_133_4, if_true, if_false, eq_self, Int.reduceEq, Int.reduceLT, Int.reduceLE, Int.reduceAdd, Int.reduceSub, Int.reduceMul, Int.reduceToNat, Nat.reduceAdd, Nat.reduceMul, Nat.reduceEqDiff, Int.toNat_natCast, wrap_id, hl, hr, z3, hmd, zcI_r]
def DNF (o n n' L k c j : Nat) : Prop := LUF o n n' c j ∨ SGF o L 24 c j ∨ c = 134 ∨ c = 135 ∨ (c = 127 ∧ j = k)
theorem dn_ok {d o k nm r u : Nat} {s s' : Mem} (hd : 2 ≤ d) (hCH : CHS s o) (hCH' : CHS s' o) (hk2 : k < 200) (hl : s 127 k = nm) (hr : s 128 k = r) (hnm : nm < 26) (hu : s' (59 + o) 6 = u) (hu2 : u < 24) (e1 : Zc d 81 [aR 133, aI nm, aI 1] s = rI 1 s) (e2 : Zc d 85 [aR 133, aI r] s = rI 1 s') :
    Zc (d + 1) 80 [aR 133, aI k] s = rI 1 (gAdd (mu (mu (mu s' 134 nm u) 135 nm 0) 127 k u) o u 4 nm 0 0) := by
  obtain ⟨c1, c2, ho⟩ := hCH
  obtain ⟨c3, c4, -⟩ := hCH'
  have hga := k_gAdd (d := d) (o := o) (u := u) (k := 4) (nm := nm) (w := 0) (f := 0) (s := mu (mu (mu s' 134 nm u) 135 nm 0) 127 k u) hd ho (by rw [mu_c (by omega), mu_c (by omega), mu_c (by omega), hu]) hu2 (by omega)
  have z4 : ((4 : Nat) : Int) = 4 := rfl
  have z0 : ((0 : Nat) : Int) = 0 := rfl
  rw [z4, z0] at hga
  simp (disch := first | exact obC_124 | exact obC_133 | exact (obCO_59 ho) | omega | (simp only [aN1_127, aN1_128, aN1_134, aN1_135]; omega) | (simp only [List.length_cons, List.length_nil]; omega) | ((repeat rw [mu_c (by omega)]); omega)) only [en80, x80_0, x80_1, x80_4, x80_7, x80_8, x80_9, x80_10, x80_11, x80_12, x80_13, x80_16, x80_19, x80_20, x80_21, x80_24, x80_27, x80_28, x80_29, x80_32, x80_35, x80_36, x80_37, x80_38, x80_41, x80_42, x80_43, x80_46, x80_49, x80_50, x80_51, x80_54, x80_55, x80_56, x80_57, x80_58, x80_61, x80_64, x80_65, x80_66, x80_69, x80_72, x80_73, x80_74, x80_77, x80_78, x80_79, x80_80, x80_81, x80_84, x80_85, fcn_124_2, fcn_124_3, fcn_133_1, fcn_133_3, fcn_133_4, if_true, if_false, eq_self, Int.reduceEq, Int.reduceLT, Int.reduceLE, Int.reduceAdd, Int.reduceSub, Int.reduceMul, Int.reduceToNat, Nat.reduceAdd, Nat.reduceMul, Nat.reduceEqDiff, Int.toNat_natCast, wrap_id, hl, hr, e1, e2, zcI_r, zcV_r, if_neg (show ¬ (1 : Int) = 0 by decide), c3, hu, mu_c, hga]
theorem dn_F {d o k nm r : Nat} {s s' : Mem} (ho : o = 0 ∨ o = 26) (hk2 : k < 200) (hl : s 127 k = nm) (hr : s 128 k = r) (H : (Zc d 81 [aR 133, aI nm, aI 1] s = rI 0 s ∧ s' = s) ∨ (Zc d 81 [aR 133, aI nm, aI 1] s = rI 1 s ∧ Zc d 85 [aR 133, aI r] s = rI 0 s')) :
    Zc (d + 1) 80 [aR 133, aI k] s = rI 0 s' := by
  rcases H with ⟨e1, rfl⟩ | ⟨e1, e2⟩
  · simp (disch := first | exact obC_124 | exact obC_133 | exact (obCO_59 ho) | omega | (simp only [aN1_127, aN1_128, aN1_134, aN1_135]; omega) | (simp only [List.length_cons, List.length_nil]; omega)) only [en80, x80_0, x80_1, x80_4, x80_7, x80_8, x80_9, x80_10, x80_11, x80_12, x80_13, x80_16, x80_19, x80_20, x80_21, x80_24, x80_27, x80_28, x80_29, x80_32, x80_35, x80_36, x80_37, x80_38, x80_41, x80_42, x80_43, x80_46, x80_49, x80_50, x80_51, x80_54, x80_55, x80_56, x80_57, x80_58, x80_61, x80_64, x80_65, x80_66, x80_69, x80_72, x80_73, x80_74, x80_77, x80_78, x80_79, x80_80, x80_81, x80_84, x80_85, fcn_124_2, fcn_124_3, fcn_133_1, fcn_133_3, fcn_133_4, if_true, if_false, eq_self, Int.reduceEq, Int.reduceLT, Int.reduceLE, Int.reduceAdd, Int.reduceSub, Int.reduceMul, Int.reduceToNat, Nat.reduceAdd, Nat.reduceMul, Nat.reduceEqDiff, Int.toNat_natCast, wrap_id, hl, hr, e1, zcI_r]
  · simp (disch := first | exact obC_124 | exact obC_133 | exact (obCO_59 ho) | omega | (simp only [aN1_127, aN1_128, aN1_134, aN1_135]; omega) | (simp only [List.length_cons, List.length_nil]; omega)) only [en80, x80_0, x80_1, x80_4, x80_7, x80_8, x80_9, x80_10, x80_11, x80_12, x80_13, x80_16, x80_19, x80_20, x80_21, x80_24, x80_27, x80_28, x80_29, x80_32, x80_35, x80_36, x80_37, x80_38, x80_41, x80_42, x80_43, x80_46, x80_49, x80_50, x80_51, x80_54, x80_55, x80_56, x80_57, x80_58, x80_61, x80_64, x80_65, x80_66, x80_69, x80_72, x80_73, x80_74, x80_77, x80_78, x80_79, x80_80, x80_81, x80_84, x80_85, fcn_124_2, fcn_124_3, fcn_133_1, fcn_133_3, fcn_133_4, if_true, if_false, eq_self, Int.reduceEq, Int.reduceLT, Int.reduceLE, Int.reduceAdd, Int.reduceSub, Int.reduceMul, Int.reduceToNat, Nat.reduceAdd, Nat.reduceMul, Nat.reduceEqDiff, Int.toNat_natCast, wrap_id, hl, hr, e1, e2, zcI_r, if_neg (show ¬ (1 : Int) = 0 by decide)]
theorem k_declaresNode {d o P U C k n nm : Nat} {env : EnvT} {sg : List Sg} {e : Jvm.Term} {s : Mem} (hd : 4 ≤ d) (hK : KCc s o U C env sg) (hP : P ≤ 200) (hk2 : k < 200) (hl : s 127 k = nm) (hnm : nm < 26) (hr : s 128 k = ((n + esz e - 1 : Nat) : Int)) (he : CE s o P e n) (hn : n + esz e ≤ 225) (ht0 : s 115 0 = 0 ∧ s 116 0 = 0 ∧ s 118 0 = 1) (hU : 1 ≤ U) :
    if env nm = none ∧ sg.length + 1 ≤ 24 then
      match rE env e with
      | some e' => ∃ s', Zc d 80 [aR 133, aI k] s = rI 1 s' ∧ KCc s' o U C (eUp env nm (tU 0, sg.length)) (sg ++ [(4, nm, 0, 0, e')]) ∧ CR s' o e' n ∧ s' 127 k = sg.length ∧ Fr (DNF o n (n + esz e) sg.length k) s s'
      | none => ∃ s', Zc d 80 [aR 133, aI k] s = rI 0 s' ∧ Fr (LUF o n (n + esz e)) s s'
    else Zc d 80 [aR 133, aI k] s = rI 0 s := by
  obtain ⟨d, rfl⟩ : ∃ e, d = e + 1 := ⟨d - 1, by omega⟩
  have hK' := hK
  obtain ⟨h1, h2, h3, h4, h5, h6, h7, h8, h9, h10, h11⟩ := hK
  have ho := h7.2.2
  have hmd := k_mayDeclare (d := d) (z := 1) (by omega) hK' hnm (by omega)
  have hmd' : Zc d 81 [aR 133, aI nm, aI 1] s = rI (if env nm = none ∧ sg.length + 1 ≤ 24 then 1 else 0) s := hmd
  by_cases hc : env nm = none ∧ sg.length + 1 ≤ 24
  · rw [if_pos hc] at hmd' ⊢
    have hge := k_groundExpr (d := d) (by omega) h10 h11 hP h5 h2 h1 h7 h9 he hn
    cases hx : rE env e with
    | none =>
      rw [hx] at hge
      obtain ⟨s1, e1, e2⟩ := hge
      exact ⟨s1, dn_F ho hk2 hl hr (Or.inr ⟨hmd', e1⟩), e2⟩
    | some e' =>
      rw [hx] at hge
      obtain ⟨s1, e1, e2, e3⟩ := hge
      have hK1 := KCc_LUF hK' e3
      obtain ⟨g1, g2, g3, g4, g5, g6, g7, g8, g9, g10, g11⟩ := hK1
      have hz := dn_ok (by omega) h7 g7 hk2 hl hr hnm g4 (by omega) hmd' e1
      have ga := gAdd_at (s := mu (mu (mu s1 134 nm sg.length) 135 nm 0) 127 k sg.length) (o := o) (u := sg.length) (k := 4) (nm := nm) (w := 0) (f := 0)
      have gf := gAdd_fr (s := mu (mu (mu s1 134 nm sg.length) 135 nm 0) 127 k sg.length) (o := o) (u := sg.length) (k := 4) (nm := nm) (w := 0) (f := 0)
      have m1 : ∀ c j, c ≠ 134 → c ≠ 135 → ¬ (c = 127 ∧ j = k) → mu (mu (mu s1 134 nm sg.length) 135 nm 0) 127 k sg.length c j = s1 c j := fun c j a b hn => by
        by_cases e : c = 127
        · rw [mu_i (by omega), mu_c b, mu_c a]
        · rw [mu_c e, mu_c b, mu_c a]
      have m2 : mu (mu (mu s1 134 nm sg.length) 135 nm 0) 127 k sg.length 134 nm = sg.length ∧ mu (mu (mu s1 134 nm sg.length) 135 nm 0) 127 k sg.length 135 nm = 0 ∧ mu (mu (mu s1 134 nm sg.length) 135 nm 0) 127 k sg.length 127 k = sg.length := ⟨by rw [mu_c (by decide), mu_c (by decide), mu_s], by rw [mu_c (by decide), mu_s], by rw [mu_s]⟩
      have m3 : ∀ j, j ≠ nm → mu (mu (mu s1 134 nm sg.length) 135 nm 0) 127 k sg.length 134 j = s1 134 j ∧ mu (mu (mu s1 134 nm sg.length) 135 nm 0) 127 k sg.length 135 j = s1 135 j := fun j hj => ⟨by rw [mu_c (by decide), mu_c (by decide), mu_i hj], by rw [mu_c (by decide), mu_i hj, mu_c (by decide)]⟩
      have F1 : Fr (DNF o n (n + esz e) sg.length k) s (mu (mu (mu s1 134 nm sg.length) 135 nm 0) 127 k sg.length) := (((e3.mono (S' := DNF o n (n + esz e) sg.length k) (fun _ _ h => Or.inl h)).mu (Or.inr (Or.inr (Or.inl rfl)))).mu (Or.inr (Or.inr (Or.inr (Or.inl rfl))))).mu (Or.inr (Or.inr (Or.inr (Or.inr ⟨rfl, rfl⟩))))
      generalize mu (mu (mu s1 134 nm sg.length) 135 nm 0) 127 k sg.length = s2 at *
      have A : ∀ c j, c ≠ 59 + o → (c < 60 + o ∨ 65 + o < c) → gAdd s2 o sg.length 4 nm 0 0 c j = s2 c j := fun c j a b => gf _ _ (by unfold SGF; omega)
      have hT0 : CT s true (tU 0) ((0 : Nat) : Int) U 0 C 0 := ⟨by omega, by omega, ht0.1, ht0.2.1, ht0.2.2, by omega⟩
      refine ⟨_, hz, ⟨?_, ?_, ?_, ?_, ?_, ?_, ?_, ?_, ?_, g10, g11⟩, ?_, ?_, F1.tr (gf.mono (fun _ _ h => Or.inr (Or.inl (SGF_le (Nat.le_refl _) (by omega) h))))⟩
      · refine EC_up (q := 0) g1 (by rw [A _ _ (by omega) (by omega), m2.1]) (by rw [A _ _ (by omega) (by omega), m2.2.1]; rfl) (CT_put hT0 (fun c j hk => by rw [A _ _ (by omega) (by omega), m1 _ _ (by omega) (by omega) (by omega), e3 _ _ (by unfold LUF; omega)])) (by show sg.length + 1 ≤ 24; omega) (fun j hj => ⟨by rw [A _ _ (by omega) (by omega), (m3 j hj).1], by rw [A _ _ (by omega) (by omega), (m3 j hj).2]⟩) (fun c j hk => by rw [A _ _ (by omega) (by omega), m1 _ _ (by omega) (by omega) (by omega)])
      · rw [List.length_append]
        exact eOK_up g2 (by omega) (Nat.le_refl _) (by show 0 ≤ 9; omega) (Nat.le_refl _)
      · intro d' t' b' hd'
        unfold eUp at hd'
        by_cases e : d' = nm
        · rw [if_pos e] at hd'
          injection hd' with hd'
          injection hd' with he1 he2
          subst he1 he2
          refine ⟨by show 0 ≤ 2; omega, fun j hj => ⟨(4, nm, 0, 0, e'), ?_, ?_⟩⟩
          · have hj0 : j = 0 := by have : j < 1 := hj; omega
            rw [hj0, List.getElem?_append_right (by omega)]
            simp
          · have hj0 : j = 0 := by have : j < 1 := hj; omega
            rw [hj0]
            rfl
        · rw [if_neg e] at hd'
          obtain ⟨i1, i2⟩ := g3 d' t' b' hd'
          refine ⟨i1, fun j hj => ?_⟩
          obtain ⟨x, x1, x2⟩ := i2 j hj
          exact ⟨x, by rw [List.getElem?_append_left (List.getElem?_eq_some_iff.mp x1).1]; exact x1, x2⟩
      · rw [ga.2, List.length_append]
        rfl
      · rw [List.length_append]
        show sg.length + 1 ≤ 24
        omega
      · intro i x hx
        by_cases hi : i < sg.length
        · rw [List.getElem?_append_left hi] at hx
          exact SGc_put (g6 i x hx) (fun k _ _ => by rw [gf _ _ (by unfold SGF; omega), m1 _ _ (by omega) (by omega) (by omega)])
        · rw [List.getElem?_append_right (by omega)] at hx
          have hi0 : i = sg.length := by
            have := (List.getElem?_eq_some_iff.mp hx).1
            have : i - sg.length < 1 := this
            omega
          subst hi0
          rw [Nat.sub_self] at hx
          injection hx with hx
          subst hx
          exact ga.1
      · exact ⟨by rw [A _ _ (by omega) (by omega), m1 _ _ (by decide) (by decide) (by omega), g7.1], by rw [A _ _ (by omega) (by omega), m1 _ _ (by decide) (by decide) (by omega), g7.2.1], ho⟩
      · rw [A _ _ (by omega) (by omega), m1 _ _ (by decide) (by decide) (by omega), g8]
      · rw [A _ _ (by omega) (by omega), m1 _ _ (by decide) (by decide) (by omega), g9]
      · exact CR_put e2 (fun c j hk _ _ => by rw [A _ _ (by omega) (by omega), m1 _ _ (by omega) (by omega) (by omega)])
      · rw [A _ _ (by omega) (by omega), m2.2.2]
  · rw [if_neg hc] at hmd' ⊢
    exact dn_F ho hk2 hl hr (Or.inl ⟨hmd', rfl⟩)
