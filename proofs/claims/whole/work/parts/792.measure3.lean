/-- the signals with their widths found -/
def sgW (sg : List Sg) (W : Nat → Nat) : List Sg := sg.mapIdx fun i x => (x.1, x.2.1, x.2.2.1, W i, x.2.2.2.2)
theorem sgW_len {sg : List Sg} {W : Nat → Nat} : (sgW sg W).length = sg.length := by unfold sgW; rw [List.length_mapIdx]
theorem sgW_get {sg : List Sg} {W : Nat → Nat} {i : Nat} {x : Sg} (h : (sgW sg W)[i]? = some x) : ∃ y, sg[i]? = some y ∧ x = (y.1, y.2.1, y.2.2.1, W i, y.2.2.2.2) := by
  unfold sgW at h
  rw [List.getElem?_mapIdx] at h
  cases hy : sg[i]? with
  | none => rw [hy] at h; exact (nomatch h)
  | some y => rw [hy] at h; cases h; exact ⟨y, rfl, rfl⟩
theorem WE_conv {s : Mem} {W V : Nat → Nat} {L : Nat} (h : ∀ g, g < L → W g = V g) {e : Jvm.Term} {n : Nat} (hi : ixb L e) (hw : WE s W e n) : WE s V e n := by
  have he := wE_eq h hi
  revert hi hw he
  fun_induction WE s W e n with
  | case1 a n ih => exact fun hi hw he => ⟨hw.1.trans (congrArg _ he), ih hi hw.2 (wE_eq h hi)⟩
  | case2 x a n ih => exact fun hi hw he => ⟨hw.1.trans (congrArg _ he), ih hi hw.2 (wE_eq h hi)⟩
  | case3 c a b n iha ihb => exact fun hi hw he => ⟨hw.1.trans (congrArg _ he), iha hi.1 hw.2.1 (wE_eq h hi.1), ihb hi.2 hw.2.2 (wE_eq h hi.2)⟩
  | case4 c a b n ihc iha ihb => exact fun hi hw he => ⟨hw.1.trans (congrArg _ he), ihc hi.1 hw.2.1 (wE_eq h hi.1), iha hi.2.1 hw.2.2.1 (wE_eq h hi.2.1), ihb hi.2.2 hw.2.2.2 (wE_eq h hi.2.2)⟩
  | case5 e n h1 h2 h3 h4 =>
    intro hi hw he
    unfold WE
    split
    · exact absurd rfl (h1 _)
    · exact absurd rfl (h2 _ _)
    · exact absurd rfl (h3 _ _ _)
    · exact absurd rfl (h4 _ _ _)
    · exact hw.trans (congrArg _ he)
theorem WEs_conv {s : Mem} {W V : Nat → Nat} {L : Nat} (h : ∀ g, g < L → W g = V g) : ∀ (cv : List (Option Jvm.Term)) (n : Nat), (∀ e, some e ∈ cv → ixb L e) → WEs s W n cv → WEs s V n cv
  | [], _, _, _ => trivial
  | none :: r, n, hi, hw => WEs_conv h r (n + 1) (fun e he => hi e (List.mem_cons_of_mem _ he)) hw
  | some e :: r, n, hi, hw => ⟨WE_conv h (hi e List.mem_cons_self) hw.1, WEs_conv h r (n + esz e) (fun e he => hi e (List.mem_cons_of_mem _ he)) hw.2⟩
theorem Cl_conv {sg : List Sg} {lo : List Lo} {cv : List (Option Jvm.Term)} {W V : Nat → Nat} (hIX : IX sg lo cv) (h : ∀ g, g < sg.length → W g = V g) (hc : Cl sg lo W) : Cl sg lo V := by
  refine ⟨fun i x hx hn => ?_, fun k x hx h0 hf => ?_⟩
  · have := hc.1 i x hx hn
    rw [wE_eq h (hIX.1 i x hx), h i (List.getElem?_eq_some_iff.mp hx).1] at this
    exact this
  · have := hc.2 k x hx h0 hf
    rw [wE_eq h (hIX.2.1 k x hx).1, h _ ((hIX.2.1 k x hx).2 h0)] at this
    exact this
theorem no_lone {sg : List Sg} {lo : List Lo} {cv : List (Option Jvm.Term)} (hIX : IX sg lo cv) (hl : lone sg lo) : ¬ ∃ W, GW sg lo cv W := by
  rintro ⟨W, h1, h2, h3, h4, h5, h6⟩
  obtain ⟨g, ⟨x, hx, hx1, hx2⟩, hno⟩ := hl
  have hg := (List.getElem?_eq_some_iff.mp hx).1
  have hV : ∀ i, wUp W g 0 i ≤ W i := fun i => by
    unfold wUp
    by_cases hi : i = g
    · rw [if_pos hi]; exact Nat.zero_le _
    · rw [if_neg hi]; exact Nat.le_refl _
  have hne : ∀ i, i ≠ g → wUp W g 0 i = W i := fun i hi => if_neg hi
  have := h3 (wUp W g 0) (fun i y hy => by
    by_cases hi : i = g
    · rw [hi] at hy
      rw [hx] at hy
      cases hy
      rw [hx1]
      exact Nat.zero_le _
    · rw [hne i hi]
      exact h1 i y hy) ⟨fun i y hy hn => by
        have hi : i ≠ g := fun z => by
          rw [z, hx] at hy
          cases hy
          exact hn hx2
        rw [hne i hi]
        exact Nat.le_trans (wE_mono (fun j _ => hV j) (hIX.1 i y hy)) (h2.1 i y hy hn), fun k y hy h0 hf => by
        rw [hne _ (hno k y hy h0)]
        exact Nat.le_trans (wE_mono (fun j _ => hV j) (hIX.2.1 k y hy).1) (h2.2 k y hy h0 hf)⟩ g hg
  have hz : wUp W g 0 g = 0 := if_pos rfl
  have := h5 g hg
  omega
theorem twA_mono {W V : Nat → Nat} {L : Nat} {cv : List (Option Jvm.Term)} (h : ∀ g, g < L → W g ≤ V g) (hi : ∀ e, some e ∈ cv → ixb L e) : twA W cv → twA V cv := fun ⟨e, h1, h2⟩ => ⟨e, h1, tw_mono h (hi e h1) h2⟩
def MF (N k j : Nat) : Prop := WWD N k j ∨ FLp k j
theorem MF_k {s s' : Mem} {N k j : Nat} (f : Fr (MF N) s s') (h : k ≠ 38 ∧ k ≠ 19 ∧ k ≠ 37) : s' k j = s k j := f _ _ (fun z => z.elim (fun z => z.elim (fun z => h.1 z.1) (fun z => h.2.1 z.1)) (fun z => h.2.2 z.1))
theorem RR_null {s : Mem} {n : Nat} : ¬ RR s .null n := fun h => h
/-- after the check and the widths -/
theorem t_measure {d N : Nat} {sg : List Sg} {lo : List Lo} {cv : List (Option Jvm.Term)} {s : Mem} (hd : 3 ≤ d) (hN : N ≤ 200) (hnd : s 0 32 = N) (hC : CKE s N cv sg lo) (hIX : IX sg lo cv) (hfl : ∀ (j : Nat) (x : Sg), sg[j]? = some x → x.2.2.1 ≤ 1 ∧ x.2.2.2.1 ≤ 16 ∧ (x.2.2.2.2 ≠ .null → x.2.2.2.1 = 0)) :
    (∃ (s' : Mem) (W : Nat → Nat), Zc d 40 [aR 0] s = rI 1 s' ∧ GW sg lo cv W ∧ CKE s' N cv (sgW sg W) lo ∧ WEs s' W 0 cv ∧ s' 0 32 = N ∧ Fr (MF N) s s') ∨
    (∃ s', Zc d 40 [aR 0] s = rI 0 s' ∧ (¬ ∃ W, GW sg lo cv W) ∧ Fr (MF N) s s') := by
  obtain ⟨d, rfl⟩ : ∃ e, d = e + 1 := ⟨d - 1, by omega⟩
  obtain ⟨c1, c2, c3, c4, c5, c6, c7, c8⟩ := hC
  have hlo : ∀ (j : Nat) (x : Lo), lo[j]? = some x → s 41 j = x.1 ∧ (x.1 = 0 → s 42 j = x.2.1) := fun j x hx => ⟨(c6 j x hx).1, fun z => ((c6 j x hx).2.1 z).1⟩
  have hnode : ∀ (j : Nat) (x : Sg), sg[j]? = some x → (x.2.2.2.2 = .null ∧ s 39 j = -1) ∨ (x.2.2.2.2 ≠ .null ∧ ∃ n : Nat, s 39 j = n ∧ RR s x.2.2.2.2 n ∧ n < N) := fun j x hx => by
    rcases (c3 j x hx).2.2.2.2 with z | ⟨n, z1, z2, z3⟩
    · exact Or.inl z
    · have := esz_pos x.2.2.2.2
      exact Or.inr ⟨fun z => by rw [z] at z2; exact z2, n, z1, z2, by omega⟩
  have hin : Zc (d + 1) 40 [aR 0] s = Ze d 40 2 [aR 0, aI ((0 : Nat) : Int), aU, aU, aU] [] s := by
    have z0 : ((0 : Nat) : Int) = 0 := rfl
    simp (disch := first | exact obC_0 | omega | (simp only [aN1_12, aN1_15, aN1_19, aN1_37, aN1_38, aN1_39, aN1_41, aN1_42, aN1_43]; omega) | (simp only [List.length_cons, List.length_nil]; omega)) only [en40, x40_0, x40_1, x40_3, x40_4, x40_7, x40_10, x40_11, x40_14, x40_15, x40_16, x40_19, x40_20, x40_23, x40_24, x40_25, x40_28, x40_29, x40_32, x40_33, x40_34, x40_35, x40_36, x40_37, x40_40, x40_41, x40_42, x40_43, x40_44, x40_47, x40_48, x40_51, x40_52, x40_53, x40_54, x40_55, x40_59, x40_60, x40_63, x40_66, x40_67, x40_70, x40_72, x40_73, x40_76, x40_77, x40_80, x40_82, x40_83, x40_84, x40_87, x40_88, x40_89, x40_92, x40_95, x40_96, x40_99, x40_100, x40_103, x40_104, x40_105, x40_108, x40_111, x40_112, x40_114, x40_117, x40_118, x40_119, x40_120, x40_123, x40_124, x40_125, x40_127, x40_130, x40_131, x40_134, x40_135, x40_136, x40_139, x40_140, x40_141, x40_144, x40_145, x40_148, x40_149, x40_150, x40_153, x40_154, x40_157, x40_158, x40_159, x40_162, x40_163, x40_164, x40_167, x40_168, x40_169, x40_171, x40_174, x40_175, x40_176, x40_179, x40_182, x40_183, x40_185, x40_186, x40_189, x40_192, x40_193, x40_196, x40_197, x40_198, x40_201, x40_202, x40_205, x40_206, x40_207, x40_208, x40_211, x40_212, x40_215, x40_216, x40_217, x40_218, x40_221, x40_224, x40_225, x40_228, x40_229, x40_230, x40_233, x40_234, x40_237, x40_238, x40_239, x40_240, x40_241, x40_242, x40_243, x40_246, x40_249, x40_250, x40_252, x40_253, x40_256, x40_259, x40_260, x40_263, x40_264, x40_265, x40_268, x40_269, x40_272, x40_273, x40_276, x40_277, x40_278, x40_279, x40_280, x40_283, x40_286, x40_287, x40_290, x40_291, x40_292, x40_295, x40_296, x40_299, x40_300, x40_301, x40_304, x40_305, x40_306, x40_307, x40_308, x40_311, x40_312, x40_315, x40_316, x40_319, x40_320, x40_321, x40_322, x40_323, x40_324, x40_325, x40_328, x40_329, x40_332, x40_333, x40_334, x40_335, x40_338, x40_341, x40_342, x40_345, x40_346, x40_349, x40_350, x40_351, x40_352, x40_353, x40_354, x40_355, x40_358, x40_361, x40_364, x40_365, x40_367, x40_368, x40_371, x40_374, x40_375, x40_378, x40_379, x40_380, x40_383, x40_384, x40_385, x40_386, x40_387, x40_388, x40_389, x40_392, x40_393, x40_394, x40_397, x40_398, x40_399, x40_402, x40_405, x40_406, fcn_0_19, fcn_0_22, fcn_0_26, fcn_0_46, fcn_0_47, fcn_0_48, fcn_0_54, fcn_0_55, fcn_0_56, if_true, if_false, eq_self, Int.reduceEq, Int.reduceLT, Int.reduceLE, Int.reduceAdd, Int.reduceSub, Int.reduceMul, Int.reduceToNat, Nat.reduceAdd, Nat.reduceMul, Nat.reduceEqDiff, Int.toNat_natCast, wrap_id, z0]
  rw [hin]
  rcases fl_loop (d := d) c2 c5 sg.length 0 s aU aU aU (Nat.zero_add _) c1 c4 hlo (fun j x hx => ⟨(c3 j x hx).2.2.2.1, (hnode j x hx).imp id (fun ⟨z1, n, z2, _⟩ => ⟨z1, n, z2⟩), (hfl j x hx).1, fun _ => (c3 j x hx).2.2.1⟩) with ⟨s1, l2, l3, l4, p1, p2, -, p4⟩ | ⟨s1, p1, p2, p3⟩
  · have f1 : ∀ {k j : Nat}, k ≠ 37 → s1 k j = s k j := fun h => FLp_k p4 h
    have R1 : ∀ {e : Jvm.Term} {n : Nat}, RR s e n → RR s1 e n := fun r => RR_put r (fun k j hk _ _ => f1 (by omega))
    obtain ⟨Wm, hWm⟩ : ∃ Wm : Nat → Nat, MW sg.length s1 Wm ∧ ∀ g, g < sg.length → Wm g ≤ 16 := ⟨fun g => (s1 38 g).toNat, fun g hg => by
      obtain ⟨x, hx⟩ : ∃ x, sg[g]? = some x := ⟨_, List.getElem?_eq_getElem hg⟩
      have h := (c3 g x hx).2.2.2.1
      show s1 38 g = ((s1 38 g).toNat : Int)
      rw [f1 (by decide)]
      omega, fun g hg => by
      obtain ⟨x, hx⟩ : ∃ x, sg[g]? = some x := ⟨_, List.getElem?_eq_getElem hg⟩
      have h := (c3 g x hx).2.2.2.1
      have h' := (hfl g x hx).2.1
      show (s1 38 g).toNat ≤ 16
      rw [f1 (by decide)]
      omega⟩
    have hMI : MI s1 N sg lo cv := by
      refine ⟨by rw [f1 (by decide), hnd], by rw [f1 (by decide), c1], by rw [f1 (by decide), c4], CVs_put cv 0 N (fun k j hk _ _ => f1 (by omega)) c8, fun j x hx => ?_, fun j x hx => ?_, fun g hg => ?_⟩
      · rw [f1 (by decide)]
        exact (hnode j x hx).imp id (fun ⟨z1, n, z2, z3, z4⟩ => ⟨z1, n, z2, R1 z3, z4⟩)
      · rw [f1 (by decide), f1 (by decide), f1 (by decide)]
        refine ⟨(c6 j x hx).1, fun z => ⟨((c6 j x hx).2.1 z).1, (hIX.2.1 j x hx).2 z, ?_⟩⟩
        rcases ((c6 j x hx).2.1 z).2.2 with ⟨g, y1, y2, y3⟩ | ⟨n, y1, y2, y3⟩
        · refine Or.inl ⟨g, y1, ?_, y3⟩
          have := (hIX.2.1 j x hx).1
          rw [y1] at this
          exact this
        · have := esz_pos x.2.2
          exact Or.inr ⟨n, y1, R1 y2, by omega⟩
      · obtain ⟨x, hx⟩ : ∃ x, sg[g]? = some x := ⟨_, List.getElem?_eq_getElem hg⟩
        obtain ⟨z1, z2⟩ := p2 g x (Nat.zero_le _) hx
        have := (hfl g x hx).1
        exact ⟨fun z => by rw [z1 z]; omega, fun z => by rw [z2 z]; omega⟩
    have hsaid : ∀ (j : Nat) (x : Sg), sg[j]? = some x → Wm j = x.2.2.2.1 := fun j x hx => by
      have h1 := hWm.1 j (List.getElem?_eq_some_iff.mp hx).1
      rw [f1 (by decide), (c3 j x hx).2.2.2.1] at h1
      omega
    have hz : Ze d 40 111 [aR 0, aI sg.length, l2, l3, l4] [] s1 = Ze d 40 113 [aR 0, aI 1, l2, l3, l4] [] s1 := by
      simp (disch := first | exact obC_0 | omega | (simp only [aN1_12, aN1_15, aN1_19, aN1_37, aN1_38, aN1_39, aN1_41, aN1_42, aN1_43]; omega) | (simp only [List.length_cons, List.length_nil]; omega)) only [en40, x40_0, x40_1, x40_3, x40_4, x40_7, x40_10, x40_11, x40_14, x40_15, x40_16, x40_19, x40_20, x40_23, x40_24, x40_25, x40_28, x40_29, x40_32, x40_33, x40_34, x40_35, x40_36, x40_37, x40_40, x40_41, x40_42, x40_43, x40_44, x40_47, x40_48, x40_51, x40_52, x40_53, x40_54, x40_55, x40_59, x40_60, x40_63, x40_66, x40_67, x40_70, x40_72, x40_73, x40_76, x40_77, x40_80, x40_82, x40_83, x40_84, x40_87, x40_88, x40_89, x40_92, x40_95, x40_96, x40_99, x40_100, x40_103, x40_104, x40_105, x40_108, x40_111, x40_112, x40_114, x40_117, x40_118, x40_119, x40_120, x40_123, x40_124, x40_125, x40_127, x40_130, x40_131, x40_134, x40_135, x40_136, x40_139, x40_140, x40_141, x40_144, x40_145, x40_148, x40_149, x40_150, x40_153, x40_154, x40_157, x40_158, x40_159, x40_162, x40_163, x40_164, x40_167, x40_168, x40_169, x40_171, x40_174, x40_175, x40_176, x40_179, x40_182, x40_183, x40_185, x40_186, x40_189, x40_192, x40_193, x40_196, x40_197, x40_198, x40_201, x40_202, x40_205, x40_206, x40_207, x40_208, x40_211, x40_212, x40_215, x40_216, x40_217, x40_218, x40_221, x40_224, x40_225, x40_228, x40_229, x40_230, x40_233, x40_234, x40_237, x40_238, x40_239, x40_240, x40_241, x40_242, x40_243, x40_246, x40_249, x40_250, x40_252, x40_253, x40_256, x40_259, x40_260, x40_263, x40_264, x40_265, x40_268, x40_269, x40_272, x40_273, x40_276, x40_277, x40_278, x40_279, x40_280, x40_283, x40_286, x40_287, x40_290, x40_291, x40_292, x40_295, x40_296, x40_299, x40_300, x40_301, x40_304, x40_305, x40_306, x40_307, x40_308, x40_311, x40_312, x40_315, x40_316, x40_319, x40_320, x40_321, x40_322, x40_323, x40_324, x40_325, x40_328, x40_329, x40_332, x40_333, x40_334, x40_335, x40_338, x40_341, x40_342, x40_345, x40_346, x40_349, x40_350, x40_351, x40_352, x40_353, x40_354, x40_355, x40_358, x40_361, x40_364, x40_365, x40_367, x40_368, x40_371, x40_374, x40_375, x40_378, x40_379, x40_380, x40_383, x40_384, x40_385, x40_386, x40_387, x40_388, x40_389, x40_392, x40_393, x40_394, x40_397, x40_398, x40_399, x40_402, x40_405, x40_406, fcn_0_19, fcn_0_22, fcn_0_26, fcn_0_46, fcn_0_47, fcn_0_48, fcn_0_54, fcn_0_55, fcn_0_56, if_true, if_false, eq_self, Int.reduceEq, Int.reduceLT, Int.reduceLE, Int.reduceAdd, Int.reduceSub, Int.reduceMul, Int.reduceToNat, Nat.reduceAdd, Nat.reduceMul, Nat.reduceEqDiff, Int.toNat_natCast, wrap_id]
    have conv : ∀ W : Nat → Nat, ∀ g, g < sg.length → W g = (fun i => if i < sg.length then W i else 0) g := fun W g hg => (if_pos hg).symm
    rcases mm_loop (d := d) (by omega) c2 c5 hN hIX 385 s1 Wm l2 l3 l4 (by omega) hMI hWm.1 hWm.2 (fun i x hx => by rw [hsaid i x hx]; exact Nat.le_refl _) (fun V hV1 _ g hg => by
      obtain ⟨x, hx⟩ : ∃ x, sg[g]? = some x := ⟨_, List.getElem?_eq_getElem hg⟩
      rw [hsaid g x hx]
      exact hV1 g x hx) (fun j x hx hn => by rw [hsaid j x hx, (hfl j x hx).2.2 hn]; exact Nat.zero_le _) with ⟨s2, W, a2, a3, a4, q1, q2, q3, q4, q5, q6, q7, q8, q9, q10⟩ | ⟨s2, W, q1, q2, q3, ⟨q4, q5⟩, q6⟩
    · have f2 : ∀ {k j : Nat}, k ≠ 38 ∧ k ≠ 19 → s2 k j = s1 k j := fun h => WWD_k q10 h
      have hz2 : Ze d 40 364 [aR 0, aI 0, a2, a3, a4] [] s2 = Ze d 40 366 [aR 0, aI 0, aI ((0 : Nat) : Int), a3, a4] [] s2 := by
        have z0 : ((0 : Nat) : Int) = 0 := rfl
        simp (disch := first | exact obC_0 | omega | (simp only [aN1_12, aN1_15, aN1_19, aN1_37, aN1_38, aN1_39, aN1_41, aN1_42, aN1_43]; omega) | (simp only [List.length_cons, List.length_nil]; omega)) only [en40, x40_0, x40_1, x40_3, x40_4, x40_7, x40_10, x40_11, x40_14, x40_15, x40_16, x40_19, x40_20, x40_23, x40_24, x40_25, x40_28, x40_29, x40_32, x40_33, x40_34, x40_35, x40_36, x40_37, x40_40, x40_41, x40_42, x40_43, x40_44, x40_47, x40_48, x40_51, x40_52, x40_53, x40_54, x40_55, x40_59, x40_60, x40_63, x40_66, x40_67, x40_70, x40_72, x40_73, x40_76, x40_77, x40_80, x40_82, x40_83, x40_84, x40_87, x40_88, x40_89, x40_92, x40_95, x40_96, x40_99, x40_100, x40_103, x40_104, x40_105, x40_108, x40_111, x40_112, x40_114, x40_117, x40_118, x40_119, x40_120, x40_123, x40_124, x40_125, x40_127, x40_130, x40_131, x40_134, x40_135, x40_136, x40_139, x40_140, x40_141, x40_144, x40_145, x40_148, x40_149, x40_150, x40_153, x40_154, x40_157, x40_158, x40_159, x40_162, x40_163, x40_164, x40_167, x40_168, x40_169, x40_171, x40_174, x40_175, x40_176, x40_179, x40_182, x40_183, x40_185, x40_186, x40_189, x40_192, x40_193, x40_196, x40_197, x40_198, x40_201, x40_202, x40_205, x40_206, x40_207, x40_208, x40_211, x40_212, x40_215, x40_216, x40_217, x40_218, x40_221, x40_224, x40_225, x40_228, x40_229, x40_230, x40_233, x40_234, x40_237, x40_238, x40_239, x40_240, x40_241, x40_242, x40_243, x40_246, x40_249, x40_250, x40_252, x40_253, x40_256, x40_259, x40_260, x40_263, x40_264, x40_265, x40_268, x40_269, x40_272, x40_273, x40_276, x40_277, x40_278, x40_279, x40_280, x40_283, x40_286, x40_287, x40_290, x40_291, x40_292, x40_295, x40_296, x40_299, x40_300, x40_301, x40_304, x40_305, x40_306, x40_307, x40_308, x40_311, x40_312, x40_315, x40_316, x40_319, x40_320, x40_321, x40_322, x40_323, x40_324, x40_325, x40_328, x40_329, x40_332, x40_333, x40_334, x40_335, x40_338, x40_341, x40_342, x40_345, x40_346, x40_349, x40_350, x40_351, x40_352, x40_353, x40_354, x40_355, x40_358, x40_361, x40_364, x40_365, x40_367, x40_368, x40_371, x40_374, x40_375, x40_378, x40_379, x40_380, x40_383, x40_384, x40_385, x40_386, x40_387, x40_388, x40_389, x40_392, x40_393, x40_394, x40_397, x40_398, x40_399, x40_402, x40_405, x40_406, fcn_0_19, fcn_0_22, fcn_0_26, fcn_0_46, fcn_0_47, fcn_0_48, fcn_0_54, fcn_0_55, fcn_0_56, if_true, if_false, eq_self, Int.reduceEq, Int.reduceLT, Int.reduceLE, Int.reduceAdd, Int.reduceSub, Int.reduceMul, Int.reduceToNat, Nat.reduceAdd, Nat.reduceMul, Nat.reduceEqDiff, Int.toNat_natCast, wrap_id, z0]
      obtain ⟨e1, e2⟩ := me_loop (d := d) (sg := sg) (W := W) c2 a3 a4 sg.length 0 s2 (Nat.zero_add _) q2.2.1 q3 (fun j x _ hx => by
        refine ⟨(hfl j x hx).1, ?_⟩
        obtain ⟨z1, z2⟩ := p2 j x (Nat.zero_le _) hx
        rw [f2 (by decide)]
        by_cases hfr : free sg j
        · exact Or.inr (z1 hfr)
        · exact Or.inl (z2 hfr))
      by_cases hall : ∀ j, 0 ≤ j → j < sg.length → W j ≠ 0
      · obtain ⟨s3, m1, m2, -, m4⟩ := e1 hall
        have f3 : ∀ {k j : Nat}, k ≠ 37 → s3 k j = s2 k j := fun h => FLp_k m4 h
        have ff : ∀ {k j : Nat}, k ≠ 37 → k ≠ 38 ∧ k ≠ 19 → s3 k j = s k j := fun h1 h2 => by rw [f3 h1, f2 h2, f1 h1]
        have A : AR s s3 0 N := fun k j hk _ _ => ff (by omega) (by omega)
        have w3 : ∀ j, j < sg.length → s3 38 j = W j := fun j hj => by rw [f3 (by decide), q3 j hj]
        refine Or.inl ⟨s3, fun i => if i < sg.length then W i else 0, (((p1.trans hz).trans q1).trans hz2).trans m1, ⟨fun i x hx => ?_, Cl_conv hIX (conv W) q7, fun V hV1 hV2 i hi => ?_, fun z => q8 (twA_mono (L := sg.length) (fun g hg => Nat.le_of_eq (conv W g hg).symm) hIX.2.2 z), fun i hi => ?_, fun i hi => if_neg (by omega)⟩, ⟨?_, ?_, fun i x hx => ?_, ?_, c5, ?_, ?_, ?_⟩, ?_, ?_, ?_⟩
        · rw [← conv W i (List.getElem?_eq_some_iff.mp hx).1]
          exact q5 i x hx
        · rw [← conv W i hi]
          exact q6 V hV1 hV2 i hi
        · rw [← conv W i hi]
          exact hall i (Nat.zero_le _) hi
        · rw [ff (by decide) (by decide), c1, sgW_len]
        · rw [sgW_len]; exact c2
        · obtain ⟨y, hy, rfl⟩ := sgW_get hx
          have hi := (List.getElem?_eq_some_iff.mp hy).1
          obtain ⟨y1, y2, y3, y4, y5⟩ := c3 i y hy
          refine ⟨by rw [ff (by decide) (by decide), y1], by rw [ff (by decide) (by decide), y2], m2 i y (Nat.zero_le _) hy, ?_, ?_⟩
          · rw [w3 i hi]
            exact congrArg _ (conv W i hi)
          · rw [ff (by decide) (by decide)]
            exact y5.imp id (fun ⟨n, z1, z2, z3⟩ => ⟨n, z1, RR_low A z2 z3, z3⟩)
        · rw [ff (by decide) (by decide), c4]
        · exact LOs_put (Nat.le_refl _) A (fun k j hk _ => ff (by omega) (by omega)) c6
        · rw [ff (by decide) (by decide), c7]
        · exact CVs_put cv 0 N A c8
        · exact WEs_conv (L := sg.length) (conv W) cv 0 hIX.2.2 (WEs_put cv 0 (fun j _ => f3 (by decide)) q9)
        · rw [ff (by decide) (by decide), hnd]
        · exact ((p4.mono (fun _ _ z => Or.inr z)).tr (q10.mono (fun _ _ z => Or.inl z))).tr (m4.mono (fun _ _ z => Or.inr z))
      · obtain ⟨s3, m1, m2⟩ := e2 hall
        refine Or.inr ⟨s3, (((p1.trans hz).trans q1).trans hz2).trans m1, fun ⟨V, v1, v2, v3, v4, v5, v6⟩ => hall (fun j _ hj => ?_), ((p4.mono (fun _ _ z => Or.inr z)).tr (q10.mono (fun _ _ z => Or.inl z))).tr (m2.mono (fun _ _ z => Or.inr z))⟩
        · have := v3 W q5 q7 j hj
          have := v5 j hj
          omega
    · refine Or.inr ⟨s2, (p1.trans hz).trans q1, fun ⟨V, v1, v2, v3, v4, v5, v6⟩ => v4 (twA_mono (q3 V v1 v2) hIX.2.2 q2), (p4.mono (fun _ _ z => Or.inr z)).tr (q6.mono (fun _ _ z => Or.inl z))⟩
  · refine Or.inr ⟨s1, p1, no_lone hIX p2, p3.mono (fun _ _ z => Or.inr z)⟩
