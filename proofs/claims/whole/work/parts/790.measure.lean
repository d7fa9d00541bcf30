def sm (W : Nat → Nat) : Nat → Nat
  | 0 => 0
  | n + 1 => sm W n + W n
theorem sm_le {W V : Nat → Nat} (h : ∀ g, W g ≤ V g) : ∀ n, sm W n ≤ sm V n
  | 0 => Nat.le_refl _
  | n + 1 => Nat.add_le_add (sm_le h n) (h n)
theorem sm_lt {W V : Nat → Nat} (h : ∀ g, W g ≤ V g) {g : Nat} (hg : W g < V g) : ∀ n, g < n → sm W n < sm V n
  | 0, h0 => absurd h0 (Nat.not_lt_zero _)
  | n + 1, hn => by
    have := sm_le h n
    have := h n
    simp only [sm]
    by_cases hgn : g = n
    · subst hgn; omega
    · have := sm_lt h hg n (by omega)
      omega
theorem sm_16 {W : Nat → Nat} : ∀ n, (∀ g, g < n → W g ≤ 16) → sm W n ≤ 16 * n
  | 0, _ => Nat.le_refl _
  | n + 1, h => by
    have := sm_16 n (fun g hg => h g (by omega))
    have := h n (Nat.lt_succ_self _)
    simp only [sm]
    omega
/-- what does not change while the widths are found -/
def MI (s : Mem) (N : Nat) (sg : List Sg) (lo : List Lo) (cv : List (Option Jvm.Term)) : Prop :=
  s 0 32 = N ∧ s 0 50 = sg.length ∧ s 0 57 = lo.length ∧ CVs s 0 cv N ∧
  (∀ (j : Nat) (x : Sg), sg[j]? = some x → (x.2.2.2.2 = .null ∧ s 39 j = -1) ∨ (x.2.2.2.2 ≠ .null ∧ ∃ n : Nat, s 39 j = n ∧ RR s x.2.2.2.2 n ∧ n < N)) ∧
  (∀ (j : Nat) (x : Lo), lo[j]? = some x → s 41 j = x.1 ∧ (x.1 = 0 → s 42 j = x.2.1 ∧ x.2.1 < sg.length ∧ ((∃ g : Nat, x.2.2 = .index g ∧ g < sg.length ∧ s 43 j = -1 - g) ∨ (∃ n : Nat, s 43 j = n ∧ RR s x.2.2 n ∧ n < N)))) ∧
  (∀ g, g < sg.length → (free sg g → 2 ≤ s 37 g) ∧ (¬ free sg g → s 37 g < 2))
def WWD (N k j : Nat) : Prop := WW k j ∨ WD 0 N k j
theorem WWD_k {s s' : Mem} {N k j : Nat} (f : Fr (WWD N) s s') (h : k ≠ 38 ∧ k ≠ 19) : s' k j = s k j := f _ _ (fun z => z.elim (fun z => h.1 z.1) (fun z => h.2 z.1))
theorem MI_put {s s' : Mem} {N : Nat} {sg : List Sg} {lo : List Lo} {cv : List (Option Jvm.Term)} (g : ∀ k j, k ≠ 38 → k ≠ 19 → s' k j = s k j) (h : MI s N sg lo cv) : MI s' N sg lo cv := by
  obtain ⟨h1, h2, h3, h4, h5, h6, h7⟩ := h
  have R : ∀ {e : Jvm.Term} {n : Nat}, RR s e n → RR s' e n := fun r => RR_put r (fun k j hk _ _ => g _ _ (by omega) (by omega))
  refine ⟨by rw [g _ _ (by decide) (by decide), h1], by rw [g _ _ (by decide) (by decide), h2], by rw [g _ _ (by decide) (by decide), h3], CVs_put cv 0 N (fun k j hk _ _ => g _ _ (by omega) (by omega)) h4, fun j x hx => ?_, fun j x hx => ?_, fun j hj => ?_⟩
  · rw [g _ _ (by decide) (by decide)]
    exact (h5 j x hx).imp id (fun ⟨z1, n, z2, z3, z4⟩ => ⟨z1, n, z2, R z3, z4⟩)
  · rw [g _ _ (by decide) (by decide), g _ _ (by decide) (by decide), g _ _ (by decide) (by decide)]
    obtain ⟨z1, z2⟩ := h6 j x hx
    exact ⟨z1, fun z => ⟨(z2 z).1, (z2 z).2.1, (z2 z).2.2.imp id (fun ⟨n, y1, y2, y3⟩ => ⟨n, y1, R y2, y3⟩)⟩⟩
  · rw [g _ _ (by decide) (by decide)]
    exact h7 j hj
def BW (sg : List Sg) (lo : List Lo) (W : Nat → Nat) : Prop := ∀ V, W0le sg V → Cl sg lo V → ∀ g, g < sg.length → W g ≤ V g
/-- the while loop -/
theorem mm_loop {d N : Nat} {sg : List Sg} {lo : List Lo} {cv : List (Option Jvm.Term)} (hd : 2 ≤ d) (hl : sg.length ≤ 24) (hl2 : lo.length ≤ 1100) (hN : N ≤ 200) (hIX : IX sg lo cv) : ∀ (f : Nat) (s : Mem) (W : Nat → Nat) (l2 l3 l4 : AV), 384 < sm W sg.length + f → MI s N sg lo cv → MW sg.length s W → (∀ g, g < sg.length → W g ≤ 16) → W0le sg W → BW sg lo W → (∀ (j : Nat) (x : Sg), sg[j]? = some x → x.2.2.2.2 ≠ .null → W j ≤ wE W x.2.2.2.2) →
    (∃ (s' : Mem) (W' : Nat → Nat) (l2' l3' l4' : AV), Ze d 40 113 [aR 0, aI 1, l2, l3, l4] [] s = Ze d 40 364 [aR 0, aI 0, l2', l3', l4'] [] s' ∧ MI s' N sg lo cv ∧ MW sg.length s' W' ∧ (∀ g, g < sg.length → W' g ≤ 16) ∧ W0le sg W' ∧ BW sg lo W' ∧ Cl sg lo W' ∧ ¬ twA W' cv ∧ WEs s' W' 0 cv ∧ Fr (WWD N) s s') ∨
    (∃ (s' : Mem) (W' : Nat → Nat), Ze d 40 113 [aR 0, aI 1, l2, l3, l4] [] s = rI 0 s' ∧ twA W' cv ∧ BW sg lo W' ∧ (MW sg.length s' W' ∧ ∀ g, g < sg.length → W' g ≤ 16) ∧ Fr (WWD N) s s') := by
  intro f
  induction f with
  | zero =>
    intro s W l2 l3 l4 hf hMI hMW hW16
    have := sm_16 sg.length hW16
    omega
  | succ f ih =>
    intro s W l2 l3 l4 hf hMI hMW hW16 hW0 hBW hni
    obtain ⟨m1, m2, m3, m4, m5, m6, m7⟩ := hMI
    have hz0 : Ze d 40 113 [aR 0, aI 1, l2, l3, l4] [] s = Ze d 40 126 [aR 0, aI 0, aI ((N : Int) - 1), l3, l4] [] s := by
      rw [x40_113]
      simp (disch := first | exact obC_0 | omega | (simp only [aN1_12, aN1_15, aN1_19, aN1_37, aN1_38, aN1_39, aN1_41, aN1_42, aN1_43]; omega) | (simp only [List.length_cons, List.length_nil]; omega)) only [en40, x40_0, x40_1, x40_3, x40_4, x40_7, x40_10, x40_11, x40_14, x40_15, x40_16, x40_19, x40_20, x40_23, x40_24, x40_25, x40_28, x40_29, x40_32, x40_33, x40_34, x40_35, x40_36, x40_37, x40_40, x40_41, x40_42, x40_43, x40_44, x40_47, x40_48, x40_51, x40_52, x40_53, x40_54, x40_55, x40_59, x40_60, x40_63, x40_66, x40_67, x40_70, x40_72, x40_73, x40_76, x40_77, x40_80, x40_82, x40_83, x40_84, x40_87, x40_88, x40_89, x40_92, x40_95, x40_96, x40_99, x40_100, x40_103, x40_104, x40_105, x40_108, x40_111, x40_112, x40_114, x40_117, x40_118, x40_119, x40_120, x40_123, x40_124, x40_125, x40_127, x40_130, x40_131, x40_134, x40_135, x40_136, x40_139, x40_140, x40_141, x40_144, x40_145, x40_148, x40_149, x40_150, x40_153, x40_154, x40_157, x40_158, x40_159, x40_162, x40_163, x40_164, x40_167, x40_168, x40_169, x40_171, x40_174, x40_175, x40_176, x40_179, x40_182, x40_183, x40_185, x40_186, x40_189, x40_192, x40_193, x40_196, x40_197, x40_198, x40_201, x40_202, x40_205, x40_206, x40_207, x40_208, x40_211, x40_212, x40_215, x40_216, x40_217, x40_218, x40_221, x40_224, x40_225, x40_228, x40_229, x40_230, x40_233, x40_234, x40_237, x40_238, x40_239, x40_240, x40_241, x40_242, x40_243, x40_246, x40_249, x40_250, x40_252, x40_253, x40_256, x40_259, x40_260, x40_263, x40_264, x40_265, x40_268, x40_269, x40_272, x40_273, x40_276, x40_277, x40_278, x40_279, x40_280, x40_283, x40_286, x40_287, x40_290, x40_291, x40_292, x40_295, x40_296, x40_299, x40_300, x40_301, x40_304, x40_305, x40_306, x40_307, x40_308, x40_311, x40_312, x40_315, x40_316, x40_319, x40_320, x40_321, x40_322, x40_323, x40_324, x40_325, x40_328, x40_329, x40_332, x40_333, x40_334, x40_335, x40_338, x40_341, x40_342, x40_345, x40_346, x40_349, x40_350, x40_351, x40_352, x40_353, x40_354, x40_355, x40_358, x40_361, x40_364, x40_365, x40_367, x40_368, x40_371, x40_374, x40_375, x40_378, x40_379, x40_380, x40_383, x40_384, x40_385, x40_386, x40_387, x40_388, x40_389, x40_392, x40_393, x40_394, x40_397, x40_398, x40_399, x40_402, x40_405, x40_406, fcn_0_19, fcn_0_22, fcn_0_26, fcn_0_46, fcn_0_47, fcn_0_48, fcn_0_54, fcn_0_55, fcn_0_56, if_true, if_false, eq_self, Int.reduceEq, Int.reduceLT, Int.reduceLE, Int.reduceAdd, Int.reduceSub, Int.reduceMul, Int.reduceToNat, Nat.reduceAdd, Nat.reduceMul, Nat.reduceEqDiff, Int.toNat_natCast, wrap_id, m1]
    obtain ⟨n1, n2⟩ := ms_nodes (d := d) (W := W) (mo := 0) hd (show N ≤ 220 by omega) cv 0 s l3 l4 m4 hIX.2.2 hMW hW16
    by_cases htw : twA W cv
    · obtain ⟨s1, q1, q2⟩ := n2 htw
      exact Or.inr ⟨s1, W, hz0.trans q1, htw, hBW, ⟨fun g hg => by rw [WD_k q2 (by decide), hMW g hg], hW16⟩, q2.mono (fun _ _ z => Or.inr z)⟩
    obtain ⟨s1, q1, q2, q3⟩ := n1 htw
    have F1 : Fr (WWD N) s s1 := q3.mono (fun _ _ z => Or.inr z)
    have M1 : MI s1 N sg lo cv := MI_put (fun k j h1 h2 => WWD_k F1 ⟨h1, h2⟩) ⟨m1, m2, m3, m4, m5, m6, m7⟩
    obtain ⟨a1, a2, a3, a4, a5, a6, a7⟩ := M1
    have hz1 : Ze d 40 126 [aR 0, aI 0, aI (((0 : Nat) : Int) - 1), l3, l4] [] s1 = Ze d 40 184 [aR 0, aI 0, aI ((0 : Nat) : Int), l3, l4] [] s1 := by
      rw [show ((0 : Nat) : Int) - 1 = -1 from rfl, show ((0 : Nat) : Int) = 0 from rfl]
      rw [x40_126]
      simp (disch := first | exact obC_0 | omega | (simp only [aN1_12, aN1_15, aN1_19, aN1_37, aN1_38, aN1_39, aN1_41, aN1_42, aN1_43]; omega) | (simp only [List.length_cons, List.length_nil]; omega)) only [en40, x40_0, x40_1, x40_3, x40_4, x40_7, x40_10, x40_11, x40_14, x40_15, x40_16, x40_19, x40_20, x40_23, x40_24, x40_25, x40_28, x40_29, x40_32, x40_33, x40_34, x40_35, x40_36, x40_37, x40_40, x40_41, x40_42, x40_43, x40_44, x40_47, x40_48, x40_51, x40_52, x40_53, x40_54, x40_55, x40_59, x40_60, x40_63, x40_66, x40_67, x40_70, x40_72, x40_73, x40_76, x40_77, x40_80, x40_82, x40_83, x40_84, x40_87, x40_88, x40_89, x40_92, x40_95, x40_96, x40_99, x40_100, x40_103, x40_104, x40_105, x40_108, x40_111, x40_112, x40_114, x40_117, x40_118, x40_119, x40_120, x40_123, x40_124, x40_125, x40_127, x40_130, x40_131, x40_134, x40_135, x40_136, x40_139, x40_140, x40_141, x40_144, x40_145, x40_148, x40_149, x40_150, x40_153, x40_154, x40_157, x40_158, x40_159, x40_162, x40_163, x40_164, x40_167, x40_168, x40_169, x40_171, x40_174, x40_175, x40_176, x40_179, x40_182, x40_183, x40_185, x40_186, x40_189, x40_192, x40_193, x40_196, x40_197, x40_198, x40_201, x40_202, x40_205, x40_206, x40_207, x40_208, x40_211, x40_212, x40_215, x40_216, x40_217, x40_218, x40_221, x40_224, x40_225, x40_228, x40_229, x40_230, x40_233, x40_234, x40_237, x40_238, x40_239, x40_240, x40_241, x40_242, x40_243, x40_246, x40_249, x40_250, x40_252, x40_253, x40_256, x40_259, x40_260, x40_263, x40_264, x40_265, x40_268, x40_269, x40_272, x40_273, x40_276, x40_277, x40_278, x40_279, x40_280, x40_283, x40_286, x40_287, x40_290, x40_291, x40_292, x40_295, x40_296, x40_299, x40_300, x40_301, x40_304, x40_305, x40_306, x40_307, x40_308, x40_311, x40_312, x40_315, x40_316, x40_319, x40_320, x40_321, x40_322, x40_323, x40_324, x40_325, x40_328, x40_329, x40_332, x40_333, x40_334, x40_335, x40_338, x40_341, x40_342, x40_345, x40_346, x40_349, x40_350, x40_351, x40_352, x40_353, x40_354, x40_355, x40_358, x40_361, x40_364, x40_365, x40_367, x40_368, x40_371, x40_374, x40_375, x40_378, x40_379, x40_380, x40_383, x40_384, x40_385, x40_386, x40_387, x40_388, x40_389, x40_392, x40_393, x40_394, x40_397, x40_398, x40_399, x40_402, x40_405, x40_406, fcn_0_19, fcn_0_22, fcn_0_26, fcn_0_46, fcn_0_47, fcn_0_48, fcn_0_54, fcn_0_55, fcn_0_56, if_true, if_false, eq_self, Int.reduceEq, Int.reduceLT, Int.reduceLE, Int.reduceAdd, Int.reduceSub, Int.reduceMul, Int.reduceToNat, Nat.reduceAdd, Nat.reduceMul, Nat.reduceEqDiff, Int.toNat_natCast, wrap_id]
    have hwide : ∀ {e : Jvm.Term} {n : Nat}, RR s1 e n → n < N → s1 19 n = wE W e ∧ wE W e ≤ 16 := fun r hn => by
      obtain ⟨w, t⟩ := WE_at a4 q2 htw r hn
      exact ⟨WE_head w, tw_head t⟩
    obtain ⟨s2, W2, mo2, p1, p2, p3, p4, p5, p6, p7⟩ := wn_loop (d := d) (N := N) (sg := sg) (cv := cv) (Wp := W) hl (by omega) l3 l4 sg.length 0 0 s1 W (Nat.zero_add _) a2 (fun g hg => by rw [WD_k q3 (by decide), hMW g hg])
      (fun j x hx => (a5 j x hx).imp id (fun ⟨z1, n, z2, z3, z4⟩ => ⟨z1, n, z2, z4, (hwide z3 z4).1⟩)) (fun j x _ hx hn => hni j x hx hn)
    have M2 : MI s2 N sg lo cv := MI_put (fun k j h1 h2 => WW_k p7 h1) ⟨a1, a2, a3, a4, a5, a6, a7⟩
    obtain ⟨b1, b2, b3, b4, b5, b6, b7⟩ := M2
    have wd2 : ∀ n, s2 19 n = s1 19 n := fun n => WW_k p7 (by decide)
    have hwide2 : ∀ {e : Jvm.Term} {n : Nat}, RR s2 e n → n < N → s2 19 n = wE W e ∧ wE W e ≤ 16 := fun r hn => by
      rw [wd2]
      exact hwide (RR_put r (fun k j hk _ _ => (WW_k p7 (by omega)).symm)) hn
    obtain ⟨s3, W3, mo3, l2', l3', r1, r2, r3, r4, r5, r6, r7⟩ := wc_loop (d := d) (N := N) (sg := sg) (lo := lo) (cv := cv) (Wp := W) hl hl2 (by omega) l4 lo.length 0 mo2 l3 s2 W2 (Nat.zero_add _) b3 p2
      (fun j x hx => ⟨(b6 j x hx).1, fun z => ⟨((b6 j x hx).2 z).1, ((b6 j x hx).2 z).2.1, ((b6 j x hx).2 z).2.2.imp id (fun ⟨n, y1, y2, y3⟩ => ⟨n, y1, y3, (hwide2 y2 y3).1⟩)⟩⟩) b7
    have M3 : MI s3 N sg lo cv := MI_put (fun k j h1 h2 => WW_k r7 h1) ⟨b1, b2, b3, b4, b5, b6, b7⟩
    have F3 : Fr (WWD N) s s3 := (F1.tr (p7.mono (fun _ _ z => Or.inl z))).tr (r7.mono (fun _ _ z => Or.inl z))
    have hz : Ze d 40 113 [aR 0, aI 1, l2, l3, l4] [] s = Ze d 40 113 [aR 0, aI mo3, l2', l3', l4] [] s3 := by
      rw [hz0, q1, hz1, p1]
      exact r1
    -- the new widths
    have hle : ∀ g, W g ≤ W3 g := fun g => Nat.le_trans (p3 g) (r3 g)
    have h216 : ∀ g, g < sg.length → W2 g ≤ 16 := fun g hg => by
      by_cases hx : ∃ x, sg[g]? = some x ∧ x.2.2.2.2 ≠ .null
      · obtain ⟨x, hx, hn⟩ := hx
        rw [p4 g x (Nat.zero_le _) hx hn]
        rcases a5 g x hx with z | ⟨-, n, z2, z3, z4⟩
        · exact absurd z.1 hn
        · exact (hwide z3 z4).2
      · rw [p5 g (Or.inr hx)]
        exact hW16 g hg
    have hlo16 : ∀ (j : Nat) (x : Lo), lo[j]? = some x → x.1 = 0 → wE W x.2.2 ≤ 16 := fun j x hx h0 => by
      rcases ((b6 j x hx).2 h0).2.2 with ⟨g, e1, e2, e3⟩ | ⟨n, e1, e2, e3⟩
      · rw [e1]
        exact hW16 g e2
      · exact (hwide2 e2 e3).2
    have h316 : ∀ g, g < sg.length → W3 g ≤ 16 := fun g hg => by
      by_cases hgl : g < sg.length
      · exact r5 (fun _ => 16) (fun _ _ _ _ _ _ _ => Nat.le_refl _) (fun j x hx h0 _ => hlo16 j x hx h0) h216 g hgl
      · rw [r4 g (fun ⟨x, hx, _⟩ => hgl (List.getElem?_eq_some_iff.mp hx).1)]
        exact h216 g hg
    have hB2 : ∀ V, W0le sg V → Cl sg lo V → ∀ g, g < sg.length → W2 g ≤ V g := fun V hV1 hV2 g hg => by
      by_cases hx : ∃ x, sg[g]? = some x ∧ x.2.2.2.2 ≠ .null
      · obtain ⟨x, hx, hn⟩ := hx
        rw [p4 g x (Nat.zero_le _) hx hn]
        exact Nat.le_trans (wE_mono (hBW V hV1 hV2) (hIX.1 g x hx)) (hV2.1 g x hx hn)
      · rw [p5 g (Or.inr hx)]
        exact hBW V hV1 hV2 g hg
    have hB3 : BW sg lo W3 := fun V hV1 hV2 => r5 V (fun j x g hx h0 hfr he => by
      have := hV2.2 j x hx h0 hfr
      rw [he] at this
      exact this) (fun j x hx h0 hfr => Nat.le_trans (wE_mono (hBW V hV1 hV2) (hIX.2.1 j x hx).1) (hV2.2 j x hx h0 hfr)) (hB2 V hV1 hV2)
    have hW03 : W0le sg W3 := fun i x hx => Nat.le_trans (hW0 i x hx) (hle i)
    have hni3 : ∀ (j : Nat) (x : Sg), sg[j]? = some x → x.2.2.2.2 ≠ .null → W3 j ≤ wE W3 x.2.2.2.2 := fun j x hx hn => by
      rw [r4 j (fun ⟨y, hy, _, hy2⟩ => by rw [hx] at hy; cases hy; exact hn hy2), p4 j x (Nat.zero_le _) hx hn]
      exact wE_mono (fun g _ => hle g) (hIX.1 j x hx)
    rcases r6 with ⟨z1, z2, z3⟩ | ⟨z1, g, z2, z3⟩
    · rcases p6 with ⟨y1, y2⟩ | ⟨y1, g, y2, y3⟩
      · -- nothing has changed
        refine Or.inl ⟨s3, W, l2', l3', l4, ?_, M3, fun g hg => by rw [r2 g hg, z2, y2], hW16, hW0, hBW, ⟨fun j x hx hn => ?_, fun j x hx h0 hfr => ?_⟩, htw, WEs_put cv 0 (fun j _ => by rw [WW_k r7 (by decide), wd2]) q2, F3⟩
        · rw [hz, z1, y1, x40_113]
          simp (disch := first | exact obC_0 | omega | (simp only [aN1_12, aN1_15, aN1_19, aN1_37, aN1_38, aN1_39, aN1_41, aN1_42, aN1_43]; omega) | (simp only [List.length_cons, List.length_nil]; omega)) only [en40, x40_0, x40_1, x40_3, x40_4, x40_7, x40_10, x40_11, x40_14, x40_15, x40_16, x40_19, x40_20, x40_23, x40_24, x40_25, x40_28, x40_29, x40_32, x40_33, x40_34, x40_35, x40_36, x40_37, x40_40, x40_41, x40_42, x40_43, x40_44, x40_47, x40_48, x40_51, x40_52, x40_53, x40_54, x40_55, x40_59, x40_60, x40_63, x40_66, x40_67, x40_70, x40_72, x40_73, x40_76, x40_77, x40_80, x40_82, x40_83, x40_84, x40_87, x40_88, x40_89, x40_92, x40_95, x40_96, x40_99, x40_100, x40_103, x40_104, x40_105, x40_108, x40_111, x40_112, x40_114, x40_117, x40_118, x40_119, x40_120, x40_123, x40_124, x40_125, x40_127, x40_130, x40_131, x40_134, x40_135, x40_136, x40_139, x40_140, x40_141, x40_144, x40_145, x40_148, x40_149, x40_150, x40_153, x40_154, x40_157, x40_158, x40_159, x40_162, x40_163, x40_164, x40_167, x40_168, x40_169, x40_171, x40_174, x40_175, x40_176, x40_179, x40_182, x40_183, x40_185, x40_186, x40_189, x40_192, x40_193, x40_196, x40_197, x40_198, x40_201, x40_202, x40_205, x40_206, x40_207, x40_208, x40_211, x40_212, x40_215, x40_216, x40_217, x40_218, x40_221, x40_224, x40_225, x40_228, x40_229, x40_230, x40_233, x40_234, x40_237, x40_238, x40_239, x40_240, x40_241, x40_242, x40_243, x40_246, x40_249, x40_250, x40_252, x40_253, x40_256, x40_259, x40_260, x40_263, x40_264, x40_265, x40_268, x40_269, x40_272, x40_273, x40_276, x40_277, x40_278, x40_279, x40_280, x40_283, x40_286, x40_287, x40_290, x40_291, x40_292, x40_295, x40_296, x40_299, x40_300, x40_301, x40_304, x40_305, x40_306, x40_307, x40_308, x40_311, x40_312, x40_315, x40_316, x40_319, x40_320, x40_321, x40_322, x40_323, x40_324, x40_325, x40_328, x40_329, x40_332, x40_333, x40_334, x40_335, x40_338, x40_341, x40_342, x40_345, x40_346, x40_349, x40_350, x40_351, x40_352, x40_353, x40_354, x40_355, x40_358, x40_361, x40_365, x40_367, x40_368, x40_371, x40_374, x40_375, x40_378, x40_379, x40_380, x40_383, x40_384, x40_385, x40_386, x40_387, x40_388, x40_389, x40_392, x40_393, x40_394, x40_397, x40_398, x40_399, x40_402, x40_405, x40_406, fcn_0_19, fcn_0_22, fcn_0_26, fcn_0_46, fcn_0_47, fcn_0_48, fcn_0_54, fcn_0_55, fcn_0_56, if_true, if_false, eq_self, Int.reduceEq, Int.reduceLT, Int.reduceLE, Int.reduceAdd, Int.reduceSub, Int.reduceMul, Int.reduceToNat, Nat.reduceAdd, Nat.reduceMul, Nat.reduceEqDiff, Int.toNat_natCast, wrap_id]
        · rw [← y2 j, p4 j x (Nat.zero_le _) hx hn]
          exact Nat.le_refl _
        · have := z3 j x (Nat.zero_le _) hx h0 hfr
          rw [y2] at this
          rcases this with h | ⟨g, e, h⟩
          · exact h
          · rw [e]
            rw [y2] at h
            exact h
      · rw [hz]
        have hI := ih s3 W3 l2' l3' l4 (by
          have := sm_lt hle (g := g) (by rw [z2]; exact y3) sg.length y2
          omega) M3 r2 h316 hW03 hB3 hni3
        rw [show mo3 = 1 from z1.trans y1]
        rcases hI with ⟨s', W', a, b, c, i1, i2, i3, i4, i5, i6, i7, i8, i9, i10⟩ | ⟨s', W', i1, i2, i3, i5, i4⟩
        · exact Or.inl ⟨s', W', a, b, c, i1, i2, i3, i4, i5, i6, i7, i8, i9, F3.tr i10⟩
        · exact Or.inr ⟨s', W', i1, i2, i3, i5, F3.tr i4⟩
    · rw [hz]
      have hI := ih s3 W3 l2' l3' l4 (by
        have := sm_lt hle (g := g) (Nat.lt_of_le_of_lt (p3 g) z3) sg.length z2
        omega) M3 r2 h316 hW03 hB3 hni3
      rw [z1]
      rcases hI with ⟨s', W', a, b, c, i1, i2, i3, i4, i5, i6, i7, i8, i9, i10⟩ | ⟨s', W', i1, i2, i3, i5, i4⟩
      · exact Or.inl ⟨s', W', a, b, c, i1, i2, i3, i4, i5, i6, i7, i8, i9, F3.tr i10⟩
      · exact Or.inr ⟨s', W', i1, i2, i3, i5, F3.tr i4⟩
