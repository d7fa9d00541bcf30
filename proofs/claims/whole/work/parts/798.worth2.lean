def WF (a b k j : Nat) : Prop := k = 22 ∧ a ≤ j ∧ j < b
theorem WF_sub {a b c d k j : Nat} (h1 : a ≤ c) (h2 : d ≤ b) (h : WF c d k j) : WF a b k j := ⟨h.1, by have := h.2.1; omega, by have := h.2.2; omega⟩
theorem WF_k {s s' : Mem} {a b k j : Nat} (f : Fr (WF a b) s s') (h : k ≠ 22) : s' k j = s k j := f _ _ (fun z => h z.1)
theorem sh_eq {s s' : Mem} (h : ∀ k j, 12 ≤ k ∧ k ≤ 19 → s' k j = s k j) {k j : Nat} (hk : 12 ≤ k ∧ k ≤ 19) : sh s' k j = sh s k j := by rw [sh_n hk, sh_n hk, h _ _ hk]
theorem sh_RR {s s' : Mem} (h : ∀ k j, 12 ≤ k ∧ k ≤ 19 → s' k j = s k j) {e : Jvm.Term} {n : Nat} (r : RR (sh s) e n) : RR (sh s') e n := RR_put r (fun k j hk _ _ => sh_eq h (by omega))
theorem sh_WE {s s' : Mem} (h : ∀ k j, 12 ≤ k ∧ k ≤ 19 → s' k j = s k j) {W : Nat → Nat} {e : Jvm.Term} {n : Nat} (r : WE (sh s) W e n) : WE (sh s') W e n := WE_put r (fun j _ _ => sh_eq h (by decide))
def VT (d root : Nat) (val : Nat → Int) (W : Nat → Nat) (e : Jvm.Term) : Prop := ∀ (n : Nat) (s : Mem) (l4 l5 l6 l7 l8 : AV), RR (sh s) e n → WE (sh s) W e n → n + esz e ≤ 220 → root ≤ n → (∀ g, g < 24 → s 44 g = val g) →
  ∃ (s' : Mem) (a4 a5 a6 a7 a8 : AV), Ze d 49 15 [aR 0, aI root, aI 220, aI (((n + esz e : Nat) : Int) - 1), l4, l5, l6, l7, l8] [] s = Ze d 49 15 [aR 0, aI root, aI 220, aI ((n : Int) - 1), a4, a5, a6, a7, a8] [] s' ∧ WV s' val W e n ∧ Fr (WF n (n + esz e)) s s'
theorem vt_head {d root n : Nat} {val : Nat → Int} {W : Nat → Nat} {e : Jvm.Term} {v : Int} {s s1 : Mem} {l4 l5 l6 l7 l8 b4 b5 b6 b7 b8 : AV} (F : Fr (WF (n + 1) (n + esz e)) s s1) (hz : Ze d 49 15 [aR 0, aI root, aI 220, aI (((n + esz e : Nat) : Int) - 1), l4, l5, l6, l7, l8] [] s = Ze d 49 15 [aR 0, aI root, aI 220, aI n, b4, b5, b6, b7, b8] [] s1) (h : W1 d root n s1 v) (hv : v = vE val W e) :
    ∃ (s' : Mem) (a4 a5 a6 a7 a8 : AV), Ze d 49 15 [aR 0, aI root, aI 220, aI (((n + esz e : Nat) : Int) - 1), l4, l5, l6, l7, l8] [] s = Ze d 49 15 [aR 0, aI root, aI 220, aI ((n : Int) - 1), a4, a5, a6, a7, a8] [] s' ∧ s' 22 n = vE val W e ∧ (∀ j, j ≠ n → s' 22 j = s1 22 j) ∧ Fr (WF n (n + esz e)) s s' := by
  have hp := esz_pos e
  obtain ⟨a4, a5, a6, a7, a8, q⟩ := h b4 b5 b6 b7 b8
  exact ⟨_, a4, a5, a6, a7, a8, hz.trans q, by rw [mu_s, hv], fun j hj => mu_i hj, (F.mono (fun _ _ => WF_sub (Nat.le_succ _) (Nat.le_refl _))).mu ⟨rfl, Nat.le_refl _, by omega⟩⟩
theorem vt_old {d root : Nat} {val : Nat → Int} {W : Nat → Nat} {a : Jvm.Term} (hd : 2 ≤ d) (ih : VT d root val W a) : VT d root val W (.old a) := by
  intro n s l4 l5 l6 l7 l8 hR hE hn hr hv
  obtain ⟨h1, h2, h3, h4, h5⟩ := hR
  obtain ⟨w1, w2⟩ := hE
  have hsz : esz (.old a) = 1 + esz a := rfl
  have hp := esz_pos a
  obtain ⟨s1, b4, b5, b6, b7, b8, q1, q2, q3⟩ := ih (n + 1) s l4 l5 l6 l7 l8 h5 w2 (by omega) (by omega) hv
  rw [show n + 1 + esz a = n + esz (.old a) by omega, show (((n + 1 : Nat) : Int) - 1) = n by omega] at q1
  rw [show n + 1 + esz a = n + esz (.old a) by omega] at q3
  rw [sh_n (by decide)] at h1 h2 h3 w1
  have hh := wt_old (d := d) (root := root) (n := n) (a := n + 1) (s := s1) hd (by omega) hr (by rw [WF_k q3 (by decide), h1]) (by rw [WF_k q3 (by decide), h2]) (by omega) (by rw [WF_k q3 (by decide), h3]) (WV_head q2) (by rw [WF_k q3 (by decide), w1])
  obtain ⟨s', a4, a5, a6, a7, a8, p1, p2, p3, p4⟩ := vt_head (val := val) (W := W) (e := .old a) q3 q1 hh rfl
  exact ⟨s', a4, a5, a6, a7, a8, p1, ⟨p2, WV_put q2 (fun j h1 h2 => p3 j (by omega))⟩, p4⟩
theorem vt_mul {d root : Nat} {val : Nat → Int} {W : Nat → Nat} {x a : Jvm.Term} (hd : 2 ≤ d) (ih : VT d root val W a) : VT d root val W (.mul x a) := by
  intro n s l4 l5 l6 l7 l8 hR hE hn hr hv
  have hx : ∃ h l, x = .add (.arg h) (.arg l) := by
    revert hR
    generalize hy : Jvm.Term.mul x a = y
    generalize sh s = t
    fun_cases RR t y n with
    | case2 h l a' n => cases hy; exact fun _ => ⟨h, l, rfl⟩
    | case7 => intro h; exact h.elim
    | _ => exact (nomatch hy)
  obtain ⟨h, l, rfl⟩ := hx
  obtain ⟨h1, h2, h3, h4, h5, h6, h7, h8⟩ := hR
  obtain ⟨w1, w2⟩ := hE
  have hsz : esz (.mul (.add (.arg h) (.arg l)) a) = 1 + esz a := rfl
  have hp := esz_pos a
  obtain ⟨s1, b4, b5, b6, b7, b8, q1, q2, q3⟩ := ih (n + 1) s l4 l5 l6 l7 l8 h8 w2 (by omega) (by omega) hv
  rw [show n + 1 + esz a = n + esz (.mul (.add (.arg h) (.arg l)) a) by omega, show (((n + 1 : Nat) : Int) - 1) = n by omega] at q1
  rw [show n + 1 + esz a = n + esz (.mul (.add (.arg h) (.arg l)) a) by omega] at q3
  rw [sh_n (by decide)] at h1 h3 h5 h6 w1
  have hh := wt_bits (d := d) (root := root) (n := n) (a := n + 1) (l := l) (s := s1) hd (by omega) hr (by rw [WF_k q3 (by decide), h1]) (by rw [WF_k q3 (by decide), h5]) (by omega) (by rw [WF_k q3 (by decide), h6]) (by rw [WF_k q3 (by decide), h3]) (WV_head q2) (by rw [WF_k q3 (by decide), w1])
  obtain ⟨s', a4, a5, a6, a7, a8, p1, p2, p3, p4⟩ := vt_head (val := val) (W := W) (e := .mul (.add (.arg h) (.arg l)) a) q3 q1 hh rfl
  exact ⟨s', a4, a5, a6, a7, a8, p1, ⟨p2, WV_put q2 (fun j h1 h2 => p3 j (by omega))⟩, p4⟩
theorem vt_div {d root : Nat} {val : Nat → Int} {W : Nat → Nat} {c a b : Jvm.Term} (hd : 2 ≤ d) (iha : VT d root val W a) (ihb : VT d root val W b) : VT d root val W (.div c (.rem a b)) := by
  intro n s l4 l5 l6 l7 l8 hR hE hn hr hv
  have hx : ∃ h, c = .arg h := by
    revert hR
    generalize hy : Jvm.Term.div c (.rem a b) = y
    generalize sh s = t
    fun_cases RR t y n with
    | case3 c' a' b' n => cases hy; exact fun _ => ⟨c', rfl⟩
    | case7 => intro h; exact h.elim
    | _ => exact (nomatch hy)
  obtain ⟨c, rfl⟩ := hx
  obtain ⟨h1, h2, h3, h4, h5, h6, h7⟩ := hR
  obtain ⟨w1, w2, w3⟩ := hE
  have hsz : esz (.div (.arg c) (.rem a b)) = 1 + esz a + esz b := rfl
  have hpa := esz_pos a
  have hpb := esz_pos b
  obtain ⟨s1, b4, b5, b6, b7, b8, q1, q2, q3⟩ := ihb (n + 1 + esz a) s l4 l5 l6 l7 l8 h7 w3 (by omega) (by omega) hv
  rw [show n + 1 + esz a + esz b = n + esz (.div (.arg c) (.rem a b)) by omega] at q1
  have sh1 : ∀ k j, 12 ≤ k ∧ k ≤ 19 → s1 k j = s k j := fun k j hk => WF_k q3 (by omega)
  obtain ⟨s2, c4, c5, c6, c7, c8, p1, p2, p3⟩ := iha (n + 1) s1 b4 b5 b6 b7 b8 (sh_RR sh1 h6) (sh_WE sh1 w2) (by omega) (by omega) (fun g hg => by rw [WF_k q3 (by decide), hv g hg])
  rw [show (((n + 1 : Nat) : Int) - 1) = n by omega] at p1
  have F2 : Fr (WF (n + 1) (n + esz (.div (.arg c) (.rem a b)))) s s2 := (q3.mono (fun _ _ => WF_sub (by omega) (by omega))).tr (p3.mono (fun _ _ => WF_sub (by omega) (by omega)))
  have hB : WV s2 val W b (n + 1 + esz a) := WV_put q2 (fun j h1 h2 => p3 _ _ (fun z => by have := z.2.2; omega))
  have wb := WE_head w3
  rw [sh_n (by decide)] at h1 h3 h4 w1 wb
  have hh := wt_two (d := d) (root := root) (n := n) (a := n + 1) (b := n + 1 + esz a) (c := c) (s := s2) hd (by omega) hr h2 (by rw [WF_k F2 (by decide), h1]) (by rw [WF_k F2 (by decide), h3]) (by omega) (by rw [WF_k F2 (by decide), h4]) (by omega) (WV_head p2) (WV_head hB) (by rw [WF_k F2 (by decide), wb]) (by rw [WF_k F2 (by decide), w1])
  obtain ⟨s', a4, a5, a6, a7, a8, m1, m2, m3, m4⟩ := vt_head (val := val) (W := W) (e := .div (.arg c) (.rem a b)) F2 (q1.trans p1) hh rfl
  exact ⟨s', a4, a5, a6, a7, a8, m1, ⟨m2, WV_put p2 (fun j h1 h2 => m3 j (by omega)), WV_put hB (fun j h1 h2 => m3 j (by omega))⟩, m4⟩
theorem vt_sub {d root : Nat} {val : Nat → Int} {W : Nat → Nat} {c a b : Jvm.Term} (hd : 2 ≤ d) (ihc : VT d root val W c) (iha : VT d root val W a) (ihb : VT d root val W b) : VT d root val W (.sub c (.rem a b)) := by
  intro n s l4 l5 l6 l7 l8 hR hE hn hr hv
  obtain ⟨h1, h2, h3, h4, h5, h6, h7, h8⟩ := hR
  obtain ⟨w1, w2, w3, w4⟩ := hE
  have hsz : esz (.sub c (.rem a b)) = 1 + esz c + esz a + esz b := rfl
  have hpc := esz_pos c
  have hpa := esz_pos a
  have hpb := esz_pos b
  obtain ⟨s1, b4, b5, b6, b7, b8, q1, q2, q3⟩ := ihb (n + 1 + esz c + esz a) s l4 l5 l6 l7 l8 h8 w4 (by omega) (by omega) hv
  rw [show n + 1 + esz c + esz a + esz b = n + esz (.sub c (.rem a b)) by omega] at q1
  have sh1 : ∀ k j, 12 ≤ k ∧ k ≤ 19 → s1 k j = s k j := fun k j hk => WF_k q3 (by omega)
  obtain ⟨s2, c4, c5, c6, c7, c8, p1, p2, p3⟩ := iha (n + 1 + esz c) s1 b4 b5 b6 b7 b8 (sh_RR sh1 h7) (sh_WE sh1 w3) (by omega) (by omega) (fun g hg => by rw [WF_k q3 (by decide), hv g hg])
  have F2 : Fr (WF (n + 1) (n + esz (.sub c (.rem a b)))) s s2 := (q3.mono (fun _ _ => WF_sub (by omega) (by omega))).tr (p3.mono (fun _ _ => WF_sub (by omega) (by omega)))
  have sh2 : ∀ k j, 12 ≤ k ∧ k ≤ 19 → s2 k j = s k j := fun k j hk => WF_k F2 (by omega)
  obtain ⟨s3, d4, d5, d6, d7, d8, r1, r2, r3⟩ := ihc (n + 1) s2 c4 c5 c6 c7 c8 (sh_RR sh2 h6) (sh_WE sh2 w2) (by omega) (by omega) (fun g hg => by rw [WF_k F2 (by decide), hv g hg])
  rw [show (((n + 1 : Nat) : Int) - 1) = n by omega] at r1
  have F3 : Fr (WF (n + 1) (n + esz (.sub c (.rem a b)))) s s3 := F2.tr (r3.mono (fun _ _ => WF_sub (by omega) (by omega)))
  have hA : WV s3 val W a (n + 1 + esz c) := WV_put p2 (fun j h1 h2 => r3 _ _ (fun z => by have := z.2.2; omega))
  have hB : WV s3 val W b (n + 1 + esz c + esz a) := WV_put (WV_put q2 (fun j h1 h2 => p3 _ _ (fun z => by have := z.2.2; omega))) (fun j h1 h2 => r3 _ _ (fun z => by have := z.2.2; omega))
  rw [sh_n (by decide)] at h1 h2 h3 h4 w1
  have hh := wt_mux (d := d) (root := root) (n := n) (a := n + 1) (b := n + 1 + esz c) (c := n + 1 + esz c + esz a) (s := s3) hd (by omega) hr (by rw [WF_k F3 (by decide), h1]) (by rw [WF_k F3 (by decide), h2]) (by omega) (by rw [WF_k F3 (by decide), h3]) (by omega) (by rw [WF_k F3 (by decide), h4]) (by omega) (WV_head r2) (WV_head hA) (WV_head hB) (by rw [WF_k F3 (by decide), w1])
  obtain ⟨s', a4, a5, a6, a7, a8, m1, m2, m3, m4⟩ := vt_head (val := val) (W := W) (e := .sub c (.rem a b)) F3 ((q1.trans p1).trans r1) hh rfl
  exact ⟨s', a4, a5, a6, a7, a8, m1, ⟨m2, WV_put r2 (fun j h1 h2 => m3 j (by omega)), WV_put hA (fun j h1 h2 => m3 j (by omega)), WV_put hB (fun j h1 h2 => m3 j (by omega))⟩, m4⟩
theorem vt_all {d root : Nat} {val : Nat → Int} {W : Nat → Nat} (hd : 2 ≤ d) (e : Jvm.Term) : VT d root val W e := by
  fun_induction esz e with
  | case1 a ih => exact vt_old hd ih
  | case2 x a ih => exact vt_mul hd ih
  | case3 c a b iha ihb => exact vt_div hd iha ihb
  | case4 c a b ihc iha ihb => exact vt_sub hd ihc iha ihb
  | case5 e h1 h2 h3 h4 =>
    intro n s l4 l5 l6 l7 l8 hR hE hn hr hv
    have hp := esz_pos e
    obtain ⟨g, rfl, g1, g2, g3, g4⟩ | ⟨v, rfl, g1, g2, g3, g4⟩ := RR_leaf hR h1 h2 h3 h4
    · have w1 : sh s 19 n = wE W (.index g) := hE
      rw [sh_n (by decide)] at g1 g2 w1
      have hh := wt_index (d := d) (root := root) (n := n) (g := g) (s := s) hd (by omega) hr g1 g2 g3 (hv g g3) w1
      obtain ⟨s', a4, a5, a6, a7, a8, m1, m2, m3, m4⟩ := vt_head (val := val) (W := W) (e := .index g) (l4 := l4) (l5 := l5) (l6 := l6) (l7 := l7) (l8 := l8) (Fr.rf s) (by rw [show (((n + esz (.index g) : Nat) : Int) - 1) = n by show ((n + 1 : Nat) : Int) - 1 = n; omega]) hh rfl
      exact ⟨s', a4, a5, a6, a7, a8, m1, m2, m4⟩
    · have w1 : sh s 19 n = wE W (.arg v) := hE
      rw [sh_n (by decide)] at g1 g2 w1
      have hh := wt_num (d := d) (root := root) (n := n) (s := s) hd (by omega) hr g1 g2 w1
      obtain ⟨s', a4, a5, a6, a7, a8, m1, m2, m3, m4⟩ := vt_head (val := val) (W := W) (e := .arg v) (l4 := l4) (l5 := l5) (l6 := l6) (l7 := l7) (l8 := l8) (Fr.rf s) (by rw [show (((n + esz (.arg v) : Nat) : Int) - 1) = n by show ((n + 1 : Nat) : Int) - 1 = n; omega]) hh rfl
      exact ⟨s', a4, a5, a6, a7, a8, m1, m2, m4⟩
theorem t_worthOf {d n : Nat} {val : Nat → Int} {W : Nat → Nat} {e : Jvm.Term} {s : Mem} (hd : 3 ≤ d) (hR : RR (sh s) e n) (hE : WE (sh s) W e n) (hn : n + esz e ≤ 220) (hv : ∀ g, g < 24 → s 44 g = val g) : ∃ s', Zc d 49 [aR 0, aI n] s = rI (vE val W e) s' ∧ Fr WO s s' := by
  obtain ⟨d, rfl⟩ : ∃ e, d = e + 1 := ⟨d - 1, by omega⟩
  have hp := esz_pos e
  have he := RR_end hR
  rw [sh_n (by decide)] at he
  obtain ⟨s', a4, a5, a6, a7, a8, q1, q2, q3⟩ := vt_all (d := d) (root := n) (val := val) (W := W) (by omega) e n s aU aU aU aU aU hR hE hn (Nat.le_refl _) hv
  refine ⟨s', ?_, q3.mono (fun _ _ z => z.1)⟩
  have e1 : (220 : Int) + n = ((220 + n : Nat) : Int) := rfl
  have h0 : Zc (d + 1) 49 [aR 0, aI n] s = Ze d 49 15 [aR 0, aI n, aI 220, aI (((n + esz e : Nat) : Int) - 1), aU, aU, aU, aU, aU] [] s := by
    simp (disch := first | exact obC_0 | omega | (simp only [aN1_12, aN1_13, aN1_15, aN1_16, aN1_17, aN1_18, aN1_19, aN1_22, aN1_44]; omega) | (simp only [List.length_cons, List.length_nil]; omega)) only [en49, x49_0, x49_3, x49_4, x49_5, x49_8, x49_9, x49_10, x49_11, x49_12, x49_13, x49_14, x49_16, x49_17, x49_20, x49_21, x49_22, x49_23, x49_25, x49_26, x49_29, x49_31, x49_32, x49_34, x49_36, x49_37, x49_40, x49_41, x49_44, x49_45, x49_48, x49_49, x49_52, x49_54, x49_55, x49_56, x49_58, x49_60, x49_61, x49_64, x49_65, x49_68, x49_70, x49_71, x49_74, x49_75, x49_78, x49_79, x49_82, x49_83, x49_86, x49_88, x49_89, x49_90, x49_92, x49_93, x49_95, x49_97, x49_204, x49_205, x49_208, x49_209, x49_212, x49_214, x49_215, x49_216, x49_218, x49_221, x49_222, x49_225, x49_227, x49_228, x49_230, x49_233, x49_235, x49_237, x49_238, x49_240, x49_243, x49_245, x49_247, x49_248, x49_250, x49_253, x49_255, x49_257, x49_258, x49_260, x49_263, x49_265, x49_267, x49_268, x49_270, x49_273, x49_275, x49_277, x49_278, x49_280, x49_283, x49_285, x49_287, x49_290, x49_291, x49_294, x49_295, x49_297, x49_300, x49_302, x49_304, x49_307, x49_308, x49_311, x49_312, x49_314, x49_317, x49_319, x49_320, x49_323, x49_324, x49_325, x49_328, x49_330, x49_331, x49_332, x49_333, x49_334, x49_336, x49_337, x49_339, x49_342, x49_344, x49_345, x49_346, x49_348, x49_351, x49_353, x49_356, x49_358, x49_361, x49_362, x49_365, x49_366, x49_369, x49_371, x49_372, x49_373, x49_375, x49_378, x49_380, x49_381, x49_384, x49_386, x49_387, x49_388, x49_390, x49_391, x49_394, x49_395, x49_397, x49_398, x49_401, x49_403, x49_404, x49_407, x49_408, x49_409, x49_412, x49_415, x49_416, x49_419, x49_420, x49_421, fcn_0_19, fcn_0_20, fcn_0_22, fcn_0_23, fcn_0_24, fcn_0_25, fcn_0_26, fcn_0_29, fcn_0_59, if_true, if_false, eq_self, Int.reduceEq, Int.reduceLT, Int.reduceLE, Int.reduceAdd, Int.reduceSub, Int.reduceMul, Int.reduceToNat, Nat.reduceAdd, Nat.reduceMul, Nat.reduceEqDiff, Int.toNat_natCast, wrap_id, e1, he]
  have hh := WV_head q2
  rw [h0, q1, x49_15]
  simp (disch := first | exact obC_0 | omega | (simp only [aN1_12, aN1_13, aN1_15, aN1_16, aN1_17, aN1_18, aN1_19, aN1_22, aN1_44]; omega) | (simp only [List.length_cons, List.length_nil]; omega)) only [en49, x49_0, x49_3, x49_4, x49_5, x49_8, x49_9, x49_10, x49_11, x49_12, x49_13, x49_14, x49_16, x49_17, x49_21, x49_22, x49_23, x49_25, x49_26, x49_29, x49_31, x49_32, x49_34, x49_36, x49_37, x49_40, x49_41, x49_44, x49_45, x49_48, x49_49, x49_52, x49_54, x49_55, x49_56, x49_58, x49_60, x49_61, x49_64, x49_65, x49_68, x49_70, x49_71, x49_74, x49_75, x49_78, x49_79, x49_82, x49_83, x49_86, x49_88, x49_89, x49_90, x49_92, x49_93, x49_95, x49_97, x49_204, x49_205, x49_208, x49_209, x49_212, x49_214, x49_215, x49_216, x49_218, x49_221, x49_222, x49_225, x49_227, x49_228, x49_230, x49_233, x49_235, x49_237, x49_238, x49_240, x49_243, x49_245, x49_247, x49_248, x49_250, x49_253, x49_255, x49_257, x49_258, x49_260, x49_263, x49_265, x49_267, x49_268, x49_270, x49_273, x49_275, x49_277, x49_278, x49_280, x49_283, x49_285, x49_287, x49_290, x49_291, x49_294, x49_295, x49_297, x49_300, x49_302, x49_304, x49_307, x49_308, x49_311, x49_312, x49_314, x49_317, x49_319, x49_320, x49_323, x49_324, x49_325, x49_328, x49_330, x49_331, x49_332, x49_333, x49_334, x49_336, x49_337, x49_339, x49_342, x49_344, x49_345, x49_346, x49_348, x49_351, x49_353, x49_356, x49_358, x49_361, x49_362, x49_365, x49_366, x49_369, x49_371, x49_372, x49_373, x49_375, x49_378, x49_380, x49_381, x49_384, x49_386, x49_387, x49_388, x49_390, x49_391, x49_394, x49_395, x49_397, x49_398, x49_401, x49_403, x49_404, x49_407, x49_408, x49_409, x49_412, x49_415, x49_416, x49_419, x49_420, x49_421, fcn_0_19, fcn_0_20, fcn_0_22, fcn_0_23, fcn_0_24, fcn_0_25, fcn_0_26, fcn_0_29, fcn_0_59, if_true, if_false, eq_self, Int.reduceEq, Int.reduceLT, Int.reduceLE, Int.reduceAdd, Int.reduceSub, Int.reduceMul, Int.reduceToNat, Nat.reduceAdd, Nat.reduceMul, Nat.reduceEqDiff, Int.toNat_natCast, wrap_id, hh, if_pos (show (n : Int) - 1 < n by omega)]
