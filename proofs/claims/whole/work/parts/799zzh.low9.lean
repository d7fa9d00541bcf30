/-! THE CLASS: the lowering as a whole -/
def FD (s : Mem) (o N L K : Nat) (sg : List Sg) (lo : List Lo) (g : Nat) (x : Sg) : Prop := (isSk x.1 x.2.2.1 ∨ x.1 = 4 → CN1 s o N L K (form sg lo g) (s (77 + o) g) ∧ BU (s (78 + o) g) (form sg lo g)) ∧ (¬ (isSk x.1 x.2.2.1 ∨ x.1 = 4) → s (78 + o) g = 0)
def FNF (o k _j : Nat) : Prop := k = 77 + o ∨ k = 78 + o
theorem CN1_FN {s s' : Mem} {o N L K : Nat} {t : Jvm.Term} {v : Int} (ho : o = 0 ∨ o = 26) (hN : N ≤ 225) (hL : L ≤ 24) (h : CN1 s o N L K t v) (f : Fr (FNF o) s s') : CN1 s' o N L K t v :=
  CN1_put hN hL (Nat.le_refl _) h (fun c j hc _ _ => f _ _ (by unfold FNF; omega)) (fun c j h1 h2 _ => f _ _ (by unfold FNF; omega)) (fun j _ => f _ _ (by unfold FNF; omega))
theorem fin_loop {d o N K : Nat} {sg : List Sg} {lo : List Lo} (hd : 1 ≤ d) (ho : o = 0 ∨ o = 26) (hN : N ≤ 225) (hK : K ≤ 840) : ∀ (m k : Nat) (s : Mem), k + m = sg.length → SGA s o sg → (∀ g, g < 24 → CN1 s o N sg.length K (lwF g lo (now0 sg g) []) (s 139 g)) → (∀ (g : Nat) (x : Sg), sg[g]? = some x → x.1 = 4 → CN1 s o N sg.length K x.2.2.2.2 (s (77 + o) g)) → (∀ (g : Nat) (x : Sg), g < k → sg[g]? = some x → FD s o N sg.length K sg lo g x) →
    ∃ s', Ze d 109 2 [aR 137, aR (58 + o), aI k] [] s = rV s' ∧ (∀ (g : Nat) (x : Sg), sg[g]? = some x → FD s' o N sg.length K sg lo g x) ∧ Fr (FNF o) s s' := by
  intro m
  induction m with
  | zero =>
    intro k s hk hS hst hnd hF
    have : k = sg.length := by omega
    subst this
    exact ⟨s, fin_end ho hS.1, fun g x hx => hF g x (List.getElem?_eq_some_iff.mp hx).1 hx, Fr.rf s⟩
  | succ m ih =>
    intro k s hk hS hst hnd hF
    have hL := hS.2.1
    have hkl : k < sg.length := by omega
    have hx := List.getElem?_eq_getElem hkl
    obtain ⟨q1, q2⟩ := hS.2.2 k _ hx
    generalize sg[k] = x at hx q1 q2
    have go : ∀ s1, Ze d 109 2 [aR 137, aR (58 + o), aI k] [] s = Ze d 109 2 [aR 137, aR (58 + o), aI ((k + 1 : Nat) : Int)] [] s1 → Fr (fun c j => FNF o c j ∧ j = k) s s1 → ((x.1 = 4 → s1 (77 + o) k = s (77 + o) k)) → FD s1 o N sg.length K sg lo k x → ∃ s', Ze d 109 2 [aR 137, aR (58 + o), aI k] [] s = rV s' ∧ (∀ (g : Nat) (x : Sg), sg[g]? = some x → FD s' o N sg.length K sg lo g x) ∧ Fr (FNF o) s s' := by
      intro s1 r1 r2 r3 r4
      have r2' : Fr (FNF o) s s1 := r2.mono (fun _ _ h => h.1)
      have hne : ∀ c j, j ≠ k → s1 c j = s c j := fun c j hj => r2 _ _ (fun z => hj z.2)
      obtain ⟨s', a1, a2, a3⟩ := ih (k + 1) s1 (by omega) (SGA_put hS (r2' _ _ (by unfold FNF; omega)) (fun j => ⟨r2' _ _ (by unfold FNF; omega), r2' _ _ (by unfold FNF; omega)⟩)) (fun g hg => by rw [r2' _ _ (by unfold FNF; omega)]; exact CN1_FN ho hN hL (hst g hg) r2') (fun g y hy h4 => by
        by_cases hgk : g = k
        · subst hgk
          have hyx : y = x := by rw [hx] at hy; injection hy with hy; exact hy.symm
          subst hyx
          rw [r3 h4]
          exact CN1_FN ho hN hL (hnd g y hy h4) r2'
        · rw [hne _ _ hgk]
          exact CN1_FN ho hN hL (hnd g y hy h4) r2') (fun g y hg hy => by
        by_cases hgk : g = k
        · subst hgk
          have hyx : y = x := by rw [hx] at hy; injection hy with hy; exact hy.symm
          subst hyx
          exact r4
        · obtain ⟨b1, b2⟩ := hF g y (by omega) hy
          refine ⟨fun z => ?_, fun z => ?_⟩
          · rw [hne _ _ hgk, hne _ _ hgk]
            exact ⟨CN1_FN ho hN hL (b1 z).1 r2', (b1 z).2⟩
          · rw [hne _ _ hgk]
            exact b2 z)
      exact ⟨s', by rw [r1, a1], a2, r2'.tr a3⟩
    have w := fun s h1 h2 => k_sFree (d := d) (g := k) (k := x.1) (f := x.2.2.1) (s := s) hd ho (by omega) h1 h2
    by_cases hk1 : isSk x.1 x.2.2.1
    · have hn4 : ¬ x.1 = 4 := fun z => by unfold isSk at hk1; omega
      have hs1 : skI x.1 x.2.2.1 = 1 := by unfold skI; rw [if_pos hk1]
      obtain ⟨v, v1, v2, v3⟩ := hst k (by omega)
      have vl := CD_lt hN hL v2
      have hfm : form sg lo k = lwF k lo (now0 sg k) [] := by
        unfold form now0
        rw [hx]
        dsimp only
        rw [if_neg hn4]
      have e := fin_sink (d := d) ho hS.1 hkl hL (by rw [q2, hs1]) v1 (by omega) ((w _ (by rw [mu_c (by omega)]; exact q1) (by rw [mu_c (by omega)]; exact q2)).1 (Or.inl hk1))
      have F : Fr (fun c j => FNF o c j ∧ j = k) s (mu (mu s (77 + o) k v) (78 + o) k (s 138 v)) := ((Fr.rf s).mu ⟨Or.inl rfl, rfl⟩).mu ⟨Or.inr rfl, rfl⟩
      have F' := F.mono (S' := FNF o) (fun _ _ h => h.1)
      refine go _ e F (fun z => absurd z hn4) ⟨fun _ => ?_, fun z => absurd (Or.inl hk1) z⟩
      rw [hfm, mu_s, mu_c (by omega), mu_s]
      have hc : CN1 s o N sg.length K (lwF k lo (now0 sg k) []) (v : Nat) := ⟨v, rfl, v2, v3⟩
      exact ⟨CN1_FN ho hN hL hc F', v3⟩
    · have hs0 : skI x.1 x.2.2.1 = 0 := by unfold skI; rw [if_neg hk1]
      by_cases h4 : x.1 = 4
      · obtain ⟨v, v1, v2, v3⟩ := hnd k x hx h4
        have vl := CD_lt hN hL v2
        have hfm : form sg lo k = x.2.2.2.2 := by
          unfold form
          rw [hx]
          dsimp only
          rw [if_pos h4]
        have e := fin_node (d := d) ho hS.1 hkl hL (by rw [q2, hs0]) v1 (by omega) ((w _ q1 q2).1 (Or.inr h4))
        have F : Fr (fun c j => FNF o c j ∧ j = k) s (mu s (78 + o) k (s 138 v)) := (Fr.rf s).mu ⟨Or.inr rfl, rfl⟩
        have F' := F.mono (S' := FNF o) (fun _ _ h => h.1)
        refine go _ e F (fun _ => mu_c (by omega)) ⟨fun _ => ?_, fun z => absurd (Or.inr h4) z⟩
        rw [hfm, mu_s, mu_c (by omega)]
        exact ⟨CN1_FN ho hN hL (hnd k x hx h4) F', v3⟩
      · have hn : ¬ (isSk x.1 x.2.2.1 ∨ x.1 = 4) := fun z => z.elim hk1 h4
        have e := fin_free (d := d) ho hS.1 hkl hL (by rw [q2, hs0]) ((w _ q1 q2).2 hn)
        have F : Fr (fun c j => FNF o c j ∧ j = k) s (mu s (78 + o) k 0) := (Fr.rf s).mu ⟨Or.inr rfl, rfl⟩
        exact go _ e F (fun z => absurd z h4) ⟨fun z => absurd z hn, fun _ => mu_s⟩
/-- what the whole lowering writes -/
def LWY (o k j : Nat) : Prop := (k = 137 ∧ (j = 9 ∨ j = 10)) ∨ (138 ≤ k ∧ k ≤ 149) ∨ (k = 58 + o ∧ j = 6) ∨ (74 + o ≤ k ∧ k ≤ 78 + o)
theorem k_lower {d o N : Nat} {sg : List Sg} {lo : List Lo} {cv : List (Option Jvm.Term)} {xs : List (Nat × Nat × List Lo)} {s : Mem} (hd : 5 ≤ d) (ho : o = 0 ∨ o = 26) (hS : SGA s o sg) (hN1 : 25 ≤ N) (hN : N ≤ 225) (hNu : s (66 + o) 7 = N) (hcv : CVc s o sg.length 25 cv N) (hu : s 124 4 = xs.length) (hxs : xs.length ≤ 200) (hX : ∀ j x, xs[j]? = some x → XS s o N sg j x) (hlo : lo = xs.flatMap (fun x => x.2.2)) (hw : wfN [] lo) (hwx : wgX xs ≤ 200) (hnd : ∀ (g : Nat) (x : Sg), sg[g]? = some x → x.1 = 4 → ∃ l, (5, g, l) ∈ xs) :
    ∃ (s' : Mem) (K : Nat), Zc d 102 [aR 137, aR (58 + o)] s = rV s' ∧ s' (58 + o) 6 = K ∧ K ≤ 840 ∧ (∀ (g : Nat) (x : Sg), sg[g]? = some x → FD s' o N sg.length K sg lo g x) ∧ Fr (LWY o) s s' := by
  obtain ⟨d, rfl⟩ : ∃ e, d = e + 1 := ⟨d - 1, by omega⟩
  have hL := hS.2.1
  obtain ⟨s1, a1, a2, a3, a4, a5⟩ := k_nodeNeeds (d := d) (by omega) ho hL hN1 hN hNu hcv
  have S1 : SGA s1 o sg := SGA_put hS (a5 _ _ (by unfold NDF; omega)) (fun j => ⟨a5 _ _ (by unfold NDF; omega), a5 _ _ (by unfold NDF; omega)⟩)
  obtain ⟨s2, b1, b2, b3, b4, b5, b6⟩ := k_lbegin (d := d) (sg := sg) (by omega) ho S1
  have F1 : Fr (LWY o) s s1 := a5.mono (fun k j h => by unfold NDF at h; unfold LWY; omega)
  have F2 : Fr (LWY o) s s2 := F1.tr (b6.mono (fun k j h => by unfold BGF at h; unfold LWY; omega))
  have e0 : Zc (d + 1) 102 [aR 137, aR (58 + o)] s = Ze d 102 15 [aR 137, aR (58 + o), aI ((0 : Nat) : Int)] [] s2 := by
    have z0 : ((0 : Nat) : Int) = 0 := rfl
    simp (disch := first | exact obC_124 | exact obC_137 | exact (obCO_58 ho) | exact (obCO_66 ho) | omega | (simp only [aN1_125, aN1_127, aN1_128, (aN1O_77 ho)]; omega) | (simp only [List.length_cons, List.length_nil]; omega)) only [en102, x102_0, x102_1, x102_2, x102_5, x102_8, x102_9, x102_10, x102_13, x102_14, x102_16, x102_17, x102_20, x102_23, x102_26, x102_27, x102_30, x102_33, x102_34, x102_35, x102_84, x102_85, x102_86, x102_87, x102_90, x102_93, x102_94, x102_97, x102_98, x102_101, x102_104, x102_105, x102_106, x102_107, x102_110, x102_113, x102_114, x102_115, x102_116, x102_119, x102_120, x102_121, x102_124, x102_127, x102_128, x102_129, x102_132, x102_135, x102_136, x102_139, x102_142, x102_143, x102_144, x102_147, x102_150, x102_153, x102_156, x102_157, x102_158, x102_161, fcn_124_0, fcn_124_2, fcn_124_3, fcn_137_0, (fcnO_58_1 ho), (fcnO_58_7 ho), if_true, if_false, eq_self, Int.reduceEq, Int.reduceLT, Int.reduceLE, Int.reduceAdd, Int.reduceSub, Int.reduceMul, Int.reduceToNat, Nat.reduceAdd, Nat.reduceMul, Nat.reduceEqDiff, Int.toNat_natCast, wrap_id, a1, b1, zcV_r, z0]
  have NS2 : NS s2 o N := NS_put ho hN ⟨a2, a3, a4⟩ (fun k j hk => b6 _ _ (by unfold BGF; omega)) (fun j _ => b6 _ _ (by unfold BGF; omega))
  have hG : LGS s2 o N sg.length 0 0 (now0 sg) (fun _ => []) [] := by
    refine ⟨b3, by decide, rfl, b5, by decide, ⟨0, b4, by decide⟩, fun i hi => by omega, NS2, fun g hg => ⟨rfl, ⟨?_, trivial, trivial⟩, trivial⟩⟩
    rw [b2 g hg]
    unfold now0 st0
    have cn : CN1 s2 o N sg.length 0 .null ((24 : Nat) : Int) := ⟨24, rfl, rfl, NS2.2.2⟩
    cases hx : sg[g]? with
    | none => exact cn
    | some x =>
      dsimp only
      by_cases h3 : x.1 = 3
      · rw [if_pos h3, if_pos h3]
        exact ⟨g, rfl, CD_src (Or.inl ⟨g, rfl, (List.getElem?_eq_some_iff.mp hx).1, rfl⟩), NS2.2.1 g hg⟩
      · rw [if_neg h3, if_neg h3]
        exact cn
  have X2 : ∀ j x, xs[j]? = some x → XS s2 o N sg j x := fun j x hj => by
    have := XS_put (s' := s2) (N' := N) (sg2 := []) (hX j x hj) (Nat.le_refl _) (fun q h1 h2 => F2 _ _ (by unfold LWY; omega)) (fun q i hq _ _ => F2 _ _ (by unfold LWY; omega)) (fun i _ => F2 _ _ (by unfold LWY; omega)) (fun i => F2 _ _ (by unfold LWY; omega))
    rwa [List.append_nil] at this
  obtain ⟨s3, K, c1, c2, c3, c4, c5, c6, c7⟩ := low_loop (d := d) (T := 200) (by omega) ho hN hL hxs (Nat.le_refl _) xs.length 0 0 0 0 0 0 s2 (now0 sg) (fun _ => []) [] [] (Nat.zero_add _) (by rw [F2 _ _ (by unfold LWY; omega), hu]) X2 hG (fun _ _ => rfl) (by rw [List.drop_zero, ← hlo]; exact hw) (by omega) (by simp) (by omega) (by rw [List.drop_zero]; omega) (fun j x y hj => by omega)
  rw [List.drop_zero, ← hlo] at c5
  have F3 : Fr (LWY o) s s3 := F2.tr (c7.mono (fun k j h => by unfold LWX LWF at h; unfold LWY; omega))
  obtain ⟨d, rfl⟩ : ∃ e, d = e + 1 := ⟨d - 1, by omega⟩
  obtain ⟨s4, g1, g2, g3⟩ := fin_loop (d := d) (lo := lo) (by omega) ho hN c3 sg.length 0 s3 (Nat.zero_add _) (SGA_put hS (F3 _ _ (by unfold LWY; omega)) (fun j => ⟨F3 _ _ (by unfold LWY; omega), F3 _ _ (by unfold LWY; omega)⟩)) c5 (fun g x hx h4 => by
    obtain ⟨l, hl⟩ := hnd g x hx h4
    obtain ⟨j, hj⟩ := List.getElem?_of_mem hl
    exact c6 j _ x (List.getElem?_eq_some_iff.mp hj).1 hj rfl hx) (fun g x hg => by omega)
  have e3 : Zc (d + 1) 109 [aR 137, aR (58 + o)] s3 = Ze d 109 2 [aR 137, aR (58 + o), aI ((0 : Nat) : Int)] [] s3 := by
    have z0 : ((0 : Nat) : Int) = 0 := rfl
    simp (disch := first | exact obC_137 | exact (obCO_58 ho) | exact (obCO_59 ho) | omega | (simp only [aN1_138, aN1_139, (aN1O_77 ho), (aN1O_78 ho), (aN2O_64 ho)]; omega) | (simp only [List.length_cons, List.length_nil]; omega)) only [en109, x109_0, x109_1, x109_3, x109_4, x109_7, x109_10, x109_13, x109_14, x109_17, x109_20, x109_21, x109_22, x109_25, x109_26, x109_29, x109_30, x109_31, x109_34, x109_35, x109_36, x109_37, x109_38, x109_41, x109_42, x109_43, x109_46, x109_47, x109_50, x109_53, x109_54, x109_57, x109_58, x109_61, x109_62, x109_65, x109_66, x109_67, x109_68, x109_69, x109_72, x109_75, fcn_137_2, fcn_137_3, (fcnO_58_0 ho), (fcnO_58_7 ho), (fcnO_58_8 ho), (fcnO_59_4 ho), if_true, if_false, eq_self, Int.reduceEq, Int.reduceLT, Int.reduceLE, Int.reduceAdd, Int.reduceSub, Int.reduceMul, Int.reduceToNat, Nat.reduceAdd, Nat.reduceMul, Nat.reduceEqDiff, Int.toNat_natCast, wrap_id, z0]
  refine ⟨s4, K, ?_, by rw [g3 _ _ (by unfold FNF; omega), c2], c3, g2, F3.tr (g3.mono (fun k j h => by unfold FNF at h; unfold LWY; omega))⟩
  rw [e0, c1]
  exact lw_end ho (by rw [F3 _ _ (by unfold LWY; omega), hu]) (by rw [e3, g1])
