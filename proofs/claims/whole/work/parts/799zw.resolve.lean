/-! THE CLASS: the widths are found -/
theorem wd_node {d o k K g v : Nat} {c r : Int} {s s' : Mem} (ho : o = 0 ∨ o = 26) (hK : s 124 4 = K) (hk : k < K) (hK2 : K ≤ 200) (hkd : s 125 k = 78) (hl : s 127 k = g) (hr : s 128 k = v) (e : Zc d 152 [aR (58 + o), aI g, aI v] s = rI r s') : Ze d 150 4 [aR 136, aR (58 + o), aI c, aI k] [] s = Ze d 150 4 [aR 136, aR (58 + o), aI (ior c r), aI ((k + 1 : Nat) : Int)] [] s' := by
  rw [x150_4, show ((k + 1 : Nat) : Int) = (k : Int) + 1 from rfl]
  simp (disch := first | exact obC_124 | exact obC_136 | omega | (simp only [aN1_125, aN1_127, aN1_128]; omega) | (simp only [List.length_cons, List.length_nil]; omega)) only [en150, x150_0, x150_1, x150_2, x150_3, x150_5, x150_6, x150_9, x150_12, x150_15, x150_16, x150_19, x150_22, x150_23, x150_24, x150_26, x150_29, x150_30, x150_31, x150_32, x150_35, x150_38, x150_39, x150_40, x150_41, x150_44, x150_47, x150_48, x150_49, x150_52, x150_53, x150_54, x150_57, x150_58, x150_61, x150_64, x150_65, x150_66, x150_67, x150_70, x150_71, x150_72, x150_73, x150_74, x150_77, x150_78, x150_79, x150_82, x150_85, x150_86, fcn_124_0, fcn_124_2, fcn_124_3, fcn_136_0, if_true, if_false, eq_self, Int.reduceEq, Int.reduceLT, Int.reduceLE, Int.reduceAdd, Int.reduceSub, Int.reduceMul, Int.reduceToNat, Nat.reduceAdd, Nat.reduceMul, Nat.reduceEqDiff, Int.toNat_natCast, wrap_id, hK, if_pos (show (k : Int) < K by omega), hkd, hl, hr, e, zcI_r]
theorem wd_conn {d o k K : Nat} {c r : Int} {s s' : Mem} (ho : o = 0 ∨ o = 26) (hK : s 124 4 = K) (hk : k < K) (hK2 : K ≤ 200) (hkd : s 125 k = 3) (e : Zc d 151 [aR 136, aR (58 + o), aI k] s = rI r s') : Ze d 150 4 [aR 136, aR (58 + o), aI c, aI k] [] s = Ze d 150 4 [aR 136, aR (58 + o), aI (ior c r), aI ((k + 1 : Nat) : Int)] [] s' := by
  rw [x150_4, show ((k + 1 : Nat) : Int) = (k : Int) + 1 from rfl]
  simp (disch := first | exact obC_124 | exact obC_136 | omega | (simp only [aN1_125, aN1_127, aN1_128]; omega) | (simp only [List.length_cons, List.length_nil]; omega)) only [en150, x150_0, x150_1, x150_2, x150_3, x150_5, x150_6, x150_9, x150_12, x150_15, x150_16, x150_19, x150_22, x150_23, x150_24, x150_26, x150_29, x150_30, x150_31, x150_32, x150_35, x150_38, x150_39, x150_40, x150_41, x150_44, x150_47, x150_48, x150_49, x150_52, x150_53, x150_54, x150_57, x150_58, x150_61, x150_64, x150_65, x150_66, x150_67, x150_70, x150_71, x150_72, x150_73, x150_74, x150_77, x150_78, x150_79, x150_82, x150_85, x150_86, fcn_124_0, fcn_124_2, fcn_124_3, fcn_136_0, if_true, if_false, eq_self, Int.reduceEq, Int.reduceLT, Int.reduceLE, Int.reduceAdd, Int.reduceSub, Int.reduceMul, Int.reduceToNat, Nat.reduceAdd, Nat.reduceMul, Nat.reduceEqDiff, Int.toNat_natCast, wrap_id, hK, if_pos (show (k : Int) < K by omega), hkd, e, zcI_r]
theorem wd_skip {d o k K : Nat} {c v : Int} {s : Mem} (ho : o = 0 ∨ o = 26) (hK : s 124 4 = K) (hk : k < K) (hK2 : K ≤ 200) (hkd : s 125 k = v) (h1 : ¬ v = 78) (h2 : ¬ v = 3) : Ze d 150 4 [aR 136, aR (58 + o), aI c, aI k] [] s = Ze d 150 4 [aR 136, aR (58 + o), aI c, aI ((k + 1 : Nat) : Int)] [] s := by
  rw [x150_4, show ((k + 1 : Nat) : Int) = (k : Int) + 1 from rfl]
  simp (disch := first | exact obC_124 | exact obC_136 | omega | (simp only [aN1_125, aN1_127, aN1_128]; omega) | (simp only [List.length_cons, List.length_nil]; omega)) only [en150, x150_0, x150_1, x150_2, x150_3, x150_5, x150_6, x150_9, x150_12, x150_15, x150_16, x150_19, x150_22, x150_23, x150_24, x150_26, x150_29, x150_30, x150_31, x150_32, x150_35, x150_38, x150_39, x150_40, x150_41, x150_44, x150_47, x150_48, x150_49, x150_52, x150_53, x150_54, x150_57, x150_58, x150_61, x150_64, x150_65, x150_66, x150_67, x150_70, x150_71, x150_72, x150_73, x150_74, x150_77, x150_78, x150_79, x150_82, x150_85, x150_86, fcn_124_0, fcn_124_2, fcn_124_3, fcn_136_0, if_true, if_false, eq_self, Int.reduceEq, Int.reduceLT, Int.reduceLE, Int.reduceAdd, Int.reduceSub, Int.reduceMul, Int.reduceToNat, Nat.reduceAdd, Nat.reduceMul, Nat.reduceEqDiff, Int.toNat_natCast, wrap_id, hK, if_pos (show (k : Int) < K by omega), hkd, if_neg h1, if_neg h2]
theorem wd_end {d o K : Nat} {c : Int} {s : Mem} (hK : s 124 4 = K) (hc : c = 0 ∨ c = 1) : Ze d 150 4 [aR 136, aR (58 + o), aI c, aI K] [] s = rI c s := by
  rw [x150_4]
  simp (disch := first | exact obC_124 | exact obC_136 | omega | (simp only [aN1_125, aN1_127, aN1_128]; omega) | (simp only [List.length_cons, List.length_nil]; omega)) only [en150, x150_0, x150_1, x150_2, x150_3, x150_5, x150_6, x150_9, x150_12, x150_15, x150_16, x150_19, x150_22, x150_23, x150_24, x150_26, x150_29, x150_30, x150_31, x150_32, x150_35, x150_38, x150_39, x150_40, x150_41, x150_44, x150_47, x150_48, x150_49, x150_52, x150_53, x150_54, x150_57, x150_58, x150_61, x150_64, x150_65, x150_66, x150_67, x150_70, x150_71, x150_72, x150_73, x150_74, x150_77, x150_78, x150_79, x150_82, x150_85, x150_86, fcn_124_0, fcn_124_2, fcn_124_3, fcn_136_0, if_true, if_false, eq_self, Int.reduceEq, Int.reduceLT, Int.reduceLE, Int.reduceAdd, Int.reduceSub, Int.reduceMul, Int.reduceToNat, Nat.reduceAdd, Nat.reduceMul, Nat.reduceEqDiff, Int.toNat_natCast, wrap_id, hK, if_neg (show ¬ (K : Int) < K by omega)]
/-- what a step asks of the widths -/
def OBX (sg : List Sg) (Wp W : Nat → Nat) (x : Nat × Nat × List Lo) : Prop := (∀ y, y ∈ x.2.2 → y.1 = 0 → OBL sg Wp W y) ∧ (x.1 = 5 → ∀ e, (∃ y, sg[x.2.1]? = some y ∧ y.2.2.2.2 = e) → (∀ g', e = .index g' → Wp g' ≤ W g') → wE Wp e ≤ W x.2.1)
theorem OBX_eq {sg : List Sg} {Wp W W1 : Nat → Nat} {x : Nat × Nat × List Lo} (h : ∀ g, W1 g = W g) (o : OBX sg Wp W1 x) : OBX sg Wp W x := by
  have : W1 = W := funext h
  rw [← this]
  exact o
theorem ior_0 {c : Int} (h : c = 0 ∨ c = 1) : ior c 0 = c := by
  rw [ior01 h (Or.inl rfl)]
  rcases h with rfl | rfl <;> rfl
theorem ior_01' {a b : Int} (ha : a = 0 ∨ a = 1) (hb : b = 0 ∨ b = 1) : (ior a b = 0 ∨ ior a b = 1) ∧ (ior a b = 0 → a = 0 ∧ b = 0) := by
  rw [ior01 ha hb]
  rcases ha with rfl | rfl <;> rcases hb with rfl | rfl <;> decide
theorem ior_as {a b c : Int} (ha : a = 0 ∨ a = 1) (hb : b = 0 ∨ b = 1) (hc : c = 0 ∨ c = 1) : ior (ior a b) c = ior a (ior b c) := by
  rw [ior01 (ior_01' ha hb).1 hc, ior01 ha (ior_01' hb hc).1, ior01 ha hb, ior01 hb hc]
  rcases ha with rfl | rfl <;> rcases hb with rfl | rfl <;> rcases hc with rfl | rfl <;> decide
theorem wd_loop {d o N : Nat} {sg : List Sg} {lo : List Lo} {cv : List (Option Jvm.Term)} {xs : List (Nat × Nat × List Lo)} {Wp : Nat → Nat} (hd : 3 ≤ d) (hK : SK sg) (hlo : lo = xs.flatMap (fun x => x.2.2)) (hix : ∀ x, x ∈ lo → ixb sg.length x.2.2) (hixs : ∀ (i : Nat) (x : Sg), sg[i]? = some x → ixb sg.length x.2.2.2.2) : ∀ (m k : Nat) (c : Int) (s : Mem) (W : Nat → Nat), k + m = xs.length → ZS s o N sg cv xs → SWc s o sg.length W → WAc s o Wp N → (c = 0 ∨ c = 1) →
    ∃ (s' : Mem) (W' : Nat → Nat) (c' : Int), Ze d 150 4 [aR 136, aR (58 + o), aI c, aI k] [] s = rI (ior c c') s' ∧ SWc s' o sg.length W' ∧ REL sg lo Wp W W' c' ∧ (c' = 0 → ∀ j x, k ≤ j → xs[j]? = some x → OBX sg Wp W x) ∧ Fr (fun q _ => q = 62 + o) s s' := by
  intro m
  induction m with
  | zero =>
    intro k c s W hk hZ hS hW hc
    have : k = xs.length := by omega
    subst this
    refine ⟨s, W, 0, ?_, hS, REL_rf, fun _ j x hj hx => ?_, Fr.rf s⟩
    · rw [wd_end hZ.1 hc, ior_0 hc]
    · have := (List.getElem?_eq_some_iff.mp hx).1
      omega
  | succ m ih =>
    intro k c s W hk hZ hS hW hc
    have hkl : k < xs.length := by omega
    obtain ⟨x, hx⟩ : ∃ x, xs[k]? = some x := ⟨xs[k], List.getElem?_eq_getElem hkl⟩
    obtain ⟨h1, h2, h3, ⟨h4, h4'⟩, h5, h6, ho, h7, h8, h9⟩ := hZ
    have hZ : ZS s o N sg cv xs := ⟨h1, h2, h3, ⟨h4, h4'⟩, h5, h6, ho, h7, h8, h9⟩
    have hk200 : k < 200 := by omega
    have go : ∀ (Z : Option Res) (O : Prop), WO1 o N sg lo Wp W s Z O → (∀ r s1, Z = rI r s1 → Ze d 150 4 [aR 136, aR (58 + o), aI c, aI k] [] s = Ze d 150 4 [aR 136, aR (58 + o), aI (ior c r), aI ((k + 1 : Nat) : Int)] [] s1) → (O → OBX sg Wp W x) →
        ∃ (s' : Mem) (W' : Nat → Nat) (c' : Int), Ze d 150 4 [aR 136, aR (58 + o), aI c, aI k] [] s = rI (ior c c') s' ∧ SWc s' o sg.length W' ∧ REL sg lo Wp W W' c' ∧ (c' = 0 → ∀ j x, k ≤ j → xs[j]? = some x → OBX sg Wp W x) ∧ Fr (fun q _ => q = 62 + o) s s' := by
      rintro Z O ⟨s1, W1, r, r1, r2, r3, r4, r5⟩ hz hO
      have r01 := REL_01 r3
      have hior := ior_01' hc r01
      obtain ⟨s2, W2, c2, e1, e2, e3, e4, e5⟩ := ih (k + 1) (ior c r) s1 W1 (by omega) (ZS_put hZ (r5.mono (fun _ _ h => Or.inl h))) r2 (WAc_w hW (fun k j hk => r5 _ _ hk)) hior.1
      have c01 := REL_01 e3
      refine ⟨s2, W2, ior r c2, ?_, e2, REL_tr r3 e3, fun hz' j y hj hy => ?_, r5.tr e5⟩
      · rw [hz r s1 r1, e1, ior_as hc r01 c01]
      · obtain ⟨hr0, hc0⟩ := (ior_01' r01 c01).2 hz'
        have hWW : ∀ g, W1 g = W g := by
          rcases r3.2.1 with ⟨-, h⟩ | ⟨h, -⟩
          · exact h
          · omega
        by_cases hji : j = k
        · subst hji
          rw [hx] at hy
          injection hy with hy
          subst hy
          exact hO (r4 hr0)
        · exact OBX_eq hWW (e4 hc0 j y (by omega) hy)
    have hskip : ∀ v : Int, s 125 k = v → ¬ v = 78 → ¬ v = 3 → OBX sg Wp W x → _ := fun v hv h1' h2' hob => go (rI 0 s) True ⟨s, W, 0, rfl, hS, REL_rf, fun _ => trivial, Fr.rf s⟩ (fun r s1 e => by
      injection e with e
      injection e with e0 e
      injection e with e e2
      injection e with e3 e4
      subst e4 e2
      rw [ior_0 hc]
      exact wd_skip ho h1 hkl h2 hv h1' h2') (fun _ => hob)
    rcases h7 k x hx with ⟨i1, i2, i3⟩ | ⟨i1, i2, e', m', i3, i4, i5, i6, i7⟩ | ⟨i1, i2, i3⟩ | ⟨i1, i2, i3⟩ | ⟨i1, ⟨kd, i2, i2'⟩, i3⟩ | ⟨i1, i2, i3, i4, e', m', nm, i5, i6, i7, i8, i9⟩
    · have hsub : ∀ y, y ∈ x.2.2 → y ∈ lo := fun y hy => by
        rw [hlo]
        exact List.mem_flatMap.mpr ⟨x, List.mem_of_getElem? hx, hy⟩
      have hl : x.2.2.length ≤ 24 := by
        obtain ⟨a, b, to, q, fl, -, -, -, -, -, -, -, -, -, p10, -⟩ := i3
        omega
      exact go _ _ (k_widenSinks (d := d) hd hK hk200 hsub hix hl hZ i3 hS hW) (fun r s1 e => wd_conn ho h1 hkl h2 i2 e) (fun hO => ⟨fun y hy _ => hO y hy, fun z => by omega⟩)
    · exact hskip 63 i2 (by decide) (by decide) ⟨fun y hy hy0 => by rw [i3] at hy; simp at hy; rw [hy] at hy0; exact (nomatch hy0), fun z => by omega⟩
    · exact hskip 58 i2 (by decide) (by decide) ⟨fun y hy hy0 => by rw [i3] at hy; simp at hy; rw [hy] at hy0; exact (nomatch hy0), fun z => by omega⟩
    · exact hskip 125 i2 (by decide) (by decide) ⟨fun y hy hy0 => by rw [i3] at hy; simp at hy; rw [hy] at hy0; exact (nomatch hy0), fun z => by omega⟩
    · refine hskip _ i2' ?_ ?_ ⟨fun y hy _ => by rw [i3] at hy; simp at hy, fun z => by omega⟩
      · rcases (by omega : kd = 0 ∨ kd = 1 ∨ kd = 2 ∨ kd = 3) with rfl | rfl | rfl | rfl <;> decide
      · rcases (by omega : kd = 0 ∨ kd = 1 ∨ kd = 2 ∨ kd = 3) with rfl | rfl | rfl | rfl <;> decide
    · have hg : x.2.1 < sg.length := (List.getElem?_eq_some_iff.mp i5).1
      have hne : e' ≠ .null := (hK _ _ i5).1.mp rfl
      have hV : ∀ V, W0le sg V → Cl sg lo V → wE V e' ≤ V x.2.1 := fun V _ hc' => hc'.1 _ _ i5 hne
      refine go _ _ (k_raise (d := d) (lo := lo) (by omega) hZ hS hW hg (Or.inr ⟨m', i6, rfl, i8, i9⟩) (hixs _ _ i5) hV) (fun r s1 e => wd_node ho h1 hkl h2 i2 i4 i7 e) (fun hO => ⟨fun y hy _ => by rw [i3] at hy; simp at hy, fun _ e he hz => ?_⟩)
      obtain ⟨y, y1, y2⟩ := he
      rw [i5] at y1
      injection y1 with y1
      subst y1
      have : e = e' := y2.symm
      subst this
      exact hO hz
theorem k_widen {d o N : Nat} {sg : List Sg} {lo : List Lo} {cv : List (Option Jvm.Term)} {xs : List (Nat × Nat × List Lo)} {W : Nat → Nat} {s : Mem} (hd : 4 ≤ d) (hK : SK sg) (hlo : lo = xs.flatMap (fun x => x.2.2)) (hix : ∀ x, x ∈ lo → ixb sg.length x.2.2) (hixs : ∀ (i : Nat) (x : Sg), sg[i]? = some x → ixb sg.length x.2.2.2.2) (hnd : ∀ (i : Nat) (x : Sg), sg[i]? = some x → x.2.2.2.2 ≠ .null → ∃ l, (5, i, l) ∈ xs) (hZ : ZS s o N sg cv xs) (hS : SWc s o sg.length W) (hW : WAc s o W N) :
    WO1 o N sg lo W W s (Zc d 150 [aR 136, aR (58 + o)] s) (Cl sg lo W) := by
  obtain ⟨d, rfl⟩ : ∃ e, d = e + 1 := ⟨d - 1, by omega⟩
  obtain ⟨s', W', c, e1, e2, e3, e4, e5⟩ := wd_loop (d := d) (by omega) hK hlo hix hixs xs.length 0 0 s W (Nat.zero_add _) hZ hS hW (Or.inl rfl)
  have c01 := REL_01 e3
  have hior : ior 0 c = c := by
    rw [ior01 (Or.inl rfl) c01]
    rcases c01 with rfl | rfl <;> rfl
  rw [hior] at e1
  have ho := hZ.2.2.2.2.2.2.1
  refine ⟨s', W', c, ?_, e2, e3, fun hz => ⟨fun i x hx hne => ?_, fun k x hx h0 hf => ?_⟩, e5⟩
  · rw [← e1]
    have z0 : ((0 : Nat) : Int) = 0 := rfl
    simp (disch := first | exact obC_124 | exact obC_136 | omega | (simp only [aN1_125, aN1_127, aN1_128]; omega) | (simp only [List.length_cons, List.length_nil]; omega)) only [en150, x150_0, x150_1, x150_2, x150_3, x150_5, x150_6, x150_9, x150_12, x150_15, x150_16, x150_19, x150_22, x150_23, x150_24, x150_26, x150_29, x150_30, x150_31, x150_32, x150_35, x150_38, x150_39, x150_40, x150_41, x150_44, x150_47, x150_48, x150_49, x150_52, x150_53, x150_54, x150_57, x150_58, x150_61, x150_64, x150_65, x150_66, x150_67, x150_70, x150_71, x150_72, x150_73, x150_74, x150_77, x150_78, x150_79, x150_82, x150_85, x150_86, fcn_124_0, fcn_124_2, fcn_124_3, fcn_136_0, if_true, if_false, eq_self, Int.reduceEq, Int.reduceLT, Int.reduceLE, Int.reduceAdd, Int.reduceSub, Int.reduceMul, Int.reduceToNat, Nat.reduceAdd, Nat.reduceMul, Nat.reduceEqDiff, Int.toNat_natCast, wrap_id, z0]
  · obtain ⟨l, hl⟩ := hnd i x hx hne
    obtain ⟨j, hj⟩ := List.getElem?_of_mem hl
    exact (e4 hz j _ (Nat.zero_le _) hj).2 rfl _ ⟨x, hx, rfl⟩ (fun _ _ => Nat.le_refl _)
  · have hm : x ∈ lo := List.mem_of_getElem? hx
    rw [hlo] at hm
    obtain ⟨y, hy, hxy⟩ := List.mem_flatMap.mp hm
    obtain ⟨j, hj⟩ := List.getElem?_of_mem hy
    exact (e4 hz j _ (Nat.zero_le _) hj).1 x hxy h0 hf (fun _ _ => Nat.le_refl _)
theorem rs_more {d o i : Nat} {s s1 s2 : Mem} {r : Int} (ho : o = 0 ∨ o = 26) (hi : i < 385) (e1 : Zc d 117 [aR (66 + o), aR (62 + o)] s = rI 1 s1) (e2 : Zc d 150 [aR 136, aR (58 + o)] s1 = rI r s2) : Ze d 149 13 [aR 136, aR (58 + o), aR (62 + o), aI 1, aI i] [] s = Ze d 149 13 [aR 136, aR (58 + o), aR (62 + o), aI r, aI ((i + 1 : Nat) : Int)] [] s2 := by
  rw [x149_13, show ((i + 1 : Nat) : Int) = (i : Int) + 1 from rfl]
  simp (disch := first | exact obC_136 | exact (obCO_58 ho) | exact (obCO_59 ho) | exact (obCO_66 ho) | omega | (simp only [(aN1O_62 ho)]; omega) | (simp only [List.length_cons, List.length_nil]; omega)) only [en149, x149_0, x149_1, x149_4, x149_7, x149_8, x149_9, x149_10, x149_11, x149_15, x149_18, x149_21, x149_22, x149_25, x149_26, x149_29, x149_30, x149_33, x149_36, x149_37, x149_38, x149_39, x149_40, x149_43, x149_44, x149_47, x149_50, x149_51, x149_55, x149_56, x149_59, x149_62, x149_65, x149_66, x149_68, x149_69, x149_72, x149_73, x149_74, x149_77, x149_80, x149_81, (fcnO_58_0 ho), (fcnO_58_1 ho), (fcnO_59_2 ho), if_true, if_false, eq_self, Int.reduceEq, Int.reduceLT, Int.reduceLE, Int.reduceAdd, Int.reduceSub, Int.reduceMul, Int.reduceToNat, Nat.reduceAdd, Nat.reduceMul, Nat.reduceEqDiff, Int.toNat_natCast, wrap_id, if_pos (show (i : Int) < 385 by omega), if_neg (show ¬ (1 : Int) = 0 by decide), e1, e2, zcI_r]
theorem rs_fail {d o i : Nat} {s s1 : Mem} (ho : o = 0 ∨ o = 26) (hi : i < 385) (e1 : Zc d 117 [aR (66 + o), aR (62 + o)] s = rI 0 s1) : Ze d 149 13 [aR 136, aR (58 + o), aR (62 + o), aI 1, aI i] [] s = rI 0 s1 := by
  rw [x149_13]
  simp (disch := first | exact obC_136 | exact (obCO_58 ho) | exact (obCO_59 ho) | exact (obCO_66 ho) | omega | (simp only [(aN1O_62 ho)]; omega) | (simp only [List.length_cons, List.length_nil]; omega)) only [en149, x149_0, x149_1, x149_4, x149_7, x149_8, x149_9, x149_10, x149_11, x149_15, x149_18, x149_21, x149_22, x149_25, x149_26, x149_29, x149_30, x149_33, x149_36, x149_37, x149_38, x149_39, x149_40, x149_43, x149_44, x149_47, x149_50, x149_51, x149_55, x149_56, x149_59, x149_62, x149_65, x149_66, x149_68, x149_69, x149_72, x149_73, x149_74, x149_77, x149_80, x149_81, (fcnO_58_0 ho), (fcnO_58_1 ho), (fcnO_59_2 ho), if_true, if_false, eq_self, Int.reduceEq, Int.reduceLT, Int.reduceLE, Int.reduceAdd, Int.reduceSub, Int.reduceMul, Int.reduceToNat, Nat.reduceAdd, Nat.reduceMul, Nat.reduceEqDiff, Int.toNat_natCast, wrap_id, if_pos (show (i : Int) < 385 by omega), if_neg (show ¬ (1 : Int) = 0 by decide), e1, zcI_r]
theorem rs_done {d o i : Nat} {s : Mem} (ho : o = 0 ∨ o = 26) : Ze d 149 13 [aR 136, aR (58 + o), aR (62 + o), aI 0, aI i] [] s = Ze d 149 53 [aR 136, aR (58 + o), aR (62 + o), aI 0, aI ((0 : Nat) : Int)] [] s := by
  rw [x149_13]
  have z0 : ((0 : Nat) : Int) = 0 := rfl
  by_cases hi : (i : Int) < 385
  · simp (disch := first | exact obC_136 | exact (obCO_58 ho) | exact (obCO_59 ho) | exact (obCO_66 ho) | omega | (simp only [(aN1O_62 ho)]; omega) | (simp only [List.length_cons, List.length_nil]; omega)) only [en149, x149_0, x149_1, x149_4, x149_7, x149_8, x149_9, x149_10, x149_11, x149_15, x149_18, x149_21, x149_22, x149_25, x149_26, x149_29, x149_30, x149_33, x149_36, x149_37, x149_38, x149_39, x149_40, x149_43, x149_44, x149_47, x149_50, x149_51, x149_55, x149_56, x149_59, x149_62, x149_65, x149_66, x149_68, x149_69, x149_72, x149_73, x149_74, x149_77, x149_80, x149_81, (fcnO_58_0 ho), (fcnO_58_1 ho), (fcnO_59_2 ho), if_true, if_false, eq_self, Int.reduceEq, Int.reduceLT, Int.reduceLE, Int.reduceAdd, Int.reduceSub, Int.reduceMul, Int.reduceToNat, Nat.reduceAdd, Nat.reduceMul, Nat.reduceEqDiff, Int.toNat_natCast, wrap_id, if_pos hi, z0]
  · simp (disch := first | exact obC_136 | exact (obCO_58 ho) | exact (obCO_59 ho) | exact (obCO_66 ho) | omega | (simp only [(aN1O_62 ho)]; omega) | (simp only [List.length_cons, List.length_nil]; omega)) only [en149, x149_0, x149_1, x149_4, x149_7, x149_8, x149_9, x149_10, x149_11, x149_15, x149_18, x149_21, x149_22, x149_25, x149_26, x149_29, x149_30, x149_33, x149_36, x149_37, x149_38, x149_39, x149_40, x149_43, x149_44, x149_47, x149_50, x149_51, x149_55, x149_56, x149_59, x149_62, x149_65, x149_66, x149_68, x149_69, x149_72, x149_73, x149_74, x149_77, x149_80, x149_81, (fcnO_58_0 ho), (fcnO_58_1 ho), (fcnO_59_2 ho), if_true, if_false, eq_self, Int.reduceEq, Int.reduceLT, Int.reduceLE, Int.reduceAdd, Int.reduceSub, Int.reduceMul, Int.reduceToNat, Nat.reduceAdd, Nat.reduceMul, Nat.reduceEqDiff, Int.toNat_natCast, wrap_id, if_neg hi, z0]
theorem rk_loop {d o L : Nat} {W : Nat → Nat} {s : Mem} (ho : o = 0 ∨ o = 26) (hL : L ≤ 24) (hu : s (59 + o) 6 = L) (hS : SWc s o L W) : ∀ m k : Nat, k + m = L → Ze d 149 53 [aR 136, aR (58 + o), aR (62 + o), aI 0, aI k] [] s = rI (@ite _ (∀ g, k ≤ g → g < L → W g ≠ 0) (Classical.propDecidable _) 1 0) s := by
  intro m
  induction m with
  | zero =>
    intro k hk
    have : k = L := by omega
    subst this
    rw [if_pos (fun g h1 h2 => by omega), x149_53]
    simp (disch := first | exact obC_136 | exact (obCO_58 ho) | exact (obCO_59 ho) | exact (obCO_66 ho) | omega | (simp only [(aN1O_62 ho)]; omega) | (simp only [List.length_cons, List.length_nil]; omega)) only [en149, x149_0, x149_1, x149_4, x149_7, x149_8, x149_9, x149_10, x149_11, x149_15, x149_18, x149_21, x149_22, x149_25, x149_26, x149_29, x149_30, x149_33, x149_36, x149_37, x149_38, x149_39, x149_40, x149_43, x149_44, x149_47, x149_50, x149_51, x149_55, x149_56, x149_59, x149_62, x149_65, x149_66, x149_68, x149_69, x149_72, x149_73, x149_74, x149_77, x149_80, x149_81, (fcnO_58_0 ho), (fcnO_58_1 ho), (fcnO_59_2 ho), if_true, if_false, eq_self, Int.reduceEq, Int.reduceLT, Int.reduceLE, Int.reduceAdd, Int.reduceSub, Int.reduceMul, Int.reduceToNat, Nat.reduceAdd, Nat.reduceMul, Nat.reduceEqDiff, Int.toNat_natCast, wrap_id, hu, if_neg (show ¬ (k : Int) < k by omega)]
  | succ m ih =>
    intro k hk
    have hw := (hS k (by omega)).1
    have hk24 : (k : Int) < aN1 (62 + o) := by rw [aN1O_62 ho]; omega
    rw [x149_53]
    by_cases hz : W k = 0
    · rw [if_neg (fun z => z k (Nat.le_refl _) (by omega) hz)]
      simp (disch := first | exact obC_136 | exact (obCO_58 ho) | exact (obCO_59 ho) | exact (obCO_66 ho) | omega | (simp only [(aN1O_62 ho)]; omega) | (simp only [List.length_cons, List.length_nil]; omega)) only [en149, x149_0, x149_1, x149_4, x149_7, x149_8, x149_9, x149_10, x149_11, x149_15, x149_18, x149_21, x149_22, x149_25, x149_26, x149_29, x149_30, x149_33, x149_36, x149_37, x149_38, x149_39, x149_40, x149_43, x149_44, x149_47, x149_50, x149_51, x149_55, x149_56, x149_59, x149_62, x149_65, x149_66, x149_68, x149_69, x149_72, x149_73, x149_74, x149_77, x149_80, x149_81, (fcnO_58_0 ho), (fcnO_58_1 ho), (fcnO_59_2 ho), if_true, if_false, eq_self, Int.reduceEq, Int.reduceLT, Int.reduceLE, Int.reduceAdd, Int.reduceSub, Int.reduceMul, Int.reduceToNat, Nat.reduceAdd, Nat.reduceMul, Nat.reduceEqDiff, Int.toNat_natCast, wrap_id, hu, if_pos (show (k : Int) < L by omega), hw, if_pos (show ((W k : Nat) : Int) = 0 by omega)]
    · have e0 : Ze d 149 55 [aR 136, aR (58 + o), aR (62 + o), aI 0, aI k] [aI k] s = Ze d 149 53 [aR 136, aR (58 + o), aR (62 + o), aI 0, aI ((k + 1 : Nat) : Int)] [] s := by
        rw [show ((k + 1 : Nat) : Int) = (k : Int) + 1 from rfl]
        simp (disch := first | exact obC_136 | exact (obCO_58 ho) | exact (obCO_59 ho) | exact (obCO_66 ho) | omega | (simp only [(aN1O_62 ho)]; omega) | (simp only [List.length_cons, List.length_nil]; omega)) only [en149, x149_0, x149_1, x149_4, x149_7, x149_8, x149_9, x149_10, x149_11, x149_15, x149_18, x149_21, x149_22, x149_25, x149_26, x149_29, x149_30, x149_33, x149_36, x149_37, x149_38, x149_39, x149_40, x149_43, x149_44, x149_47, x149_50, x149_51, x149_55, x149_56, x149_59, x149_62, x149_65, x149_66, x149_68, x149_69, x149_72, x149_73, x149_74, x149_77, x149_80, x149_81, (fcnO_58_0 ho), (fcnO_58_1 ho), (fcnO_59_2 ho), if_true, if_false, eq_self, Int.reduceEq, Int.reduceLT, Int.reduceLE, Int.reduceAdd, Int.reduceSub, Int.reduceMul, Int.reduceToNat, Nat.reduceAdd, Nat.reduceMul, Nat.reduceEqDiff, Int.toNat_natCast, wrap_id, hu, if_pos (show (k : Int) < L by omega), hw, if_neg (show ¬ ((W k : Nat) : Int) = 0 by omega)]
      rw [e0, ih (k + 1) (by omega)]
      by_cases ha : ∀ g, k + 1 ≤ g → g < L → W g ≠ 0
      · rw [if_pos ha, if_pos]
        intro g h1 h2
        by_cases e : g = k
        · rw [e]; exact hz
        · exact ha g (by omega) h2
      · rw [if_neg ha, if_neg]
        exact fun z => ha (fun g h1 h2 => z g (by omega) h2)
/-- what is known of the circuit that the check has found -/
def CKS (sg : List Sg) (lo : List Lo) (cv : List (Option Jvm.Term)) (xs : List (Nat × Nat × List Lo)) : Prop := SK sg ∧ lo = xs.flatMap (fun x => x.2.2) ∧ (∀ x, x ∈ lo → ixb sg.length x.2.2) ∧ (∀ (i : Nat) (x : Sg), sg[i]? = some x → ixb sg.length x.2.2.2.2) ∧ (∀ (i : Nat) (x : Sg), sg[i]? = some x → x.2.2.2.2 ≠ .null → ∃ l, (5, i, l) ∈ xs) ∧ (∀ e, some e ∈ cv → ixb sg.length e)
theorem rs_loop {d o N : Nat} {sg : List Sg} {lo : List Lo} {cv : List (Option Jvm.Term)} {xs : List (Nat × Nat × List Lo)} (hd : 4 ≤ d) (hC : CKS sg lo cv xs) : ∀ (f i : Nat) (s : Mem) (W : Nat → Nat), i + f = 385 → i ≤ sm W sg.length → ZS s o N sg cv xs → SWc s o sg.length W → W0le sg W → BW sg lo W → (∀ g, sg.length ≤ g → W g = 0) →
    (∃ (s' : Mem) (W' : Nat → Nat), Ze d 149 13 [aR 136, aR (58 + o), aR (62 + o), aI 1, aI i] [] s = rI 1 s' ∧ GW sg lo cv W' ∧ SWc s' o sg.length W' ∧ WAc s' o W' N ∧ Fr (WZ o) s s') ∨
    ((¬ ∃ W', GW sg lo cv W') ∧ ∃ s', Ze d 149 13 [aR 136, aR (58 + o), aR (62 + o), aI 1, aI i] [] s = rI 0 s' ∧ Fr (WZ o) s s') := by
  intro f
  induction f with
  | zero =>
    intro i s W hi hsm hZ hS
    have h16 := sm_16 (W := W) sg.length (fun g hg => (hS g hg).2)
    have := hZ.2.2.2.2.2.1
    omega
  | succ f ih =>
    intro i s W hi hsm hZ hS hW0 hBW hW
    obtain ⟨c1, c2, c3, c4, c5, c6⟩ := hC
    have hC : CKS sg lo cv xs := ⟨c1, c2, c3, c4, c5, c6⟩
    obtain ⟨h1, h2, h3, ⟨h4, h4'⟩, h5, h6, ho, h7, h8, h9⟩ := hZ
    have hZ : ZS s o N sg cv xs := ⟨h1, h2, h3, ⟨h4, h4'⟩, h5, h6, ho, h7, h8, h9⟩
    rcases k_measure (d := d) (by omega) ho h6 h4' h4 c6 h3 h8 hS with ⟨s1, e1, e2, e3⟩ | ⟨e0, s1, e1, e2⟩
    · have F1 : Fr (WZ o) s s1 := e3.mono (fun _ _ h => Or.inr h.1)
      have hZ1 := ZS_put hZ F1
      have hS1 : SWc s1 o sg.length W := fun g hg => by rw [e3 _ _ (by unfold WNF; omega)]; exact hS g hg
      obtain ⟨s2, W2, r, r1, r2, r3, r4, r5⟩ := k_widen (d := d) (o := o) (N := N) (sg := sg) (lo := lo) (cv := cv) (xs := xs) (W := W) (s := s1) hd c1 c2 c3 c4 c5 hZ1 hS1 e2
      have F2 : Fr (WZ o) s s2 := F1.tr (r5.mono (fun _ _ h => Or.inl h))
      rw [rs_more ho (by omega) e1 r1]
      obtain ⟨q1, q2, q3, q4, q5⟩ := r3
      have hBW2 : BW sg lo W2 := fun V hV0 hVc g hg => q3 V hV0 hVc (hBW V hV0 hVc) (hBW V hV0 hVc) g hg
      have hW02 : W0le sg W2 := fun j x hx => Nat.le_trans (hW0 j x hx) (q1 j)
      have hW2 : ∀ g, sg.length ≤ g → W2 g = 0 := fun g hg => (q4 g hg).trans (hW g hg)
      rcases q2 with ⟨rfl, q2⟩ | ⟨rfl, g, hg, q2⟩
      · have hWW : W2 = W := funext q2
        subst hWW
        have hCl := r4 rfl
        rw [rs_done ho]
        have hu2 : s2 (59 + o) 6 = sg.length := by rw [F2 _ _ (by unfold WZ; omega), h5]
        have hk := rk_loop (d := d) ho h6 hu2 r2 sg.length 0 (Nat.zero_add _)
        by_cases hz : ∀ g, 0 ≤ g → g < sg.length → W2 g ≠ 0
        · rw [if_pos hz] at hk
          have hA2 := WAc_w e2 (fun k j hk => r5 _ _ hk)
          refine Or.inl ⟨s2, W2, hk, ⟨hW02, hCl, hBW2, ?_, fun g hg => hz g (Nat.zero_le _) hg, hW2⟩, r2, hA2, F2⟩
          rintro ⟨e, he, ht⟩
          -- every expression of the circuit lies among the nodes
          have cva : ∀ (l : List (Option Jvm.Term)) (n : Nat), 25 ≤ n → CVc s1 o sg.length n l N → some e ∈ l → ¬ tw W2 e := by
            intro l
            induction l with
            | nil => intro n _ _ hm; simp at hm
            | cons a l ihl =>
              intro n hn hc hm
              cases a with
              | none =>
                rcases List.mem_cons.mp hm with hm | hm
                · cases hm
                · exact ihl (n + 1) (by omega) hc.2.2 hm
              | some e1' =>
                have hle := CVc_le l _ _ hc.2
                rcases List.mem_cons.mp hm with hm | hm
                · injection hm with hm
                  subst hm
                  exact (e2 e n hc.1 hn hle).2
                · exact ihl (n + esz e1') (by omega) hc.2 hm
          exact cva cv 25 (Nat.le_refl _) hZ1.2.2.2.2.2.2.2.2.1 he ht
        · rw [if_neg hz] at hk
          refine Or.inr ⟨?_, s2, hk, F2⟩
          rintro ⟨V, v1, v2, v3, v4, v5, v6⟩
          apply hz
          intro g _ hg hz0
          have := v3 W2 hW02 hCl g hg
          exact v5 g hg (by omega)
      · have hsm2 := sm_lt q1 q2 sg.length hg
        rcases ih (i + 1) s2 W2 (by omega) (by omega) (ZS_put hZ F2) r2 hW02 hBW2 hW2 with ⟨s3, W3, i1, i2, i3, i4, i5⟩ | ⟨i0, s3, i1, i2⟩
        · exact Or.inl ⟨s3, W3, i1, i2, i3, i4, F2.tr i5⟩
        · exact Or.inr ⟨i0, s3, i1, F2.tr i2⟩
    · rw [rs_fail ho (by omega) e1]
      refine Or.inr ⟨?_, s1, rfl, e2.mono (fun _ _ h => Or.inr h.1)⟩
      rintro ⟨V, v1, v2, v3, v4, v5, v6⟩
      exact v4 (twA_mono (hBW V v1 v2) c6 e0)
theorem k_resolves {d o N : Nat} {sg : List Sg} {lo : List Lo} {cv : List (Option Jvm.Term)} {xs : List (Nat × Nat × List Lo)} {s : Mem} (hd : 5 ≤ d) (hC : CKS sg lo cv xs) (hZ : ZS s o N sg cv xs) (hS : ∀ (i : Nat) (x : Sg), sg[i]? = some x → s (62 + o) i = x.2.2.2.1) :
    (∃ (s' : Mem) (W' : Nat → Nat), Zc d 149 [aR 136, aR (58 + o)] s = rI 1 s' ∧ GW sg lo cv W' ∧ SWc s' o sg.length W' ∧ WAc s' o W' N ∧ Fr (WZ o) s s') ∨
    ((¬ ∃ W', GW sg lo cv W') ∧ ∃ s', Zc d 149 [aR 136, aR (58 + o)] s = rI 0 s' ∧ Fr (WZ o) s s') := by
  obtain ⟨d, rfl⟩ : ∃ e, d = e + 1 := ⟨d - 1, by omega⟩
  have ho := hZ.2.2.2.2.2.2.1
  have e0 : Zc (d + 1) 149 [aR 136, aR (58 + o)] s = Ze d 149 13 [aR 136, aR (58 + o), aR (62 + o), aI 1, aI ((0 : Nat) : Int)] [] s := by
    have z0 : ((0 : Nat) : Int) = 0 := rfl
    simp (disch := first | exact obC_136 | exact (obCO_58 ho) | exact (obCO_59 ho) | exact (obCO_66 ho) | omega | (simp only [(aN1O_62 ho)]; omega) | (simp only [List.length_cons, List.length_nil]; omega)) only [en149, x149_0, x149_1, x149_4, x149_7, x149_8, x149_9, x149_10, x149_11, x149_15, x149_18, x149_21, x149_22, x149_25, x149_26, x149_29, x149_30, x149_33, x149_36, x149_37, x149_38, x149_39, x149_40, x149_43, x149_44, x149_47, x149_50, x149_51, x149_55, x149_56, x149_59, x149_62, x149_65, x149_66, x149_68, x149_69, x149_72, x149_73, x149_74, x149_77, x149_80, x149_81, (fcnO_58_0 ho), (fcnO_58_1 ho), (fcnO_59_2 ho), if_true, if_false, eq_self, Int.reduceEq, Int.reduceLT, Int.reduceLE, Int.reduceAdd, Int.reduceSub, Int.reduceMul, Int.reduceToNat, Nat.reduceAdd, Nat.reduceMul, Nat.reduceEqDiff, Int.toNat_natCast, wrap_id, z0]
  rw [e0]
  let W : Nat → Nat := fun i => match sg[i]? with
    | some x => x.2.2.2.1
    | none => 0
  have hWx : ∀ (i : Nat) (x : Sg), sg[i]? = some x → W i = x.2.2.2.1 := fun i x hx => by show (match sg[i]? with | some x => x.2.2.2.1 | none => 0) = _; rw [hx]
  refine rs_loop (d := d) (by omega) hC 385 0 s W rfl (Nat.zero_le _) hZ (fun g hg => ?_) (fun j x hx => Nat.le_of_eq (hWx j x hx).symm) (fun V hV _ g hg => ?_) (fun g hg => ?_)
  · obtain ⟨x, hx⟩ : ∃ x, sg[g]? = some x := ⟨sg[g], List.getElem?_eq_getElem hg⟩
    rw [hWx g x hx]
    exact ⟨hS g x hx, (hC.1 g x hx).2.1⟩
  · obtain ⟨x, hx⟩ : ∃ x, sg[g]? = some x := ⟨sg[g], List.getElem?_eq_getElem hg⟩
    rw [hWx g x hx]
    exact hV g x hx
  · show (match sg[g]? with | some x => x.2.2.2.1 | none => 0) = 0
    rw [List.getElem?_eq_none hg]
