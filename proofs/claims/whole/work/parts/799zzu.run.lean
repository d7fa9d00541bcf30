/-! THE CLASS: a circuit that runs -/
def RUK (s : Mem) (o N K : Nat) (sg : List Sg) (lo : List Lo) (W : Nat → Nat) (l : List Nat) (st val bf ch : Nat → Int) (ck : Int) : Prop := CIR s o N K sg lo W ∧ SPC sg lo W ∧ OL sg lo l ∧ (∀ g, g < sg.length → basg sg g ∨ g ∈ l) ∧ OM s o l ∧ (∀ g, g < 24 → s (80 + o) g = val g) ∧ (∀ g, g < sg.length → iand (val g) (msk (W g)) = val g) ∧ EV sg lo W st val ∧ (∀ j, j < sg.length → s (82 + o) j = bf j ∧ s (81 + o) j = ch j) ∧ s (58 + o) 15 = ck
theorem k_start {d o N K : Nat} {sg : List Sg} {lo : List Lo} {W : Nat → Nat} {s : Mem} (hd : 6 ≤ d) (ho : o = 0 ∨ o = 26) (hC : CIR s o N K sg lo W) (hP : SPC sg lo W) (hc : ∀ g, g < sg.length → ¬ cyc (dpd sg lo) (rgs sg) g) : ∃ s' l val, Zc d 92 [aR (58 + o)] s = rV s' ∧ RUK s' o N K sg lo W l (fun _ => 0) val (fun _ => 0) (fun _ => 0) 0 ∧ Fr (RUNF o) s s' := by
  obtain ⟨d, rfl⟩ : ∃ e, d = e + 1 := ⟨d - 1, by omega⟩
  have f1 := fun s => k_fill (d := d) (r := 80 + o) (n := 24) (v := 0) (s := s) (by omega) (by rw [aN1O_80 ho]; rfl) (by rcases ho with rfl | rfl <;> rfl) (by omega)
  have f2 := fun s => k_fill (d := d) (r := 82 + o) (n := 24) (v := 0) (s := s) (by omega) (by rw [aN1O_82 ho]; rfl) (by rcases ho with rfl | rfl <;> rfl) (by omega)
  have f3 := fun s => k_fill (d := d) (r := 81 + o) (n := 24) (v := 0) (s := s) (by omega) (by rw [aN1O_81 ho]; rfl) (by rcases ho with rfl | rfl <;> rfl) (by omega)
  have fl : ∀ (s : Mem) (r q j : Nat), q ≠ r → flS s r 0 24 q j = s q j := fun s r q j h => by unfold flS; rw [if_neg (fun z => h z.1)]
  have fs : ∀ (s : Mem) (r j : Nat), j < 24 → flS s r 0 24 r j = 0 := fun s r j h => by unfold flS; rw [if_pos ⟨rfl, h⟩]
  have F0 : Fr (RUNF o) s (flS (flS (flS (mu s (58 + o) 15 0) (80 + o) 0 24) (82 + o) 0 24) (81 + o) 0 24) := fun k j hn => by
    unfold RUNF at hn
    rw [fl _ _ _ _ (by omega), fl _ _ _ _ (by omega), fl _ _ _ _ (by omega)]
    by_cases hk : k = 58 + o
    · exact mu_i (by omega)
    · exact mu_c hk
  have n0 : ∀ g, g < 24 → flS (flS (flS (mu s (58 + o) 15 0) (80 + o) 0 24) (82 + o) 0 24) (81 + o) 0 24 (80 + o) g = 0 := fun g hg => by rw [fl _ _ _ _ (by omega), fl _ _ _ _ (by omega), fs _ _ _ hg]
  have b0 : ∀ g, g < 24 → flS (flS (flS (mu s (58 + o) 15 0) (80 + o) 0 24) (82 + o) 0 24) (81 + o) 0 24 (82 + o) g = 0 := fun g hg => by rw [fl _ _ _ _ (by omega), fs _ _ _ hg]
  have c0 : ∀ g, g < 24 → flS (flS (flS (mu s (58 + o) 15 0) (80 + o) 0 24) (82 + o) 0 24) (81 + o) 0 24 (81 + o) g = 0 := fun g hg => fs _ _ _ hg
  have k0 : flS (flS (flS (mu s (58 + o) 15 0) (80 + o) 0 24) (82 + o) 0 24) (81 + o) 0 24 (58 + o) 15 = 0 := by rw [fl _ _ _ _ (by omega), fl _ _ _ _ (by omega), fl _ _ _ _ (by omega), mu_s]
  have C0 := CIR_put ho hC F0
  have hL := hC.1.2.1
  obtain ⟨s1, l, a1, a2, a3, a4, a5⟩ := k_findOrder (d := d) (lo := lo) (by omega) ho C0.1 C0.2.2.2.2.2.2.2 hP.1 hP.2.1 hc
  have F1 : Fr (RUNF o) s s1 := F0.tr (a5.mono (fun _ _ h => by unfold FOF at h; unfold RUNF; omega))
  obtain ⟨s2, val, b1, b2, b3, b4, -, b6⟩ := k_settle (d := d) (st := fun _ => 0) (val := fun _ => 0) (by omega) ho hP a3 a4 (CIR_put ho hC F1) a2 (fun g hg => by rw [a5 _ _ (by unfold FOF; omega), n0 g hg]) (fun g _ => iand_z _) (fun _ _ _ => rfl)
  have F2 : Fr (RUNF o) s s2 := F1.tr (SEF_R b6)
  refine ⟨s2, l, val, ?_, ⟨CIR_put ho hC F2, hP, a3, a4, ⟨by rw [b6 _ _ (by unfold SEF; omega)]; exact a2.1, fun i x hx => by rw [b6 _ _ (by unfold SEF; omega)]; exact a2.2 i x hx⟩, b2, b3, b4, fun j hj => ⟨by rw [b6 _ _ (by unfold SEF; omega), a5 _ _ (by unfold FOF; omega), b0 j (by omega)], by rw [b6 _ _ (by unfold SEF; omega), a5 _ _ (by unfold FOF; omega), c0 j (by omega)]⟩, by rw [b6 _ _ (by unfold SEF; omega), a5 _ _ (by unfold FOF; omega), k0]⟩, F2⟩
  simp (disch := first | exact (obCO_58 ho) | omega | (simp only [(aN1O_80 ho), (aN1O_81 ho), (aN1O_82 ho)]; omega) | (simp only [List.length_cons, List.length_nil]; omega)) only [en92, x92_0, x92_1, x92_2, x92_5, x92_6, x92_9, x92_10, x92_13, x92_14, x92_17, x92_18, x92_21, x92_22, x92_25, x92_26, x92_29, x92_30, x92_33, x92_34, x92_37, (fcnO_58_11 ho), (fcnO_58_12 ho), (fcnO_58_13 ho), if_true, if_false, eq_self, Int.reduceEq, Int.reduceLT, Int.reduceLE, Int.reduceAdd, Int.reduceSub, Int.reduceMul, Int.reduceToNat, Nat.reduceAdd, Nat.reduceMul, Nat.reduceEqDiff, Int.toNat_natCast, wrap_id, f1, f2, f3, zcV_r, a1, b1]
theorem k_put {d o N K g : Nat} {v : Int} {sg : List Sg} {lo : List Lo} {W : Nat → Nat} {l : List Nat} {st val bf ch : Nat → Int} {ck : Int} {s : Mem} (hd : 6 ≤ d) (ho : o = 0 ∨ o = 26) (h : RUK s o N K sg lo W l st val bf ch ck) (hg : g < sg.length) (hb : basg sg g) : ∃ s' val', Zc d 96 [aR (58 + o), aI g, aI v] s = rI (st g) s' ∧ RUK s' o N K sg lo W l (vUp st g (iand v (msk (W g)))) val' bf ch ck ∧ Fr (SEF o) s s' := by
  obtain ⟨d, rfl⟩ : ∃ e, d = e + 1 := ⟨d - 1, by omega⟩
  obtain ⟨h1, h2, h3, h4, h5, h6, h7, h8, h9, h10⟩ := h
  have hL := h1.1.2.1
  have hw := (h1.2.1 g hg).1
  have F0 : Fr (SEF o) s (mu s (80 + o) g (iand v (msk (W g)))) := (Fr.rf s).mu (Or.inr rfl)
  obtain ⟨s1, val', b1, b2, b3, b4, -, b6⟩ := k_settle (d := d) (st := vUp st g (iand v (msk (W g)))) (val := vUp val g (iand v (msk (W g)))) (by omega) ho h2 h3 h4 (CIR_put ho h1 (SEF_R F0)) ⟨by rw [F0 _ _ (by unfold SEF; omega)]; exact h5.1, fun i x hx => by rw [F0 _ _ (by unfold SEF; omega)]; exact h5.2 i x hx⟩ (fun q hq => by
    unfold vUp
    by_cases hqg : q = g
    · rw [if_pos hqg, hqg, mu_s]
    · rw [if_neg hqg, mu_i hqg]; exact h6 q hq) (fun q hq => by
    unfold vUp
    by_cases hqg : q = g
    · rw [if_pos hqg, hqg]; exact iand_idem _ _
    · rw [if_neg hqg]; exact h7 q hq) (fun q hq hqb => by
    unfold vUp
    by_cases hqg : q = g
    · rw [if_pos hqg, if_pos hqg]
    · rw [if_neg hqg, if_neg hqg]
      obtain ⟨x, hx, hbx⟩ := hqb
      exact (h8 q x hx).1 hbx)
  have F := F0.tr b6
  have hm := k_maskOf (d := d) (w := W g) (by omega) s
  have hnow : s (80 + o) g = st g := by
    rw [h6 g (by omega)]
    obtain ⟨x, hx, hbx⟩ := hb
    exact (h8 g x hx).1 hbx
  refine ⟨s1, val', ?_, ⟨CIR_put ho h1 (SEF_R F), h2, h3, h4, ⟨by rw [F _ _ (by unfold SEF; omega)]; exact h5.1, fun i x hx => by rw [F _ _ (by unfold SEF; omega)]; exact h5.2 i x hx⟩, b2, b3, b4, fun j hj => ⟨by rw [F _ _ (by unfold SEF; omega)]; exact (h9 j hj).1, by rw [F _ _ (by unfold SEF; omega)]; exact (h9 j hj).2⟩, by rw [F _ _ (by unfold SEF; omega), h10]⟩, F⟩
  simp (disch := first | exact (obCO_58 ho) | exact (obCO_59 ho) | omega | (simp only [(aN1O_62 ho), (aN1O_80 ho)]; omega) | (simp only [List.length_cons, List.length_nil]; omega)) only [en96, x96_0, x96_1, x96_4, x96_5, x96_6, x96_7, x96_8, x96_11, x96_12, x96_13, x96_14, x96_17, x96_20, x96_21, x96_22, x96_25, x96_26, x96_27, x96_28, x96_31, x96_32, (fcnO_58_0 ho), (fcnO_58_11 ho), (fcnO_59_2 ho), if_true, if_false, eq_self, Int.reduceEq, Int.reduceLT, Int.reduceLE, Int.reduceAdd, Int.reduceSub, Int.reduceMul, Int.reduceToNat, Nat.reduceAdd, Nat.reduceMul, Nat.reduceEqDiff, Int.toNat_natCast, wrap_id, hw, hm, zcI_r, zcV_r, b1, hnow]
