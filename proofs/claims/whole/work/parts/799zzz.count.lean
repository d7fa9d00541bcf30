variable {d r q : Nat} {l0 l1 l2 l3 l4 l5 l6 l7 l8 l9 l10 l11 l12 l13 l14 l15 : AV} {st : List AV} {s : Mem} {a b z i n dp sp a0 a1 a2 a3 a4 a5 a6 : Int} {r0 r1 r2 r3 r4 : Nat}
theorem x146_0 : Ze d 146 0 [l0, l1, l2] st s = Ze d 146 1 [l0, l1, l2] (aI 0 :: st) s := Ze_n (i := (.iconst 0)) (len := 1) (by decide +kernel) rfl
theorem x146_1 : Ze d 146 1 [l0, l1, l2] (aI z :: st) s = Ze d 146 2 [l0, aI z, l2] st s := Ze_n (i := (.istore_n 1)) (len := 1) (by decide +kernel) rfl
theorem x146_2 : Ze d 146 2 [l0, l1, l2] st s = Ze d 146 3 [l0, l1, l2] (aI 0 :: st) s := Ze_n (i := (.iconst 0)) (len := 1) (by decide +kernel) rfl
theorem x146_3 : Ze d 146 3 [l0, l1, l2] (aI z :: st) s = Ze d 146 4 [l0, l1, aI z] st s := Ze_n (i := (.istore_n 2)) (len := 1) (by decide +kernel) rfl
theorem x146_4 : Ze d 146 4 [l0, l1, aI z] st s = Ze d 146 5 [l0, l1, aI z] (aI z :: st) s := Ze_n (i := (.iload_n 2)) (len := 1) (by decide +kernel) rfl
theorem x146_5 : Ze d 146 5 [aR r, l1, l2] st s = Ze d 146 6 [aR r, l1, l2] (aR r :: st) s := Ze_n (i := (.aload_n 0)) (len := 1) (by decide +kernel) rfl
theorem x146_6 (h : obC r = 8) : Ze d 146 6 [l0, l1, l2] (aR r :: st) s = Ze d 146 9 [l0, l1, l2] (aI (s r 6) :: st) s := Ze_gf (len := 3) (idx := 31) (by decide +kernel) rfl h rfl
theorem x146_9 : Ze d 146 9 [l0, l1, l2] (aI b :: aI a :: st) s = if a < b then Ze d 146 12 [l0, l1, l2] st s else Ze d 146 35 [l0, l1, l2] st s := Ze_b (i := (.if_icmp .ge 26)) (len := 3) (by decide +kernel) rfl
theorem x146_12 : Ze d 146 12 [l0, aI z, l2] st s = Ze d 146 13 [l0, aI z, l2] (aI z :: st) s := Ze_n (i := (.iload_n 1)) (len := 1) (by decide +kernel) rfl
theorem x146_13 : Ze d 146 13 [aR r, l1, l2] st s = Ze d 146 14 [aR r, l1, l2] (aR r :: st) s := Ze_n (i := (.aload_n 0)) (len := 1) (by decide +kernel) rfl
theorem x146_14 (h : obC r = 8) : Ze d 146 14 [l0, l1, l2] (aR r :: st) s = Ze d 146 17 [l0, l1, l2] (aR (fcn r 4) :: st) s := Ze_gf (len := 3) (idx := 25) (by decide +kernel) rfl h rfl
theorem x146_17 : Ze d 146 17 [l0, l1, aI z] st s = Ze d 146 18 [l0, l1, aI z] (aI z :: st) s := Ze_n (i := (.iload_n 2)) (len := 1) (by decide +kernel) rfl
theorem x146_18 (h0 : 0 ≤ i) (h1 : i < aN2 r) : Ze d 146 18 [l0, l1, l2] (aI i :: aR r :: st) s = Ze d 146 19 [l0, l1, l2] (aI (s r i.toNat) :: st) s := Ze_n (i := .baload) (len := 1) (by decide +kernel) (if_pos ⟨h0, h1⟩)
theorem x146_19 : Ze d 146 19 [l0, l1, l2] (aI a :: st) s = if a = 0 then Ze d 146 26 [l0, l1, l2] st s else Ze d 146 22 [l0, l1, l2] st s := Ze_b (i := (.ifCond .eq 7)) (len := 3) (by decide +kernel) rfl
theorem x146_22 : Ze d 146 22 [l0, l1, l2] st s = Ze d 146 23 [l0, l1, l2] (aI 1 :: st) s := Ze_n (i := (.iconst 1)) (len := 1) (by decide +kernel) rfl
theorem x146_23 : Ze d 146 23 [l0, l1, l2] st s = Ze d 146 27 [l0, l1, l2] st s := Ze_n (i := (.goto 4)) (len := 3) (by decide +kernel) rfl
theorem x146_26 : Ze d 146 26 [l0, l1, l2] st s = Ze d 146 27 [l0, l1, l2] (aI 0 :: st) s := Ze_n (i := (.iconst 0)) (len := 1) (by decide +kernel) rfl
theorem x146_27 : Ze d 146 27 [l0, l1, l2] (aI b :: aI a :: st) s = Ze d 146 28 [l0, l1, l2] (aI (wrap (a + b)) :: st) s := Ze_n (i := .iadd) (len := 1) (by decide +kernel) rfl
theorem x146_28 : Ze d 146 28 [l0, l1, l2] (aI z :: st) s = Ze d 146 29 [l0, aI z, l2] st s := Ze_n (i := (.istore_n 1)) (len := 1) (by decide +kernel) rfl
theorem x146_29 : Ze d 146 29 [l0, l1, aI z] st s = Ze d 146 32 [l0, l1, aI (wrap (z + 1))] st s := Ze_n (i := (.iinc 2 1)) (len := 3) (by decide +kernel) rfl
theorem x146_32 : Ze d 146 32 [l0, l1, l2] st s = Ze d 146 4 [l0, l1, l2] st s := Ze_n (i := (.goto (-28))) (len := 3) (by decide +kernel) rfl
theorem x146_35 : Ze d 146 35 [l0, aI z, l2] st s = Ze d 146 36 [l0, aI z, l2] (aI z :: st) s := Ze_n (i := (.iload_n 1)) (len := 1) (by decide +kernel) rfl
theorem x146_36 : Ze d 146 36 [l0, l1, l2] [aI z] s = rI z s := Ze_i1 (by decide +kernel) rfl
theorem en146 : Zc (d + 1) 146 [aR r] s = Ze d 146 0 [aR r, aU, aU] [] s := rfl
theorem x147_0 : Ze d 147 0 [l0, l1, l2] st s = Ze d 147 1 [l0, l1, l2] (aI 0 :: st) s := Ze_n (i := (.iconst 0)) (len := 1) (by decide +kernel) rfl
theorem x147_1 : Ze d 147 1 [l0, l1, l2] (aI z :: st) s = Ze d 147 2 [l0, aI z, l2] st s := Ze_n (i := (.istore_n 1)) (len := 1) (by decide +kernel) rfl
theorem x147_2 : Ze d 147 2 [l0, l1, l2] st s = Ze d 147 3 [l0, l1, l2] (aI 0 :: st) s := Ze_n (i := (.iconst 0)) (len := 1) (by decide +kernel) rfl
theorem x147_3 : Ze d 147 3 [l0, l1, l2] (aI z :: st) s = Ze d 147 4 [l0, l1, aI z] st s := Ze_n (i := (.istore_n 2)) (len := 1) (by decide +kernel) rfl
theorem x147_4 : Ze d 147 4 [l0, l1, aI z] st s = Ze d 147 5 [l0, l1, aI z] (aI z :: st) s := Ze_n (i := (.iload_n 2)) (len := 1) (by decide +kernel) rfl
theorem x147_5 : Ze d 147 5 [aR r, l1, l2] st s = Ze d 147 6 [aR r, l1, l2] (aR r :: st) s := Ze_n (i := (.aload_n 0)) (len := 1) (by decide +kernel) rfl
theorem x147_6 (h : obC r = 8) : Ze d 147 6 [l0, l1, l2] (aR r :: st) s = Ze d 147 9 [l0, l1, l2] (aI (s r 6) :: st) s := Ze_gf (len := 3) (idx := 31) (by decide +kernel) rfl h rfl
theorem x147_9 : Ze d 147 9 [l0, l1, l2] (aI b :: aI a :: st) s = if a < b then Ze d 147 12 [l0, l1, l2] st s else Ze d 147 36 [l0, l1, l2] st s := Ze_b (i := (.if_icmp .ge 27)) (len := 3) (by decide +kernel) rfl
theorem x147_12 : Ze d 147 12 [l0, aI z, l2] st s = Ze d 147 13 [l0, aI z, l2] (aI z :: st) s := Ze_n (i := (.iload_n 1)) (len := 1) (by decide +kernel) rfl
theorem x147_13 : Ze d 147 13 [aR r, l1, l2] st s = Ze d 147 14 [aR r, l1, l2] (aR r :: st) s := Ze_n (i := (.aload_n 0)) (len := 1) (by decide +kernel) rfl
theorem x147_14 (h : obC r = 8) : Ze d 147 14 [l0, l1, l2] (aR r :: st) s = Ze d 147 17 [l0, l1, l2] (aR (fcn r 0) :: st) s := Ze_gf (len := 3) (idx := 9) (by decide +kernel) rfl h rfl
theorem x147_17 : Ze d 147 17 [l0, l1, aI z] st s = Ze d 147 18 [l0, l1, aI z] (aI z :: st) s := Ze_n (i := (.iload_n 2)) (len := 1) (by decide +kernel) rfl
theorem x147_18 (h0 : 0 ≤ i) (h1 : i < aN1 r) : Ze d 147 18 [l0, l1, l2] (aI i :: aR r :: st) s = Ze d 147 19 [l0, l1, l2] (aI (s r i.toNat) :: st) s := Ze_n (i := .iaload) (len := 1) (by decide +kernel) (if_pos ⟨h0, h1⟩)
theorem x147_19 : Ze d 147 19 [l0, l1, l2] st s = Ze d 147 20 [l0, l1, l2] (aI 3 :: st) s := Ze_n (i := (.iconst 3)) (len := 1) (by decide +kernel) rfl
theorem x147_20 : Ze d 147 20 [l0, l1, l2] (aI b :: aI a :: st) s = if a = b then Ze d 147 23 [l0, l1, l2] st s else Ze d 147 27 [l0, l1, l2] st s := Ze_b (i := (.if_icmp .ne 7)) (len := 3) (by decide +kernel) rfl
theorem x147_23 : Ze d 147 23 [l0, l1, l2] st s = Ze d 147 24 [l0, l1, l2] (aI 1 :: st) s := Ze_n (i := (.iconst 1)) (len := 1) (by decide +kernel) rfl
theorem x147_24 : Ze d 147 24 [l0, l1, l2] st s = Ze d 147 28 [l0, l1, l2] st s := Ze_n (i := (.goto 4)) (len := 3) (by decide +kernel) rfl
theorem x147_27 : Ze d 147 27 [l0, l1, l2] st s = Ze d 147 28 [l0, l1, l2] (aI 0 :: st) s := Ze_n (i := (.iconst 0)) (len := 1) (by decide +kernel) rfl
theorem x147_28 : Ze d 147 28 [l0, l1, l2] (aI b :: aI a :: st) s = Ze d 147 29 [l0, l1, l2] (aI (wrap (a + b)) :: st) s := Ze_n (i := .iadd) (len := 1) (by decide +kernel) rfl
theorem x147_29 : Ze d 147 29 [l0, l1, l2] (aI z :: st) s = Ze d 147 30 [l0, aI z, l2] st s := Ze_n (i := (.istore_n 1)) (len := 1) (by decide +kernel) rfl
theorem x147_30 : Ze d 147 30 [l0, l1, aI z] st s = Ze d 147 33 [l0, l1, aI (wrap (z + 1))] st s := Ze_n (i := (.iinc 2 1)) (len := 3) (by decide +kernel) rfl
theorem x147_33 : Ze d 147 33 [l0, l1, l2] st s = Ze d 147 4 [l0, l1, l2] st s := Ze_n (i := (.goto (-29))) (len := 3) (by decide +kernel) rfl
theorem x147_36 : Ze d 147 36 [l0, aI z, l2] st s = Ze d 147 37 [l0, aI z, l2] (aI z :: st) s := Ze_n (i := (.iload_n 1)) (len := 1) (by decide +kernel) rfl
theorem x147_37 : Ze d 147 37 [l0, l1, l2] [aI z] s = rI z s := Ze_i1 (by decide +kernel) rfl
theorem en147 : Zc (d + 1) 147 [aR r] s = Ze d 147 0 [aR r, aU, aU] [] s := rfl
theorem x148_0 : Ze d 148 0 [l0, l1, l2] st s = Ze d 148 1 [l0, l1, l2] (aI 0 :: st) s := Ze_n (i := (.iconst 0)) (len := 1) (by decide +kernel) rfl
theorem x148_1 : Ze d 148 1 [l0, l1, l2] (aI z :: st) s = Ze d 148 2 [l0, aI z, l2] st s := Ze_n (i := (.istore_n 1)) (len := 1) (by decide +kernel) rfl
theorem x148_2 : Ze d 148 2 [l0, l1, l2] st s = Ze d 148 3 [l0, l1, l2] (aI 0 :: st) s := Ze_n (i := (.iconst 0)) (len := 1) (by decide +kernel) rfl
theorem x148_3 : Ze d 148 3 [l0, l1, l2] (aI z :: st) s = Ze d 148 4 [l0, l1, aI z] st s := Ze_n (i := (.istore_n 2)) (len := 1) (by decide +kernel) rfl
theorem x148_4 : Ze d 148 4 [l0, l1, aI z] st s = Ze d 148 5 [l0, l1, aI z] (aI z :: st) s := Ze_n (i := (.iload_n 2)) (len := 1) (by decide +kernel) rfl
theorem x148_5 : Ze d 148 5 [aR r, l1, l2] st s = Ze d 148 6 [aR r, l1, l2] (aR r :: st) s := Ze_n (i := (.aload_n 0)) (len := 1) (by decide +kernel) rfl
theorem x148_6 (h : obC r = 8) : Ze d 148 6 [l0, l1, l2] (aR r :: st) s = Ze d 148 9 [l0, l1, l2] (aI (s r 6) :: st) s := Ze_gf (len := 3) (idx := 31) (by decide +kernel) rfl h rfl
theorem x148_9 : Ze d 148 9 [l0, l1, l2] (aI b :: aI a :: st) s = if a < b then Ze d 148 12 [l0, l1, l2] st s else Ze d 148 27 [l0, l1, l2] st s := Ze_b (i := (.if_icmp .ge 18)) (len := 3) (by decide +kernel) rfl
theorem x148_12 : Ze d 148 12 [l0, aI z, l2] st s = Ze d 148 13 [l0, aI z, l2] (aI z :: st) s := Ze_n (i := (.iload_n 1)) (len := 1) (by decide +kernel) rfl
theorem x148_13 : Ze d 148 13 [aR r, l1, l2] st s = Ze d 148 14 [aR r, l1, l2] (aR r :: st) s := Ze_n (i := (.aload_n 0)) (len := 1) (by decide +kernel) rfl
theorem x148_14 (h : obC r = 8) : Ze d 148 14 [l0, l1, l2] (aR r :: st) s = Ze d 148 17 [l0, l1, l2] (aR (fcn r 2) :: st) s := Ze_gf (len := 3) (idx := 18) (by decide +kernel) rfl h rfl
theorem x148_17 : Ze d 148 17 [l0, l1, aI z] st s = Ze d 148 18 [l0, l1, aI z] (aI z :: st) s := Ze_n (i := (.iload_n 2)) (len := 1) (by decide +kernel) rfl
theorem x148_18 (h0 : 0 ≤ i) (h1 : i < aN1 r) : Ze d 148 18 [l0, l1, l2] (aI i :: aR r :: st) s = Ze d 148 19 [l0, l1, l2] (aI (s r i.toNat) :: st) s := Ze_n (i := .iaload) (len := 1) (by decide +kernel) (if_pos ⟨h0, h1⟩)
theorem x148_19 : Ze d 148 19 [l0, l1, l2] (aI b :: aI a :: st) s = Ze d 148 20 [l0, l1, l2] (aI (wrap (a + b)) :: st) s := Ze_n (i := .iadd) (len := 1) (by decide +kernel) rfl
theorem x148_20 : Ze d 148 20 [l0, l1, l2] (aI z :: st) s = Ze d 148 21 [l0, aI z, l2] st s := Ze_n (i := (.istore_n 1)) (len := 1) (by decide +kernel) rfl
theorem x148_21 : Ze d 148 21 [l0, l1, aI z] st s = Ze d 148 24 [l0, l1, aI (wrap (z + 1))] st s := Ze_n (i := (.iinc 2 1)) (len := 3) (by decide +kernel) rfl
theorem x148_24 : Ze d 148 24 [l0, l1, l2] st s = Ze d 148 4 [l0, l1, l2] st s := Ze_n (i := (.goto (-20))) (len := 3) (by decide +kernel) rfl
theorem x148_27 : Ze d 148 27 [l0, aI z, l2] st s = Ze d 148 28 [l0, aI z, l2] (aI z :: st) s := Ze_n (i := (.iload_n 1)) (len := 1) (by decide +kernel) rfl
theorem x148_28 : Ze d 148 28 [l0, l1, l2] [aI z] s = rI z s := Ze_i1 (by decide +kernel) rfl
theorem en148 : Zc (d + 1) 148 [aR r] s = Ze d 148 0 [aR r, aU, aU] [] s := rfl
/-! THE CLASS: counts -/
theorem kc_sinks {d o : Nat} {sg : List Sg} {s : Mem} (ho : o = 0 ∨ o = 26) (hS : SGA s o sg) : ∀ m n : Nat, n + m = sg.length → Ze d 146 4 [aR (59 + o), aI (cntP (skp sg) n), aI n] [] s = rI (cntP (skp sg) sg.length : Nat) s := by
  intro m
  induction m with
  | zero =>
    intro n hn
    have : n = sg.length := by omega
    subst this
    rw [x146_4]
    simp (disch := first | exact (obCO_59 ho) | omega | (simp only [(aN2O_64 ho)]; omega) | (simp only [List.length_cons, List.length_nil]; omega)) only [en146, x146_0, x146_1, x146_2, x146_3, x146_5, x146_6, x146_9, x146_12, x146_13, x146_14, x146_17, x146_18, x146_19, x146_22, x146_23, x146_26, x146_27, x146_28, x146_29, x146_32, x146_35, x146_36, (fcnO_59_4 ho), if_true, if_false, eq_self, Int.reduceEq, Int.reduceLT, Int.reduceLE, Int.reduceAdd, Int.reduceSub, Int.reduceMul, Int.reduceToNat, Nat.reduceAdd, Nat.reduceMul, Nat.reduceEqDiff, Int.toNat_natCast, wrap_id, hS.1, if_neg (show ¬ (sg.length : Int) < sg.length by omega)]
  | succ m ih =>
    intro n hn
    have hnl : n < sg.length := by omega
    have hx := List.getElem?_eq_getElem hnl
    obtain ⟨-, q2⟩ := hS.2.2 n _ hx
    have hL := hS.2.1
    generalize sg[n] = x at hx q2
    have hc := cntP_n (P := skp sg) n
    rw [← ih (n + 1) (by omega), x146_4, show ((n + 1 : Nat) : Int) = (n : Int) + 1 from rfl]
    by_cases h : isSk x.1 x.2.2.1
    · have h1 : skI x.1 x.2.2.1 = 1 := by unfold skI; rw [if_pos h]
      have h2 : ((cntP (skp sg) (n + 1) : Nat) : Int) = (cntP (skp sg) n : Nat) + 1 := by
        show ((cntP (skp sg) n + @ite _ (skp sg n) (Classical.propDecidable _) 1 0 : Nat) : Int) = _
        rw [if_pos ⟨x, hx, h⟩]
        rfl
      rw [h1] at q2
      rw [h2]
      simp (disch := first | exact (obCO_59 ho) | omega | (simp only [(aN2O_64 ho)]; omega) | (simp only [List.length_cons, List.length_nil]; omega)) only [en146, x146_0, x146_1, x146_2, x146_3, x146_5, x146_6, x146_9, x146_12, x146_13, x146_14, x146_17, x146_18, x146_19, x146_22, x146_23, x146_26, x146_27, x146_28, x146_29, x146_32, x146_35, x146_36, (fcnO_59_4 ho), if_true, if_false, eq_self, Int.reduceEq, Int.reduceLT, Int.reduceLE, Int.reduceAdd, Int.reduceSub, Int.reduceMul, Int.reduceToNat, Nat.reduceAdd, Nat.reduceMul, Nat.reduceEqDiff, Int.toNat_natCast, wrap_id, hS.1, if_pos (show (n : Int) < sg.length by omega), q2, if_neg (show ¬ (1 : Int) = 0 by decide)]
    · have h1 : skI x.1 x.2.2.1 = 0 := by unfold skI; rw [if_neg h]
      have h2 : cntP (skp sg) (n + 1) = cntP (skp sg) n := by
        show cntP (skp sg) n + @ite _ (skp sg n) (Classical.propDecidable _) 1 0 = _
        rw [if_neg (fun ⟨y, hy, hy2⟩ => by
          rw [hx] at hy
          injection hy with hy
          subst hy
          exact h hy2), Nat.add_zero]
      rw [h1] at q2
      rw [h2]
      simp (disch := first | exact (obCO_59 ho) | omega | (simp only [(aN2O_64 ho)]; omega) | (simp only [List.length_cons, List.length_nil]; omega)) only [en146, x146_0, x146_1, x146_2, x146_3, x146_5, x146_6, x146_9, x146_12, x146_13, x146_14, x146_17, x146_18, x146_19, x146_22, x146_23, x146_26, x146_27, x146_28, x146_29, x146_32, x146_35, x146_36, (fcnO_59_4 ho), if_true, if_false, eq_self, Int.reduceEq, Int.reduceLT, Int.reduceLE, Int.reduceAdd, Int.reduceSub, Int.reduceMul, Int.reduceToNat, Nat.reduceAdd, Nat.reduceMul, Nat.reduceEqDiff, Int.toNat_natCast, wrap_id, hS.1, if_pos (show (n : Int) < sg.length by omega), q2, Int.add_zero]
theorem k_sinks {d o : Nat} {sg : List Sg} {s : Mem} (hd : 1 ≤ d) (ho : o = 0 ∨ o = 26) (hS : SGA s o sg) : Zc d 146 [aR (59 + o)] s = rI (cntP (skp sg) sg.length : Nat) s := by
  obtain ⟨d, rfl⟩ : ∃ e, d = e + 1 := ⟨d - 1, by omega⟩
  rw [← kc_sinks (d := d) ho hS sg.length 0 (Nat.zero_add _)]
  have z0 : ((cntP (skp sg) 0 : Nat) : Int) = 0 := rfl
  have z0' : ((0 : Nat) : Int) = 0 := rfl
  rw [z0]
  simp (disch := first | exact obC_59 | exact obC_85 | omega | (simp only [aN2_64, aN2_90]; omega) | (simp only [List.length_cons, List.length_nil]; omega)) only [en146, x146_0, x146_1, x146_2, x146_3, x146_5, x146_6, x146_9, x146_12, x146_13, x146_14, x146_17, x146_18, x146_19, x146_22, x146_23, x146_26, x146_27, x146_28, x146_29, x146_32, x146_35, x146_36, fcn_59_4, fcn_85_4, if_true, if_false, eq_self, Int.reduceEq, Int.reduceLT, Int.reduceLE, Int.reduceAdd, Int.reduceSub, Int.reduceMul, Int.reduceToNat, Nat.reduceAdd, Nat.reduceMul, Nat.reduceEqDiff, Int.toNat_natCast, wrap_id, z0']
theorem kc_regs {d o : Nat} {sg : List Sg} {s : Mem} (ho : o = 0 ∨ o = 26) (hS : SGA s o sg) : ∀ m n : Nat, n + m = sg.length → Ze d 147 4 [aR (59 + o), aI (cntP (rgs sg) n), aI n] [] s = rI (cntP (rgs sg) sg.length : Nat) s := by
  intro m
  induction m with
  | zero =>
    intro n hn
    have : n = sg.length := by omega
    subst this
    rw [x147_4]
    simp (disch := first | exact (obCO_59 ho) | omega | (simp only [(aN1O_60 ho)]; omega) | (simp only [List.length_cons, List.length_nil]; omega)) only [en147, x147_0, x147_1, x147_2, x147_3, x147_5, x147_6, x147_9, x147_12, x147_13, x147_14, x147_17, x147_18, x147_19, x147_20, x147_23, x147_24, x147_27, x147_28, x147_29, x147_30, x147_33, x147_36, x147_37, (fcnO_59_0 ho), if_true, if_false, eq_self, Int.reduceEq, Int.reduceLT, Int.reduceLE, Int.reduceAdd, Int.reduceSub, Int.reduceMul, Int.reduceToNat, Nat.reduceAdd, Nat.reduceMul, Nat.reduceEqDiff, Int.toNat_natCast, wrap_id, hS.1, if_neg (show ¬ (sg.length : Int) < sg.length by omega)]
  | succ m ih =>
    intro n hn
    have hnl : n < sg.length := by omega
    have hx := List.getElem?_eq_getElem hnl
    obtain ⟨q1, -⟩ := hS.2.2 n _ hx
    have hL := hS.2.1
    generalize sg[n] = x at hx q1
    have hc := cntP_n (P := rgs sg) n
    rw [← ih (n + 1) (by omega), x147_4, show ((n + 1 : Nat) : Int) = (n : Int) + 1 from rfl]
    by_cases h : x.1 = 3
    · have h2 : ((cntP (rgs sg) (n + 1) : Nat) : Int) = (cntP (rgs sg) n : Nat) + 1 := by
        show ((cntP (rgs sg) n + @ite _ (rgs sg n) (Classical.propDecidable _) 1 0 : Nat) : Int) = _
        rw [if_pos ⟨x, hx, h⟩]
        rfl
      rw [h] at q1
      have z3 : ((3 : Nat) : Int) = 3 := rfl
      rw [h2]
      simp (disch := first | exact (obCO_59 ho) | omega | (simp only [(aN1O_60 ho)]; omega) | (simp only [List.length_cons, List.length_nil]; omega)) only [en147, x147_0, x147_1, x147_2, x147_3, x147_5, x147_6, x147_9, x147_12, x147_13, x147_14, x147_17, x147_18, x147_19, x147_20, x147_23, x147_24, x147_27, x147_28, x147_29, x147_30, x147_33, x147_36, x147_37, (fcnO_59_0 ho), if_true, if_false, eq_self, Int.reduceEq, Int.reduceLT, Int.reduceLE, Int.reduceAdd, Int.reduceSub, Int.reduceMul, Int.reduceToNat, Nat.reduceAdd, Nat.reduceMul, Nat.reduceEqDiff, Int.toNat_natCast, wrap_id, hS.1, if_pos (show (n : Int) < sg.length by omega), q1, z3]
    · have h2 : cntP (rgs sg) (n + 1) = cntP (rgs sg) n := by
        show cntP (rgs sg) n + @ite _ (rgs sg n) (Classical.propDecidable _) 1 0 = _
        rw [if_neg (fun ⟨y, hy, hy2⟩ => by
          rw [hx] at hy
          injection hy with hy
          subst hy
          exact h hy2), Nat.add_zero]
      rw [h2]
      simp (disch := first | exact (obCO_59 ho) | omega | (simp only [(aN1O_60 ho)]; omega) | (simp only [List.length_cons, List.length_nil]; omega)) only [en147, x147_0, x147_1, x147_2, x147_3, x147_5, x147_6, x147_9, x147_12, x147_13, x147_14, x147_17, x147_18, x147_19, x147_20, x147_23, x147_24, x147_27, x147_28, x147_29, x147_30, x147_33, x147_36, x147_37, (fcnO_59_0 ho), if_true, if_false, eq_self, Int.reduceEq, Int.reduceLT, Int.reduceLE, Int.reduceAdd, Int.reduceSub, Int.reduceMul, Int.reduceToNat, Nat.reduceAdd, Nat.reduceMul, Nat.reduceEqDiff, Int.toNat_natCast, wrap_id, hS.1, if_pos (show (n : Int) < sg.length by omega), q1, if_neg (show ¬ (x.1 : Int) = 3 by omega), Int.add_zero]
theorem k_regs {d o : Nat} {sg : List Sg} {s : Mem} (hd : 1 ≤ d) (ho : o = 0 ∨ o = 26) (hS : SGA s o sg) : Zc d 147 [aR (59 + o)] s = rI (cntP (rgs sg) sg.length : Nat) s := by
  obtain ⟨d, rfl⟩ : ∃ e, d = e + 1 := ⟨d - 1, by omega⟩
  rw [← kc_regs (d := d) ho hS sg.length 0 (Nat.zero_add _)]
  have z0 : ((cntP (rgs sg) 0 : Nat) : Int) = 0 := rfl
  have z0' : ((0 : Nat) : Int) = 0 := rfl
  rw [z0]
  simp (disch := first | exact obC_59 | exact obC_85 | omega | (simp only [aN1_60, aN1_86]; omega) | (simp only [List.length_cons, List.length_nil]; omega)) only [en147, x147_0, x147_1, x147_2, x147_3, x147_5, x147_6, x147_9, x147_12, x147_13, x147_14, x147_17, x147_18, x147_19, x147_20, x147_23, x147_24, x147_27, x147_28, x147_29, x147_30, x147_33, x147_36, x147_37, fcn_59_0, fcn_85_0, if_true, if_false, eq_self, Int.reduceEq, Int.reduceLT, Int.reduceLE, Int.reduceAdd, Int.reduceSub, Int.reduceMul, Int.reduceToNat, Nat.reduceAdd, Nat.reduceMul, Nat.reduceEqDiff, Int.toNat_natCast, wrap_id, z0']
theorem kc_wid {d o L : Nat} {W : Nat → Nat} {s : Mem} (ho : o = 0 ∨ o = 26) (hL : L ≤ 24) (hu : s (59 + o) 6 = L) (hW : SWc s o L W) : ∀ m n : Nat, n + m = L → Ze d 148 4 [aR (59 + o), aI (wSF W n), aI n] [] s = rI (wSF W L) s := by
  intro m
  induction m with
  | zero =>
    intro n hn
    have : n = L := by omega
    subst this
    rw [x148_4]
    simp (disch := first | exact (obCO_59 ho) | omega | (simp only [(aN1O_62 ho)]; omega) | (simp only [List.length_cons, List.length_nil]; omega)) only [en148, x148_0, x148_1, x148_2, x148_3, x148_5, x148_6, x148_9, x148_12, x148_13, x148_14, x148_17, x148_18, x148_19, x148_20, x148_21, x148_24, x148_27, x148_28, (fcnO_59_2 ho), if_true, if_false, eq_self, Int.reduceEq, Int.reduceLT, Int.reduceLE, Int.reduceAdd, Int.reduceSub, Int.reduceMul, Int.reduceToNat, Nat.reduceAdd, Nat.reduceMul, Nat.reduceEqDiff, Int.toNat_natCast, wrap_id, hu, if_neg (show ¬ (n : Int) < n by omega)]
  | succ m ih =>
    intro n hn
    have hw := (hW n (by omega)).1
    have h2 : wSF W (n + 1) = wrap (wSF W n + W n) := rfl
    rw [← ih (n + 1) (by omega), x148_4, show ((n + 1 : Nat) : Int) = (n : Int) + 1 from rfl, h2]
    simp (disch := first | exact (obCO_59 ho) | omega | (simp only [(aN1O_62 ho)]; omega) | (simp only [List.length_cons, List.length_nil]; omega)) only [en148, x148_0, x148_1, x148_2, x148_3, x148_5, x148_6, x148_9, x148_12, x148_13, x148_14, x148_17, x148_18, x148_19, x148_20, x148_21, x148_24, x148_27, x148_28, (fcnO_59_2 ho), if_true, if_false, eq_self, Int.reduceEq, Int.reduceLT, Int.reduceLE, Int.reduceAdd, Int.reduceSub, Int.reduceMul, Int.reduceToNat, Nat.reduceAdd, Nat.reduceMul, Nat.reduceEqDiff, Int.toNat_natCast, wrap_id, hu, if_pos (show (n : Int) < L by omega), hw]
theorem k_wid {d o L : Nat} {W : Nat → Nat} {s : Mem} (hd : 1 ≤ d) (ho : o = 0 ∨ o = 26) (hL : L ≤ 24) (hu : s (59 + o) 6 = L) (hW : SWc s o L W) : Zc d 148 [aR (59 + o)] s = rI (wSF W L) s := by
  obtain ⟨d, rfl⟩ : ∃ e, d = e + 1 := ⟨d - 1, by omega⟩
  rw [← kc_wid (d := d) ho hL hu hW L 0 (Nat.zero_add _)]
  have z0 : wSF W 0 = 0 := rfl
  have z0' : ((0 : Nat) : Int) = 0 := rfl
  rw [z0]
  simp (disch := first | exact obC_59 | exact obC_85 | omega | (simp only [aN1_62, aN1_88]; omega) | (simp only [List.length_cons, List.length_nil]; omega)) only [en148, x148_0, x148_1, x148_2, x148_3, x148_5, x148_6, x148_9, x148_12, x148_13, x148_14, x148_17, x148_18, x148_19, x148_20, x148_21, x148_24, x148_27, x148_28, fcn_59_2, fcn_85_2, if_true, if_false, eq_self, Int.reduceEq, Int.reduceLT, Int.reduceLE, Int.reduceAdd, Int.reduceSub, Int.reduceMul, Int.reduceToNat, Nat.reduceAdd, Nat.reduceMul, Nat.reduceEqDiff, Int.toNat_natCast, wrap_id, z0']
