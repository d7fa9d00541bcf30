theorem LV_up {s s' : Mem} {sg : List Sg} {lo : List Lo} {W : Nat → Nat} (g : ∀ k j, (12 ≤ k ∧ k ≤ 19 ∧ 220 ≤ j) ∨ (35 ≤ k ∧ k ≤ 40 ∧ 24 ≤ j) ∨ (41 ≤ k ∧ k ≤ 43 ∧ 1100 ≤ j) ∨ (k = 0 ∧ (j = 71 ∨ j = 72)) → s' k j = s k j) (h : LV s sg lo W) : LV s' sg lo W := by
  obtain ⟨h1, h2, h3, h4, h5, h6, h7, h8, h9⟩ := h
  have gs : ∀ k j, 12 ≤ k ∧ k ≤ 19 → sh s' k j = sh s k j := fun k j hk => by rw [sh_n hk, sh_n hk]; exact g k _ (by omega)
  have R : ∀ {e : Jvm.Term} {n : Nat}, RR (sh s) e n → RR (sh s') e n := fun r => RR_put r (fun k j hk _ _ => gs k j (by omega))
  have E : ∀ {e : Jvm.Term} {n : Nat}, WE (sh s) W e n → WE (sh s') W e n := fun r => WE_put r (fun j _ _ => gs _ j (by decide))
  have gn : ∀ k j, 35 ≤ k ∧ k ≤ 40 → s' k (24 + j) = s k (24 + j) := fun k j hk => g k _ (by omega)
  have gl : ∀ k j, 41 ≤ k ∧ k ≤ 43 → s' k (1100 + j) = s k (1100 + j) := fun k j hk => g k _ (by omega)
  refine ⟨by rw [g _ _ (by omega), h1], h2, by rw [g _ _ (by omega), h3], h4, fun j x hx => ?_, h6, h7, h8, fun i x hx => ?_⟩
  · obtain ⟨z1, z2, z3⟩ := h5 j x hx
    refine ⟨by rw [gl _ _ (by decide), z1], fun z => ?_, fun z => ?_⟩
    · rw [gl _ _ (by decide), gl _ _ (by decide)]
      exact ⟨(z2 z).1, (z2 z).2.imp id (fun ⟨n, y1, y2, y3, y4⟩ => ⟨n, y1, R y2, E y3, y4⟩)⟩
    · rw [gl _ _ (by decide)]
      obtain ⟨n, y1, y2, y3, y4⟩ := z3 z
      exact ⟨n, y1, R y2, E y3, y4⟩
  · obtain ⟨z1, z2, z3, z4, z5, z6, z7⟩ := h9 i x hx
    refine ⟨by rw [gn _ _ (by decide), z1], by rw [gn _ _ (by decide), z2], fun z => by rw [gn _ _ (by decide), z3 z], fun z => by rw [gn _ _ (by decide), z4 z], by rw [gn _ _ (by decide), z5], by rw [gn _ _ (by decide)]; exact z6, fun z => ?_⟩
    obtain ⟨n, y1, y2, y3, y4⟩ := z7 z
    exact ⟨n, by rw [gn _ _ (by decide), y1], R y2, E y3, y4⟩
/-- compile, on the reference's state -/
theorem t_compileRA {d : Nat} {s : Mem} {T : Tx} {w : Int} {cp : Bool} {lv : Live} {st val bf ch : Nat → Int} {ck cn : Int} (hd : 11 ≤ d) (hS : OKS T) (h : RA s T w cp lv st val bf ch ck cn) :
    ∃ (s' : Mem) (w' th : Int) (live : Option Live), CMP T w' th live ∧ s' 0 4 = th ∧ match live with
      | none => Zc d 46 [aR 0] s = rI 0 s' ∧ RA s' T w' cp lv st val bf ch ck cn
      | some lv' => ∃ st' val', Zc d 46 [aR 0] s = rI (lv'.1.length : Nat) s' ∧ (∀ j, j < lv'.1.length → st' j = 0) ∧ RA s' T w' true lv' st' val' (fun _ => 0) (fun _ => 0) 0 ((lv'.2.1.filter (fun x => x.1 == 0)).length : Nat) := by
  obtain ⟨h1, h2, h3, h4, h5, h6, h7, h8, h9, h10, h11, h12, h13, h14⟩ := h
  obtain ⟨s', w', th, live, c1, c2, c3, c4, c5, c6⟩ := t_compile (d := d) hd s h2 (by rw [h1]; exact hS)
  rw [h1] at c1 c4
  cases live with
  | none =>
    obtain ⟨z1, z2⟩ := c6
    refine ⟨s', w', th, none, c1, c3, z1, c4, c5, LV_up (fun k j hk => z2 _ _ (by unfold CPF; omega)) h3, c2, by rw [z2 _ _ (by unfold CPF; omega), h5], fun j hj => by rw [z2 _ _ (by unfold CPF; omega), h6 j hj], fun j hj => by rw [z2 _ _ (by unfold CPF; omega), h7 j hj], h8, h9, h10, h11, fun j hj => by rw [z2 _ _ (by unfold CPF; omega), z2 _ _ (by unfold CPF; omega)]; exact h12 j hj, by rw [z2 _ _ (by unfold CPF; omega), h13], by rw [z2 _ _ (by unfold CPF; omega), h14]⟩
  | some lv' =>
    obtain ⟨sg, lo, W⟩ := lv'
    obtain ⟨z1, z2, z3, z4, z5, z6, z7, val', z8, z9, z10⟩ := c6
    have l24 := z2.2.1
    refine ⟨s', w', th, some (sg, lo, W), c1, c3, fun j => s' 45 j, val', z1, fun j hj => (z6 j hj).1, c4, c5, z2, c2, z4, fun _ _ => rfl, z8, EV_st (fun g hg => (z6 g hg).1.symm) z9, z7, fun h hh => ?_, z10, fun j hj => ⟨(z6 j hj).2.1, (z6 j hj).2.2⟩, z3, z5⟩
    show iand (s' 45 h) _ = s' 45 h
    rw [(z6 h hh).1, iand_z]
theorem t_clear {d : Nat} {s : Mem} {T : Tx} {w : Int} {cp : Bool} {lv : Live} {st val bf ch : Nat → Int} {ck cn : Int} (hd : 1 ≤ d) (h : RA s T w cp lv st val bf ch ck cn) : ∃ s', Zc d 4 [aR 0] s = rI (T.2 : Nat) s' ∧ RA s' (T.1, 0) w cp lv st val bf ch ck cn ∧ s' 0 4 = 0 := by
  obtain ⟨d, rfl⟩ : ∃ e, d = e + 1 := ⟨d - 1, by omega⟩
  obtain ⟨h1, h2, h3, h4, h5, h6, h7, h8, h9, h10, h11, h12, h13, h14⟩ := h
  have hln : s 0 1 = (T.2 : Nat) := by
    obtain ⟨o1, -⟩ := h2
    rw [← h1]
    show s 0 1 = ((s 0 1).toNat : Int)
    omega
  generalize hs1 : mu (mu s 0 4 0) 0 1 0 = s1
  have F1 : ∀ k j, ¬ (k = 0 ∧ (j = 4 ∨ j = 1)) → s1 k j = s k j := by
    rw [← hs1]
    exact fun k j hn => ((Fr.rf s).mu (S := fun k j => k = 0 ∧ (j = 4 ∨ j = 1)) ⟨rfl, Or.inl rfl⟩).mu (S := fun k j => k = 0 ∧ (j = 4 ∨ j = 1)) ⟨rfl, Or.inr rfl⟩ k j hn
  have l1 : s1 0 1 = 0 := by rw [← hs1, mu_s]
  refine ⟨s1, ?_, ⟨?_, ?_, LV_put (fun k j hk => F1 _ _ (by omega)) h3, by rw [F1 _ _ (by omega), h4], by rw [F1 _ _ (by omega), h5], fun j hj => by rw [F1 _ _ (by omega), h6 j hj], fun j hj => by rw [F1 _ _ (by omega), h7 j hj], h8, h9, h10, h11, fun j hj => by rw [F1 _ _ (by omega), F1 _ _ (by omega)]; exact h12 j hj, by rw [F1 _ _ (by omega), h13], by rw [F1 _ _ (by omega), h14]⟩, by rw [← hs1, mu_i (by decide), mu_s]⟩
  · simp (disch := first | exact obC_0 | omega | (simp only [List.length_cons, List.length_nil]; omega)) only [en4, x4_0, x4_1, x4_2, x4_5, x4_6, x4_9, x4_10, x4_11, x4_12, x4_15, x4_16, if_true, if_false, eq_self, Int.reduceEq, Int.reduceLT, Int.reduceLE, Int.reduceAdd, Int.reduceSub, Int.reduceMul, Int.reduceToNat, Nat.reduceAdd, Nat.reduceMul, Nat.reduceEqDiff, Int.toNat_natCast, wrap_id, mu_i, hln, hs1]
  · rw [← h1]
    unfold tx
    rw [l1]
    refine congrArg (fun f => (f, _)) ?_
    funext i
    exact F1 _ _ (by omega)
  · obtain ⟨o1, o2, o3⟩ := h2
    unfold okT
    rw [l1]
    exact ⟨by omega, by omega, fun j hj => by omega⟩
/-- n clocks, one after another -/
def clkR (lv : Live) : Nat → (Nat → Int) → (Nat → Int) → (Nat → Int) → (Nat → Int) → Int → (Nat → Int) → (Nat → Int) → (Nat → Int) → (Nat → Int) → Int → Prop
  | 0, st, val, bf, ch, ck, st', val', bf', ch', ck' => st' = st ∧ val' = val ∧ bf' = bf ∧ ch' = ch ∧ ck' = ck
  | n + 1, st, val, bf, ch, ck, st', val', bf', ch', ck' => ∃ val1, EV lv.1 lv.2.1 lv.2.2 (stN lv.1 lv.2.1 lv.2.2 st val) val1 ∧ clkR lv n (stN lv.1 lv.2.1 lv.2.2 st val) val1 val (fun j => if val j = bf j then ch j else wrap (ch j + 1)) (wrap (ck + 1)) st' val' bf' ch' ck'
theorem ck_loop {d : Nat} {T : Tx} {w : Int} {cp : Bool} {lv : Live} {cn : Int} (hd : 6 ≤ d) : ∀ (m i n : Nat) (s : Mem) (st val bf ch : Nat → Int) (ck : Int), i + m = n → n ≤ 40 → RA s T w cp lv st val bf ch ck cn → s 0 4 = 0 →
    ∃ s' st' val' bf' ch' ck', Ze d 57 36 [aR 0, aI n, aI i] [] s = rI ck' s' ∧ clkR lv m st val bf ch ck st' val' bf' ch' ck' ∧ RA s' T w cp lv st' val' bf' ch' ck' cn ∧ s' 0 4 = 0 := by
  intro m
  induction m with
  | zero =>
    intro i n s st val bf ch ck hi hn h ht
    refine ⟨s, st, val, bf, ch, ck, ?_, ⟨rfl, rfl, rfl, rfl, rfl⟩, h, ht⟩
    have hck := h.2.2.2.2.2.2.2.2.2.2.2.2.1
    rw [x57_36]
    simp (disch := first | exact obC_0 | omega | (simp only [List.length_cons, List.length_nil]; omega)) only [en57, x57_0, x57_1, x57_2, x57_4, x57_7, x57_10, x57_11, x57_12, x57_15, x57_16, x57_17, x57_20, x57_23, x57_24, x57_25, x57_28, x57_29, x57_30, x57_31, x57_34, x57_35, x57_37, x57_38, x57_41, x57_42, x57_45, x57_48, x57_51, x57_52, x57_55, if_true, if_false, eq_self, Int.reduceEq, Int.reduceLT, Int.reduceLE, Int.reduceAdd, Int.reduceSub, Int.reduceMul, Int.reduceToNat, Nat.reduceAdd, Nat.reduceMul, Nat.reduceEqDiff, Int.toNat_natCast, wrap_id, hck, if_neg (show ¬ (i : Int) < n by omega)]
  | succ m ih =>
    intro i n s st val bf ch ck hi hn h ht
    obtain ⟨s1, val1, q1, q2, q3⟩ := t_tick (d := d) hd h
    obtain ⟨s', st', val', bf', ch', ck', p1, p2, p3, p4⟩ := ih (i + 1) n s1 _ _ _ _ _ (by omega) hn q2 (by rw [q3, ht])
    refine ⟨s', st', val', bf', ch', ck', Eq.trans ?_ p1, ⟨val1, q2.2.2.2.2.2.2.2.1, p2⟩, p3, p4⟩
    rw [show ((i + 1 : Nat) : Int) = (i : Int) + 1 by omega, x57_36]
    simp (disch := first | exact obC_0 | omega | (simp only [List.length_cons, List.length_nil]; omega)) only [en57, x57_0, x57_1, x57_2, x57_4, x57_7, x57_10, x57_11, x57_12, x57_15, x57_16, x57_17, x57_20, x57_23, x57_24, x57_25, x57_28, x57_29, x57_30, x57_31, x57_34, x57_35, x57_37, x57_38, x57_41, x57_42, x57_45, x57_48, x57_51, x57_52, x57_55, if_true, if_false, eq_self, Int.reduceEq, Int.reduceLT, Int.reduceLE, Int.reduceAdd, Int.reduceSub, Int.reduceMul, Int.reduceToNat, Nat.reduceAdd, Nat.reduceMul, Nat.reduceEqDiff, Int.toNat_natCast, wrap_id, q1, zcV_r, if_pos (show (i : Int) < n by omega)]
theorem t_clock {d : Nat} {n : Int} {s : Mem} {T : Tx} {w : Int} {cp : Bool} {lv : Live} {st val bf ch : Nat → Int} {ck cn : Int} (hd : 7 ≤ d) (h : RA s T w cp lv st val bf ch ck cn) :
    ((1 ≤ n ∧ n ≤ 40) → cp = true → ∃ s' st' val' bf' ch' ck', Zc d 57 [aR 0, aI n] s = rI ck' s' ∧ clkR lv n.toNat st val bf ch ck st' val' bf' ch' ck' ∧ RA s' T w cp lv st' val' bf' ch' ck' cn ∧ s' 0 4 = 0) ∧
    ((1 ≤ n ∧ n ≤ 40) → cp = false → ∃ s', Zc d 57 [aR 0, aI n] s = rI 0 s' ∧ RA s' T w cp lv st val bf ch ck cn ∧ s' 0 4 = 2) ∧
    (¬ (1 ≤ n ∧ n ≤ 40) → ∃ s', Zc d 57 [aR 0, aI n] s = rI 0 s' ∧ RA s' T w cp lv st val bf ch ck cn ∧ s' 0 4 = 1) := by
  obtain ⟨d, rfl⟩ : ∃ e, d = e + 1 := ⟨d - 1, by omega⟩
  have hcp := h.2.2.2.2.1
  refine ⟨fun hn hc => ?_, fun hn hc => ?_, fun hn => ?_⟩
  · subst hc
    have hcp : s 0 75 = 1 := hcp
    have e : (if 1 ≤ n ∧ n ≤ 40 then (1 : Int) else 0) = 1 := if_pos hn
    obtain ⟨k, rfl⟩ : ∃ k : Nat, n = k := ⟨n.toNat, by omega⟩
    rw [Int.toNat_natCast]
    obtain ⟨s', st', val', bf', ch', ck', p1, p2, p3, p4⟩ := ck_loop (d := d) (by omega) k 0 k (mu s 0 4 0) st val bf ch ck (Nat.zero_add _) (by omega) (RA_put thr_fr h) mu_s
    refine ⟨s', st', val', bf', ch', ck', Eq.trans ?_ p1, p2, p3, p4⟩
    rw [show ((0 : Nat) : Int) = 0 from rfl]
    simp (disch := first | exact obC_0 | omega | (simp only [List.length_cons, List.length_nil]; omega)) only [en57, x57_0, x57_1, x57_2, x57_4, x57_7, x57_10, x57_11, x57_12, x57_15, x57_16, x57_17, x57_20, x57_23, x57_24, x57_25, x57_28, x57_29, x57_30, x57_31, x57_34, x57_35, x57_37, x57_38, x57_41, x57_42, x57_45, x57_48, x57_51, x57_52, x57_55, if_true, if_false, eq_self, Int.reduceEq, Int.reduceLT, Int.reduceLE, Int.reduceAdd, Int.reduceSub, Int.reduceMul, Int.reduceToNat, Nat.reduceAdd, Nat.reduceMul, Nat.reduceEqDiff, Int.toNat_natCast, wrap_id, t_in (d := d) (by omega), e, zcI_r, hcp]
  · subst hc
    have hcp : s 0 75 = 0 := hcp
    have e : (if 1 ≤ n ∧ n ≤ 40 then (1 : Int) else 0) = 1 := if_pos hn
    refine ⟨mu s 0 4 2, ?_, RA_put thr_fr h, mu_s⟩
    simp (disch := first | exact obC_0 | omega | (simp only [List.length_cons, List.length_nil]; omega)) only [en57, x57_0, x57_1, x57_2, x57_4, x57_7, x57_10, x57_11, x57_12, x57_15, x57_16, x57_17, x57_20, x57_23, x57_24, x57_25, x57_28, x57_29, x57_30, x57_31, x57_34, x57_35, x57_37, x57_38, x57_41, x57_42, x57_45, x57_48, x57_51, x57_52, x57_55, if_true, if_false, eq_self, Int.reduceEq, Int.reduceLT, Int.reduceLE, Int.reduceAdd, Int.reduceSub, Int.reduceMul, Int.reduceToNat, Nat.reduceAdd, Nat.reduceMul, Nat.reduceEqDiff, Int.toNat_natCast, wrap_id, t_in (d := d) (by omega), e, zcI_r, hcp, t_fail (d := d) (by omega)]
  · have e : (if 1 ≤ n ∧ n ≤ 40 then (1 : Int) else 0) = 0 := if_neg hn
    refine ⟨mu s 0 4 1, ?_, RA_put thr_fr h, mu_s⟩
    simp (disch := first | exact obC_0 | omega | (simp only [List.length_cons, List.length_nil]; omega)) only [en57, x57_0, x57_1, x57_2, x57_4, x57_7, x57_10, x57_11, x57_12, x57_15, x57_16, x57_17, x57_20, x57_23, x57_24, x57_25, x57_28, x57_29, x57_30, x57_31, x57_34, x57_35, x57_37, x57_38, x57_41, x57_42, x57_45, x57_48, x57_51, x57_52, x57_55, if_true, if_false, eq_self, Int.reduceEq, Int.reduceLT, Int.reduceLE, Int.reduceAdd, Int.reduceSub, Int.reduceMul, Int.reduceToNat, Nat.reduceAdd, Nat.reduceMul, Nat.reduceEqDiff, Int.toNat_natCast, wrap_id, t_in (d := d) (by omega), e, zcI_r, t_fail (d := d) (by omega)]
