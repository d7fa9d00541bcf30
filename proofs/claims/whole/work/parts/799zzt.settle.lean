/-! THE CLASS: what is worked out -/
theorem vF_ini {val : Nat → Int} {W : Nat → Nat} {a b : Int} : ∀ {t : Jvm.Term}, ini t = true → vF val W a t = vF val W b t := by
  intro t
  fun_induction vF val W a t with
  | case1 c x y h ih =>
    intro hi
    have hi' : ini x = true ∧ ini y = true := by
      have : (ini x && ini y) = true := hi
      simpa using this
    rw [ih hi'.2]
    show _ = if vE val W c = 0 then _ else _
    rw [if_pos h]
  | case2 c x y h ih =>
    intro hi
    have hi' : ini x = true ∧ ini y = true := by
      have : (ini x && ini y) = true := hi
      simpa using this
    rw [ih hi'.1]
    show _ = if vE val W c = 0 then _ else _
    rw [if_neg h]
  | case3 => intro hi; cases hi
  | case4 e h1 h2 =>
    intro _
    unfold vF
    split
    · exact absurd rfl (h1 _ _ _)
    · exact absurd rfl h2
    · rfl
/-- the circuit's static part, as the class has it -/
def CIR (s : Mem) (o N K : Nat) (sg : List Sg) (lo : List Lo) (W : Nat → Nat) : Prop := SGA s o sg ∧ SWc s o sg.length W ∧ WAc s o W N ∧ N ≤ 225 ∧ s (58 + o) 6 = K ∧ K ≤ 840 ∧ (∀ (g : Nat) (x : Sg), sg[g]? = some x → isSk x.1 x.2.2.1 ∨ x.1 = 4 → ∃ v : Nat, s (77 + o) g = v ∧ CD s o N sg.length (form sg lo g) v K) ∧ ND s o sg lo
def RUNF (o k j : Nat) : Prop := k = 73 + o ∨ (79 + o ≤ k ∧ k ≤ 83 + o) ∨ (k = 58 + o ∧ (j = 10 ∨ j = 15))
theorem CIR_put {s s' : Mem} {o N K : Nat} {sg : List Sg} {lo : List Lo} {W : Nat → Nat} (ho : o = 0 ∨ o = 26) (h : CIR s o N K sg lo W) (f : Fr (RUNF o) s s') : CIR s' o N K sg lo W := by
  obtain ⟨h1, h2, h3, h4, h5, h6, h7, h8⟩ := h
  refine ⟨SGA_put h1 (f _ _ (by unfold RUNF; omega)) (fun j => ⟨f _ _ (by unfold RUNF; omega), f _ _ (by unfold RUNF; omega)⟩), fun g hg => by rw [f _ _ (by unfold RUNF; omega)]; exact h2 g hg, WAc_fr h3 (fun k j hk => f _ _ (by unfold RUNF; omega)), h4, by rw [f _ _ (by unfold RUNF; omega), h5], h6, fun g x hx hs => ?_, ND_put h8 (fun j => f _ _ (by unfold RUNF; omega))⟩
  obtain ⟨v, v1, v2⟩ := h7 g x hx hs
  exact ⟨v, by rw [f _ _ (by unfold RUNF; omega), v1], CD_put (K0 := K) (fun k j hk _ _ => f _ _ (by unfold RUNF; omega)) (fun c j c1 c2 _ => f _ _ (by unfold RUNF; omega)) K _ v K (Nat.le_refl _) (Nat.le_refl _) v2⟩
/-- what is known of the circuit's text alone -/
def SPC (sg : List Sg) (lo : List Lo) (W : Nat → Nat) : Prop := AIN sg lo ∧ (∀ g h, dpd sg lo g h → h < sg.length) ∧ (∀ (g : Nat) (x : Sg), sg[g]? = some x → x.1 = 4 → nel x.2.2.2.2 ∧ x.2.2.2.2 ≠ .null ∧ wE W x.2.2.2.2 = W g)
noncomputable def rhC (sg : List Sg) (lo : List Lo) (W : Nat → Nat) (val : Nat → Int) (g : Nat) : Int := iand (vF val W 0 (form sg lo g)) (msk (W g))
theorem rhC_eq {sg : List Sg} {lo : List Lo} {W : Nat → Nat} {val val' : Nat → Int} {g : Nat} {x : Sg} (hx : sg[g]? = some x) (hs : isSk x.1 x.2.2.1 ∨ x.1 = 4) (h : ∀ q, dpd sg lo g q → val q = val' q) : rhC sg lo W val g = rhC sg lo W val' g := by
  unfold rhC
  rw [vF_eq (fun q hq => h q ⟨x, hx, hs, hq⟩)]
theorem rhC_rhs {sg : List Sg} {lo : List Lo} {W : Nat → Nat} {st val : Nat → Int} {g : Nat} {x : Sg} (hP : SPC sg lo W) (hx : sg[g]? = some x) (hb : ¬ bas x) : rhC sg lo W val g = rhs sg lo W st val g x := by
  obtain ⟨p1, p2, p3⟩ := hP
  have hs : isSk x.1 x.2.2.1 ∨ x.1 = 4 := Classical.byContradiction fun z => hb (Or.inr ⟨fun y => z (Or.inr y), fun y => z (Or.inl y)⟩)
  have hi := p1 g x hx hs
  unfold rhC rhs
  unfold form at hi ⊢
  rw [hx] at hi ⊢
  dsimp only at hi ⊢
  by_cases h4 : x.1 = 4
  · obtain ⟨q1, q2, q3⟩ := p3 g x hx h4
    rw [if_pos h4, if_pos h4, vF_src q2 (fun c a b z => by rw [z] at q1; exact q1.elim), ← q3, vE_mask]
  · have h3 : ¬ x.1 = 3 := fun z => hb (Or.inl z)
    rw [if_neg h4, if_neg h3] at hi ⊢
    rw [if_neg h4, vF_ini hi]
theorem st_one {d o i n g : Nat} {c : Int} {s s1 : Mem} (ho : o = 0 ∨ o = 26) (hn : s (58 + o) 10 = n) (hi : i < n) (hn2 : n ≤ 24) (hg : s (79 + o) i = g) (hg2 : g < 24) (e : Zc d 95 [aR (58 + o), aI g] s = rI c s1) : Ze d 94 2 [aR (58 + o), aI i] [] s = Ze d 94 2 [aR (58 + o), aI ((i + 1 : Nat) : Int)] [] (mu s1 (80 + o) g c) := by
  rw [x94_2, show ((i + 1 : Nat) : Int) = (i : Int) + 1 from rfl]
  simp (disch := first | exact (obCO_58 ho) | omega | (simp only [(aN1O_79 ho), (aN1O_80 ho)]; omega) | (simp only [List.length_cons, List.length_nil]; omega)) only [en94, x94_0, x94_1, x94_3, x94_4, x94_7, x94_10, x94_11, x94_14, x94_15, x94_18, x94_19, x94_20, x94_21, x94_22, x94_25, x94_26, x94_27, x94_30, x94_31, x94_34, x94_37, (fcnO_58_11 ho), (fcnO_58_9 ho), if_true, if_false, eq_self, Int.reduceEq, Int.reduceLT, Int.reduceLE, Int.reduceAdd, Int.reduceSub, Int.reduceMul, Int.reduceToNat, Nat.reduceAdd, Nat.reduceMul, Nat.reduceEqDiff, Int.toNat_natCast, wrap_id, hn, if_pos (show (i : Int) < n by omega), hg, e, zcI_r]
theorem st_end {d o n : Nat} {s : Mem} (ho : o = 0 ∨ o = 26) (hn : s (58 + o) 10 = n) : Ze d 94 2 [aR (58 + o), aI n] [] s = rV s := by
  rw [x94_2]
  simp (disch := first | exact (obCO_58 ho) | omega | (simp only [(aN1O_79 ho), (aN1O_80 ho)]; omega) | (simp only [List.length_cons, List.length_nil]; omega)) only [en94, x94_0, x94_1, x94_3, x94_4, x94_7, x94_10, x94_11, x94_14, x94_15, x94_18, x94_19, x94_20, x94_21, x94_22, x94_25, x94_26, x94_27, x94_30, x94_31, x94_34, x94_37, (fcnO_58_11 ho), (fcnO_58_9 ho), if_true, if_false, eq_self, Int.reduceEq, Int.reduceLT, Int.reduceLE, Int.reduceAdd, Int.reduceSub, Int.reduceMul, Int.reduceToNat, Nat.reduceAdd, Nat.reduceMul, Nat.reduceEqDiff, Int.toNat_natCast, wrap_id, hn, if_neg (show ¬ (n : Int) < n by omega)]
def SEF (o k _j : Nat) : Prop := k = 73 + o ∨ k = 80 + o
theorem SEF_R {o : Nat} {s s' : Mem} (f : Fr (SEF o) s s') : Fr (RUNF o) s s' := f.mono (fun _ _ h => by unfold SEF at h; unfold RUNF; omega)
theorem se_loop {d o N K : Nat} {sg : List Sg} {lo : List Lo} {W : Nat → Nat} {l : List Nat} (hd : 4 ≤ d) (ho : o = 0 ∨ o = 26) (hP : SPC sg lo W) (hl : OL sg lo l) : ∀ (m i : Nat) (s : Mem) (val : Nat → Int), i + m = l.length → CIR s o N K sg lo W → OM s o l → (∀ g, g < 24 → s (80 + o) g = val g) → (∀ g, g < sg.length → iand (val g) (msk (W g)) = val g) → (∀ (j x : Nat), j < i → l[j]? = some x → val x = rhC sg lo W val x) →
    ∃ s' val', Ze d 94 2 [aR (58 + o), aI i] [] s = rV s' ∧ (∀ g, g < 24 → s' (80 + o) g = val' g) ∧ (∀ g, g < sg.length → iand (val' g) (msk (W g)) = val' g) ∧ (∀ x, x ∈ l → val' x = rhC sg lo W val' x) ∧ (∀ g, g ∉ l → val' g = val g) ∧ Fr (SEF o) s s' := by
  intro m
  induction m with
  | zero =>
    intro i s val hi hC hO hv hm hr
    have : i = l.length := by omega
    subst this
    refine ⟨s, val, st_end ho hO.1, hv, hm, fun x hx => ?_, fun _ _ => rfl, Fr.rf s⟩
    obtain ⟨j, hj⟩ := List.getElem?_of_mem hx
    exact hr j x (List.getElem?_eq_some_iff.mp hj).1 hj
  | succ m ih =>
    intro i s val hi hC hO hv hm hr
    have hil : i < l.length := by omega
    have hg := List.getElem?_eq_getElem hil
    generalize l[i] = g at hg
    obtain ⟨c1, c2, c3, c4, c5, c6, c7, c8⟩ := hC
    have hL := c1.2.1
    obtain ⟨g1, g2, g3⟩ := hl.2 i g hg
    have hx := List.getElem?_eq_getElem g1
    generalize sg[g] = x at hx
    have hnb : ¬ bas x := fun z => g2 ⟨x, hx, z⟩
    have hs : isSk x.1 x.2.2.1 ∨ x.1 = 4 := Classical.byContradiction fun z => hnb (Or.inr ⟨fun y => z (Or.inr y), fun y => z (Or.inl y)⟩)
    obtain ⟨v, v1, v2⟩ := c7 g x hx hs
    obtain ⟨s1, a1, a2⟩ := k_resultOf (d := d) (k := g) (val := val) (W := W) (w := W g) 0 hd ho c4 hL (by omega) c6 hm (hP.1 g x hx hs) v1 v2 c3 hv c5 (c2 g g1).1
    have e1 := st_one (d := d) (i := i) ho hO.1 hil (Nat.le_trans (OL_le hl) hL) (hO.2 i g hg) (by omega) a1
    have F : Fr (SEF o) s (mu s1 (80 + o) g (iand (vF val W 0 (form sg lo g)) (msk (W g)))) := Fr.mu (a2.mono (fun _ _ h => Or.inl h)) (Or.inr rfl)
    have hval' : ∀ q, q < 24 → mu s1 (80 + o) g (iand (vF val W 0 (form sg lo g)) (msk (W g))) (80 + o) q = if q = g then rhC sg lo W val g else val q := fun q hq => by
      by_cases hqg : q = g
      · rw [if_pos hqg, hqg, mu_s]; rfl
      · rw [if_neg hqg, mu_i hqg, a2 _ _ (by unfold HX; omega)]
        exact hv q hq
    have same : ∀ (j y : Nat), j ≤ i → l[j]? = some y → rhC sg lo W (fun q => if q = g then rhC sg lo W val g else val q) y = rhC sg lo W val y := fun j y hj hy => by
      obtain ⟨y1, y2, y3⟩ := hl.2 j y hy
      have hyx := List.getElem?_eq_getElem y1
      have hnb' : ¬ bas sg[y] := fun z => y2 ⟨_, hyx, z⟩
      refine rhC_eq hyx (Classical.byContradiction fun z => hnb' (Or.inr ⟨fun w => z (Or.inr w), fun w => z (Or.inl w)⟩)) (fun q hq => ?_)
      have : q ≠ g := fun z => by
        rcases y3 q hq with w | w
        · exact g2 (z ▸ w)
        · rw [z] at w
          obtain ⟨p, hp⟩ := List.getElem?_of_mem w
          have hpl := (List.getElem?_eq_some_iff.mp hp).1
          rw [List.length_take] at hpl
          rw [List.getElem?_take_of_lt (by omega)] at hp
          have : p = i := (List.getElem?_inj (by omega) hl.1).mp (hp.trans hg.symm)
          omega
      simp only [if_neg this]
    obtain ⟨s', val', b1, b2, b3, b4, b5, b6⟩ := ih (i + 1) _ (fun q => if q = g then rhC sg lo W val g else val q) (by omega) (CIR_put ho ⟨c1, c2, c3, c4, c5, c6, c7, c8⟩ (SEF_R F)) ⟨by rw [F _ _ (by unfold SEF; omega)]; exact hO.1, fun j y hy => by rw [F _ _ (by unfold SEF; omega)]; exact hO.2 j y hy⟩ hval' (fun q hq => by
      by_cases hqg : q = g
      · simp only [if_pos hqg]
        rw [hqg]
        exact iand_idem _ _
      · simp only [if_neg hqg]
        exact hm q hq) (fun j y hj hy => by
      rw [same j y (by omega) hy]
      by_cases hji : j = i
      · subst hji
        rw [hg] at hy
        injection hy with hy
        simp only [hy, if_true]
      · have hyg : y ≠ g := fun z => by
          rw [z] at hy
          exact hji ((List.getElem?_inj (by omega) hl.1).mp (hy.trans hg.symm))
        simp only [if_neg hyg]
        exact hr j y (by omega) hy)
    refine ⟨s', val', by rw [e1, b1], b2, b3, b4, fun q hq => ?_, F.tr b6⟩
    have hqg : q ≠ g := fun z => hq (z ▸ List.mem_of_getElem? hg)
    rw [b5 q hq, if_neg hqg]
theorem k_settle {d o N K : Nat} {sg : List Sg} {lo : List Lo} {W : Nat → Nat} {l : List Nat} {st val : Nat → Int} {s : Mem} (hd : 5 ≤ d) (ho : o = 0 ∨ o = 26) (hP : SPC sg lo W) (hl : OL sg lo l) (hcov : ∀ g, g < sg.length → basg sg g ∨ g ∈ l) (hC : CIR s o N K sg lo W) (hO : OM s o l) (hv : ∀ g, g < 24 → s (80 + o) g = val g) (hm : ∀ g, g < sg.length → iand (val g) (msk (W g)) = val g) (hst : ∀ g, g < sg.length → basg sg g → val g = st g) :
    ∃ s' val', Zc d 94 [aR (58 + o)] s = rV s' ∧ (∀ g, g < 24 → s' (80 + o) g = val' g) ∧ (∀ g, g < sg.length → iand (val' g) (msk (W g)) = val' g) ∧ EV sg lo W st val' ∧ (∀ g, sg.length ≤ g → val' g = val g) ∧ Fr (SEF o) s s' := by
  obtain ⟨d, rfl⟩ : ∃ e, d = e + 1 := ⟨d - 1, by omega⟩
  have e0 : Zc (d + 1) 94 [aR (58 + o)] s = Ze d 94 2 [aR (58 + o), aI ((0 : Nat) : Int)] [] s := by
    have z0 : ((0 : Nat) : Int) = 0 := rfl
    simp (disch := first | exact obC_58 | exact obC_84 | omega | (simp only [aN1_105, aN1_106, aN1_79, aN1_80]; omega) | (simp only [List.length_cons, List.length_nil]; omega)) only [en94, x94_0, x94_1, x94_3, x94_4, x94_7, x94_10, x94_11, x94_14, x94_15, x94_18, x94_19, x94_20, x94_21, x94_22, x94_25, x94_26, x94_27, x94_30, x94_31, x94_34, x94_37, fcn_58_11, fcn_58_9, fcn_84_11, fcn_84_9, if_true, if_false, eq_self, Int.reduceEq, Int.reduceLT, Int.reduceLE, Int.reduceAdd, Int.reduceSub, Int.reduceMul, Int.reduceToNat, Nat.reduceAdd, Nat.reduceMul, Nat.reduceEqDiff, Int.toNat_natCast, wrap_id, z0]
  obtain ⟨s', val', a1, a2, a3, a4, a5, a6⟩ := se_loop (d := d) (by omega) ho hP hl l.length 0 s val (Nat.zero_add _) hC hO hv hm (fun j x hj => by omega)
  have hlb : ∀ x, x ∈ l → x < sg.length ∧ ¬ basg sg x := fun x hx => by
    obtain ⟨i, hi⟩ := List.getElem?_of_mem hx
    exact ⟨(hl.2 i x hi).1, (hl.2 i x hi).2.1⟩
  refine ⟨s', val', by rw [e0, a1], a2, a3, fun g x hx => ⟨fun hb => ?_, fun hb => ?_⟩, fun g hg => a5 g (fun z => by have := (hlb g z).1; omega), a6⟩
  · have hgl := (List.getElem?_eq_some_iff.mp hx).1
    rw [a5 g (fun z => (hlb g z).2 ⟨x, hx, hb⟩)]
    exact hst g hgl ⟨x, hx, hb⟩
  · have hgl := (List.getElem?_eq_some_iff.mp hx).1
    have hin := (hcov g hgl).resolve_left (fun z => hb ((basg_x hx).mp z))
    rw [a4 g hin]
    exact rhC_rhs hP hx hb
