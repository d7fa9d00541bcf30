/-! THE CLASS: sinks that are not connected on every path -/
theorem q_and {a b : Nat} (ha : a < 2 ^ 25) (hb : b < 2 ^ 25) : iand a b = ((a &&& b : Nat) : Int) := by
  have hab : a &&& b < 2 ^ 25 := Nat.lt_of_le_of_lt Nat.and_le_left ha
  rw [iand_def, b_i32, b_i32]
  have : nI a &&& nI b = nI (a &&& b) := by
    apply Int32.toBitVec_inj.mp
    rw [Int32.toBitVec_and]
    apply BitVec.eq_of_toNat_eq
    rw [BitVec.toNat_and, pk_tn (by omega), pk_tn (by omega), pk_tn (by omega)]
  rw [this, nI_toInt (by omega)]
theorem and_2p (n i : Nat) : n &&& 2 ^ i = if n.testBit i = true then 2 ^ i else 0 := by
  apply Nat.eq_of_testBit_eq
  intro j
  rw [Nat.testBit_and, Nat.testBit_two_pow]
  by_cases h : i = j
  · subst h
    cases hb : n.testBit i with
    | true => rw [if_pos rfl, Nat.testBit_two_pow]; rfl
    | false => rw [if_neg (by decide), Nat.zero_testBit]; rfl
  · have h0 : decide (i = j) = false := by simpa using h
    rw [h0, Bool.and_false]
    split
    · rw [Nat.testBit_two_pow, h0]
    · rw [Nat.zero_testBit]
theorem BU_24 {v : Int} {t : Jvm.Term} (h : BU v t) : iand v 16777216 = if ini t = true then 0 else 16777216 := by
  obtain ⟨n, rfl, h2, h3⟩ := h
  have h4 := h3 24 (by decide)
  have e1 : (16777216 : Int) = ((2 ^ 24 : Nat) : Int) := by decide
  have e2 := and_2p n 24
  rw [e1, q_and h2 (by decide), e2]
  unfold uo at h4
  cases hi : ini t with
  | true =>
    have : n.testBit 24 = false := by
      cases hb : n.testBit 24 with
      | false => rfl
      | true =>
        rcases h4.mp hb with z | z
        · omega
        · rw [hi] at z; cases z.2
    rw [this]
    rfl
  | false =>
    have : n.testBit 24 = true := h4.mpr (Or.inr ⟨rfl, hi⟩)
    rw [this]
    rfl
/-- the needs of the signals, as the class has them -/
def ND (s : Mem) (o : Nat) (sg : List Sg) (lo : List Lo) : Prop := ∀ (g : Nat) (x : Sg), sg[g]? = some x → (isSk x.1 x.2.2.1 ∨ x.1 = 4 → BU (s (78 + o) g) (form sg lo g)) ∧ (¬ (isSk x.1 x.2.2.1 ∨ x.1 = 4) → s (78 + o) g = 0)
theorem ND_put {s s' : Mem} {o : Nat} {sg : List Sg} {lo : List Lo} (h : ND s o sg lo) (f : ∀ j, s' (78 + o) j = s (78 + o) j) : ND s' o sg lo := fun g x hx => by
  rw [f]
  exact h g x hx
theorem FD_ND {s : Mem} {o N L K : Nat} {sg : List Sg} {lo : List Lo} (hw : wfB [] lo) (h : ∀ (g : Nat) (x : Sg), sg[g]? = some x → FD s o N L K sg (nrmL [] lo) g x) : ND s o sg lo := fun g x hx => by
  obtain ⟨h1, h2⟩ := h g x hx
  rw [form_nrm hw] at h1
  exact ⟨fun z => (h1 z).2, h2⟩
/-- registers and nodes are always connected -/
def HI (sg : List Sg) (lo : List Lo) : Prop := ∀ (g : Nat) (x : Sg), sg[g]? = some x → x.1 = 3 ∨ x.1 = 4 → ini (form sg lo g) = true
theorem ini_lwF {g : Nat} : ∀ (lo : List Lo) (now : Jvm.Term) (st : List Fm), (∀ x, x ∈ lo → x.1 = 0 → ini x.2.2 = true) → ini now = true → (∀ f, f ∈ st → ini f.1 = true ∧ ∀ t, f.2.1 = some t → ini t = true) → ini (lwF g lo now st) = true := by
  intro lo
  induction lo with
  | nil => intro now st _ h _; exact h
  | cons x r ih =>
    intro now st hl hn hs
    obtain ⟨k, sk, e⟩ := x
    have hl' : ∀ x, x ∈ r → x.1 = 0 → ini x.2.2 = true := fun x hx => hl x (List.mem_cons_of_mem _ hx)
    rcases k with _ | _ | _ | _ | k
    · rw [lwF]
      split
      · refine ih _ _ hl' (hl _ List.mem_cons_self rfl) (fun f hf => ?_)
        obtain ⟨y, hy, rfl⟩ := List.mem_map.mp hf
        exact hs y hy
      · exact ih _ _ hl' hn hs
    · rw [lwF]
      exact ih _ _ hl' hn (fun f hf => (List.mem_cons.mp hf).elim (fun z => by rw [z]; exact ⟨hn, fun t ht => by cases ht⟩) (hs f))
    · cases st with
      | nil => exact ih _ _ hl' hn hs
      | cons f st =>
        rw [lwF]
        have hf := hs f List.mem_cons_self
        exact ih _ _ hl' hf.1 (fun f' hf' => (List.mem_cons.mp hf').elim (fun z => by rw [z]; exact ⟨hf.1, fun t ht => by injection ht with ht; rw [← ht]; exact hn⟩) (fun z => hs f' (List.mem_cons_of_mem _ z)))
    · cases st with
      | nil => exact ih _ _ hl' hn hs
      | cons f st =>
        rw [lwF]
        have hf := hs f List.mem_cons_self
        refine ih _ _ hl' ?_ (fun f' hf' => hs f' (List.mem_cons_of_mem _ hf'))
        unfold fmC
        split
        · split
          · show (ini now && ini f.1) = true
            rw [hn, hf.1]; rfl
          next t ht =>
            show (ini t && ini now) = true
            rw [hn, hf.2 t ht]; rfl
        · exact hn
    · exact ih _ _ hl' hn hs
theorem nel_ini {e : Jvm.Term} (h : nel e) (h2 : e ≠ .null) : ini e = true := by
  unfold ini
  split
  · exact absurd rfl h2
  · exact h.elim
  · rfl
theorem HI_of {sg : List Sg} {lo : List Lo} (h0 : src0 lo) (hs : ∀ x, x ∈ sg → SGI sg.length x) : HI sg lo := by
  intro g x hx h
  unfold form
  rw [hx]
  dsimp only
  by_cases h4 : x.1 = 4
  · rw [if_pos h4]
    obtain ⟨-, s2, -, -, s5⟩ := hs x (List.mem_of_getElem? hx)
    exact nel_ini s5 (s2.mp h4)
  · rw [if_neg h4, if_pos (h.resolve_right h4)]
    refine ini_lwF lo _ [] (fun x hx h => ?_) rfl (fun f hf => by simp at hf)
    obtain ⟨j, hj⟩ := List.getElem?_of_mem hx
    exact h0 j x hj h
theorem lu_no {d o k L : Nat} {s : Mem} (ho : o = 0 ∨ o = 26) (hu : s (59 + o) 6 = L) (hk : k < L) (hL : L ≤ 24) (h : iand (s (78 + o) k) 16777216 = 0) : Ze d 110 2 [aR 137, aR (58 + o), aI k] [] s = Ze d 110 2 [aR 137, aR (58 + o), aI ((k + 1 : Nat) : Int)] [] s := by
  rw [x110_2, show ((k + 1 : Nat) : Int) = (k : Int) + 1 from rfl]
  simp (disch := first | exact (obCO_58 ho) | exact (obCO_59 ho) | omega | (simp only [(aN1O_78 ho)]; omega) | (simp only [List.length_cons, List.length_nil]; omega)) only [en110, x110_0, x110_1, x110_3, x110_4, x110_7, x110_10, x110_13, x110_14, x110_17, x110_18, x110_19, x110_21, x110_22, x110_25, x110_26, x110_27, x110_30, x110_33, x110_34, (fcnO_58_0 ho), (fcnO_58_8 ho), if_true, if_false, eq_self, Int.reduceEq, Int.reduceLT, Int.reduceLE, Int.reduceAdd, Int.reduceSub, Int.reduceMul, Int.reduceToNat, Nat.reduceAdd, Nat.reduceMul, Nat.reduceEqDiff, Int.toNat_natCast, wrap_id, hu, if_pos (show (k : Int) < L by omega), h]
theorem lu_yes {d o k L : Nat} {s : Mem} (ho : o = 0 ∨ o = 26) (hu : s (59 + o) 6 = L) (hk : k < L) (hL : L ≤ 24) (h : iand (s (78 + o) k) 16777216 = 16777216) : Ze d 110 2 [aR 137, aR (58 + o), aI k] [] s = rI k s := by
  rw [x110_2]
  simp (disch := first | exact (obCO_58 ho) | exact (obCO_59 ho) | omega | (simp only [(aN1O_78 ho)]; omega) | (simp only [List.length_cons, List.length_nil]; omega)) only [en110, x110_0, x110_1, x110_3, x110_4, x110_7, x110_10, x110_13, x110_14, x110_17, x110_18, x110_19, x110_21, x110_22, x110_25, x110_26, x110_27, x110_30, x110_33, x110_34, (fcnO_58_0 ho), (fcnO_58_8 ho), if_true, if_false, eq_self, Int.reduceEq, Int.reduceLT, Int.reduceLE, Int.reduceAdd, Int.reduceSub, Int.reduceMul, Int.reduceToNat, Nat.reduceAdd, Nat.reduceMul, Nat.reduceEqDiff, Int.toNat_natCast, wrap_id, hu, if_pos (show (k : Int) < L by omega), h, if_neg (show ¬ (16777216 : Int) = 0 by decide)]
theorem lu_end {d o L : Nat} {s : Mem} (ho : o = 0 ∨ o = 26) (hu : s (59 + o) 6 = L) : Ze d 110 2 [aR 137, aR (58 + o), aI L] [] s = rI (-1) s := by
  rw [x110_2]
  simp (disch := first | exact (obCO_58 ho) | exact (obCO_59 ho) | omega | (simp only [(aN1O_78 ho)]; omega) | (simp only [List.length_cons, List.length_nil]; omega)) only [en110, x110_0, x110_1, x110_3, x110_4, x110_7, x110_10, x110_13, x110_14, x110_17, x110_18, x110_19, x110_21, x110_22, x110_25, x110_26, x110_27, x110_30, x110_33, x110_34, (fcnO_58_0 ho), (fcnO_58_8 ho), if_true, if_false, eq_self, Int.reduceEq, Int.reduceLT, Int.reduceLE, Int.reduceAdd, Int.reduceSub, Int.reduceMul, Int.reduceToNat, Nat.reduceAdd, Nat.reduceMul, Nat.reduceEqDiff, Int.toNat_natCast, wrap_id, hu, if_neg (show ¬ (L : Int) < L by omega)]
theorem unset_iff {sg : List Sg} {lo : List Lo} (hH : HI sg lo) {g : Nat} {x : Sg} (hx : sg[g]? = some x) : unset sg lo g ↔ (isSk x.1 x.2.2.1 ∨ x.1 = 4) ∧ ini (form sg lo g) = false := by
  have hfm : ¬ x.1 = 4 → ¬ x.1 = 3 → form sg lo g = lwF g lo .null [] := fun h4 h3 => by
    unfold form
    rw [hx]
    dsimp only
    rw [if_neg h4, if_neg h3]
  constructor
  · rintro ⟨y, hy, h1, h2, h3⟩
    rw [hx] at hy
    injection hy with hy
    subst hy
    refine ⟨Or.inl h1, ?_⟩
    rw [hfm (fun z => by unfold isSk at h1; omega) h2]
    exact h3
  · rintro ⟨h1, h2⟩
    have h34 : ¬ (x.1 = 3 ∨ x.1 = 4) := fun z => by
      rw [hH g x hx z] at h2
      cases h2
    refine ⟨x, hx, h1.resolve_right (fun z => h34 (Or.inr z)), fun z => h34 (Or.inl z), ?_⟩
    rw [← hfm (fun z => h34 (Or.inr z)) (fun z => h34 (Or.inl z))]
    exact h2
theorem k_leastUnset {d o : Nat} {sg : List Sg} {lo : List Lo} {s : Mem} (hd : 1 ≤ d) (ho : o = 0 ∨ o = 26) (hL : sg.length ≤ 24) (hu : s (59 + o) 6 = sg.length) (hN : ND s o sg lo) (hH : HI sg lo) :
    (Zc d 110 [aR 137, aR (58 + o)] s = rI (-1) s ∧ ∀ j, j < sg.length → ¬ unset sg lo j) ∨ (∃ k : Nat, Zc d 110 [aR 137, aR (58 + o)] s = rI k s ∧ k < sg.length ∧ unset sg lo k ∧ ∀ j, j < k → ¬ unset sg lo j) := by
  obtain ⟨d, rfl⟩ : ∃ e, d = e + 1 := ⟨d - 1, by omega⟩
  have e0 : Zc (d + 1) 110 [aR 137, aR (58 + o)] s = Ze d 110 2 [aR 137, aR (58 + o), aI ((0 : Nat) : Int)] [] s := by
    have z0 : ((0 : Nat) : Int) = 0 := rfl
    simp (disch := first | exact (obCO_58 ho) | exact (obCO_59 ho) | omega | (simp only [(aN1O_78 ho)]; omega) | (simp only [List.length_cons, List.length_nil]; omega)) only [en110, x110_0, x110_1, x110_3, x110_4, x110_7, x110_10, x110_13, x110_14, x110_17, x110_18, x110_19, x110_21, x110_22, x110_25, x110_26, x110_27, x110_30, x110_33, x110_34, (fcnO_58_0 ho), (fcnO_58_8 ho), if_true, if_false, eq_self, Int.reduceEq, Int.reduceLT, Int.reduceLE, Int.reduceAdd, Int.reduceSub, Int.reduceMul, Int.reduceToNat, Nat.reduceAdd, Nat.reduceMul, Nat.reduceEqDiff, Int.toNat_natCast, wrap_id, z0]
  rw [e0]
  have key : ∀ m k : Nat, k + m = sg.length → (∀ j, j < k → ¬ unset sg lo j) → (Ze d 110 2 [aR 137, aR (58 + o), aI k] [] s = rI (-1) s ∧ ∀ j, j < sg.length → ¬ unset sg lo j) ∨ (∃ q : Nat, Ze d 110 2 [aR 137, aR (58 + o), aI k] [] s = rI q s ∧ q < sg.length ∧ unset sg lo q ∧ ∀ j, j < q → ¬ unset sg lo j) := by
    intro m
    induction m with
    | zero =>
      intro k hk hj
      have : k = sg.length := by omega
      subst this
      exact Or.inl ⟨lu_end ho hu, hj⟩
    | succ m ih =>
      intro k hk hj
      have hkl : k < sg.length := by omega
      have hx := List.getElem?_eq_getElem hkl
      obtain ⟨n1, n2⟩ := hN k _ hx
      have hun := unset_iff (lo := lo) hH hx
      generalize sg[k] = x at hx n1 n2 hun
      have skip : iand (s (78 + o) k) 16777216 = 0 → ¬ unset sg lo k → (Ze d 110 2 [aR 137, aR (58 + o), aI k] [] s = rI (-1) s ∧ ∀ j, j < sg.length → ¬ unset sg lo j) ∨ (∃ q : Nat, Ze d 110 2 [aR 137, aR (58 + o), aI k] [] s = rI q s ∧ q < sg.length ∧ unset sg lo q ∧ ∀ j, j < q → ¬ unset sg lo j) := fun h1 h2 => by
        rw [lu_no ho hu hkl hL h1]
        exact ih (k + 1) (by omega) (fun j hjk => by
          by_cases hjk' : j = k
          · rw [hjk']; exact h2
          · exact hj j (by omega))
      by_cases hs : isSk x.1 x.2.2.1 ∨ x.1 = 4
      · have hb := BU_24 (n1 hs)
        by_cases hi : ini (form sg lo k) = true
        · rw [if_pos hi] at hb
          exact skip hb (fun z => by have := (hun.mp z).2; rw [hi] at this; cases this)
        · rw [if_neg hi] at hb
          exact Or.inr ⟨k, lu_yes ho hu hkl hL hb, hkl, hun.mpr ⟨hs, by simpa using hi⟩, hj⟩
      · refine skip ?_ (fun z => hs (hun.mp z).1)
        rw [n2 hs]
        exact iand_z _
  exact key sg.length 0 (Nat.zero_add _) (fun j hj => by omega)
