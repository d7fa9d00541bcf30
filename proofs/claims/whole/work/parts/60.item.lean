theorem tx_mc {s : Mem} {k j : Nat} {v : Int} (h : k ≠ 0 ∧ k ≠ 1) : tx (mu s k j v) = tx s := ((Fr.rf s).mu (S := fun k' _ => k' = k) rfl).tx (by omega) (by omega)
theorem okT_mc {s : Mem} {k j : Nat} {v : Int} (h : k ≠ 0 ∧ k ≠ 1) (ho : okT s) : okT (mu s k j v) := ((Fr.rf s).mu (S := fun k' _ => k' = k) rfl).okT (by omega) (by omega) ho
/-- what reading an item or a step may write -/
def PF (K N M C k j : Nat) : Prop := (k = 0 ∧ (j = 2 ∨ j = 16 ∨ j = 17 ∨ j = 18 ∨ j = 32 ∨ j = 40)) ∨ (2 ≤ k ∧ k ≤ 5 ∧ M ≤ j) ∨ (6 ≤ k ∧ k ≤ 9 ∧ C ≤ j) ∨ (k = 10 ∨ k = 11) ∨ ((12 ≤ k ∧ k ≤ 18 ∨ k = 21) ∧ N ≤ j ∧ j < 220) ∨ (k = 20 ∧ 6 * N ≤ j) ∨ (k = 23 ∨ k = 24 ∨ k = 31) ∨ (25 ≤ k ∧ k ≤ 30 ∧ K ≤ j)
def PFX (K N M C k j : Nat) : Prop := PF K N M C k j ∨ (k = 0 ∧ (j = 5 ∨ j = 3))
theorem PF_X {K N M C k j : Nat} (h : PF K N M C k j) : PFX K N M C k j := Or.inl h
theorem TE_PF {K N M C k j : Nat} (h : TE N 0 k j) : PF K N M C k j := by
  rcases h with (h | h | h) | h
  · exact Or.inl ⟨h.1, by omega⟩
  · exact Or.inr (Or.inr (Or.inr (Or.inr (Or.inl h))))
  · exact Or.inr (Or.inr (Or.inr (Or.inr (Or.inr (Or.inl h)))))
  · exact Or.inr (Or.inr (Or.inr (Or.inr (Or.inr (Or.inr (Or.inl (by omega)))))))
theorem TX_PF {K N M C k j : Nat} (h : TX' N 0 k j) : PFX K N M C k j := by
  rcases h with (h | h) | h
  · exact Or.inl (TE_PF (Or.inl h))
  · exact Or.inr h
  · exact Or.inl (TE_PF (Or.inr h))
theorem SE_PF {K N M C k j : Nat} (h : SE N k j) : PF K N M C k j := TE_PF (Or.inl h)
theorem SX_PF {K N M C k j : Nat} (h : SX N k j) : PFX K N M C k j := TX_PF (Or.inl h)
theorem TF_PF {K N M C k j : Nat} (h : TF M C 0 k j) : PF K N M C k j := by
  rcases h with h | h | h | h
  · exact Or.inl ⟨h.1, by omega⟩
  · exact Or.inr (Or.inl h)
  · exact Or.inr (Or.inr (Or.inl h))
  · exact Or.inr (Or.inr (Or.inr (Or.inl h.1)))
theorem TFX_PF {K N M C k j : Nat} (h : TFX M C 0 k j) : PFX K N M C k j := h.elim (fun h => Or.inl (TF_PF h)) Or.inr
theorem PF_PF {K N M C K' N' M' C' k j : Nat} (h1 : K ≤ K') (h2 : N ≤ N') (h3 : M ≤ M') (h4 : C ≤ C') (h : PF K' N' M' C' k j) : PF K N M C k j := by
  rcases h with h | h | h | h | h | h | h | h
  · exact Or.inl h
  · exact Or.inr (Or.inl ⟨h.1, h.2.1, by omega⟩)
  · exact Or.inr (Or.inr (Or.inl ⟨h.1, h.2.1, by omega⟩))
  · exact Or.inr (Or.inr (Or.inr (Or.inl h)))
  · exact Or.inr (Or.inr (Or.inr (Or.inr (Or.inl ⟨h.1, by omega, h.2.2⟩))))
  · exact Or.inr (Or.inr (Or.inr (Or.inr (Or.inr (Or.inl ⟨h.1, by omega⟩)))))
  · exact Or.inr (Or.inr (Or.inr (Or.inr (Or.inr (Or.inr (Or.inl h))))))
  · exact Or.inr (Or.inr (Or.inr (Or.inr (Or.inr (Or.inr (Or.inr ⟨h.1, h.2.1, by omega⟩))))))
theorem PFX_PF {K N M C K' N' M' C' k j : Nat} (h1 : K ≤ K') (h2 : N ≤ N') (h3 : M ≤ M') (h4 : C ≤ C') (h : PFX K' N' M' C' k j) : PFX K N M C k j := h.elim (fun h => Or.inl (PF_PF h1 h2 h3 h4 h)) Or.inr
theorem PFX_len {K N M C : Nat} : ¬ PFX K N M C 0 1 := by unfold PFX PF; omega
theorem PFX_txt {K N M C : Nat} : ∀ j, ¬ PFX K N M C 1 j := by intro j; unfold PFX PF; omega
theorem PF_bad {K N M C : Nat} : ¬ PF K N M C 0 5 := by unfold PF; omega
theorem PF_whe {K N M C : Nat} : ¬ PF K N M C 0 3 := by unfold PF; omega
theorem fr_pf {K N M C : Nat} {a b : Mem} (h : Fr (PF K N M C) a b) (ho : okT a) : tx b = tx a ∧ okT b ∧ b 0 5 = a 0 5 ∧ b 0 3 = a 0 3 :=
  ⟨(h.mono (fun _ _ => PF_X)).tx PFX_len PFX_txt, (h.mono (fun _ _ => PF_X)).okT PFX_len PFX_txt ho, h _ _ PF_bad, h _ _ PF_whe⟩
/-- how many nodes an item has -/
def nsz (i : It) : Nat := if i.1 = 0 then 1 + esz i.2.2.2.2.2 else if i.1 = 1 ∨ i.1 = 5 then esz i.2.2.2.2.2 else 0
/-- an item as the reference's steps have it at k; its nodes lie from n up to n', all types below M, all fields below C -/
def RI (s : Mem) (k n n' M C : Nat) (i : It) : Prop :=
  s 25 k = i.1 ∧ s 26 k = i.2.1 ∧
  ((i.1 = 0 ∧ ∃ (a b x : Nat) (r : Jvm.Term), s 28 k = a ∧ s 29 k = b ∧ i.2.2.2.2.1 = eRef x r ∧ RE s i.2.2.2.2.1 a ∧ n ≤ a ∧ a + 1 ≤ b ∧ RE s i.2.2.2.2.2 b ∧ b + esz i.2.2.2.2.2 ≤ n') ∨
   (i.1 = 1 ∧ ∃ b : Nat, s 29 k = b ∧ n ≤ b ∧ RE s i.2.2.2.2.2 b ∧ b + esz i.2.2.2.2.2 ≤ n') ∨
   (i.1 = 2) ∨ (i.1 = 3) ∨
   (i.1 = 4 ∧ s 27 k = i.2.2.1 ∧ i.2.2.1 < 26 ∧ s 28 k = i.2.2.2.1 ∧ i.2.2.2.1 < 4 ∧ ∃ t : Nat, s 30 k = t ∧ RT s 0 M 0 C true i.2.2.2.2.2 t) ∨
   (i.1 = 5 ∧ s 27 k = i.2.2.1 ∧ i.2.2.1 < 26 ∧ s 28 k = 4 ∧ i.2.2.2.1 = 4 ∧ ∃ b : Nat, s 29 k = b ∧ n ≤ b ∧ RE s i.2.2.2.2.2 b ∧ b + esz i.2.2.2.2.2 ≤ n'))
def OI (K N M C p : Nat) (s : Mem) (Z : Option Res) (x : PR It) : Prop :=
  match x with
  | .ok (it, q) => ∃ (s' : Mem) (N' M' C' j' : Nat), Z = rV s' ∧ RI s' K N N' M' C' it ∧ s' 0 40 = ((K + 1 : Nat) : Int) ∧ s' 0 32 = N' ∧ s' 0 16 = M' ∧ s' 0 17 = C' ∧ s' 0 2 = j' ∧ sk (tx s) j' = q ∧ j' ≤ (tx s).2 ∧ p + 3 ≤ j' ∧ N' ≤ j' ∧ M' ≤ j' ∧ 2 * C' ≤ j' ∧ (N' = N + nsz it ∧ M ≤ M' ∧ C ≤ C') ∧ (∀ j, s' 31 j = s 31 j) ∧ Fr (PF K N M C) s s'
  | .error f => ∃ s', Z = rV s' ∧ s' 0 5 = 1 ∧ s' 0 3 = f ∧ Fr (PFX K N M C) s s'
/-- an item's head -/
noncomputable def pIH (T : Tx) (x : Int) (p : Nat) : PR Nat := bd (pNm T (sk T (p + 1))) fun n p1 => bd (pTk T x p1) fun _ p2 => .ok (n, p2)
theorem pItem_h {T : Tx} {p : Nat} : pItem T p = if cA T p = 78 then bd (pIH T 61 p) fun n p2 => bd (pEx T 6 p2) fun e p3 => bd (pTk T 59 p3) fun _ p4 => .ok ((5, p, n, 4, tNil, e), p4)
    else bd (pIH T 58 p) fun n p2 => bd (pTy T 3 p2) fun t p3 => bd (pTk T 59 p3) fun _ p4 => .ok ((4, p, n, itK (cA T p), tNil, t), p4) := by
  unfold pItem pIH
  by_cases h : cA T p = 78
  · rw [if_pos h]
    simp only [if_pos h]
    rw [bd_bd]
    cases pNm T (sk T (p + 1)) with
    | error e => rfl
    | ok t =>
      obtain ⟨n, p1⟩ := t
      rw [bd_ok, bd_ok, bd_bd]
      cases pTk T 61 p1 with
      | error e => rfl
      | ok t => rfl
  · rw [if_neg h]
    simp only [if_neg h]
    rw [bd_bd]
    cases pNm T (sk T (p + 1)) with
    | error e => rfl
    | ok t =>
      obtain ⟨n, p1⟩ := t
      rw [bd_ok, bd_ok, bd_bd]
      cases pTk T 58 p1 with
      | error e => rfl
      | ok t => rfl
def FH (K k j : Nat) : Prop := (k = 0 ∧ (j = 2 ∨ j = 40)) ∨ ((k = 25 ∨ k = 26 ∨ k = 27 ∨ k = 28) ∧ j = K)
def FHX (K k j : Nat) : Prop := FH K k j ∨ (k = 0 ∧ (j = 5 ∨ j = 3))
theorem FH_X {K k j : Nat} (h : FH K k j) : FHX K k j := Or.inl h
theorem FH_PF {K N M C k j : Nat} (h : FH K k j) : PF K N M C k j := by
  rcases h with h | h
  · exact Or.inl ⟨h.1, by omega⟩
  · exact Or.inr (Or.inr (Or.inr (Or.inr (Or.inr (Or.inr (Or.inr ⟨by omega, by omega, by omega⟩))))))
theorem FHX_PF {K N M C k j : Nat} (h : FHX K k j) : PFX K N M C k j := h.elim (fun h => Or.inl (FH_PF h)) Or.inr
/-- the machine as far as behind the head -/
theorem it_head {d K p : Nat} (hd : 4 ≤ d) {c x o so : Int} (hc : c = 78 ∧ x = 61 ∧ o = 5 ∧ so = 4 ∨ c = 73 ∧ x = 58 ∧ o = 4 ∧ so = 0 ∨ c = 79 ∧ x = 58 ∧ o = 4 ∧ so = 1 ∨ c = 87 ∧ x = 58 ∧ o = 4 ∧ so = 2 ∨ c = 82 ∧ x = 58 ∧ o = 4 ∧ so = 3) (s : Mem) (ho : okT s) (hb : s 0 5 = 0) (hat : s 0 2 = p) (hp : p < (tx s).2) (hK : s 0 40 = K) (hK2 : K < 120) :
    match pIH (tx s) x p with
    | .ok (n, q) => ∃ (s' : Mem) (j' : Nat), Zc (d + 1) 24 [aR 0, aI c, aI p] s = Ze d 24 116 [aR 0, aI c, aI p, aI K] [] s' ∧ (s' 25 K = o ∧ s' 26 K = p ∧ s' 27 K = n ∧ s' 28 K = so) ∧ n < 26 ∧ s' 0 40 = ((K + 1 : Nat) : Int) ∧ s' 0 2 = j' ∧ sk (tx s) j' = q ∧ j' ≤ (tx s).2 ∧ p + 3 ≤ j' ∧ Fr (FH K) s s'
    | .error f => ∃ s', Zc (d + 1) 24 [aR 0, aI c, aI p] s = rV s' ∧ s' 0 5 = 1 ∧ s' 0 3 = f ∧ Fr (FHX K) s s' := by
  have hlen := tx_le ho
  have hx : 0 ≤ x ∧ x ≠ 60 := by omega
  have hst := t_newStep (d := d) (by omega) (mu s 0 2 ((p : Int) + 1)) (n := K) (by rw [mu_i (by decide), hK]) hK2 o p
  generalize hs3 : mu (nStep (mu s 0 2 ((p : Int) + 1)) K o p) 28 K so = s3
  have f3 : Fr (FH K) s s3 := by
    rw [← hs3]
    unfold nStep
    exact (((((Fr.rf s).mu (by unfold FH; omega)).mu (by unfold FH; omega)).mu (by unfold FH; omega)).mu (by unfold FH; omega)).mu (by unfold FH; omega)
  have at3 : s3 0 2 = ((p + 1 : Nat) : Int) := by
    rw [← hs3, mu_c (by decide)]
    unfold nStep
    rw [mu_i (by decide), mu_c (by decide), mu_c (by decide), mu_s]
    rfl
  have st3 : s3 0 40 = ((K + 1 : Nat) : Int) := by
    rw [← hs3, mu_c (by decide)]
    unfold nStep
    rw [mu_s]
    rfl
  have op3 : s3 25 K = o := by
    rw [← hs3, mu_c (by decide)]
    unfold nStep
    rw [mu_c (by decide), mu_c (by decide), mu_s]
  have pl3 : s3 26 K = p := by
    rw [← hs3, mu_c (by decide)]
    unfold nStep
    rw [mu_c (by decide), mu_s]
  have le3 : s3 28 K = so := by rw [← hs3, mu_s]
  have x3 : tx s3 = tx s := f3.tx (by unfold FH; omega) (by unfold FH; omega)
  have o3 : okT s3 := f3.okT (by unfold FH; omega) (by unfold FH; omega) ho
  have b3 : s3 0 5 = 0 := by rw [f3 _ _ (by unfold FH; omega), hb]
  have hnm := t_takeName (d := d) (by omega) s3 o3 at3 (by rw [x3]; omega)
  rw [x3] at hnm
  have hg := sk_ge (tx s) (p + 1)
  have hl := sk_le (tx s) (j := p + 1) (by omega)
  unfold pIH
  generalize sk (tx s) (p + 1) = q at *
  unfold pNm
  by_cases hN : isN (cA (tx s) q)
  · rw [if_pos hN] at hnm ⊢
    rw [bd_ok]
    have hql : q < (tx s).2 := cA_in (by have := hN.1; omega)
    have hnn : (((cA (tx s) q - 97).toNat : Nat) : Int) = cA (tx s) q - 97 := by have := hN.1; omega
    have hn26 : (cA (tx s) q - 97).toNat < 26 := by have := hN.2; omega
    generalize (cA (tx s) q - 97).toNat = nn at *
    rw [← hnn] at hnm
    generalize hs4 : mu (mu s3 0 2 ((q : Int) + 1)) 27 K nn = s4
    have f4 : Fr (FH K) s s4 := by
      rw [← hs4]
      exact (f3.mu (by unfold FH; omega)).mu (by unfold FH; omega)
    have x4 : tx s4 = tx s := f4.tx (by unfold FH; omega) (by unfold FH; omega)
    have o4 : okT s4 := f4.okT (by unfold FH; omega) (by unfold FH; omega) ho
    have b4 : s4 0 5 = 0 := by rw [f4 _ _ (by unfold FH; omega), hb]
    have at4 : s4 0 2 = ((q + 1 : Nat) : Int) := by rw [← hs4, mu_c (by decide), mu_s]; rfl
    by_cases hX : cA (tx s) (sk (tx s) (q + 1)) = x
    · rw [pTk_ok hX, bd_ok]
      have he := t_exp_ok (d := d) (by omega) s4 o4 at4 (by rw [x4]; omega) (c := x) hx (by rw [x4]; exact hX)
      rw [x4] at he
      have hg2 := sk_ge (tx s) (q + 1)
      have hl2 : sk (tx s) (q + 1) < (tx s).2 := cA_in (by omega)
      generalize sk (tx s) (q + 1) = r at *
      refine ⟨mu s4 0 2 ((r : Int) + 1), r + 1, ?_, ⟨?_, ?_, ?_, ?_⟩, hn26, ?_, by rw [mu_s]; rfl, rfl, by omega, by omega, f4.mu (by unfold FH; omega)⟩
      · rcases hc with ⟨rfl, rfl, rfl, rfl⟩ | ⟨rfl, rfl, rfl, rfl⟩ | ⟨rfl, rfl, rfl, rfl⟩ | ⟨rfl, rfl, rfl, rfl⟩ | ⟨rfl, rfl, rfl, rfl⟩
        all_goals (simp (disch := first | exact obC_0 | omega | (simp only [aN1_27, aN1_28, aN1_29, aN1_30]; omega) | (simp only [List.length_cons, List.length_nil]; omega)) only [en24, x24_0, x24_1, x24_1i, x24_2, x24_5, x24_6, x24_7, x24_10, x24_11, x24_12, x24_14, x24_17, x24_18, x24_21, x24_22, x24_23, x24_26, x24_27, x24_28, x24_31, x24_32, x24_33, x24_35, x24_38, x24_39, x24_42, x24_43, x24_45, x24_48, x24_49, x24_52, x24_53, x24_55, x24_58, x24_59, x24_62, x24_63, x24_65, x24_68, x24_69, x24_72, x24_73, x24_74, x24_75, x24_78, x24_79, x24_80, x24_83, x24_84, x24_85, x24_88, x24_91, x24_92, x24_93, x24_95, x24_98, x24_100, x24_103, x24_105, x24_108, x24_109, x24_112, x24_115, x24_117, x24_119, x24_122, x24_123, x24_126, x24_127, x24_128, x24_131, x24_132, x24_135, x24_136, x24_139, x24_140, x24_141, x24_144, x24_145, x24_146, x24_149, x24_152, x24_153, x24_155, x24_158, fcn_0_35, fcn_0_36, fcn_0_37, fcn_0_38, if_true, if_false, eq_self, Int.reduceEq, Int.reduceLT, Int.reduceLE, Int.reduceAdd, Int.reduceSub, Int.reduceMul, Int.reduceToNat, Nat.reduceAdd, Nat.reduceMul, Nat.reduceEqDiff, Int.toNat_natCast, wrap_id, hat, hst, zcI_r, zcV_r, hs3, hnm, hs4, b4, he, mu_i])
      · rw [mu_c (by decide), ← hs4, mu_c (by decide), mu_c (by decide), op3]
      · rw [mu_c (by decide), ← hs4, mu_c (by decide), mu_c (by decide), pl3]
      · rw [mu_c (by decide), ← hs4, mu_s]
      · rw [mu_c (by decide), ← hs4, mu_c (by decide), mu_c (by decide), le3]
      · rw [mu_i (by decide), ← hs4, mu_c (by decide), mu_i (by decide), st3]
    · rw [pTk_no hX, bd_er]
      have he := t_exp_no (d := d) (by omega) s4 o4 b4 at4 (by rw [x4]; omega) (c := x) hx (by rw [x4]; exact hX)
      rw [x4] at he
      refine ⟨mu (mu (mu s4 0 2 ((sk (tx s) (q + 1) : Nat) : Int)) 0 3 ((sk (tx s) (q + 1) : Nat) : Int)) 0 5 1, ?_, mu_s, by rw [mu_i (by decide), mu_s], ((((f4.mono (fun _ _ => FH_X)).mu (by unfold FHX FH; omega)).mu (by unfold FHX FH; omega)).mu (by unfold FHX FH; omega))⟩
      rcases hc with ⟨rfl, rfl, rfl, rfl⟩ | ⟨rfl, rfl, rfl, rfl⟩ | ⟨rfl, rfl, rfl, rfl⟩ | ⟨rfl, rfl, rfl, rfl⟩ | ⟨rfl, rfl, rfl, rfl⟩
      all_goals (simp (disch := first | exact obC_0 | omega | (simp only [aN1_27, aN1_28, aN1_29, aN1_30]; omega) | (simp only [List.length_cons, List.length_nil]; omega)) only [en24, x24_0, x24_1, x24_1i, x24_2, x24_5, x24_6, x24_7, x24_10, x24_11, x24_12, x24_14, x24_17, x24_18, x24_21, x24_22, x24_23, x24_26, x24_27, x24_28, x24_31, x24_32, x24_33, x24_35, x24_38, x24_39, x24_42, x24_43, x24_45, x24_48, x24_49, x24_52, x24_53, x24_55, x24_58, x24_59, x24_62, x24_63, x24_65, x24_68, x24_69, x24_72, x24_73, x24_74, x24_75, x24_78, x24_79, x24_80, x24_83, x24_84, x24_85, x24_88, x24_91, x24_92, x24_93, x24_95, x24_98, x24_100, x24_103, x24_105, x24_108, x24_109, x24_112, x24_115, x24_117, x24_119, x24_122, x24_123, x24_126, x24_127, x24_128, x24_131, x24_132, x24_135, x24_136, x24_139, x24_140, x24_141, x24_144, x24_145, x24_146, x24_149, x24_152, x24_153, x24_155, x24_158, fcn_0_35, fcn_0_36, fcn_0_37, fcn_0_38, if_true, if_false, eq_self, Int.reduceEq, Int.reduceLT, Int.reduceLE, Int.reduceAdd, Int.reduceSub, Int.reduceMul, Int.reduceToNat, Nat.reduceAdd, Nat.reduceMul, Nat.reduceEqDiff, Int.toNat_natCast, wrap_id, hat, hst, zcI_r, zcV_r, hs3, hnm, hs4, b4, he, mu_s])
  · rw [if_neg hN] at hnm ⊢
    rw [bd_er]
    rw [wr_0 (by rw [mu_i (by decide), b3])] at hnm
    refine ⟨mu (mu (mu (mu s3 0 2 (q : Int)) 0 3 (q : Int)) 0 5 1) 27 K (cA (tx s) q - 97), ?_, by rw [mu_c (by decide), mu_s], by rw [mu_c (by decide), mu_i (by decide), mu_s], (((((f3.mono (fun _ _ => FH_X)).mu (by unfold FHX FH; omega)).mu (by unfold FHX FH; omega)).mu (by unfold FHX FH; omega)).mu (by unfold FHX FH; omega))⟩
    rcases hc with ⟨rfl, rfl, rfl, rfl⟩ | ⟨rfl, rfl, rfl, rfl⟩ | ⟨rfl, rfl, rfl, rfl⟩ | ⟨rfl, rfl, rfl, rfl⟩ | ⟨rfl, rfl, rfl, rfl⟩
    all_goals (simp (disch := first | exact obC_0 | omega | (simp only [aN1_27, aN1_28, aN1_29, aN1_30]; omega) | (simp only [List.length_cons, List.length_nil]; omega)) only [en24, x24_0, x24_1, x24_1i, x24_2, x24_5, x24_6, x24_7, x24_10, x24_11, x24_12, x24_14, x24_17, x24_18, x24_21, x24_22, x24_23, x24_26, x24_27, x24_28, x24_31, x24_32, x24_33, x24_35, x24_38, x24_39, x24_42, x24_43, x24_45, x24_48, x24_49, x24_52, x24_53, x24_55, x24_58, x24_59, x24_62, x24_63, x24_65, x24_68, x24_69, x24_72, x24_73, x24_74, x24_75, x24_78, x24_79, x24_80, x24_83, x24_84, x24_85, x24_88, x24_91, x24_92, x24_93, x24_95, x24_98, x24_100, x24_103, x24_105, x24_108, x24_109, x24_112, x24_115, x24_117, x24_119, x24_122, x24_123, x24_126, x24_127, x24_128, x24_131, x24_132, x24_135, x24_136, x24_139, x24_140, x24_141, x24_144, x24_145, x24_146, x24_149, x24_152, x24_153, x24_155, x24_158, fcn_0_35, fcn_0_36, fcn_0_37, fcn_0_38, if_true, if_false, eq_self, Int.reduceEq, Int.reduceLT, Int.reduceLE, Int.reduceAdd, Int.reduceSub, Int.reduceMul, Int.reduceToNat, Nat.reduceAdd, Nat.reduceMul, Nat.reduceEqDiff, Int.toNat_natCast, wrap_id, hat, hst, zcI_r, zcV_r, hs3, hnm, mu_s, mu_c])
