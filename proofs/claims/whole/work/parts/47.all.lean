theorem nNode_fr {s : Mem} {n : Nat} {k : Int} (hn : n < 220) : Fr (SE n) s (nNode s n k) := by unfold nNode; (repeat (first | exact Fr.rf _ | refine Fr.mu ?_ (by first | (unfold SX SE; omega) | (unfold SE; omega) | omega)))
theorem nNode_0 {s : Mem} {n : Nat} {k : Int} {j : Nat} (h : j ≠ 32) : nNode s n k 0 j = s 0 j := by
  unfold nNode
  rw [mu_i (fun z => h z), mu_c (by decide), mu_c (by decide), mu_c (by decide), mu_c (by decide), mu_c (by decide)]
theorem nNode_k {s : Mem} {n : Nat} {k : Int} : nNode s n k 12 n = k ∧ nNode s n k 16 n = -1 ∧ nNode s n k 0 32 = ((n + 1 : Nat) : Int) := by
  unfold nNode
  refine ⟨?_, ?_, ?_⟩
  · rw [mu_c (by decide), mu_c (by decide), mu_c (by decide), mu_c (by decide), mu_c (by decide), mu_s]
  · rw [mu_c (by decide), mu_c (by decide), mu_c (by decide), mu_s]
  · rw [mu_s]; omega
theorem SE_TE {n dp k j : Nat} (h : SE n k j) : TE n dp k j := Or.inl h
theorem SX_TX {n dp k j : Nat} (h : SX n k j) : TX' n dp k j := Or.inl h
/-- an operation, its ( and its node -/
theorem te_begin {d dp p n : Nat} (hd : 7 ≤ d) (hdp : dp < 6) (s : Mem) (ho : okT s) (hb : s 0 5 = 0) (hat : s 0 2 = p) (hp : p < (tx s).2) (hnd : s 0 32 = n) (hnp : n ≤ p) (rt c k : Int) (l6 : AV) (h1 : ¬ isN c) (h2 : ¬ isD c) (h3 : ¬ k = 0) :
    (cA (tx s) (sk (tx s) (p + 1)) = 40 → ∃ s', Ze d 22 34 [aR 0, aI dp, aI (-1), aI rt, aI c, aI k, l6] [] s = Ze d 22 9 [aR 0, aI ((dp : Int) + 1), aI (-1), aI rt, aI c, aI k, l6] [] s' ∧ MID s' n dp c 0 (n + 1) (sk (tx s) (p + 1) + 1) ∧ s' 16 n = -1 ∧ tx s' = tx s ∧ Fr (TE n dp) s s') ∧
    (¬ cA (tx s) (sk (tx s) (p + 1)) = 40 → ∃ s', Ze d 22 34 [aR 0, aI dp, aI (-1), aI rt, aI c, aI k, l6] [] s = rI 0 s' ∧ s' 0 5 = 1 ∧ s' 0 3 = ((sk (tx s) (p + 1) : Nat) : Int) ∧ Fr (TX' n dp) s s') := by
  have hlen := tx_le ho
  obtain ⟨a1, a2, a3, a4⟩ := at_st ho ((p : Int) + 1)
  have hp1 := sk_le (tx s) (j := p + 1) (by omega)
  have hp2 := sk_ge (tx s) (p + 1)
  have f1 : Fr (TE n dp) s (mu s 0 2 ((p : Int) + 1)) := (Fr.rf s).mu (by unfold TE SE; omega)
  have n1 : mu s 0 2 ((p : Int) + 1) 0 32 = n := by rw [mu_i (by decide), hnd]
  have b1 : mu s 0 2 ((p : Int) + 1) 0 5 = 0 := by rw [mu_i (by decide), hb]
  refine ⟨fun h => ?_, fun h => ?_⟩
  · have hk := t_exp_ok (d := d) (by omega) _ a2 (j := p + 1) (a3.trans (by omega)) (by rw [a1]; omega) (c := 40) (by decide) (by rw [a1]; exact h)
    rw [a1] at hk
    generalize hs2 : mu (mu s 0 2 ((p : Int) + 1)) 0 2 (((sk (tx s) (p + 1) : Nat) : Int) + 1) = s2 at hk
    have f2 : Fr (TE n dp) s s2 := by rw [← hs2]; exact f1.mu (by unfold TE SE; omega)
    have n2 : s2 0 32 = n := by rw [← hs2, mu_i (by decide), n1]
    have hnn := t_newNode (d := d) (by omega) s2 n2 (by omega) c
    have hpl : sk (tx s) (p + 1) < (tx s).2 := cA_in (by omega)
    have f3 : Fr (TE n dp) s (nNode s2 n c) := f2.tr ((nNode_fr (by omega)).mono (fun _ _ => SE_TE))
    have f4 : Fr (TE n dp) s (mu (mu (nNode s2 n c) 23 dp n) 24 dp 0) := (f3.mu (by unfold TE SE; omega)).mu (by unfold TE SE; omega)
    obtain ⟨x4, o4, b4, w4⟩ := fr_te f4 ho
    refine ⟨_, te_open hd hdp s s2 _ rt c k l6 h1 h2 h3 hat (by omega) hk hnn, ⟨o4, by rw [b4, hb], ?_, ?_, mu_s, ?_, ?_, by rw [x4]; omega, by omega, by omega⟩, ?_, x4, f4⟩
    · rw [mu_c (by decide), mu_c (by decide), nNode_k.1]
    · rw [mu_c (by decide), mu_s]
    · rw [mu_c (by decide), mu_c (by decide), nNode_k.2.2]
    · rw [mu_c (by decide), mu_c (by decide), nNode_0 (by decide), ← hs2, mu_s]
      omega
    · rw [mu_c (by decide), mu_c (by decide), nNode_k.2.1]
  · have hk := t_exp_no (d := d) (by omega) _ a2 b1 (j := p + 1) (a3.trans (by omega)) (by rw [a1]; omega) (c := 40) (by decide) (by rw [a1]; exact h)
    rw [a1] at hk
    generalize hs2 : mu (mu (mu (mu s 0 2 ((p : Int) + 1)) 0 2 ((sk (tx s) (p + 1) : Nat) : Int)) 0 3 ((sk (tx s) (p + 1) : Nat) : Int)) 0 5 1 = s2 at hk
    have f2 : Fr (TX' n dp) s s2 := by rw [← hs2]; exact (((f1.mono (fun _ _ => TE_X)).mu (by unfold TX' SX SE; omega)).mu (by unfold TX' SX SE; omega)).mu (by unfold TX' SX SE; omega)
    have n2 : s2 0 32 = n := by rw [← hs2, mu_i (by decide), mu_i (by decide), mu_i (by decide), n1]
    have hnn := t_newNode (d := d) (by omega) s2 n2 (by omega) c
    have b2 : nNode s2 n c 0 5 = 1 := by rw [nNode_0 (by decide), ← hs2, mu_s]
    have hdp1 : (((dp + 1 : Nat)) : Int) = (dp : Int) + 1 := by omega
    refine ⟨mu (mu (nNode s2 n c) 23 dp n) 24 dp 0, (te_open hd hdp s s2 _ rt c k l6 h1 h2 h3 hat (by omega) hk hnn).trans (te_exit _ (by rw [mu_c (by decide), mu_c (by decide), b2]; decide) _ _ _ _ _ _), by rw [mu_c (by decide), mu_c (by decide), b2], ?_, ?_⟩
    · rw [mu_c (by decide), mu_c (by decide), nNode_0 (by decide), ← hs2, mu_i (by decide), mu_s]
    · exact ((f2.tr ((nNode_fr (by omega)).mono (fun _ _ h => SX_TX (SE_X h)))).mu (by unfold TX' SX SE; omega)).mu (by unfold TX' SX SE; omega)
theorem prt_0 {T : Tx} {p : Nat} : prt T p (cA T p) = 0 ↔ ¬ isTwo T p ∧ ¬ cA T p = 33 ∧ ¬ cA T p = 84 ∧ ¬ cA T p = 77 := by
  unfold prt isTwo
  generalize cA T p = c
  generalize cA T (p + 1) = e
  grind
theorem isTwo_two {T : Tx} {p : Nat} (h : isTwo T p) : two (cA T p) := h.1
