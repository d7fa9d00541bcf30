theorem pIts_s {T : Tx} {f : Nat} {st : List Nat} {p : Nat} : pIts T (f + 1) st p =
    (if st ≠ [] ∧ cA T p = 125 then
      if st.head? = some 1 ∧ cA T (sk T (p + 1)) = 58 then
        bd (pTk T 123 (sk T (sk T (p + 1) + 1))) fun _ p2 =>
        bi (pIts T f (2 :: st.tail) p2) fun r =>
        .ok ((2, p, 0, 0, tNil, tNil) :: r)
      else
        bi (pIts T f st.tail (sk T (p + 1))) fun r =>
        .ok ((3, p, 0, 0, tNil, tNil) :: r)
    else if st = [] ∧ cA T p < 0 then .ok []
    else if cA T p = 63 ∧ st.length < 3 then
      bd (pEx T 6 (sk T (p + 1))) fun e p1 =>
      bd (pTk T 123 p1) fun _ p2 =>
      bi (pIts T f (1 :: st) p2) fun r =>
      .ok ((1, p, 0, 0, tNil, e) :: r)
    else if isN (cA T p) then
      bd (pConn T p) fun i p1 =>
      bi (pIts T f st p1) fun r =>
      .ok (i :: r)
    else if st = [] ∧ (cA T p = 73 ∨ cA T p = 79 ∨ cA T p = 87 ∨ cA T p = 82 ∨ cA T p = 78) then
      bd (pItem T p) fun i p1 =>
      bi (pIts T f st p1) fun r =>
      .ok (i :: r)
    else .error p) := by rw [pIts]
/-- the state at the loop's head -/
def PS (s : Mem) (st : List Nat) (j p K N M C : Nat) : Prop :=
  okT s ∧ s 0 5 = 0 ∧ s 0 2 = j ∧ j ≤ (tx s).2 ∧ sk (tx s) j = p ∧ s 0 40 = K ∧ s 0 32 = N ∧ s 0 16 = M ∧ s 0 17 = C ∧ N ≤ j ∧ M ≤ j ∧ 2 * C ≤ j ∧ 2 * K + st.length ≤ j ∧ st.length ≤ 3 ∧ (∀ b, b ∈ st → b = 1 ∨ b = 2) ∧ BS s st
def PA (d f : Nat) : Prop := ∀ (st : List Nat) (j p K N M C : Nat) (s : Mem) (l2 l3 l4 : AV), PS s st j p K N M C → (tx s).2 < p + f → OP K N M C s (Ze d 26 32 [aR 0, aI st.length, l2, l3, l4] [] s) (pIts (tx s) f st p)
/-- behind an item -/
theorem pa_next {d f K N M C p : Nat} {st : List Nat} {s s0 : Mem} {Z : Option Res} {x : PR It} {l2 l3 l4 : AV} (hd : 9 ≤ d) (hPA : PA d f) (hfu : (tx s).2 < p + (f + 1)) (ho : okT s) (hb : s 0 5 = 0) (hx : tx s0 = tx s) (F0 : Fr (PF K N M C) s s0) (hpl : 2 * K + st.length ≤ p) (hst3 : st.length ≤ 3) (hst : ∀ b, b ∈ st → b = 1 ∨ b = 2) (hB : BS s0 st)
    (h : OI K N M C p s0 Z x) (hZ : ∀ s1, Z = rV s1 → Ze d 26 49 [aR 0, aI st.length, l2, l3, l4] [] s0 = Ze d 26 32 [aR 0, aI st.length, l2, l3, l4] [] s1) :
    OP K N M C s (Ze d 26 49 [aR 0, aI st.length, l2, l3, l4] [] s0) (bd x fun i p1 => bi (pIts (tx s) f st p1) fun r => .ok (i :: r)) := by
  cases x with
  | error e =>
    obtain ⟨s', h1, h2, h3, h4⟩ := h
    rw [bd_er]
    exact ⟨s', (hZ s' h1).trans (pa_exit _ (by rw [h2]; decide) _ _ _ _), h2, h3, (F0.mono (fun _ _ => PF_X)).tr h4⟩
  | ok iq =>
    obtain ⟨i, q⟩ := iq
    obtain ⟨s1, N', M', C', j', h1, h2, h3, h4, h5, h6, h7, h8, h9, h10, h11, h12, h13, ⟨h14, h15, h16⟩, h17, h18⟩ := h
    rw [hx] at h8 h9
    rw [bd_ok, hZ s1 h1]
    have F1 : Fr (PF K N M C) s s1 := F0.tr h18
    obtain ⟨x1, o1, b1, w1⟩ := fr_pf F1 ho
    refine OP_bi x1 h14 h15 h16 F1 h2 ?_
    have g := sk_ge (tx s) j'
    rw [h8] at g
    rw [← x1]
    exact hPA st j' q (K + 1) N' M' C' s1 l2 l3 l4 ⟨o1, by rw [b1, hb], h7, by rw [x1]; exact h9, by rw [x1]; exact h8, h3, h4, h5, h6, h11, h12, h13, by omega, hst3, hst, BS_put (fun j _ => h17 j) hB⟩ (by rw [x1]; omega)
theorem FH_blk {K j : Nat} : ¬ FH K 31 j := by unfold FH; omega
theorem PF_blk {K N M C j : Nat} : PF K N M C 31 j := Or.inr (Or.inr (Or.inr (Or.inr (Or.inr (Or.inr (Or.inl (by decide)))))))
/-- a } -/
theorem pa_close {d f j p K N M C b : Nat} {st : List Nat} {s : Mem} {l4 : AV} (hd : 9 ≤ d) (hPA : PA d f) (hP : PS s (b :: st) j p K N M C) (hfu : (tx s).2 < p + (f + 1)) (h125 : cA (tx s) p = 125) :
    OP K N M C s (Ze d 26 49 [aR 0, aI ((st.length : Int) + 1), aI 125, aI p, l4] [] (mu s 0 2 p)) (if b = 1 ∧ cA (tx s) (sk (tx s) (p + 1)) = 58 then
        bd (pTk (tx s) 123 (sk (tx s) (sk (tx s) (p + 1) + 1))) fun _ p2 => bi (pIts (tx s) f (2 :: st) p2) fun r => .ok ((2, p, 0, 0, tNil, tNil) :: r)
      else bi (pIts (tx s) f st (sk (tx s) (p + 1))) fun r => .ok ((3, p, 0, 0, tNil, tNil) :: r)) := by
  obtain ⟨ho, hb, hat, hj, hp, hK, hN, hM, hC, hNj, hMj, hCj, hKj, hl3, hst, hB, hB2⟩ := hP
  have hlen := tx_le ho
  have hg := sk_ge (tx s) j
  rw [hp] at hg
  have hpT : p < (tx s).2 := cA_in (by omega)
  rw [List.length_cons] at hKj hl3
  have hst2 : ∀ b, b ∈ st → b = 1 ∨ b = 2 := fun x hx => hst x (List.mem_cons_of_mem _ hx)
  have hbb := hst b (List.mem_cons_self)
  generalize hs1 : mu s 0 2 ((p : Int) + 1) = s1
  have f1 : Fr (PF K N M C) s s1 := by rw [← hs1]; exact (Fr.rf s).mu (Or.inl ⟨rfl, Or.inl rfl⟩)
  obtain ⟨x1, o1, b1, w1⟩ := fr_pf f1 ho
  rw [hb] at b1
  have q1 : ∀ {i : Nat}, i ≠ 2 → s1 0 i = s 0 i := fun h => by rw [← hs1, mu_i h]
  have k1 : ∀ {k i : Nat}, k ≠ 0 → s1 k i = s k i := fun h => by rw [← hs1, mu_c h]
  have at1 : s1 0 2 = ((p + 1 : Nat) : Int) := by rw [← hs1, mu_s]; rfl
  have e0 : mu (mu s 0 2 (p : Int)) 0 2 ((p : Int) + 1) = s1 := by rw [mu_mu, hs1]
  have hg1 := sk_ge (tx s) (p + 1)
  have hl1 := sk_le (tx s) (j := p + 1) (by omega)
  have ss1 := sk_sk (tx s) (p + 1)
  have fin : ∀ (s2 : Mem) (j2 q : Nat), Fr (PF K N M C) s s2 → s2 0 40 = K → s2 0 32 = N → s2 0 16 = M → s2 0 17 = C → s2 0 2 = j2 → p + 1 ≤ j2 → j2 ≤ (tx s).2 → sk (tx s) j2 = q → BS s2 st → OP K N M C s (Ze d 26 32 [aR 0, aI st.length, aI 125, aI p, aI 0] [] (nStep s2 K 3 p)) (bi (pIts (tx s) f st q) fun r => .ok ((3, p, 0, 0, tNil, tNil) :: r)) := by
    intro s2 j2 q F2 g1 g2 g3 g4 g5 g6 g7 g8 g9
    have F3 : Fr (FH K) s2 (nStep s2 K 3 p) := nStep_fr
    obtain ⟨a1, a2, a3⟩ := nStep_at (s := s2) (K := K) (o := 3) (p := p)
    have q0 : ∀ {i : Nat}, i ≠ 40 → nStep s2 K 3 p 0 i = s2 0 i := fun h => nStep_0 h
    generalize nStep s2 K 3 p = s3 at *
    have F : Fr (PF K N M C) s s3 := F2.tr (F3.mono (fun _ _ => FH_PF))
    obtain ⟨x3, o3, b3, w3⟩ := fr_pf F ho
    refine OP_bi x3 rfl (Nat.le_refl _) (Nat.le_refl _) F ⟨a1, a2, Or.inr (Or.inr (Or.inr (Or.inl rfl)))⟩ ?_
    have hg8 := sk_ge (tx s) j2
    rw [g8] at hg8
    rw [← x3]
    exact hPA st j2 q (K + 1) N M C s3 _ _ _ ⟨o3, by rw [b3, hb], by rw [q0 (by decide), g5], by rw [x3]; exact g7, by rw [x3]; exact g8, a3, by rw [q0 (by decide), g2], by rw [q0 (by decide), g3], by rw [q0 (by decide), g4], by omega, by omega, by omega, by omega, by omega, hst2, BS_put (fun j _ => F3 _ _ FH_blk) g9⟩ (by rw [x3]; omega)
  by_cases hb1 : b = 1
  · subst hb1
    have hh := t_here (d := d) (by omega) s1 o1 at1 (by rw [x1]; omega)
    rw [x1] at hh
    have hs2' : mu s1 0 2 ((sk (tx s) (p + 1) : Nat) : Int) = mu s 0 2 ((sk (tx s) (p + 1) : Nat) : Int) := by rw [← hs1, mu_mu]
    rw [hs2'] at hh
    generalize sk (tx s) (p + 1) = q at *
    generalize hs2 : mu s 0 2 (q : Int) = s2 at hh
    have f2 : Fr (PF K N M C) s s2 := by rw [← hs2]; exact (Fr.rf s).mu (Or.inl ⟨rfl, Or.inl rfl⟩)
    obtain ⟨x2, o2, b2, w2⟩ := fr_pf f2 ho
    rw [hb] at b2
    have q2 : ∀ {i : Nat}, i ≠ 2 → s2 0 i = s 0 i := fun h => by rw [← hs2, mu_i h]
    have k2 : ∀ {k i : Nat}, k ≠ 0 → s2 k i = s k i := fun h => by rw [← hs2, mu_c h]
    have at2 : s2 0 2 = q := by rw [← hs2, mu_s]
    have hbl : mu s 0 2 (p : Int) 31 st.length = 1 := by rw [mu_c (by decide), hB]; rfl
    by_cases h58 : cA (tx s) q = 58
    · rw [if_pos ⟨rfl, h58⟩]
      rw [h58] at hh
      have hqT : q < (tx s).2 := cA_in (by omega)
      generalize hs3 : mu s2 0 2 ((q : Int) + 1) = s3
      have hs3' : mu s 0 2 ((q : Int) + 1) = s3 := by rw [← hs3, ← hs2, mu_mu]
      have f3 : Fr (PF K N M C) s s3 := by rw [← hs3']; exact (Fr.rf s).mu (Or.inl ⟨rfl, Or.inl rfl⟩)
      obtain ⟨x3, o3, b3, w3⟩ := fr_pf f3 ho
      rw [hb] at b3
      have at3 : s3 0 2 = ((q + 1 : Nat) : Int) := by rw [← hs3, mu_s]; rfl
      by_cases hX : cA (tx s) (sk (tx s) (q + 1)) = 123
      · rw [pTk_ok hX, bd_ok]
        have he := t_exp_ok (d := d) (by omega) s3 o3 at3 (by rw [x3]; omega) (c := 123) (by decide) (by rw [x3]; exact hX)
        have hs4' : mu s3 0 2 (((sk (tx s) (q + 1) : Nat) : Int) + 1) = mu s 0 2 (((sk (tx s) (q + 1) : Nat) : Int) + 1) := by rw [← hs3', mu_mu]
        rw [x3, hs4'] at he
        have hg3 := sk_ge (tx s) (q + 1)
        have hrT : sk (tx s) (q + 1) < (tx s).2 := cA_in (by omega)
        generalize sk (tx s) (q + 1) = r at *
        generalize hs4 : mu s 0 2 ((r : Int) + 1) = s4 at he
        have st4 : s4 0 40 = K := by rw [← hs4, mu_i (by decide), hK]
        have hk := t_newStep (d := d) (by omega) s4 st4 (by omega) 2 p
        rw [pa_other (d := d) _ _ _ _ (by omega) mu_s (by omega) hbl (by rw [e0]; exact hh) at2 (by omega) (by rw [hs3]; exact he) hk l4]
        obtain ⟨a1, a2, a3⟩ := nStep_at (s := s4) (K := K) (o := 2) (p := p)
        have F4 : Fr (PF K N M C) s (nStep s4 K 2 p) := by
          refine Fr.tr ?_ (nStep_fr.mono (fun _ _ => FH_PF))
          rw [← hs4]
          exact (Fr.rf s).mu (Or.inl ⟨rfl, Or.inl rfl⟩)
        have q0 : ∀ {i : Nat}, i ≠ 40 → i ≠ 2 → nStep s4 K 2 p 0 i = s 0 i := fun h1 h2 => by rw [nStep_0 h1, ← hs4, mu_i h2]
        have at5 : nStep s4 K 2 p 0 2 = ((r + 1 : Nat) : Int) := by rw [nStep_0 (by decide), ← hs4, mu_s]; rfl
        have bl5 : ∀ i, nStep s4 K 2 p 31 i = s 31 i := fun i => by rw [nStep_fr (K := K) _ _ FH_blk, ← hs4, mu_c (by decide)]
        generalize nStep s4 K 2 p = s5 at *
        have F6 : Fr (PF K N M C) s (mu s5 31 st.length 2) := F4.mu PF_blk
        obtain ⟨x6, o6, b6, w6⟩ := fr_pf F6 ho
        refine OP_bi x6 rfl (Nat.le_refl _) (Nat.le_refl _) F6 ⟨by rw [mu_c (by decide)]; exact a1, by rw [mu_c (by decide)]; exact a2, Or.inr (Or.inr (Or.inl rfl))⟩ ?_
        have hIH := hPA (2 :: st) (r + 1) (sk (tx s) (r + 1)) (K + 1) N M C (mu s5 31 st.length 2) (aI 125) (aI p) (aI 1) ⟨o6, by rw [b6, hb], by rw [mu_c (by decide)]; exact at5, by rw [x6]; omega, by rw [x6], by rw [mu_c (by decide)]; exact a3, by rw [mu_c (by decide), q0 (by decide) (by decide), hN], by rw [mu_c (by decide), q0 (by decide) (by decide), hM], by rw [mu_c (by decide), q0 (by decide) (by decide), hC], by omega, by omega, by omega, by rw [List.length_cons]; omega, by rw [List.length_cons]; omega, fun x hx => ?_, mu_s, ?_⟩ (by rw [x6]; have := sk_ge (tx s) (r + 1); omega)
        · rw [x6] at hIH
          exact hIH
        · rcases List.mem_cons.mp hx with h | h
          · exact Or.inr h
          · exact hst2 x h
        · exact BS_put (fun j hj => by rw [mu_i (by omega), bl5]) hB2
      · rw [pTk_no hX, bd_er]
        have he := t_exp_no (d := d) (by omega) s3 o3 b3 at3 (by rw [x3]; omega) (c := 123) (by decide) (by rw [x3]; exact hX)
        rw [x3] at he
        generalize sk (tx s) (q + 1) = r at *
        generalize hs4 : mu (mu (mu s3 0 2 (r : Int)) 0 3 (r : Int)) 0 5 1 = s4 at he
        have f4 : Fr (PFX K N M C) s s4 := by
          rw [← hs4]
          exact (((f3.mono (fun _ _ => PF_X)).mu (Or.inl (Or.inl ⟨rfl, Or.inl rfl⟩))).mu (Or.inr (by decide))).mu (Or.inr (by decide))
        have st4 : s4 0 40 = K := by rw [← hs4, mu_i (by decide), mu_i (by decide), mu_i (by decide), ← hs3', mu_i (by decide), hK]
        have b4 : s4 0 5 = 1 := by rw [← hs4, mu_s]
        have w4 : s4 0 3 = r := by rw [← hs4, mu_i (by decide), mu_s]
        have hk := t_newStep (d := d) (by omega) s4 st4 (by omega) 2 p
        rw [pa_other (d := d) _ _ _ _ (by omega) mu_s (by omega) hbl (by rw [e0]; exact hh) at2 (by omega) (by rw [hs3]; exact he) hk l4]
        have b5 : mu (nStep s4 K 2 p) 31 st.length 2 0 5 = 1 := by rw [mu_c (by decide), nStep_0 (by decide), b4]
        exact ⟨_, pa_exit _ (by rw [b5]; decide) _ _ _ _, b5, by rw [mu_c (by decide), nStep_0 (by decide), w4], (f4.tr (nStep_fr.mono (fun _ _ h => Or.inl (FH_PF h)))).mu (Or.inl PF_blk)⟩
    · rw [if_neg (fun z => h58 z.2)]
      have st2 : s2 0 40 = K := by rw [q2 (by decide), hK]
      have hk := t_newStep (d := d) (by omega) s2 st2 (by omega) 3 p
      rw [pa_done1 (d := d) _ _ _ (by omega) mu_s (by omega) hbl (by rw [e0]; exact hh) h58 hk l4]
      exact fin s2 q q f2 st2 (by rw [q2 (by decide), hN]) (by rw [q2 (by decide), hM]) (by rw [q2 (by decide), hC]) at2 (by omega) hl1 ss1 (BS_put (fun j _ => k2 (by decide)) hB2)
  · rw [if_neg (fun z => hb1 z.1)]
    have hb2 : b = 2 := hbb.resolve_left hb1
    have hbl : ¬ mu s 0 2 (p : Int) 31 st.length = 1 := by rw [mu_c (by decide), hB, hb2]; decide
    have st1 : s1 0 40 = K := by rw [q1 (by decide), hK]
    have hk := t_newStep (d := d) (by omega) s1 st1 (by omega) 3 p
    rw [pa_done2 (d := d) _ _ (by omega) mu_s (by omega) hbl (by rw [e0]; exact hk) l4]
    exact fin s1 (p + 1) _ f1 st1 (by rw [q1 (by decide), hN]) (by rw [q1 (by decide), hM]) (by rw [q1 (by decide), hC]) at1 (by omega) (by omega) rfl (BS_put (fun j _ => k1 (by decide)) hB2)
