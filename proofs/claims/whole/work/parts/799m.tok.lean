/-! THE CLASS: the parser's state, and a token of it -/
def KS (s : Mem) (T : Tx) (u o k : Nat) : Prop := TKS s T u ∧ (∀ j, j < T.2 → 32 ≤ T.1 j) ∧ T.2 ≤ 200 ∧ s 131 4 = k ∧ k ≤ u ∧ s 131 3 = ((66 + o : Nat) : Int) ∧ (o = 0 ∨ o = 26)
def NX (k j : Nat) : Prop := k = 131 ∧ j = 4
def NF (k j : Nat) : Prop := k = 131 ∧ j = 5
theorem TKS_put {s s' : Mem} {T : Tx} {u : Nat} (f : ∀ q j, q = 112 ∨ q = 111 ∨ q = 113 → s' q j = s q j) (h : TKS s T u) : TKS s' T u := by
  obtain ⟨h1, h2, h3, h4, h5⟩ := h
  exact ⟨h1, fun k hk => ⟨(h2 k hk).1, PT_put (fun q hq => f q k hq) (h2 k hk).2⟩, h3, by rw [f _ _ (by omega)]; exact h4, by rw [f _ _ (by omega)]; exact h5⟩
theorem KS_put {S : Nat → Nat → Prop} {s s' : Mem} {T : Tx} {u o k k' : Nat} (h : KS s T u o k) (f : Fr S s s') (h1 : ∀ q j, q = 112 ∨ q = 111 ∨ q = 113 → ¬ S q j) (h2 : ¬ S 131 3) (h3 : s' 131 4 = k') (h4 : k' ≤ u) : KS s' T u o k' := by
  obtain ⟨g1, g2, g3, g4, g5, g6, g7⟩ := h
  exact ⟨TKS_put (fun q j hq => f q j (h1 q j hq)) g1, g2, g3, h3, h4, by rw [f _ _ h2]; exact g6, g7⟩
theorem KS_nx {s : Mem} {T : Tx} {u o k : Nat} (h : KS s T u o k) (hk : k < u) : KS (mu s 131 4 ((k : Int) + 1)) T u o (k + 1) :=
  KS_put (S := NX) h ((Fr.rf s).mu ⟨rfl, rfl⟩) (fun q j hq hn => by unfold NX at hn; omega) (by unfold NX; omega) (by rw [mu_s]; rfl) hk
theorem KS_le {s : Mem} {T : Tx} {u o k : Nat} (h : KS s T u o k) : k ≤ 200 ∧ u ≤ 200 ∧ k ≤ u := by
  obtain ⟨⟨g1, -⟩, -, g3, -, g5, -⟩ := h
  omega
theorem KS_lt {s : Mem} {T : Tx} {u o k : Nat} (h : KS s T u o k) (hc : 0 ≤ cA T (tP T k)) : k < u := TKS_lt h.1 h.2.2.2.2.1 hc
theorem KS_ch {s : Mem} {T : Tx} {u o k : Nat} {c : Int} (h : KS s T u o k) (hc : 32 < c ∧ ¬ isD c ∧ c ≠ 60) : s 111 k = c ↔ cA T (tP T k) = c := TKS_ch h.1 h.2.2.2.2.1 hc
theorem kt_kind {d k u o : Nat} {T : Tx} {s : Mem} (hd : 1 ≤ d) (h : KS s T u o k) : Zc d 138 [aR 131] s = rI (s 111 k) s := k_kind hd h.2.2.2.1 (by have := KS_le h; omega)
theorem kt_fail {d k u o : Nat} {T : Tx} {s : Mem} (hd : 1 ≤ d) (h : KS s T u o k) : Zc d 142 [aR 131] s = rI (-1) (mu s 131 5 (tP T k)) := by
  have := k_fail (d := d) hd h.2.2.2.1 (by have := KS_le h; omega)
  rw [TKS_at h.1 h.2.2.2.2.1] at this
  exact this
theorem kt_take {d k u o : Nat} {T : Tx} {s : Mem} {c : Int} (hd : 2 ≤ d) (h : KS s T u o k) (hc : 32 < c ∧ ¬ isD c ∧ c ≠ 60) (hy : cA T (tP T k) = c) :
    ∃ s', Zc d 141 [aR 131, aI c] s = rI 1 s' ∧ KS s' T u o (k + 1) ∧ tP T (k + 1) = sk T (tP T k + 1) ∧ Fr NX s s' := by
  have g := k_take (d := d) (c := c) hd h.2.2.2.1 (by have := KS_le h; omega)
  rw [if_pos ((KS_ch h hc).mpr hy)] at g
  exact ⟨_, g, KS_nx h (KS_lt h (by omega)), tP_one ⟨by omega, by omega⟩, (Fr.rf s).mu ⟨rfl, rfl⟩⟩
theorem kt_takeF {d k u o : Nat} {T : Tx} {s : Mem} {c : Int} (hd : 2 ≤ d) (h : KS s T u o k) (hc : 32 < c ∧ ¬ isD c ∧ c ≠ 60) (hy : ¬ cA T (tP T k) = c) :
    ∃ s', Zc d 141 [aR 131, aI c] s = rI 0 s' ∧ s' 131 5 = tP T k ∧ Fr NF s s' := by
  have g := k_take (d := d) (c := c) hd h.2.2.2.1 (by have := KS_le h; omega)
  rw [if_neg (fun z => hy ((KS_ch h hc).mp z)), TKS_at h.1 h.2.2.2.2.1] at g
  exact ⟨_, g, by rw [mu_s], (Fr.rf s).mu ⟨rfl, rfl⟩⟩
theorem kt_name {d k u o : Nat} {T : Tx} {s : Mem} (hd : 2 ≤ d) (h : KS s T u o k) (hy : isN (cA T (tP T k))) :
    ∃ s', Zc d 139 [aR 131] s = rI (cA T (tP T k) - 97) s' ∧ KS s' T u o (k + 1) ∧ tP T (k + 1) = sk T (tP T k + 1) ∧ Fr NX s s' := by
  have g := k_name (d := d) hd h.2.2.2.1 (by have := KS_le h; omega)
  obtain ⟨n1, n2⟩ := TKS_nm h.1 h.2.2.2.2.1
  rw [if_pos (n1.mpr hy), n2 hy] at g
  exact ⟨_, g, KS_nx h (KS_lt h (by omega)), tP_one ⟨by omega, by omega⟩, (Fr.rf s).mu ⟨rfl, rfl⟩⟩
theorem kt_nameF {d k u o : Nat} {T : Tx} {s : Mem} (hd : 2 ≤ d) (h : KS s T u o k) (hy : ¬ isN (cA T (tP T k))) :
    ∃ s', Zc d 139 [aR 131] s = rI (-1) s' ∧ s' 131 5 = tP T k ∧ Fr NF s s' := by
  have g := k_name (d := d) hd h.2.2.2.1 (by have := KS_le h; omega)
  obtain ⟨n1, n2⟩ := TKS_nm h.1 h.2.2.2.2.1
  rw [if_neg (fun z => hy (n1.mp z)), TKS_at h.1 h.2.2.2.2.1] at g
  exact ⟨_, g, by rw [mu_s], (Fr.rf s).mu ⟨rfl, rfl⟩⟩
theorem kt_num {d k u o : Nat} {T : Tx} {s : Mem} {lo hi : Int} (hd : 2 ≤ d) (h : KS s T u o k) (hh : hi ≤ 65535) (hy : okNu T lo hi (tP T k)) :
    ∃ s', Zc d 140 [aR 131, aI lo, aI hi] s = rI (nV T (tP T k) (nE T (tP T k) - tP T k)) s' ∧ KS s' T u o (k + 1) ∧ tP T (k + 1) = sk T (nE T (tP T k)) ∧ Fr NX s s' := by
  have g := k_number (d := d) (lo := lo) (hi := hi) hd h.2.2.2.1 (by have := KS_le h; omega)
  obtain ⟨n1, n2⟩ := TKS_nu (lo := lo) h.2.1 h.1 h.2.2.2.2.1 hh
  rw [if_pos (n1.mpr hy), (n2 hy).1] at g
  exact ⟨_, g, KS_nx h (KS_lt h (by have := hy.1; omega)), (n2 hy).2, (Fr.rf s).mu ⟨rfl, rfl⟩⟩
theorem kt_numF {d k u o : Nat} {T : Tx} {s : Mem} {lo hi : Int} (hd : 2 ≤ d) (h : KS s T u o k) (hh : hi ≤ 65535) (hy : ¬ okNu T lo hi (tP T k)) :
    ∃ s', Zc d 140 [aR 131, aI lo, aI hi] s = rI (-1) s' ∧ s' 131 5 = tP T k ∧ Fr NF s s' := by
  have g := k_number (d := d) (lo := lo) (hi := hi) hd h.2.2.2.1 (by have := KS_le h; omega)
  obtain ⟨n1, n2⟩ := TKS_nu (lo := lo) h.2.1 h.1 h.2.2.2.2.1 hh
  rw [if_neg (fun z => hy (n1.mp z)), TKS_at h.1 h.2.2.2.2.1] at g
  exact ⟨_, g, by rw [mu_s], (Fr.rf s).mu ⟨rfl, rfl⟩⟩
theorem KS_ar {s : Mem} {T : Tx} {u o k : Nat} (h : KS s T u o k) : s 111 k = 3 ↔ cA T (tP T k) = 60 ∧ cA T (tP T k + 1) = 61 := by
  obtain ⟨⟨h1, h2, h3, h4, h5⟩, g2, -, -, g5, -⟩ := h
  by_cases e : k = u
  · rw [e, h4, h3, cA_end (Nat.le_refl _)]
    omega
  · obtain ⟨p1, p2, p3, p4⟩ := h2 k (by omega)
    by_cases hd : isD (cA T (tP T k))
    · rw [(p3 hd).2]
      have : (if tE T (tP T k) - tP T k ≤ 5 ∧ nV T (tP T k) (tE T (tP T k) - tP T k) ≤ 65535 then (2 : Int) else 1) ≤ 2 := by split <;> omega
      constructor
      · intro z; omega
      · intro z; omega
    · rw [p4 hd]
      have := g2 (tP T k) p1
      rw [← cA_lt p1] at this
      unfold tE
      rw [if_neg hd]
      split
      next ha =>
        rw [if_pos (by omega)]
        exact ⟨fun _ => ha, fun _ => rfl⟩
      next ha =>
        rw [if_neg (by omega)]
        exact ⟨fun z => by omega, fun z => absurd z ha⟩
theorem kt_arr {d k u o : Nat} {T : Tx} {s : Mem} (hd : 2 ≤ d) (h : KS s T u o k) (hy : cA T (tP T k) = 60 ∧ cA T (tP T k + 1) = 61) :
    ∃ s', Zc d 141 [aR 131, aI 3] s = rI 1 s' ∧ KS s' T u o (k + 1) ∧ tP T (k + 1) = sk T (tP T k + 2) ∧ Fr NX s s' := by
  have g := k_take (d := d) (c := 3) hd h.2.2.2.1 (by have := KS_le h; omega)
  rw [if_pos ((KS_ar h).mpr hy)] at g
  refine ⟨_, g, KS_nx h (KS_lt h (by omega)), ?_, (Fr.rf s).mu ⟨rfl, rfl⟩⟩
  show sk T (tE T (tP T k)) = _
  unfold tE
  rw [if_neg (by omega), if_pos hy]
theorem kt_arrF {d k u o : Nat} {T : Tx} {s : Mem} (hd : 2 ≤ d) (h : KS s T u o k) (hy : ¬ (cA T (tP T k) = 60 ∧ cA T (tP T k + 1) = 61)) :
    ∃ s', Zc d 141 [aR 131, aI 3] s = rI 0 s' ∧ s' 131 5 = tP T k ∧ Fr NF s s' := by
  have g := k_take (d := d) (c := 3) hd h.2.2.2.1 (by have := KS_le h; omega)
  rw [if_neg (fun z => hy ((KS_ar h).mp z)), TKS_at h.1 h.2.2.2.2.1] at g
  exact ⟨_, g, by rw [mu_s], (Fr.rf s).mu ⟨rfl, rfl⟩⟩
/-- what an expression writes -/
def XF (o N P k j : Nat) : Prop := (k = 131 ∧ j = 4) ∨ (k = 66 + o ∧ j = 7) ∨ (67 + o ≤ k ∧ k ≤ 71 + o ∧ N ≤ j) ∨ (k = 124 ∧ j = 6) ∨ (k = 129 ∧ P ≤ j)
def XFX (o N P k j : Nat) : Prop := XF o N P k j ∨ (k = 131 ∧ j = 5)
theorem XF_X {o N P k j : Nat} (h : XF o N P k j) : XFX o N P k j := Or.inl h
theorem XF_le {o N P N' P' k j : Nat} (h1 : N ≤ N') (h2 : P ≤ P') (h : XF o N' P' k j) : XF o N P k j := by
  rcases h with h | h | h | h | h
  · exact Or.inl h
  · exact Or.inr (Or.inl h)
  · exact Or.inr (Or.inr (Or.inl ⟨h.1, h.2.1, by omega⟩))
  · exact Or.inr (Or.inr (Or.inr (Or.inl h)))
  · exact Or.inr (Or.inr (Or.inr (Or.inr ⟨h.1, by omega⟩)))
theorem XFX_le {o N P N' P' k j : Nat} (h1 : N ≤ N') (h2 : P ≤ P') (h : XFX o N' P' k j) : XFX o N P k j := h.elim (fun h => Or.inl (XF_le h1 h2 h)) Or.inr
theorem NX_XF {o N P k j : Nat} (h : NX k j) : XF o N P k j := Or.inl h
theorem NX_XFX {o N P k j : Nat} (h : NX k j) : XFX o N P k j := Or.inl (Or.inl h)
theorem NF_XFX {o N P k j : Nat} (h : NF k j) : XFX o N P k j := Or.inr h
theorem XFX_no {o N P : Nat} (ho : o = 0 ∨ o = 26) : (∀ q j, q = 112 ∨ q = 111 ∨ q = 113 → ¬ XFX o N P q j) ∧ ¬ XFX o N P 131 3 := by
  unfold XFX XF
  refine ⟨fun q j hq => ?_, ?_⟩ <;> omega
theorem KS_X {s s' : Mem} {T : Tx} {u o k k' N P : Nat} (h : KS s T u o k) (f : Fr (XFX o N P) s s') (h3 : s' 131 4 = k') (h4 : k' ≤ u) : KS s' T u o k' :=
  KS_put h f (XFX_no h.2.2.2.2.2.2).1 (XFX_no h.2.2.2.2.2.2).2 h3 h4
