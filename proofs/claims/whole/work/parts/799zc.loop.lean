theorem TKS_mono {s : Mem} {T : Tx} {u : Nat} (h : TKS s T u) {k : Nat} : ∀ m, k + m < u → tP T k < tP T (k + m + 1) := by
  have one : ∀ j, j < u → tP T j < tP T (j + 1) := fun j hj => by
    have h1 := (h.2.1 j hj).1
    have h2 := tE_gt h1
    have h3 := sk_ge T (tE T (tP T j))
    show tP T j < sk T (tE T (tP T j))
    omega
  intro m
  induction m with
  | zero => exact fun hm => one k hm
  | succ m ih =>
    intro hm
    have h1 := ih (by omega)
    have h2 := one (k + m + 1) (by omega)
    show tP T k < tP T (k + m + 1 + 1)
    omega
theorem KS_mono {s : Mem} {T : Tx} {u o k k' : Nat} (h : KS s T u o k') (hk : k < k') : tP T k < tP T k' := by
  have := TKS_mono h.1 (k := k) (k' - k - 1) (by have := KS_le h; omega)
  rw [show k + (k' - k - 1) + 1 = k' by omega] at this
  exact this
def SQ (s : Mem) (T : Tx) (u o k K N P M C : Nat) (st : List Nat) : Prop := KS s T u o k ∧ CN s o K N P M C ∧ (K + st.length ≤ k ∧ N ≤ 25 + k ∧ P ≤ k ∧ M ≤ k + 1 ∧ C ≤ k) ∧ s 131 6 = st.length ∧ st.length ≤ 3 ∧ (∀ b, b ∈ st → b = 1 ∨ b = 2) ∧ BC s st ∧ s 131 5 = -1
def QA (d fu : Nat) (T : Tx) (u o r1 : Nat) : Prop := ∀ (st : List Nat) (k K N P M C i : Nat) (s : Mem), SQ s T u o k K N P M C st → i ≤ k → T.2 < tP T k + fu → QO st o K N P M C s (Ze d 123 7 [aR 131, aR r1, aI i] [] s) (pIts T fu st (tP T k))
theorem nrm_it {st : List Nat} {i : It} (h : i.1 = 0 ∨ i.1 = 4 ∨ i.1 = 5) (r : List It) : nrm st (i :: r) = i :: nrm st r := by
  simp only [nrm]
  rw [if_neg (by omega), if_neg (by omega), if_neg (by omega)]
theorem qa_it {d fu k K N P M C i u o r1 : Nat} {T : Tx} {st : List Nat} {s : Mem} {W : Option Res} {x : PR It} (hQ : QA d fu T u o r1) (h : SQ s T u o k K N P M C st) (hi : i ≤ k) (hfu : T.2 < tP T k + (fu + 1)) (hx : ∀ it q, x = .ok (it, q) → it.1 = 0 ∨ it.1 = 4 ∨ it.1 = 5) (hIO : IO T u o k K N P M C s W x)
    (hgo : ∀ s', W = rV s' → Ze d 123 7 [aR 131, aR r1, aI i] [] s = Ze d 123 7 [aR 131, aR r1, aI ((i + 1 : Nat) : Int)] [] s') :
    QO st o K N P M C s (Ze d 123 7 [aR 131, aR r1, aI i] [] s) (bd x fun it p1 => bi (pIts T fu st p1) fun r => .ok (it :: r)) := by
  obtain ⟨h1, h2, h3, h4, h5, h6, h7, h8⟩ := h
  have ho : o = 0 ∨ o = 26 := h1.2.2.2.2.2.2
  cases x with
  | error f =>
    obtain ⟨s', e1, e2, e3⟩ := hIO
    rw [bd_er, hgo s' e1, fi_bad e2]
    exact ⟨s', rfl, e3.mono (fun _ _ h => PCX_G h)⟩
  | ok iq =>
    obtain ⟨it, q⟩ := iq
    obtain ⟨s', k', P', M', C', e1, e2, e3, e4, e5, e6, ⟨e7, e8, e9⟩, ⟨e10, e11, e12, e13⟩, e14⟩ := hIO
    subst e3
    rw [bd_ok, hgo s' e1]
    have hm := KS_mono e2 (k := k) (by omega)
    have hS : SQ s' T u o k' (K + 1) (N + nsz it) P' M' C' st := ⟨e2, e6, ⟨by omega, by omega, by omega, by omega, by omega⟩, by rw [e14 _ _ (PC_pa ho (by decide)), h4], h5, h6, BC_put (fun j _ => e14 _ _ (PC_in ho)) h7, by rw [e14 _ _ (PC_pa ho (by decide)), h8]⟩
    exact QO_cons ho (e14.mono (fun _ _ h => PC_G h)) e5 ⟨e7, e8, e9⟩ (nrm_it (hx it _ rfl)) (hQ st k' (K + 1) (N + nsz it) P' M' C' (i + 1) s' hS (by omega) (by omega))
theorem qa_choice {d fu k K N P M C i u o r1 : Nat} {T : Tx} {st : List Nat} {s : Mem} (hd : 15 ≤ d) (hQ : QA d fu T u o r1) (h : SQ s T u o k K N P M C st) (hi : i ≤ k) (hfu : T.2 < tP T k + (fu + 1)) (h63 : cA T (tP T k) = 63) (h3 : st.length < 3) :
    QO st o K N P M C s (Ze d 123 7 [aR 131, aR r1, aI i] [] s) (bd (pEx T 6 (sk T (tP T k + 1))) fun e p1 => bd (pTk T 123 p1) fun _ p2 => bi (pIts T fu (1 :: st) p2) fun r => .ok ((1, tP T k, 0, 0, tNil, e) :: r)) := by
  obtain ⟨h1, h2, hb, h4, h5, h6, h7, h8⟩ := h
  have ho : o = 0 ∨ o = 26 := h1.2.2.2.2.2.2
  have hlt := KS_lt h1 (by omega)
  have hk := (KS_ch h1 (c := 63) (by decide)).mpr h63
  have hle := KS_le h1
  have g1 := KS_nx h1 hlt
  have f1 : Fr NX s (mu s 131 4 ((k : Int) + 1)) := (Fr.rf s).mu ⟨rfl, rfl⟩
  have F1 : Fr (PC o K N P M C) s (mu s 131 4 ((k : Int) + 1)) := f1.mono (fun _ _ h => NX_PC h)
  have cn1 := NX_CN ho f1 h2
  obtain ⟨e, rfl⟩ : ∃ e, d = e + 1 := ⟨d - 1, by omega⟩
  have hgo := fun s' e => fi_q (r1 := r1) (i := i) (s' := s') (show 1 ≤ e + 1 by omega) h1 (by omega) h8 hk
  rw [← tP_one (k := k) ⟨by omega, by omega⟩]
  have hy := k_expr6 (d := e) (by omega) g1 cn1.2.2.1 (by omega) cn1.2.1 (by omega)
  cases hx : pEx T 6 (tP T (k + 1)) with
  | error f =>
    rw [hx] at hy
    rw [bd_er]
    rcases hy with ⟨s3, i1, i2, i3⟩ | ⟨s3, k3, v, i1, i2, i3, i4, i5⟩
    · rw [fi_q (by omega) h1 (by omega) h8 hk (oc_F (s1 := s) (n := 0) h1 h4 h3 (Or.inl i1)), fi_bad i2]
      exact ⟨s3, rfl, (F1.mono (fun _ _ h => PCX_G (PC_X h))).tr (i3.mono (fun _ _ h => PCX_G (XFX_PC h)))⟩
    · subst i3
      have := kt_takeE (d := e) (c := 123) (by omega) i2 (by decide) (by omega)
      rw [fi_q (by omega) h1 (by omega) h8 hk (oc_F h1 h4 h3 (Or.inr ⟨i1, this⟩)), fi_bad mu_s]
      exact ⟨_, rfl, ((F1.tr (i5.mono (fun _ _ h => XF_PC h))).mono (fun _ _ h => PG_X (PC_G h))).mu (Or.inr ⟨rfl, rfl⟩)⟩
  | ok tq =>
    obtain ⟨ex, q⟩ := tq
    rw [hx] at hy
    obtain ⟨s3, k3, P', i1, i2, i3, i4, i5, i6, i7, i8, i9, i10⟩ := hy
    rw [bd_ok]
    subst i3
    have F3 : Fr (PC o K N P M C) s s3 := F1.tr (i10.mono (fun _ _ h => XF_PC h))
    unfold pTk
    by_cases h123 : cA T (tP T k3) = 123
    · rw [if_pos h123, bd_ok]
      obtain ⟨s4, j1, j2, j3, j4⟩ := kt_take (d := e) (by omega) i2 (by decide) h123
      have hle4 := KS_le j2
      have cn4 : CN s4 o K (N + esz ex) P' M C := NX_CN ho j4 ⟨by rw [i10 _ _ (by unfold XF; omega)]; exact cn1.1, i8, i7, by rw [i10 _ _ (by unfold XF; omega)]; exact cn1.2.2.2.1, by rw [i10 _ _ (by unfold XF; omega)]; exact cn1.2.2.2.2⟩
      have F4 : Fr (PC o K N P M C) s s4 := F3.tr (j4.mono (fun _ _ h => NX_PC h))
      have dp4 : s4 131 6 = st.length := by rw [F4 _ _ (PC_pa ho (by decide)), h4]
      have hz := oc_ok (d := e) (by omega) h1 h4 h3 i1 j1 cn4.1 (by omega) dp4
      rw [fi_q (by omega) h1 (by omega) h8 hk hz, ← j3]
      have hes := esz_pos ex
      obtain ⟨a1, a2, a3, a4, a5, a6⟩ := sAdd_at (s := s4) (K := K) (a := 63) (b := tP T k) (c := ((N + esz ex - 1 : Nat) : Int)) (e := 0)
      have cn5 := sAdd_CN (a := 63) (b := tP T k) (c := ((N + esz ex - 1 : Nat) : Int)) (e := 0) ho cn4
      have F5 : Fr (PC o K N P M C) s (sAdd s4 K 63 (tP T k) ((N + esz ex - 1 : Nat) : Int) 0) := F4.tr (sAdd_fr (Nat.le_refl _))
      generalize sAdd s4 K 63 (tP T k) ((N + esz ex - 1 : Nat) : Int) 0 = s5 at *
      have m6 : ∀ c j, c ≠ 132 → ¬ (c = 131 ∧ j = 6) → mu (mu s5 132 st.length 0) 131 6 ((st.length : Int) + 1) c j = s5 c j := fun c j hc hn => by
        by_cases e : c = 131
        · rw [mu_i (by omega), mu_c hc]
        · rw [mu_c e, mu_c hc]
      have F6 : Fr (PG o K N P M C) s (mu (mu s5 132 st.length 0) 131 6 ((st.length : Int) + 1)) := ((F5.mono (fun _ _ h => PC_G h)).mu (Or.inr (Or.inr rfl))).mu (Or.inr (Or.inl ⟨rfl, rfl⟩))
      have d6 : mu (mu s5 132 st.length 0) 131 6 ((st.length : Int) + 1) 131 6 = ((st.length + 1 : Nat) : Int) := by rw [mu_s]; rfl
      have in6 : ∀ j, mu (mu s5 132 st.length 0) 131 6 ((st.length : Int) + 1) 132 j = if j = st.length then 0 else s 132 j := fun j => by
        rw [mu_c (by decide)]
        by_cases e : j = st.length
        · rw [if_pos e, e, mu_s]
        · rw [if_neg e, mu_i e, F5 _ _ (PC_in ho)]
      generalize mu (mu s5 132 st.length 0) 131 6 ((st.length : Int) + 1) = s6 at *
      have K6 : KS s6 T u o (k3 + 1) := KS_G h1 (F6.mono (fun _ _ h => PG_X h)) (by rw [m6 _ _ (by decide) (by decide), a6 _ _ (by omega)]; exact j2.2.2.2.1) hle4.2.2
      have cn6 : CN s6 o (K + 1) (N + esz ex) P' M C := by
        obtain ⟨b1, b2, b3, b4, b5⟩ := cn5
        exact ⟨by rw [m6 _ _ (by decide) (by decide), b1], by rw [m6 _ _ (by omega) (by omega), b2], by rw [m6 _ _ (by decide) (by decide), b3], by rw [m6 _ _ (by decide) (by decide), b4], by rw [m6 _ _ (by decide) (by decide), b5]⟩
      have ci : CIt s6 o K N P' M C (1, tP T k, 0, 0, tNil, ex) := by
        refine ⟨by rw [m6 _ _ (by decide) (by omega), a2], Or.inr (Or.inl ⟨rfl, by rw [m6 _ _ (by decide) (by omega), a1], by rw [m6 _ _ (by decide) (by omega), a3], ?_⟩)⟩
        exact CE_put i9 ⟨fun q j hq _ _ => by rw [m6 _ _ (by omega) (by omega), a6 _ _ (by omega), (NX_at j4).2 _ _ (by omega)], fun j _ => by rw [m6 _ _ (by decide) (by omega), a6 _ _ (by omega), (NX_at j4).2 _ _ (by omega)]⟩
      have hnz : nsz (1, tP T k, 0, 0, tNil, ex) = esz ex := rfl
      have hm := KS_mono K6 (k := k) (by omega)
      refine QO_cons (st' := 1 :: st) (P1 := P') (M1 := M) (C1 := C) ho F6 ci ⟨i6, Nat.le_refl _, Nat.le_refl _⟩ (fun r => by simp only [nrm]; rw [if_neg (by decide), if_pos trivial]) ?_
      rw [hnz]
      refine hQ (1 :: st) (k3 + 1) (K + 1) (N + esz ex) P' M C (i + 1) s6 ⟨K6, cn6, ⟨by rw [List.length_cons]; omega, by omega, by omega, by omega, by omega⟩, by rw [List.length_cons]; exact d6, by rw [List.length_cons]; omega, ?_, ⟨?_, ?_⟩, ?_⟩ (by omega) (by omega)
      · intro b hb
        rcases List.mem_cons.mp hb with hb | hb
        · exact Or.inl hb
        · exact h6 b hb
      · rw [in6, if_pos rfl, if_neg (by decide)]
      · exact BC_put (fun j hj => by rw [in6, if_neg (by omega)]) h7
      · rw [m6 _ _ (by decide) (by omega), F5 _ _ (PC_pa ho (by decide)), h8]
    · rw [if_neg h123, bd_er]
      obtain ⟨s4, j1, j2, j3⟩ := kt_takeF (d := e) (by omega) i2 (by decide) h123
      rw [fi_q (by omega) h1 (by omega) h8 hk (oc_F h1 h4 h3 (Or.inr ⟨i1, j1⟩)), fi_bad j2]
      exact ⟨s4, rfl, (F3.mono (fun _ _ h => PCX_G (PC_X h))).tr (j3.mono (fun _ _ h => PCX_G (NF_PC h)))⟩
theorem qa_close {d fu k K N P M C i u o r1 b : Nat} {T : Tx} {st : List Nat} {s : Mem} (hd : 15 ≤ d) (hQ : QA d fu T u o r1) (h : SQ s T u o k K N P M C (b :: st)) (hi : i ≤ k) (hfu : T.2 < tP T k + (fu + 1)) (h125 : cA T (tP T k) = 125) :
    QO (b :: st) o K N P M C s (Ze d 123 7 [aR 131, aR r1, aI i] [] s) (if (b :: st).head? = some 1 ∧ cA T (sk T (tP T k + 1)) = 58 then
        bd (pTk T 123 (sk T (sk T (tP T k + 1) + 1))) fun _ p2 =>
        bi (pIts T fu (2 :: (b :: st).tail) p2) fun r =>
        .ok ((2, tP T k, 0, 0, tNil, tNil) :: r)
      else
        bi (pIts T fu (b :: st).tail (sk T (tP T k + 1))) fun r =>
        .ok ((3, tP T k, 0, 0, tNil, tNil) :: r)) := by
  obtain ⟨h1, h2, hb, h4, h5, h6, ⟨h7, h7'⟩, h8⟩ := h
  have ho : o = 0 ∨ o = 26 := h1.2.2.2.2.2.2
  have hlt := KS_lt h1 (by omega)
  have hk := (KS_ch h1 (c := 125) (by decide)).mpr h125
  have hle := KS_le h1
  have g1 := KS_nx h1 hlt
  have f1 : Fr NX s (mu s 131 4 ((k : Int) + 1)) := (Fr.rf s).mu ⟨rfl, rfl⟩
  have F1 : Fr (PC o K N P M C) s (mu s 131 4 ((k : Int) + 1)) := f1.mono (fun _ _ h => NX_PC h)
  have cn1 := NX_CN ho f1 h2
  rw [List.length_cons] at h4 h5 hb
  obtain ⟨e, rfl⟩ : ∃ e, d = e + 1 := ⟨d - 1, by omega⟩
  rw [← tP_one (k := k) ⟨by omega, by omega⟩]
  have hb12 := h6 b (List.mem_cons_self ..)
  have h6' : ∀ x, x ∈ st → x = 1 ∨ x = 2 := fun x hx => h6 x (List.mem_cons_of_mem _ hx)
  have hz0 : nsz (2, tP T k, 0, 0, tNil, tNil) = 0 := rfl
  have hz3 : nsz (3, tP T k, 0, 0, tNil, tNil) = 0 := rfl
  -- the end
  have fin : ∀ (K' : Nat) (s5 : Mem), Zc (e + 1) 129 [aR 131] s = rV (mu s5 131 6 st.length) → Fr (PC o K N P M C) s s5 → CN s5 o (K' + 1) N P M C → s5 131 4 = ((k + 1 : Nat) : Int) → K' + 1 + st.length ≤ k + 1 → QO st o (K' + 1) N P M C (mu s5 131 6 st.length) (Ze (e + 1) 123 7 [aR 131, aR r1, aI i] [] s) (pIts T fu st (tP T (k + 1))) := by
    intro K' s5 e1 F5 cn5 hnx hKK
    have m6 : ∀ c j, ¬ (c = 131 ∧ j = 6) → mu s5 131 6 st.length c j = s5 c j := fun c j hn => by
      by_cases e : c = 131
      · rw [mu_i (by omega)]
      · rw [mu_c e]
    have d6 : mu s5 131 6 st.length 131 6 = st.length := mu_s
    have F6 : Fr (PG o K N P M C) s (mu s5 131 6 st.length) := (F5.mono (fun _ _ h => PC_G h)).mu (Or.inr (Or.inl ⟨rfl, rfl⟩))
    rw [fi_c (by omega) h1 (by omega) h8 hk e1]
    generalize mu s5 131 6 st.length = s6 at *
    have K6 : KS s6 T u o (k + 1) := KS_G h1 (F6.mono (fun _ _ h => PG_X h)) (by rw [m6 _ _ (by omega), hnx]) hlt
    have hm := KS_mono K6 (k := k) (by omega)
    obtain ⟨b1, b2, b3, b4, b5⟩ := cn5
    refine hQ st (k + 1) (K' + 1) N P M C (i + 1) s6 ⟨K6, ⟨by rw [m6 _ _ (by omega), b1], by rw [m6 _ _ (by omega), b2], by rw [m6 _ _ (by omega), b3], by rw [m6 _ _ (by omega), b4], by rw [m6 _ _ (by omega), b5]⟩, ⟨by omega, by omega, by omega, by omega, by omega⟩, d6, by omega, h6', ?_, ?_⟩ (by omega) (by omega)
    · exact BC_put (fun j hj => by rw [m6 _ _ (by omega), F5 _ _ (PC_in ho)]) h7'
    · rw [m6 _ _ (by omega), F5 _ _ (PC_pa ho (by decide)), h8]
  have hnil : ∀ st' : List Nat, ∀ r, st'.head? ≠ some 1 → nrm st' ((3, tP T k, 0, 0, tNil, tNil) :: r) = (3, tP T k, 0, 0, tNil, tNil) :: nrm st'.tail r := by
    intro st' r hh
    simp only [nrm]
    rw [if_pos trivial, if_neg hh]
  by_cases hb1 : b = 1
  · subst hb1
    have hin : s 132 st.length = 0 := by rw [h7, if_neg (by decide)]
    by_cases h58 : cA T (tP T (k + 1)) = 58
    · rw [if_pos ⟨rfl, h58⟩]
      have hlt1 := KS_lt g1 (by omega)
      rw [← tP_one (k := k + 1) ⟨by omega, by omega⟩]
      obtain ⟨a1, a2, a3, a4, a5, a6⟩ := sAdd_at (s := mu s 131 4 ((k : Int) + 1)) (K := K) (a := 58) (b := tP T k) (c := 0) (e := 0)
      have cn5 := sAdd_CN (a := 58) (b := tP T k) (c := 0) (e := 0) ho cn1
      have F5 : Fr (PC o K N P M C) s (sAdd (mu s 131 4 ((k : Int) + 1)) K 58 (tP T k) 0 0) := F1.tr (sAdd_fr (Nat.le_refl _))
      have hcl := fun v s2 ht => cl_more (d := e) (s2 := s2) (v := v) (by omega) h1 hlt h4 (by omega) hin h2.1 (by omega) h58 ht
      generalize sAdd (mu s 131 4 ((k : Int) + 1)) K 58 (tP T k) 0 0 = s5 at *
      have m6 : ∀ c j, c ≠ 132 → ¬ (c = 131 ∧ j = 4) → mu (mu s5 131 4 (((k + 1 : Nat) : Int) + 1)) 132 st.length 1 c j = s5 c j := fun c j hc hn => by
        rw [mu_c hc]
        by_cases e : c = 131
        · rw [mu_i (by omega)]
        · rw [mu_c e]
      have F6 : Fr (PG o K N P M C) s (mu (mu s5 131 4 (((k + 1 : Nat) : Int) + 1)) 132 st.length 1) := ((F5.mono (fun _ _ h => PC_G h)).mu (Or.inl (NX_PC ⟨rfl, rfl⟩))).mu (Or.inr (Or.inr rfl))
      have n6 : mu (mu s5 131 4 (((k + 1 : Nat) : Int) + 1)) 132 st.length 1 131 4 = ((k + 2 : Nat) : Int) := by rw [mu_c (by decide), mu_s]; rfl
      have in6 : ∀ j, mu (mu s5 131 4 (((k + 1 : Nat) : Int) + 1)) 132 st.length 1 132 j = if j = st.length then 1 else s 132 j := fun j => by
        by_cases e : j = st.length
        · rw [if_pos e, e, mu_s]
        · rw [if_neg e, mu_i e, mu_c (by decide), F5 _ _ (PC_in ho)]
      generalize mu (mu s5 131 4 (((k + 1 : Nat) : Int) + 1)) 132 st.length 1 = s6 at *
      have K6 : KS s6 T u o (k + 1 + 1) := KS_G h1 (F6.mono (fun _ _ h => PG_X h)) n6 (by omega)
      unfold pTk
      by_cases h123 : cA T (tP T (k + 1 + 1)) = 123
      · rw [if_pos h123, bd_ok]
        obtain ⟨s7, j1, j2, j3, j4⟩ := kt_take (d := e) (by omega) K6 (by decide) h123
        rw [← j3, fi_c (by omega) h1 (by omega) h8 hk (hcl _ _ j1)]
        obtain ⟨-, n7⟩ := NX_at j4
        have m7 : ∀ c j, c ≠ 131 → c ≠ 132 → s7 c j = s5 c j := fun c j h1 h2 => by rw [n7 _ _ h1, m6 _ _ h2 (by omega)]
        have p7 : ∀ j, j ≠ 4 → s7 131 j = s 131 j := fun j hj => by rw [j4 _ _ (by unfold NX; omega), m6 _ _ (by decide) (by omega), F5 _ _ (PC_pa ho hj)]
        have F7 : Fr (PG o K N P M C) s s7 := F6.tr (j4.mono (fun _ _ h => Or.inl (NX_PC h)))
        have cn7 : CN s7 o (K + 1) N P M C := by
          obtain ⟨b1, b2, b3, b4, b5⟩ := cn5
          exact ⟨by rw [m7 _ _ (by decide) (by decide), b1], by rw [m7 _ _ (by omega) (by omega), b2], by rw [m7 _ _ (by decide) (by decide), b3], by rw [m7 _ _ (by decide) (by decide), b4], by rw [m7 _ _ (by decide) (by decide), b5]⟩
        have ci : CIt s7 o K N P M C (2, tP T k, 0, 0, tNil, tNil) := ⟨by rw [m7 _ _ (by decide) (by decide), a2], Or.inr (Or.inr (Or.inl ⟨rfl, by rw [m7 _ _ (by decide) (by decide), a1]⟩))⟩
        have hm := KS_mono j2 (k := k) (by omega)
        refine QO_cons (st' := 2 :: st) (P1 := P) (M1 := M) (C1 := C) ho F7 ci ⟨Nat.le_refl _, Nat.le_refl _, Nat.le_refl _⟩ (fun r => by simp only [nrm]; rw [if_neg (by decide), if_neg (by decide), if_pos trivial]; rfl) ?_
        refine hQ (2 :: st) (k + 1 + 1 + 1) (K + 1) N P M C (i + 1) s7 ⟨j2, cn7, ⟨by rw [List.length_cons]; omega, by omega, by omega, by omega, by omega⟩, by rw [List.length_cons, p7 _ (by decide), h4], by rw [List.length_cons]; omega, ?_, ⟨?_, ?_⟩, ?_⟩ (by omega) (by omega)
        · intro x hx
          rcases List.mem_cons.mp hx with hx | hx
          · exact Or.inr hx
          · exact h6' x hx
        · rw [n7 _ _ (by decide), in6, if_pos rfl, if_pos rfl]
        · exact BC_put (fun j hj => by rw [n7 _ _ (by decide), in6, if_neg (by omega)]) h7'
        · rw [p7 _ (by decide), h8]
      · rw [if_neg h123, bd_er]
        obtain ⟨s7, j1, j2, j3⟩ := kt_takeF (d := e) (by omega) K6 (by decide) h123
        rw [fi_c (by omega) h1 (by omega) h8 hk (hcl _ _ j1), fi_bad j2]
        exact ⟨s7, rfl, (F6.mono (fun _ _ h => PG_X h)).tr (j3.mono (fun _ _ h => PCX_G (NF_PC h)))⟩
    · rw [if_neg (fun z => h58 z.2)]
      have e1 := cl_one (d := e) (by omega) h1 hlt h4 (by omega) hin h2.1 (by omega) h58
      obtain ⟨a1, a2, a3, a4, a5, a6⟩ := sAdd_at (s := mu s 131 4 ((k : Int) + 1)) (K := K) (a := 58) (b := tP T k) (c := 0) (e := 0)
      have cn5 := sAdd_CN (a := 58) (b := tP T k) (c := 0) (e := 0) ho cn1
      have F5 : Fr (PC o K N P M C) s (sAdd (mu s 131 4 ((k : Int) + 1)) K 58 (tP T k) 0 0) := F1.tr (sAdd_fr (Nat.le_refl _))
      have n5 : sAdd (mu s 131 4 ((k : Int) + 1)) K 58 (tP T k) 0 0 131 4 = ((k + 1 : Nat) : Int) := by rw [a6 _ _ (by omega), mu_s]; rfl
      generalize sAdd (mu s 131 4 ((k : Int) + 1)) K 58 (tP T k) 0 0 = s5 at *
      obtain ⟨c1, c2, c3, c4, c5, c6⟩ := sAdd_at (s := s5) (K := K + 1) (a := 125) (b := tP T k) (c := 0) (e := 0)
      have cn6 := sAdd_CN (a := 125) (b := tP T k) (c := 0) (e := 0) ho cn5
      have F6 : Fr (PC o K N P M C) s (sAdd s5 (K + 1) 125 (tP T k) 0 0) := F5.tr (sAdd_fr (by omega))
      have n6 : sAdd s5 (K + 1) 125 (tP T k) 0 0 131 4 = ((k + 1 : Nat) : Int) := by rw [c6 _ _ (by omega), n5]
      have hI := fin (K + 1) _ e1 F6 cn6 n6 (by omega)
      generalize sAdd s5 (K + 1) 125 (tP T k) 0 0 = s6 at *
      have m7 : ∀ c j, c ≠ 131 → mu s6 131 6 st.length c j = s6 c j := fun c j hc => mu_c hc
      have F7 : Fr (PG o K N P M C) s (mu s6 131 6 st.length) := (F6.mono (fun _ _ h => PC_G h)).mu (Or.inr (Or.inl ⟨rfl, rfl⟩))
      generalize mu s6 131 6 st.length = s7 at *
      have ci2 : CIt s7 o K N P M C (2, tP T k, 0, 0, tNil, tNil) := ⟨by rw [m7 _ _ (by decide), c6 _ _ (by omega), a2], Or.inr (Or.inr (Or.inl ⟨rfl, by rw [m7 _ _ (by decide), c6 _ _ (by omega), a1]⟩))⟩
      have ci3 : CIt s7 o (K + 1) N P M C (3, tP T k, 0, 0, tNil, tNil) := ⟨by rw [m7 _ _ (by decide), c2], Or.inr (Or.inr (Or.inr (Or.inl ⟨rfl, by rw [m7 _ _ (by decide), c1]⟩)))⟩
      have q1 := QO_cons (st := 2 :: st) (st' := st) (P := P) (M := M) (C := C) (s := s7) (s1 := s7) (K := K + 1) (N := N) ho (Fr.rf s7) ci3 ⟨Nat.le_refl _, Nat.le_refl _, Nat.le_refl _⟩ (fun r => hnil (2 :: st) r (by simp)) hI
      have q2 := QO_cons (st := 1 :: st) (st' := 2 :: st) (P := P) (M := M) (C := C) (s := s) (s1 := s7) (K := K) (N := N) ho F7 ci2 ⟨Nat.le_refl _, Nat.le_refl _, Nat.le_refl _⟩ (fun r => by simp only [nrm]; rw [if_neg (by decide), if_neg (by decide), if_pos trivial]; rfl) q1
      -- the two ends are one item of the document
      generalize Ze (e + 1) 123 7 [aR 131, aR r1, aI i] [] s = Z at *
      show QO (1 :: st) o K N P M C s Z (bi (pIts T fu st (tP T (k + 1))) fun r => .ok ((3, tP T k, 0, 0, tNil, tNil) :: r))
      cases hp : pIts T fu st (tP T (k + 1)) with
      | error f =>
        rw [hp, bi_er, bi_er] at q2
        rw [bi_er]
        exact q2
      | ok r =>
        rw [hp, bi_ok, bi_ok] at q2
        rw [bi_ok]
        unfold QO at q2 ⊢
        dsimp only at q2 ⊢
        have hn : nrm (1 :: st) ((3, tP T k, 0, 0, tNil, tNil) :: r) = nrm (1 :: st) ((2, tP T k, 0, 0, tNil, tNil) :: (3, tP T k, 0, 0, tNil, tNil) :: r) := by
          simp only [nrm, List.head?, List.tail]
          rfl
        rw [hn]
        exact q2
  · have hb2 : b = 2 := by omega
    subst hb2
    rw [if_neg (fun z => by have := z.1; simp at this)]
    have hin : s 132 st.length = 1 := by rw [h7, if_pos rfl]
    have e1 := cl_two (d := e) (by omega) h1 h4 (by omega) hin h2.1 (by omega)
    obtain ⟨a1, a2, a3, a4, a5, a6⟩ := sAdd_at (s := mu s 131 4 ((k : Int) + 1)) (K := K) (a := 125) (b := tP T k) (c := 0) (e := 0)
    have cn5 := sAdd_CN (a := 125) (b := tP T k) (c := 0) (e := 0) ho cn1
    have F5 : Fr (PC o K N P M C) s (sAdd (mu s 131 4 ((k : Int) + 1)) K 125 (tP T k) 0 0) := F1.tr (sAdd_fr (Nat.le_refl _))
    have n5 : sAdd (mu s 131 4 ((k : Int) + 1)) K 125 (tP T k) 0 0 131 4 = ((k + 1 : Nat) : Int) := by rw [a6 _ _ (by omega), mu_s]; rfl
    have hI := fin K _ e1 F5 cn5 n5 (by omega)
    generalize sAdd (mu s 131 4 ((k : Int) + 1)) K 125 (tP T k) 0 0 = s5 at *
    have m7 : ∀ c j, c ≠ 131 → mu s5 131 6 st.length c j = s5 c j := fun c j hc => mu_c hc
    have F7 : Fr (PG o K N P M C) s (mu s5 131 6 st.length) := (F5.mono (fun _ _ h => PC_G h)).mu (Or.inr (Or.inl ⟨rfl, rfl⟩))
    generalize mu s5 131 6 st.length = s7 at *
    have ci3 : CIt s7 o K N P M C (3, tP T k, 0, 0, tNil, tNil) := ⟨by rw [m7 _ _ (by decide), a2], Or.inr (Or.inr (Or.inr (Or.inl ⟨rfl, by rw [m7 _ _ (by decide), a1]⟩)))⟩
    exact QO_cons (st := 2 :: st) (st' := st) ho F7 ci3 ⟨Nat.le_refl _, Nat.le_refl _, Nat.le_refl _⟩ (fun r => hnil (2 :: st) r (by simp)) hI
