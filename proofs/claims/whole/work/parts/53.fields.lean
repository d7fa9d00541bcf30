theorem pFs_h {T : Tx} {F : Nat → PR Jvm.Term} {f p : Nat} : pFs T F (f + 1) p = bd (pFh T p) fun nb p3 => bd (F p3) fun t p4 =>
    if cA T p4 = 44 then bd (pFs T F f (sk T (p4 + 1))) fun r p5 => .ok (fCons nb.1 nb.2 t r, p5)
    else if cA T p4 = 125 then .ok (fCons nb.1 nb.2 t tNil, sk T (p4 + 1))
    else .error p4 := by
  rw [pFs]
  unfold pFh
  rw [bd_bd]
  cases pNm T p with
  | error e => rfl
  | ok t =>
    obtain ⟨n, p1⟩ := t
    rw [bd_ok, bd_ok, bd_bd]
    dsimp only
    cases pTk T 58 (if cA T p1 = 126 then sk T (p1 + 1) else p1) with
    | error e => rfl
    | ok t => rfl
def FF (m c o t : Nat) (f : Int) (k j : Nat) : Prop := (k = 0 ∧ (j = 2 ∨ j = 16 ∨ j = 17 ∨ j = 18)) ∨ (2 ≤ k ∧ k ≤ 5 ∧ m ≤ j) ∨ (6 ≤ k ∧ k ≤ 9 ∧ c ≤ j) ∨ ((k = 10 ∨ k = 11) ∧ o + 1 ≤ j) ∨ (k = 11 ∧ j = o) ∨ (k = 5 ∧ j = t) ∨ (k = 4 ∧ j = t ∧ f < 0) ∨ (k = 8 ∧ (j : Int) = f)
def FFX (m c o t : Nat) (f : Int) (k j : Nat) : Prop := FF m c o t f k j ∨ (k = 0 ∧ (j = 5 ∨ j = 3))
theorem FF_X {m c o t : Nat} {f : Int} {k j : Nat} (h : FF m c o t f k j) : FFX m c o t f k j := Or.inl h
theorem FFX_len {m c o t : Nat} {f : Int} : ¬ FFX m c o t f 0 1 := by unfold FFX FF; omega
theorem FFX_txt {m c o t : Nat} {f : Int} : ∀ j, ¬ FFX m c o t f 1 j := by intro j; unfold FFX FF; omega
theorem fr_ff {m c o t : Nat} {f : Int} {a b : Mem} (h : Fr (FF m c o t f) a b) (ho : okT a) : tx b = tx a ∧ okT b ∧ b 0 5 = a 0 5 ∧ b 0 3 = a 0 3 :=
  ⟨(h.mono (fun _ _ => FF_X)).tx FFX_len FFX_txt, (h.mono (fun _ _ => FF_X)).okT FFX_len FFX_txt ho, h _ _ (by unfold FF; omega), h _ _ (by unfold FF; omega)⟩
def TI (d D : Nat) : Prop := ∀ (o j p m c : Nat) (s : Mem) (l2 l3 : AV), o + D = 3 → okT s → s 0 5 = 0 → s 0 2 = j → j ≤ (tx s).2 → sk (tx s) j = p → s 0 16 = m → s 0 17 = c → s 0 18 = o → m ≤ j → 2 * c ≤ j →
  OT d o m c p s (Ze d 15 7 [aR 0, aI (-1), l2, l3] [] s) (pTy (tx s) D p)
/-- what fld leaves -/
theorem fld_fr {s : Mem} {m c n b o t : Nat} {f : Int} {j : Nat} : Fr (FF m c o t f) s (fld s c n b o t f j) := by
  unfold fld
  refine Fr.mu (Fr.mu ?_ (by unfold FF; omega)) (by unfold FF; omega)
  split
  · exact (((((Fr.rf s).mu (by unfold FF; omega)).mu (by unfold FF; omega)).mu (by unfold FF; omega)).mu (by unfold FF; omega)).mu (by unfold FF; omega)
  · exact (((((Fr.rf s).mu (by unfold FF; omega)).mu (by unfold FF; omega)).mu (by unfold FF; omega)).mu (by unfold FF; omega)).mu (by unfold FF; omega)
theorem fld_at {s : Mem} {c n b o t : Nat} {f : Int} {j : Nat} (hf : f < c) : fld s c n b o t f j 0 2 = j ∧ fld s c n b o t f j 0 17 = ((c + 1 : Nat) : Int) ∧ fld s c n b o t f j 11 o = c ∧ fld s c n b o t f j 6 c = n ∧ fld s c n b o t f j 9 c = b ∧ fld s c n b o t f j 8 c = -1 ∧
    (f < 0 → fld s c n b o t f j 4 t = c) ∧ (0 ≤ f → fld s c n b o t f j 8 f.toNat = c) ∧ (∀ i, i ≠ 2 → i ≠ 17 → fld s c n b o t f j 0 i = s 0 i) ∧ (∀ k i, k ≠ 0 → k ≠ 11 → k ≠ 6 → k ≠ 9 → k ≠ 8 → k ≠ 4 → fld s c n b o t f j k i = s k i) := by
  unfold fld
  by_cases h : f < 0
  · rw [if_pos h]
    refine ⟨?_, mu_s, ?_, ?_, ?_, ?_, fun _ => ?_, fun z => by omega, fun i h1 h2 => ?_, fun k i h1 h2 h3 h4 h5 h6 => ?_⟩
    · rw [mu_i (by decide), mu_c (by decide), mu_c (by decide), mu_c (by decide), mu_c (by decide), mu_c (by decide), mu_s]
    · rw [mu_c (by decide), mu_s]
    · rw [mu_c (by decide), mu_c (by decide), mu_c (by decide), mu_c (by decide), mu_c (by decide), mu_s]
    · rw [mu_c (by decide), mu_c (by decide), mu_c (by decide), mu_c (by decide), mu_s]
    · rw [mu_c (by decide), mu_c (by decide), mu_c (by decide), mu_s]
    · rw [mu_c (by decide), mu_c (by decide), mu_s]
    · rw [mu_i h2, mu_c (by decide), mu_c (by decide), mu_c (by decide), mu_c (by decide), mu_c (by decide), mu_i h1]
    · rw [mu_c h1, mu_c h2, mu_c h6, mu_c h5, mu_c h4, mu_c h3, mu_c h1]
  · rw [if_neg h]
    refine ⟨?_, mu_s, ?_, ?_, ?_, ?_, fun z => by omega, fun _ => ?_, fun i h1 h2 => ?_, fun k i h1 h2 h3 h4 h5 h6 => ?_⟩
    · rw [mu_i (by decide), mu_c (by decide), mu_c (by decide), mu_c (by decide), mu_c (by decide), mu_c (by decide), mu_s]
    · rw [mu_c (by decide), mu_s]
    · rw [mu_c (by decide), mu_c (by decide), mu_c (by decide), mu_c (by decide), mu_c (by decide), mu_s]
    · rw [mu_c (by decide), mu_c (by decide), mu_c (by decide), mu_c (by decide), mu_s]
    · rw [mu_c (by decide), mu_c (by decide), mu_i (by omega), mu_s]
    · rw [mu_c (by decide), mu_c (by decide), mu_s]
    · rw [mu_i h2, mu_c (by decide), mu_c (by decide), mu_c (by decide), mu_c (by decide), mu_c (by decide), mu_i h1]
    · rw [mu_c h1, mu_c h2, mu_c h5, mu_c h5, mu_c h4, mu_c h3, mu_c h1]
