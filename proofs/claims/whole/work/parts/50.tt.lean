def tsz : Jvm.Term → Nat
  | .arg _ => 1
  | .mul (.arg k) t => k * tsz t
  | .sum fs => tsz fs
  | .div _ (.rem t r) => tsz t + tsz r
  | _ => 0
/-- the type (true) or the fields (false) as the reference's types and fields have them at n; the types of it lie from a up to b, the fields from c up to e -/
def RT (s : Mem) (a b c e : Nat) : Bool → Jvm.Term → Int → Prop
  | true, .arg w, n => (a : Int) ≤ n ∧ n < b ∧ s 2 n.toNat = 0 ∧ s 3 n.toNat = w ∧ s 5 n.toNat = 1 ∧ w ≤ 16
  | true, .mul (.arg k) t, n => (a : Int) ≤ n ∧ n < b ∧ s 2 n.toNat = 2 ∧ s 3 n.toNat = k ∧ s 5 n.toNat = ((min 25 (k * tsz t) : Nat) : Int) ∧ (1 ≤ k ∧ k ≤ 4) ∧ RT s a b c e true t (s 4 n.toNat)
  | true, .sum fs, n => (a : Int) ≤ n ∧ n < b ∧ s 2 n.toNat = 1 ∧ s 5 n.toNat = ((min 25 (tsz fs) : Nat) : Int) ∧ 1 ≤ tsz fs ∧ RT s a b c e false fs (s 4 n.toNat)
  | false, .div (.sub (.arg nm) (.arg bk)) (.rem t r), f => (c : Int) ≤ f ∧ f < e ∧ s 6 f.toNat = nm ∧ s 9 f.toNat = bk ∧ (nm < 26 ∧ bk ≤ 1) ∧ RT s a b c e true t (s 7 f.toNat) ∧ RT s a b c e false r (s 8 f.toNat)
  | false, .null, f => f = -1
  | _, _, _ => False
def AT (s s' : Mem) (a b c e : Nat) : Prop := ∀ k j, (2 ≤ k ∧ k ≤ 5 ∧ a ≤ j ∧ j < b) ∨ (6 ≤ k ∧ k ≤ 9 ∧ c ≤ j ∧ j < e) → s' k j = s k j
theorem RT_put {s s' : Mem} {a b c e : Nat} {y : Bool} {t : Jvm.Term} {n : Int} (g : AT s s' a b c e) : RT s a b c e y t n → RT s' a b c e y t n := by
  fun_induction RT s a b c e y t n with
  | case1 w n =>
    intro h
    obtain ⟨h1, h2, h3, h4, h5, h6⟩ := h
    exact ⟨h1, h2, by rw [g _ _ (by omega), h3], by rw [g _ _ (by omega), h4], by rw [g _ _ (by omega), h5], h6⟩
  | case2 k t n ih =>
    intro h
    obtain ⟨h1, h2, h3, h4, h5, h6, h7⟩ := h
    exact ⟨h1, h2, by rw [g _ _ (by omega), h3], by rw [g _ _ (by omega), h4], by rw [g _ _ (by omega), h5], h6, by rw [g 4 n.toNat (by omega)]; exact ih h7⟩
  | case3 fs n ih =>
    intro h
    obtain ⟨h1, h2, h3, h4, h5, h6⟩ := h
    exact ⟨h1, h2, by rw [g _ _ (by omega), h3], by rw [g _ _ (by omega), h4], h5, by rw [g 4 n.toNat (by omega)]; exact ih h6⟩
  | case4 nm bk t r f ih1 ih2 =>
    intro h
    obtain ⟨h1, h2, h3, h4, h5, h6, h7⟩ := h
    exact ⟨h1, h2, by rw [g _ _ (by omega), h3], by rw [g _ _ (by omega), h4], h5, by rw [g 7 f.toNat (by omega)]; exact ih1 h6, by rw [g 8 f.toNat (by omega)]; exact ih2 h7⟩
  | case5 f => exact fun h => h
  | case6 => intro h; exact h.elim
theorem RT_wide {s : Mem} {a b c e a' b' c' e' : Nat} {y : Bool} {t : Jvm.Term} {n : Int} (ha : a' ≤ a) (hb : b ≤ b') (hc : c' ≤ c) (he : e ≤ e') : RT s a b c e y t n → RT s a' b' c' e' y t n := by
  fun_induction RT s a b c e y t n with
  | case1 w n =>
    intro h
    obtain ⟨h1, h2, h3, h4, h5, h6⟩ := h
    exact ⟨by omega, by omega, h3, h4, h5, h6⟩
  | case2 k t n ih =>
    intro h
    obtain ⟨h1, h2, h3, h4, h5, h6, h7⟩ := h
    exact ⟨by omega, by omega, h3, h4, h5, h6, ih h7⟩
  | case3 fs n ih =>
    intro h
    obtain ⟨h1, h2, h3, h4, h5, h6⟩ := h
    exact ⟨by omega, by omega, h3, h4, h5, ih h6⟩
  | case4 nm bk t r f ih1 ih2 =>
    intro h
    obtain ⟨h1, h2, h3, h4, h5, h6, h7⟩ := h
    exact ⟨by omega, by omega, h3, h4, h5, ih1 h6, ih2 h7⟩
  | case5 f => exact fun h => h
  | case6 => intro h; exact h.elim
theorem RT_size {s : Mem} {a b c e : Nat} {t : Jvm.Term} {n : Int} (h : RT s a b c e true t n) : (a : Int) ≤ n ∧ n < b ∧ s 5 n.toNat = ((min 25 (tsz t) : Nat) : Int) ∧ 1 ≤ tsz t := by
  generalize hy : true = y at h
  revert h
  fun_induction RT s a b c e y t n with
  | case1 w n => exact fun h => ⟨h.1, h.2.1, h.2.2.2.2.1, Nat.le_refl _⟩
  | case2 k t n ih =>
    intro h
    have := (ih rfl h.2.2.2.2.2.2).2.2.2
    have hk := h.2.2.2.2.2.1.1
    exact ⟨h.1, h.2.1, h.2.2.2.2.1, by show 1 ≤ k * tsz t; exact Nat.mul_pos hk this⟩
  | case3 fs n ih => exact fun h => ⟨h.1, h.2.1, h.2.2.2.1, h.2.2.2.2.1⟩
  | case4 => exact (nomatch hy)
  | case5 => exact (nomatch hy)
  | case6 => intro h; exact h.elim
theorem min_mul {k z : Nat} (h : 1 ≤ k ∧ k ≤ 4) : min 25 (k * min 25 z) = min 25 (k * z) := by
  obtain h | h | h | h : k = 1 ∨ k = 2 ∨ k = 3 ∨ k = 4 := by omega
  all_goals (subst h; omega)
/-- what reading a type may write: types from m on, fields from c on, open ones from o on -/
def TF (m c o k j : Nat) : Prop := (k = 0 ∧ (j = 2 ∨ j = 16 ∨ j = 17 ∨ j = 18)) ∨ (2 ≤ k ∧ k ≤ 5 ∧ m ≤ j) ∨ (6 ≤ k ∧ k ≤ 9 ∧ c ≤ j) ∨ ((k = 10 ∨ k = 11) ∧ o ≤ j)
def TFX (m c o k j : Nat) : Prop := TF m c o k j ∨ (k = 0 ∧ (j = 5 ∨ j = 3))
theorem TF_X {m c o k j : Nat} (h : TF m c o k j) : TFX m c o k j := Or.inl h
theorem TW_X {m c o k j : Nat} (h : TW k j) : TFX m c o k j := by unfold TW at h; unfold TFX TF; omega
theorem TF_sub {m c o m' c' o' k j : Nat} (h1 : m ≤ m') (h2 : c ≤ c') (h3 : o ≤ o') (h : TF m' c' o' k j) : TF m c o k j := by unfold TF at *; omega
theorem TFX_sub {m c o m' c' o' k j : Nat} (h1 : m ≤ m') (h2 : c ≤ c') (h3 : o ≤ o') (h : TFX m' c' o' k j) : TFX m c o k j := by unfold TFX TF at *; omega
theorem TFX_len {m c o : Nat} : ¬ TFX m c o 0 1 := by unfold TFX TF; omega
theorem TFX_txt {m c o : Nat} : ∀ j, ¬ TFX m c o 1 j := by intro j; unfold TFX TF; omega
theorem fr_tf {m c o : Nat} {a b : Mem} (h : Fr (TF m c o) a b) (ho : okT a) : tx b = tx a ∧ okT b ∧ b 0 5 = a 0 5 ∧ b 0 3 = a 0 3 :=
  ⟨(h.mono (fun _ _ => TF_X)).tx TFX_len TFX_txt, (h.mono (fun _ _ => TF_X)).okT TFX_len TFX_txt ho, h _ _ (by unfold TF; omega), h _ _ (by unfold TF; omega)⟩
theorem TF_AT {s s' : Mem} {m c o : Nat} (h : Fr (TF m c o) s s') {a b e f : Nat} (h1 : b ≤ m) (h2 : f ≤ c) : AT s s' a b e f := fun k j _ => h _ _ (by unfold TF; omega)
