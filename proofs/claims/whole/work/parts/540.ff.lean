theorem TW_FF {m c o t k j : Nat} {f : Int} (h : TW k j) : FFX m c o t f k j := by
  obtain ⟨rfl, rfl | rfl | rfl⟩ := h
  · exact Or.inl (Or.inl ⟨rfl, Or.inl rfl⟩)
  · exact Or.inr ⟨rfl, Or.inl rfl⟩
  · exact Or.inr ⟨rfl, Or.inr rfl⟩
theorem TF_FF {m c o t k j : Nat} {f : Int} (h : TF m (c + 1) (o + 1) k j) : FF m c o t f k j := by
  rcases h with h | h | h | h
  · exact Or.inl h
  · exact Or.inr (Or.inl h)
  · exact Or.inr (Or.inr (Or.inl ⟨h.1, h.2.1, by omega⟩))
  · exact Or.inr (Or.inr (Or.inr (Or.inl h)))
theorem TFX_FF {m c o t k j : Nat} {f : Int} (h : TFX m (c + 1) (o + 1) k j) : FFX m c o t f k j := h.elim (fun h => Or.inl (TF_FF h)) Or.inr
theorem FF_FF {m c m2 c2 o t k j : Nat} {f : Int} (h1 : m ≤ m2) (h2 : c ≤ c2) (h : FF m2 c2 o t c k j) : FF m c o t f k j := by
  rcases h with h | h | h | h | h | h | h | h
  · exact Or.inl h
  · exact Or.inr (Or.inl ⟨h.1, h.2.1, by omega⟩)
  · exact Or.inr (Or.inr (Or.inl ⟨h.1, h.2.1, by omega⟩))
  · exact Or.inr (Or.inr (Or.inr (Or.inl h)))
  · exact Or.inr (Or.inr (Or.inr (Or.inr (Or.inl h))))
  · exact Or.inr (Or.inr (Or.inr (Or.inr (Or.inr (Or.inl h)))))
  · omega
  · exact Or.inr (Or.inr (Or.inl ⟨by omega, by omega, by omega⟩))
theorem FFX_FF {m c m2 c2 o t k j : Nat} {f : Int} (h1 : m ≤ m2) (h2 : c ≤ c2) (h : FFX m2 c2 o t c k j) : FFX m c o t f k j := h.elim (fun h => Or.inl (FF_FF h1 h2 h)) Or.inr
theorem F3_FF {m c o t k j : Nat} {f : Int} (h : (k = 0 ∧ j = 2) ∨ (k = 7 ∧ j = c) ∨ (k = 5 ∧ j = t)) : FF m c o t f k j := by
  rcases h with h | h | h
  · exact Or.inl ⟨h.1, Or.inl h.2⟩
  · exact Or.inr (Or.inr (Or.inl ⟨by omega, by omega, by omega⟩))
  · exact Or.inr (Or.inr (Or.inr (Or.inr (Or.inr (Or.inl h)))))
theorem F2_FF {m c o t k j : Nat} {f : Int} (h : k = 0 ∧ (j = 2 ∨ j = 18)) : FF m c o t f k j := Or.inl ⟨h.1, h.2.elim Or.inl (fun h => Or.inr (Or.inr (Or.inr h)))⟩
def OF (d o t m c p : Nat) (y : Nat) (f : Int) (k : Int) (l3 : AV) (s : Mem) (x : PR Jvm.Term) : Prop :=
  match x with
  | .ok (fs, q) => ∃ (s1 s' : Mem) (m' c' j' : Nat) (l2 l3' : AV), Zc d 14 [aR 0] s = rV s1 ∧ Ze d 15 7 [aR 0, aI (-1), aI k, l3] [] s1 = Ze d 15 7 [aR 0, aI t, l2, l3'] [] s' ∧ RT s' m m' c c' false fs c ∧ s' 0 16 = m' ∧ s' 0 17 = c' ∧ s' 0 18 = o ∧ s' 0 2 = j' ∧ sk (tx s) j' = q ∧ j' ≤ (tx s).2 ∧ p < j' ∧ m' ≤ j' ∧ 2 * c' ≤ j' ∧ (m ≤ m' ∧ c ≤ c') ∧ s' 5 t = ((min 25 (y + tsz fs) : Nat) : Int) ∧ 1 ≤ tsz fs ∧ (f < 0 → s' 4 t = c) ∧ (0 ≤ f → s' 8 f.toNat = c) ∧ Fr (FF m c o t f) s s'
  | .error e => ∃ (s1 s' : Mem), Zc d 14 [aR 0] s = rV s1 ∧ Ze d 15 7 [aR 0, aI (-1), aI k, l3] [] s1 = rI 0 s' ∧ s' 0 5 = 1 ∧ s' 0 3 = e ∧ Fr (FFX m c o t f) s s'
theorem TF_n1 {m c o k : Nat} (h : k = 10 ∨ k = 11) : ¬ TF m (c + 1) (o + 1) k o := by unfold TF; omega
theorem TF_n2 {m c o k t : Nat} (h : 2 ≤ k ∧ k ≤ 5) (ht : t < m) : ¬ TF m (c + 1) (o + 1) k t := by unfold TF; omega
theorem TF_n3 {m c o k : Nat} (h : 6 ≤ k ∧ k ≤ 9) : ¬ TF m (c + 1) (o + 1) k c := by unfold TF; omega
theorem TF_n4 {m c o k t : Nat} (h : 6 ≤ k ∧ k ≤ 9) (ht : t < c + 1) : ¬ TF m (c + 1) (o + 1) k t := by unfold TF; omega
theorem F3_fr {s2 : Mem} {p4 c t : Nat} {n1 z : Int} : Fr (fun k j => (k = 0 ∧ j = 2) ∨ (k = 7 ∧ j = c) ∨ (k = 5 ∧ j = t)) s2 (mu (mu (mu s2 0 2 (p4 : Int)) 7 c n1) 5 t z) := (((Fr.rf _).mu (by omega)).mu (by omega)).mu (by omega)
theorem F3_no {k j c t : Nat} (h : (k = 0 ∧ ¬ j = 2) ∨ (k ≠ 0 ∧ k ≠ 7 ∧ k ≠ 5)) : ¬ ((k = 0 ∧ j = 2) ∨ (k = 7 ∧ j = c) ∨ (k = 5 ∧ j = t)) := by omega
theorem F3_nR {k j c t m m2 c2 : Nat} (ht : t < m) (h : (2 ≤ k ∧ k ≤ 5 ∧ m ≤ j ∧ j < m2) ∨ (6 ≤ k ∧ k ≤ 9 ∧ c + 1 ≤ j ∧ j < c2)) : ¬ ((k = 0 ∧ j = 2) ∨ (k = 7 ∧ j = c) ∨ (k = 5 ∧ j = t)) := by omega
theorem FF_no0 {m c o t j : Nat} {f : Int} (h : j ≠ 2 ∧ j ≠ 16 ∧ j ≠ 17 ∧ j ≠ 18) : ¬ FF m c o t f 0 j := by unfold FF; omega
theorem FF_no1 {m c o t k j : Nat} {f : Int} (h : k = 6 ∨ k = 7 ∨ k = 9) (hj : j < c) : ¬ FF m c o t f k j := by unfold FF; omega
theorem FF_no2 {m c o t k j : Nat} {f : Int} (h : 6 ≤ k ∧ k ≤ 9) (hj : j < c) (hf : (j : Int) ≠ f) : ¬ FF m c o t f k j := by unfold FF; omega
theorem FF_no3 {m c o t j : Nat} {f : Int} (hj : j < m) (hf : 0 ≤ f) : ¬ FF m c o t f 4 j := by unfold FF; omega
theorem FF_noR {m m2 c c2 o t k j : Nat} (ht : t < m) (h : (2 ≤ k ∧ k ≤ 5 ∧ m ≤ j ∧ j < m2) ∨ (6 ≤ k ∧ k ≤ 9 ∧ c + 1 ≤ j ∧ j < c2)) : ¬ FF m2 c2 o t (c : Int) k j := by unfold FF; omega
theorem TF_F2no {k j : Nat} (h : (k = 0 ∧ ¬ j = 2 ∧ ¬ j = 18) ∨ k ≠ 0) : ¬ (k = 0 ∧ (j = 2 ∨ j = 18)) := by omega
/-- a field read up to behind its type -/
def FS (d o t m c y p n b : Nat) (f : Int) (k : Int) (l3 : AV) (s : Mem) (t1 : Jvm.Term) (p4 : Nat) : Prop :=
  ∃ (s1 s4 : Mem) (n1 m2 c2 : Nat) (l3' : AV), Zc d 14 [aR 0] s = rV s1 ∧ Ze d 15 7 [aR 0, aI (-1), aI k, l3] [] s1 = Ze d 15 333 [aR 0, aI (-1), aI (cA (tx s) p4), l3'] [] s4 ∧ Fr (FF m c o t f) s s4 ∧
    (s4 0 2 = p4 ∧ s4 0 16 = m2 ∧ s4 0 17 = c2 ∧ s4 0 18 = ((o + 1 : Nat) : Int)) ∧ (s4 10 o = t ∧ s4 11 o = c) ∧
    (s4 6 c = n ∧ s4 9 c = b ∧ s4 7 c = n1 ∧ s4 8 c = -1) ∧ s4 5 t = ((min 25 (y + min 25 (tsz t1)) : Nat) : Int) ∧ 1 ≤ tsz t1 ∧
    ((f < 0 → s4 4 t = c) ∧ (0 ≤ f → s4 8 f.toNat = c)) ∧ RT s4 m m2 (c + 1) c2 true t1 n1 ∧
    (m ≤ m2 ∧ c + 1 ≤ c2 ∧ m2 ≤ p4 ∧ 2 * c2 ≤ p4 ∧ p < p4 ∧ p4 ≤ (tx s).2)
