theorem fs_close {d o t m c y p n b : Nat} {f k : Int} {l3 : AV} {s : Mem} {t1 : Jvm.Term} {p4 : Nat} (ho : okT s) (hb : s 0 5 = 0) (h125 : cA (tx s) p4 = 125) (h : FS d o t m c y p n b f k l3 s t1 p4) (hoD : o < 3) (htm : t < m) (hnb : n < 26 ∧ b ≤ 1) (hy25 : y ≤ 25) : OF d o t m c p y f k l3 s (.ok (fCons n b t1 tNil, sk (tx s) (p4 + 1))) := by
  obtain ⟨s1, s4, n1, m2, c2, l3', h1, zz, F, ⟨a1, a2, a3, a4⟩, ⟨a5, a6⟩, ⟨a7, a8, a9, a10⟩, a11, a12, ⟨a13, a14⟩, R4, b1, b2, b3, b4, b5, b6⟩ := h
  have hlen := tx_le ho
  rw [h125] at zz
  have hp4' : p4 < (tx s).2 := cA_in (by omega)
  have z5 := tt_close (d := d) s4 a1 (by omega) a4 (by omega) l3'
  rw [a5] at z5
  have F5 : Fr (fun k j => k = 0 ∧ (j = 2 ∨ j = 18)) s4 (mu (mu s4 0 2 ((p4 : Int) + 1)) 0 18 o) := ((Fr.rf s4).mu (by decide)).mu (by decide)
  have at5 : mu (mu s4 0 2 ((p4 : Int) + 1)) 0 18 (o : Int) 0 2 = ((p4 + 1 : Nat) : Int) := by rw [mu_i (by decide), mu_s]; rfl
  have op5 : mu (mu s4 0 2 ((p4 : Int) + 1)) 0 18 (o : Int) 0 18 = o := mu_s
  generalize mu (mu s4 0 2 ((p4 : Int) + 1)) 0 18 (o : Int) = s5 at *
  have q0 : ∀ {i : Nat}, (i ≠ 2 ∧ i ≠ 18) → s5 0 i = s4 0 i := fun h => F5 _ _ (TF_F2no (Or.inl ⟨rfl, h⟩))
  have qk : ∀ {k i : Nat}, k ≠ 0 → s5 k i = s4 k i := fun h => F5 _ _ (TF_F2no (Or.inr h))
  have R5 : RT s5 m m2 c c2 true t1 n1 := RT_wide (Nat.le_refl _) (Nat.le_refl _) (by omega) (Nat.le_refl _) (RT_put (fun k j h => qk (by omega)) R4)
  refine ⟨s1, s5, m2, c2, p4 + 1, _, _, h1, zz.trans z5, ?_, by rw [q0 (by decide), a2], by rw [q0 (by decide), a3], op5, at5, rfl, by omega, by omega, by omega, by omega, ⟨b1, by omega⟩, ?_, ?_, fun h => ?_, fun h => ?_, F.tr (F5.mono (fun _ _ => F2_FF))⟩
  · unfold fCons RT
    rw [Int.toNat_natCast]
    refine ⟨by omega, by omega, ?_, ?_, hnb, ?_, ?_⟩
    · rw [qk (by decide), a7]
    · rw [qk (by decide), a8]
    · rw [qk (by decide), a9]
      exact R5
    · rw [qk (by decide), a10]
      unfold tNil RT
      rfl
  · rw [qk (by decide), a11]
    simp only [fCons, tsz, tNil]
    omega
  · simp only [fCons, tsz, tNil]
    omega
  · rw [qk (by decide), a13 h]
  · rw [qk (by decide), a14 h]
