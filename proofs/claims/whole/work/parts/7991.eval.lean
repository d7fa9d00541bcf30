theorem i32_toInt (x : Int32) : i32 x.toInt = x := Int32.ofInt_toInt x
theorem iand_idem (x m : Int) : iand (iand x m) m = iand x m := by
  rw [iand_def, iand_def, i32_toInt]
  congr 1
  apply Int32.toBitVec_inj.mp
  rw [Int32.toBitVec_and, Int32.toBitVec_and, BitVec.and_assoc, BitVec.and_self]
theorem iand_z (m : Int) : iand 0 m = 0 := by
  have : i32 0 &&& i32 m = 0 := by
    apply Int32.toBitVec_inj.mp
    rw [Int32.toBitVec_and]
    show 0#32 &&& _ = 0#32
    rw [BitVec.zero_and]
  rw [iand_def, this]
  rfl
/-- a value depends on what is in it alone -/
theorem vE_eq {val val' : Nat → Int} {W : Nat → Nat} {e : Jvm.Term} (h : ∀ g, occ g e → val g = val' g) : vE val W e = vE val' W e := by
  revert h
  fun_induction vE val W e with
  | case1 g => intro h; simp only [vE, h g rfl]
  | case2 v => intro h; simp only [vE]
  | case3 a ih => intro h; simp only [vE, ih h]
  | case4 h l a ih => intro h; simp only [vE, ih h]
  | case5 c a b iha ihb => intro h; simp only [vE, iha (fun g hg => h g (Or.inl hg)), ihb (fun g hg => h g (Or.inr hg))]
  | case6 c a b ihc ihb iha => intro h; simp only [vE, ihc (fun g hg => h g (Or.inl hg)), iha (fun g hg => h g (Or.inr (Or.inl hg))), ihb (fun g hg => h g (Or.inr (Or.inr hg)))]
  | case7 e h1 h2 h3 h4 h5 h6 =>
    intro h
    unfold vE
    split
    · exact absurd rfl (h1 _)
    · exact absurd rfl (h2 _)
    · exact absurd rfl (h3 _)
    · exact absurd rfl (h4 _ _ _)
    · exact absurd rfl (h5 _ _ _)
    · exact absurd rfl (h6 _ _ _)
    · rfl
theorem vF_eq {val val' : Nat → Int} {W : Nat → Nat} {v0 : Int} {e : Jvm.Term} (h : ∀ g, occ g e → val g = val' g) : vF val W v0 e = vF val' W v0 e := by
  revert h
  fun_induction vF val W v0 e with
  | case1 c a b hc ih =>
    intro h
    rw [ih (fun g hg => h g (Or.inr (Or.inr hg)))]
    rw [vE_eq (fun g hg => h g (Or.inl hg))] at hc
    conv => rhs; unfold vF
    rw [if_pos hc]
  | case2 c a b hc ih =>
    intro h
    rw [ih (fun g hg => h g (Or.inr (Or.inl hg)))]
    rw [vE_eq (fun g hg => h g (Or.inl hg))] at hc
    conv => rhs; unfold vF
    rw [if_neg hc]
  | case3 => intro h; unfold vF; rfl
  | case4 e h1 h2 =>
    intro h
    rw [vE_eq h]
    unfold vF
    split
    · exact absurd rfl (h1 _ _ _)
    · exact absurd rfl h2
    · rfl
/-! counting -/
noncomputable def cntP (P : Nat → Prop) : Nat → Nat
  | 0 => 0
  | n + 1 => cntP P n + @ite _ (P n) (Classical.propDecidable _) 1 0
theorem cntP_le {P Q : Nat → Prop} (h : ∀ k, P k → Q k) : ∀ n, cntP P n ≤ cntP Q n
  | 0 => Nat.le_refl _
  | n + 1 => by
    have := cntP_le h n
    unfold cntP
    by_cases hp : P n
    · rw [if_pos hp, if_pos (h n hp)]; omega
    · rw [if_neg hp]; omega
theorem cntP_lt {P Q : Nat → Prop} (h : ∀ k, P k → Q k) {m : Nat} (h1 : Q m) (h2 : ¬ P m) : ∀ n, m < n → cntP P n < cntP Q n
  | 0, h0 => absurd h0 (Nat.not_lt_zero _)
  | n + 1, hn => by
    have := cntP_le h n
    unfold cntP
    by_cases hmn : m = n
    · subst hmn
      rw [if_neg h2, if_pos h1]
      omega
    · have := cntP_lt h h1 h2 n (by omega)
      by_cases hp : P n
      · rw [if_pos hp, if_pos (h n hp)]; omega
      · rw [if_neg hp]; omega
theorem cntP_0 {P : Nat → Prop} : ∀ n, cntP P n = 0 → ∀ k, k < n → ¬ P k
  | 0, _, k, hk => absurd hk (Nat.not_lt_zero _)
  | n + 1, h, k, hk => by
    unfold cntP at h
    by_cases hp : P n
    · rw [if_pos hp] at h; omega
    · rw [if_neg hp] at h
      by_cases hkn : k = n
      · rw [hkn]; exact hp
      · exact cntP_0 n (by omega) k (by omega)
theorem cntP_n {P : Nat → Prop} : ∀ n, cntP P n ≤ n
  | 0 => Nat.le_refl _
  | n + 1 => by
    have := cntP_n (P := P) n
    unfold cntP
    split <;> omega
theorem cntP_iff {P Q : Nat → Prop} (n : Nat) (h : ∀ k, k < n → (P k ↔ Q k)) : cntP P n = cntP Q n := by
  induction n with
  | zero => rfl
  | succ n ih =>
    unfold cntP
    rw [ih (fun k hk => h k (by omega))]
    by_cases hp : P n
    · rw [if_pos hp, if_pos ((h n (Nat.lt_succ_self _)).mp hp)]
    · rw [if_neg hp, if_neg (fun z => hp ((h n (Nat.lt_succ_self _)).mpr z))]
theorem reach_tr {D : Nat → Nat → Prop} {rg : Nat → Prop} {g m : Nat} (h1 : reach D rg g m) (h2 : ¬ rg m) (hm : m < 24) (hD : ∀ g h, D g h → h < 24) : ∀ h, reach D rg m h → reach D rg g h := by
  refine reach_sub (A := fun h => reach D rg g h) (fun h hh => reach_step hm h1 h2 hh) (fun k h hk ha hr hd => reach_step hk ha hr hd)
/-- without loops something is always ready -/
theorem acyc {D : Nat → Nat → Prop} {rg K : Nat → Prop} {L : Nat} (hL : L ≤ 24) (hD : ∀ g h, D g h → g < L ∧ h < L) (hc : ∀ g, g < L → ¬ cyc D rg g) (hr : ∀ g, g < L → ¬ K g → ¬ rg g) (hs : ∀ g, g < L → ¬ K g → ∃ h, D g h ∧ ¬ K h) : ∀ g, g < L → K g := by
  have key : ∀ n g, g < L → ¬ K g → cntP (fun h => ¬ K h ∧ h < L ∧ reach D rg g h) 24 = n → False := by
    intro n
    induction n using Nat.strongRecOn with
    | _ n ih =>
      intro g hg hk hn
      obtain ⟨h, hd, hkh⟩ := hs g hg hk
      have hhL := (hD g h hd).2
      have hgh : reach D rg g h := ⟨0, hd⟩
      have hlt : cntP (fun k => ¬ K k ∧ k < L ∧ reach D rg h k) 24 < cntP (fun k => ¬ K k ∧ k < L ∧ reach D rg g k) 24 :=
        cntP_lt (fun k z => ⟨z.1, z.2.1, reach_tr hgh (hr h hhL hkh) (by omega) (fun a b z => by have := (hD a b z).2; omega) k z.2.2⟩) (m := h) ⟨hkh, hhL, hgh⟩ (fun z => hc h hhL ⟨hr h hhL hkh, z.2.2⟩) 24 (by omega)
      exact ih _ (by omega) h hhL hkh rfl
  intro g hg
  exact Classical.byContradiction (fun z => key _ g hg z rfl)
/-- what depends on what -/
def dpd (sg : List Sg) (lo : List Lo) (g h : Nat) : Prop := ∃ x, sg[g]? = some x ∧ (isSk x.1 x.2.2.1 ∨ x.1 = 4) ∧ occ h (form sg lo g)
def rgs (sg : List Sg) (g : Nat) : Prop := ∃ x, sg[g]? = some x ∧ x.1 = 3
/-- a signal that is not worked out -/
def bas (x : Sg) : Prop := x.1 = 3 ∨ (x.1 ≠ 4 ∧ ¬ isSk x.1 x.2.2.1)
/-- what a signal that is worked out is -/
noncomputable def rhs (sg : List Sg) (lo : List Lo) (W : Nat → Nat) (st val : Nat → Int) (g : Nat) (x : Sg) : Int :=
  if x.1 = 4 then vE val W x.2.2.2.2 else iand (vF val W (st g) (lwF g lo .null [])) (msk (W g))
/-- the circuit that runs, as the reference has it -/
def LV (s : Mem) (sg : List Sg) (lo : List Lo) (W : Nat → Nat) : Prop :=
  s 0 71 = sg.length ∧ sg.length ≤ 24 ∧ s 0 72 = lo.length ∧ lo.length ≤ 1100 ∧ LL s W lo sg.length ∧ wfB [] lo ∧ srcV lo ∧ (∀ g h, dpd sg lo g h → h < sg.length) ∧
  (∀ (g : Nat) (x : Sg), sg[g]? = some x → s 35 (24 + g) = x.1 ∧ s 36 (24 + g) = x.2.1 ∧ (isSk x.1 x.2.2.1 → s 37 (24 + g) = 1) ∧ (¬ isSk x.1 x.2.2.1 → s 37 (24 + g) = 0) ∧ s 38 (24 + g) = W g ∧ BT (s 40 (24 + g)) (dpd sg lo g) ∧
    (x.1 = 4 → ∃ n : Nat, s 39 (24 + g) = n ∧ RR (sh s) x.2.2.2.2 n ∧ WE (sh s) W x.2.2.2.2 n ∧ n + esz x.2.2.2.2 ≤ 220 ∧ wE W x.2.2.2.2 = W g))
theorem LV_put {s s' : Mem} {sg : List Sg} {lo : List Lo} {W : Nat → Nat} (g : ∀ k j, 12 ≤ k ∧ k ≤ 19 ∨ 35 ≤ k ∧ k ≤ 43 ∨ (k = 0 ∧ (j = 71 ∨ j = 72)) → s' k j = s k j) (h : LV s sg lo W) : LV s' sg lo W := by
  obtain ⟨h1, h2, h3, h4, h5, h6, h7, h8, h9⟩ := h
  have gs : ∀ k j, 12 ≤ k ∧ k ≤ 19 → s' k j = s k j := fun k j hk => g k j (Or.inl hk)
  have gn : ∀ k j, 35 ≤ k ∧ k ≤ 43 → s' k j = s k j := fun k j hk => g k j (Or.inr (Or.inl hk))
  refine ⟨by rw [g _ _ (by decide), h1], h2, by rw [g _ _ (by decide), h3], h4, LL_put (fun k j hk => g k j (by omega)) h5, h6, h7, h8, fun i x hx => ?_⟩
  obtain ⟨z1, z2, z3, z4, z5, z6, z7⟩ := h9 i x hx
  refine ⟨by rw [gn _ _ (by decide), z1], by rw [gn _ _ (by decide), z2], fun z => by rw [gn _ _ (by decide), z3 z], fun z => by rw [gn _ _ (by decide), z4 z], by rw [gn _ _ (by decide), z5], by rw [gn _ _ (by decide)]; exact z6, fun z => ?_⟩
  obtain ⟨n, y1, y2, y3, y4⟩ := z7 z
  exact ⟨n, by rw [gn _ _ (by decide), y1], sh_RR gs y2, sh_WE gs y3, y4⟩
