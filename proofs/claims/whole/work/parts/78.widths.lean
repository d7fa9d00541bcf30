/-! THE DOCUMENT: the widths that are found -/
theorem wE_mono {W V : Nat → Nat} {L : Nat} (h : ∀ g, g < L → W g ≤ V g) {e : Jvm.Term} (hi : ixb L e) : wE W e ≤ wE V e := by
  revert hi
  fun_induction wE W e with
  | case1 g => exact fun hi => h g hi
  | case2 v => exact fun _ => Nat.le_refl _
  | case3 a ih => exact fun hi => ih hi
  | case4 => exact fun _ => Nat.le_refl _
  | case5 a b iha ihb =>
    intro hi
    have h1 := iha hi.1
    have h2 := ihb hi.2
    simp only [wE]
    rw [if_pos trivial]
    omega
  | case6 c a b h1 h2 =>
    intro hi
    simp only [wE]
    rw [if_neg h1, if_pos h2]
    exact Nat.le_refl _
  | case7 a b h1 h2 iha ihb =>
    intro hi
    have g1 := iha hi.1
    have g2 := ihb hi.2
    simp only [wE]
    rw [if_neg h1, if_neg h2, if_pos trivial]
    omega
  | case8 c a b h1 h2 h3 iha ihb =>
    intro hi
    have g1 := iha hi.1
    have g2 := ihb hi.2
    simp only [wE]
    rw [if_neg h1, if_neg h2, if_neg h3]
    omega
  | case9 c a b iha ihb =>
    intro hi
    have g1 := iha hi.2.1
    have g2 := ihb hi.2.2
    simp only [wE]
    omega
  | case10 => exact fun _ => Nat.zero_le _
theorem wE_eq {W V : Nat → Nat} {L : Nat} (h : ∀ g, g < L → W g = V g) {e : Jvm.Term} (hi : ixb L e) : wE W e = wE V e := Nat.le_antisymm (wE_mono (fun g hg => Nat.le_of_eq (h g hg)) hi) (wE_mono (fun g hg => Nat.le_of_eq (h g hg).symm) hi)
theorem tw_mono {W V : Nat → Nat} {L : Nat} (h : ∀ g, g < L → W g ≤ V g) {e : Jvm.Term} (hi : ixb L e) : tw W e → tw V e := by
  have hm := wE_mono h hi
  revert hi hm
  fun_induction tw W e with
  | case1 a ih => exact fun hi hm z => z.elim (fun z => Or.inl (by omega)) (fun z => Or.inr (ih hi (wE_mono h hi) z))
  | case2 x a ih => exact fun hi hm z => z.elim (fun z => Or.inl (by omega)) (fun z => Or.inr (ih hi (wE_mono h hi) z))
  | case3 c a b iha ihb => exact fun hi hm z => z.elim (fun z => Or.inl (by omega)) (fun z => Or.inr (z.imp (iha hi.1 (wE_mono h hi.1)) (ihb hi.2 (wE_mono h hi.2))))
  | case4 c a b ihc iha ihb => exact fun hi hm z => z.elim (fun z => Or.inl (by omega)) (fun z => Or.inr (z.imp (ihc hi.1 (wE_mono h hi.1)) (fun z => z.imp (iha hi.2.1 (wE_mono h hi.2.1)) (ihb hi.2.2 (wE_mono h hi.2.2)))))
  | case5 e h1 h2 h3 h4 =>
    intro hi hm z
    unfold tw
    split
    · exact absurd rfl (h1 _)
    · exact absurd rfl (h2 _ _)
    · exact absurd rfl (h3 _ _ _)
    · exact absurd rfl (h4 _ _ _)
    · omega
/-- its width is found by its connections -/
def free (sg : List Sg) (g : Nat) : Prop := ∃ x, sg[g]? = some x ∧ x.2.2.2.1 = 0 ∧ x.2.2.2.2 = .null
def Cl (sg : List Sg) (lo : List Lo) (V : Nat → Nat) : Prop :=
  (∀ (i : Nat) (x : Sg), sg[i]? = some x → x.2.2.2.2 ≠ .null → wE V x.2.2.2.2 ≤ V i) ∧ (∀ (k : Nat) (x : Lo), lo[k]? = some x → x.1 = 0 → free sg x.2.1 → wE V x.2.2 ≤ V x.2.1)
def W0le (sg : List Sg) (V : Nat → Nat) : Prop := ∀ (i : Nat) (x : Sg), sg[i]? = some x → x.2.2.2.1 ≤ V i
/-- W are the widths of the circuit, all of them found and none too wide -/
def GW (sg : List Sg) (lo : List Lo) (cv : List (Option Jvm.Term)) (W : Nat → Nat) : Prop :=
  W0le sg W ∧ Cl sg lo W ∧ (∀ V, W0le sg V → Cl sg lo V → ∀ i, i < sg.length → W i ≤ V i) ∧ ¬ twA W cv ∧ (∀ i, i < sg.length → W i ≠ 0) ∧ (∀ i, sg.length ≤ i → W i = 0)
/-- all expressions speak of signals that are there -/
def IX (sg : List Sg) (lo : List Lo) (cv : List (Option Jvm.Term)) : Prop :=
  (∀ (i : Nat) (x : Sg), sg[i]? = some x → ixb sg.length x.2.2.2.2) ∧ (∀ (k : Nat) (x : Lo), lo[k]? = some x → ixb sg.length x.2.2 ∧ (x.1 = 0 → x.2.1 < sg.length)) ∧ (∀ e, some e ∈ cv → ixb sg.length e)
/-! every expression in the nodes has its widths -/
theorem RR_at {s : Mem} {W : Nat → Nat} {e : Jvm.Term} {n m : Nat} (hr : RR s e n) (hw : WE s W e n) (ht : ¬ tw W e) (h1 : n ≤ m) (h2 : m < n + esz e) : ∃ e0, RR s e0 m ∧ WE s W e0 m ∧ ¬ tw W e0 := by
  by_cases hm : m = n
  · subst hm
    exact ⟨e, hr, hw, ht⟩
  revert hr hw ht h1 h2 hm
  fun_induction RR s e n with
  | case1 a n ih =>
    intro hr hw ht h1 h2 hm
    simp only [esz] at h2
    by_cases hm2 : m = n + 1
    · subst hm2
      exact ⟨a, hr.2.2.2.2, hw.2, fun z => ht (Or.inr z)⟩
    · exact ih hr.2.2.2.2 hw.2 (fun z => ht (Or.inr z)) (by omega) (by omega) hm2
  | case2 h l a n ih =>
    intro hr hw ht h1 h2 hm
    simp only [esz] at h2
    by_cases hm2 : m = n + 1
    · subst hm2
      exact ⟨a, hr.2.2.2.2.2.2.2, hw.2, fun z => ht (Or.inr z)⟩
    · exact ih hr.2.2.2.2.2.2.2 hw.2 (fun z => ht (Or.inr z)) (by omega) (by omega) hm2
  | case3 c a b n iha ihb =>
    intro hr hw ht h1 h2 hm
    simp only [esz] at h2
    obtain ⟨-, -, -, -, -, r6, r7⟩ := hr
    by_cases hm2 : m = n + 1
    · subst hm2
      exact ⟨a, r6, hw.2.1, fun z => ht (Or.inr (Or.inl z))⟩
    by_cases hm3 : m = n + 1 + esz a
    · subst hm3
      exact ⟨b, r7, hw.2.2, fun z => ht (Or.inr (Or.inr z))⟩
    by_cases hm4 : m < n + 1 + esz a
    · exact iha r6 hw.2.1 (fun z => ht (Or.inr (Or.inl z))) (by omega) (by omega) hm2
    · exact ihb r7 hw.2.2 (fun z => ht (Or.inr (Or.inr z))) (by omega) (by omega) hm3
  | case4 c a b n ihc iha ihb =>
    intro hr hw ht h1 h2 hm
    simp only [esz] at h2
    obtain ⟨-, -, -, -, -, r6, r7, r8⟩ := hr
    by_cases hm2 : m = n + 1
    · subst hm2
      exact ⟨c, r6, hw.2.1, fun z => ht (Or.inr (Or.inl z))⟩
    by_cases hm3 : m = n + 1 + esz c
    · subst hm3
      exact ⟨a, r7, hw.2.2.1, fun z => ht (Or.inr (Or.inr (Or.inl z)))⟩
    by_cases hm5 : m = n + 1 + esz c + esz a
    · subst hm5
      exact ⟨b, r8, hw.2.2.2, fun z => ht (Or.inr (Or.inr (Or.inr z)))⟩
    by_cases hm4 : m < n + 1 + esz c
    · exact ihc r6 hw.2.1 (fun z => ht (Or.inr (Or.inl z))) (by omega) (by omega) hm2
    by_cases hm6 : m < n + 1 + esz c + esz a
    · exact iha r7 hw.2.2.1 (fun z => ht (Or.inr (Or.inr (Or.inl z)))) (by omega) (by omega) hm3
    · exact ihb r8 hw.2.2.2 (fun z => ht (Or.inr (Or.inr (Or.inr z)))) (by omega) (by omega) hm5
  | case5 g n =>
    intro hr hw ht h1 h2 hm
    simp only [esz] at h2
    omega
  | case6 v n =>
    intro hr hw ht h1 h2 hm
    simp only [esz] at h2
    omega
  | case7 => intro h; exact h.elim
theorem CV_at {s : Mem} {W : Nat → Nat} {m N : Nat} : ∀ (cv : List (Option Jvm.Term)) (n : Nat), CVs s n cv N → WEs s W n cv → ¬ twA W cv → n ≤ m → m < N → (s 12 m = 0 ∧ s 15 m = -1) ∨ ∃ e0, RR s e0 m ∧ WE s W e0 m ∧ ¬ tw W e0
  | [], n, hc, _, _, h1, h2 => by have hc : n = N := hc; omega
  | none :: r, n, hc, hw, ht, h1, h2 => by
    by_cases hm : m = n
    · subst hm
      exact Or.inl ⟨hc.1, hc.2.1⟩
    · exact CV_at r (n + 1) hc.2.2 hw (fun ⟨e, z1, z2⟩ => ht ⟨e, List.mem_cons_of_mem _ z1, z2⟩) (by omega) h2
  | some e :: r, n, hc, hw, ht, h1, h2 => by
    by_cases hm : m < n + esz e
    · exact Or.inr (RR_at hc.1 hw.1 (fun z => ht ⟨e, List.mem_cons_self, z⟩) h1 hm)
    · exact CV_at r (n + esz e) hc.2 hw.2 (fun ⟨e, z1, z2⟩ => ht ⟨e, List.mem_cons_of_mem _ z1, z2⟩) (by omega) h2
theorem RR_inv {s : Mem} {e : Jvm.Term} {n : Nat} (h : RR s e n) :
    (s 12 n = 33 ∧ ∃ a, e = .old a ∧ RR s a (n + 1)) ∨
    (s 12 n = 84 ∧ ∃ h l a, e = .mul (.add (.arg h) (.arg l)) a ∧ s 14 n = (h : Nat) ∧ s 13 n = (l : Nat) ∧ RR s a (n + 1)) ∨
    (∃ c a b, s 12 n = (c : Nat) ∧ two c ∧ e = .div (.arg c) (.rem a b) ∧ RR s a (n + 1) ∧ RR s b (n + 1 + esz a)) ∨
    (s 12 n = 77 ∧ ∃ c a b, e = .sub c (.rem a b) ∧ RR s c (n + 1) ∧ RR s a (n + 1 + esz c) ∧ RR s b (n + 1 + esz c + esz a)) ∨
    (s 12 n = 0 ∧ ∃ g, e = .index g ∧ s 15 n = (g : Nat)) ∨ (s 12 n = 1 ∧ ∃ v, e = .arg v ∧ s 13 n = (v : Nat)) := by
  revert h
  fun_cases RR s e n with
  | case1 a => exact fun h => Or.inl ⟨h.1, a, rfl, h.2.2.2.2⟩
  | case2 h l a => exact fun z => Or.inr (Or.inl ⟨z.1, h, l, a, rfl, z.2.1, z.2.2.1, z.2.2.2.2.2.2.2⟩)
  | case3 c a b => exact fun z => Or.inr (Or.inr (Or.inl ⟨c, a, b, z.1, z.2.1, rfl, z.2.2.2.2.2.1, z.2.2.2.2.2.2⟩))
  | case4 c a b => exact fun z => Or.inr (Or.inr (Or.inr (Or.inl ⟨z.1, c, a, b, rfl, z.2.2.2.2.2.1, z.2.2.2.2.2.2.1, z.2.2.2.2.2.2.2⟩)))
  | case5 g => exact fun z => Or.inr (Or.inr (Or.inr (Or.inr (Or.inl ⟨z.1, g, rfl, z.2.1⟩))))
  | case6 v => exact fun z => Or.inr (Or.inr (Or.inr (Or.inr (Or.inr ⟨z.1, v, rfl, z.2.1⟩))))
  | case7 => intro h; exact h.elim
theorem RR_uniq {s : Mem} {e e' : Jvm.Term} {n : Nat} (h : RR s e n) (h' : RR s e' n) : e = e' := by
  revert h
  fun_induction RR s e n generalizing e' with
  | case1 a n ih =>
    intro h
    obtain ⟨k, a', rfl, r⟩ | ⟨k, -⟩ | ⟨c, a', b', k, t, -⟩ | ⟨k, -⟩ | ⟨k, -⟩ | ⟨k, -⟩ := RR_inv h'
    · rw [ih r h.2.2.2.2]
    · rw [h.1] at k; exact absurd k (by decide)
    · rw [h.1] at k; unfold two at t; omega
    · rw [h.1] at k; exact absurd k (by decide)
    · rw [h.1] at k; exact absurd k (by decide)
    · rw [h.1] at k; exact absurd k (by decide)
  | case2 h l a n ih =>
    intro z
    obtain ⟨k, -⟩ | ⟨k, hh, l', a', rfl, q1, q2, r⟩ | ⟨c, a', b', k, t, -⟩ | ⟨k, -⟩ | ⟨k, -⟩ | ⟨k, -⟩ := RR_inv h'
    · rw [z.1] at k; exact absurd k (by decide)
    · rw [z.2.1] at q1
      rw [z.2.2.1] at q2
      have e1 : h = hh := by omega
      have e2 : l = l' := by omega
      rw [e1, e2, ih r z.2.2.2.2.2.2.2]
    · rw [z.1] at k; unfold two at t; omega
    · rw [z.1] at k; exact absurd k (by decide)
    · rw [z.1] at k; exact absurd k (by decide)
    · rw [z.1] at k; exact absurd k (by decide)
  | case3 c a b n iha ihb =>
    intro z
    have t := z.2.1
    obtain ⟨k, -⟩ | ⟨k, -⟩ | ⟨c', a', b', k, t', rfl, r1, r2⟩ | ⟨k, -⟩ | ⟨k, -⟩ | ⟨k, -⟩ := RR_inv h'
    · rw [z.1] at k; unfold two at t; omega
    · rw [z.1] at k; unfold two at t; omega
    · rw [z.1] at k
      have e1 : c = c' := by omega
      have e2 := iha r1 z.2.2.2.2.2.1
      subst e1 e2
      rw [ihb r2 z.2.2.2.2.2.2]
    · rw [z.1] at k; unfold two at t; omega
    · rw [z.1] at k; unfold two at t; omega
    · rw [z.1] at k; unfold two at t; omega
  | case4 c a b n ihc iha ihb =>
    intro z
    obtain ⟨k, -⟩ | ⟨k, -⟩ | ⟨c', a', b', k, t, -⟩ | ⟨k, c', a', b', rfl, r1, r2, r3⟩ | ⟨k, -⟩ | ⟨k, -⟩ := RR_inv h'
    · rw [z.1] at k; exact absurd k (by decide)
    · rw [z.1] at k; exact absurd k (by decide)
    · rw [z.1] at k; unfold two at t; omega
    · have e1 := ihc r1 z.2.2.2.2.2.1
      subst e1
      have e2 := iha r2 z.2.2.2.2.2.2.1
      subst e2
      rw [ihb r3 z.2.2.2.2.2.2.2]
    · rw [z.1] at k; exact absurd k (by decide)
    · rw [z.1] at k; exact absurd k (by decide)
  | case5 g n =>
    intro z
    obtain ⟨k, -⟩ | ⟨k, -⟩ | ⟨c', a', b', k, t, -⟩ | ⟨k, -⟩ | ⟨k, g', rfl, q⟩ | ⟨k, -⟩ := RR_inv h'
    · rw [z.1] at k; exact absurd k (by decide)
    · rw [z.1] at k; exact absurd k (by decide)
    · rw [z.1] at k; unfold two at t; omega
    · rw [z.1] at k; exact absurd k (by decide)
    · rw [z.2.1] at q
      have : g = g' := by omega
      rw [this]
    · rw [z.1] at k; exact absurd k (by decide)
  | case6 v n =>
    intro z
    obtain ⟨k, -⟩ | ⟨k, -⟩ | ⟨c', a', b', k, t, -⟩ | ⟨k, -⟩ | ⟨k, -⟩ | ⟨k, v', rfl, q⟩ := RR_inv h'
    · rw [z.1] at k; exact absurd k (by decide)
    · rw [z.1] at k; exact absurd k (by decide)
    · rw [z.1] at k; unfold two at t; omega
    · rw [z.1] at k; exact absurd k (by decide)
    · rw [z.1] at k; exact absurd k (by decide)
    · rw [z.2.1] at q
      have : v = v' := by omega
      rw [this]
  | case7 => intro h; exact h.elim
theorem WE_at {s : Mem} {W : Nat → Nat} {n N : Nat} {e : Jvm.Term} {cv : List (Option Jvm.Term)} (hc : CVs s 0 cv N) (hw : WEs s W 0 cv) (ht : ¬ twA W cv) (hr : RR s e n) (hn : n < N) : WE s W e n ∧ ¬ tw W e := by
  obtain ⟨k, a⟩ | ⟨e0, r, w, t⟩ := CV_at cv 0 hc hw ht (Nat.zero_le _) hn
  · obtain ⟨k', -⟩ | ⟨k', -⟩ | ⟨c', a', b', k', t, -⟩ | ⟨k', -⟩ | ⟨k', g', rfl, q⟩ | ⟨k', -⟩ := RR_inv hr
    · rw [k] at k'; exact absurd k' (by decide)
    · rw [k] at k'; exact absurd k' (by decide)
    · rw [k] at k'; unfold two at t; omega
    · rw [k] at k'; exact absurd k' (by decide)
    · omega
    · rw [k] at k'; exact absurd k' (by decide)
  · rw [RR_uniq hr r]
    exact ⟨w, t⟩
