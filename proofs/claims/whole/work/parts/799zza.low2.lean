/-! THE CLASS: forms by their numbers -/
/-- the form t has the number v; choices below K -/
def CD (s : Mem) (o N L : Nat) : Jvm.Term → Nat → Nat → Prop
  | .null, v, _ => v = 24
  | .elem c (.rem a b), v, K => ∃ j x y m : Nat, (j < K ∧ v = 225 + j) ∧ (s (74 + o) j = ((m + esz c - 1 : Nat) : Int) ∧ CR s o c m ∧ 25 ≤ m ∧ m + esz c ≤ N) ∧ (s (75 + o) j = x ∧ CD s o N L a x j) ∧ s (76 + o) j = y ∧ CD s o N L b y j
  | e, v, _ => SRCc s o N L e v
theorem CD_lt {s : Mem} {o N L : Nat} {t : Jvm.Term} {v K : Nat} (hN : N ≤ 225) (hL : L ≤ 24) : CD s o N L t v K → v < 225 + K := by
  fun_cases CD s o N L t v K with
  | case1 => intro h; omega
  | case2 c a b => rintro ⟨j, x, y, m, h1, -⟩; omega
  | case3 =>
    rintro (⟨g, -, h1, h2⟩ | ⟨m, h1, h2, h3, h4⟩)
    · omega
    · have := esz_pos t
      omega
theorem CD_mono {s : Mem} {o N L : Nat} {t : Jvm.Term} {v K K' : Nat} (hK : K ≤ K') : CD s o N L t v K → CD s o N L t v K' := by
  unfold CD
  split
  · exact id
  · rintro ⟨j, x, y, m, ⟨h1, h1'⟩, h2⟩
    exact ⟨j, x, y, m, ⟨by omega, h1'⟩, h2⟩
  · exact id
theorem SRCc_put {s s' : Mem} {o N L : Nat} {e : Jvm.Term} {v : Nat} (h : SRCc s o N L e v) (g : AN o s s' 25 N) : SRCc s' o N L e v := by
  rcases h with h | ⟨m, h1, h2, h3, h4⟩
  · exact Or.inl h
  · exact Or.inr ⟨m, CR_put h1 (g.sub h3 h4), h2, h3, h4⟩
theorem CD_src {s : Mem} {o N L : Nat} {e : Jvm.Term} {v K : Nat} (h : SRCc s o N L e v) : CD s o N L e v K := by
  unfold CD
  split
  · rcases h with ⟨g, hg, -⟩ | ⟨m, h1, -⟩
    · cases hg
    · exact h1.elim
  · rcases h with ⟨g, hg, -⟩ | ⟨m, h1, -⟩
    · cases hg
    · exact h1.elim
  · exact h
theorem CD_put {s s' : Mem} {o N L K0 : Nat} (g : AN o s s' 25 N) (f : ∀ c j, 74 ≤ c → c ≤ 76 → j < K0 → s' (c + o) j = s (c + o) j) : ∀ (n : Nat) (t : Jvm.Term) (v K : Nat), K ≤ n → K ≤ K0 → CD s o N L t v K → CD s' o N L t v K := by
  intro n
  induction n with
  | zero =>
    intro t v K hn hK
    fun_cases CD s o N L t v K with
    | case1 => exact id
    | case2 c a b => rintro ⟨j, x, y, m, h1, -⟩; omega
    | case3 => exact fun h => CD_src (SRCc_put h g)
  | succ n ih =>
    intro t v K hn hK
    fun_cases CD s o N L t v K with
    | case1 => exact id
    | case2 c a b =>
      rintro ⟨j, x, y, m, h1, ⟨h2, h3, h4, h5⟩, ⟨h6, h7⟩, h8, h9⟩
      exact ⟨j, x, y, m, h1, ⟨by rw [f _ _ (by decide) (by decide) (by omega), h2], CR_put h3 (g.sub h4 h5), h4, h5⟩, ⟨by rw [f _ _ (by decide) (by decide) (by omega), h6], ih a x j (by omega) (by omega) h7⟩, by rw [f _ _ (by decide) (by decide) (by omega), h8], ih b y j (by omega) (by omega) h9⟩
    | case3 => exact fun h => CD_src (SRCc_put h g)
/-- the needs of what does not change -/
def NS (s : Mem) (o N : Nat) : Prop := NAc s o N ∧ (∀ g, g < 24 → BU (s 138 g) (.index g)) ∧ BU (s 138 24) .null
theorem SRC_BU {s : Mem} {o N L : Nat} {e : Jvm.Term} {v : Nat} (hL : L ≤ 24) (h : NS s o N) (hv : SRCc s o N L e v) : BU (s 138 v) e := by
  rcases hv with ⟨g, rfl, h1, rfl⟩ | ⟨m, h1, rfl, h3, h4⟩
  · exact h.2.1 v (by omega)
  · exact h.1 e m h1 h3 h4
theorem NS_put {s s' : Mem} {o N : Nat} (ho : o = 0 ∨ o = 26) (hN : N ≤ 225) (h : NS s o N) (g : ∀ k j, (67 ≤ k ∧ k ≤ 71) → s' (k + o) j = s (k + o) j) (f : ∀ j, j < 225 → s' 138 j = s 138 j) : NS s' o N := by
  obtain ⟨h1, h2, h3⟩ := h
  refine ⟨fun e m hc hm hi => ?_, fun q hq => by rw [f _ (by omega)]; exact h2 q hq, by rw [f _ (by omega)]; exact h3⟩
  have hp := esz_pos e
  rw [f _ (by omega)]
  exact h1 e m (CR_put hc (fun k j hk _ _ => (g k j hk).symm)) hm hi
theorem BU_chc {vc va vb : Int} {c a b : Jvm.Term} (hc : ini c = true) (h1 : BU vc c) (h2 : BU va a) (h3 : BU vb b) : BU (ior (ior vc va) vb) (chc c a b) := by
  refine BQ_iff (BQ_or (BQ_or h1 h2) h3) (fun g _ => ?_)
  unfold uo
  have e1 : ∀ g, occ g (chc c a b) ↔ occ g c ∨ occ g a ∨ occ g b := fun g => Iff.rfl
  have e2 : ini (chc c a b) = (ini a && ini b) := rfl
  rw [e1, e2, hc, Bool.and_eq_false_iff]
  constructor
  · rintro (((⟨x, y⟩ | ⟨x, y⟩) | (⟨x, y⟩ | ⟨x, y⟩)) | (⟨x, y⟩ | ⟨x, y⟩))
    · exact Or.inl ⟨x, Or.inl y⟩
    · cases y
    · exact Or.inl ⟨x, Or.inr (Or.inl y)⟩
    · exact Or.inr ⟨x, Or.inl y⟩
    · exact Or.inl ⟨x, Or.inr (Or.inr y)⟩
    · exact Or.inr ⟨x, Or.inr y⟩
  · rintro (⟨x, y | y | y⟩ | ⟨x, y | y⟩)
    · exact Or.inl (Or.inl (Or.inl ⟨x, y⟩))
    · exact Or.inl (Or.inr (Or.inl ⟨x, y⟩))
    · exact Or.inr (Or.inl ⟨x, y⟩)
    · exact Or.inl (Or.inr (Or.inr ⟨x, y⟩))
    · exact Or.inr (Or.inr ⟨x, y⟩)
/-- a number of a form, and what it needs -/
def CN1 (s : Mem) (o N L K : Nat) (t : Jvm.Term) (v : Int) : Prop := ∃ n : Nat, v = n ∧ CD s o N L t n K ∧ BU (s 138 n) t
theorem CN1_put {s s' : Mem} {o N L K K' : Nat} {t : Jvm.Term} {v : Int} (hN : N ≤ 225) (hL : L ≤ 24) (hK : K ≤ K') (h : CN1 s o N L K t v) (g : AN o s s' 25 N) (f : ∀ c j, 74 ≤ c → c ≤ 76 → j < K → s' (c + o) j = s (c + o) j) (fn : ∀ j, j < 225 + K → s' 138 j = s 138 j) : CN1 s' o N L K' t v := by
  obtain ⟨n, h1, h2, h3⟩ := h
  exact ⟨n, h1, CD_mono hK (CD_put g f K t n K (Nat.le_refl _) (Nat.le_refl _) h2), by rw [fn _ (CD_lt hN hL h2)]; exact h3⟩
/-- the open ? of one signal, from the innermost outwards -/
def FRM (s : Mem) (o N L K g : Nat) : List Fm → Prop
  | [] => True
  | f :: r => CN1 s o N L K f.1 (s (141 + r.length) g) ∧ (∃ m : Nat, s 148 r.length = ((m + esz f.2.2.1 - 1 : Nat) : Int) ∧ CR s o f.2.2.1 m ∧ 25 ≤ m ∧ m + esz f.2.2.1 ≤ N) ∧ (∀ t, f.2.1 = some t → CN1 s o N L K t (s (145 + r.length) g)) ∧ FRM s o N L K g r
theorem FRM_put {s s' : Mem} {o N L K K' g : Nat} (hN : N ≤ 225) (hL : L ≤ 24) (hK : K ≤ K') (ga : AN o s s' 25 N) (f : ∀ c j, 74 ≤ c → c ≤ 76 → j < K → s' (c + o) j = s (c + o) j) (fn : ∀ j, j < 225 + K → s' 138 j = s 138 j) : ∀ st : List Fm, (∀ i, i < st.length → s' (141 + i) g = s (141 + i) g ∧ s' (145 + i) g = s (145 + i) g ∧ s' 148 i = s 148 i) → FRM s o N L K g st → FRM s' o N L K' g st
  | [], _, _ => trivial
  | q :: r, h, ⟨h1, ⟨m, h2, h3, h4, h5⟩, h6, h7⟩ => by
    obtain ⟨a1, a2, a3⟩ := h r.length (by rw [List.length_cons]; omega)
    refine ⟨by rw [a1]; exact CN1_put hN hL hK h1 ga f fn, ⟨m, by rw [a3, h2], CR_put h3 (ga.sub h4 h5), h4, h5⟩, fun t ht => by rw [a2]; exact CN1_put hN hL hK (h6 t ht) ga f fn, FRM_put hN hL hK ga f fn r (fun i hi => h i (by rw [List.length_cons]; omega)) h7⟩
theorem FRM_map {s : Mem} {o N L K g : Nat} : ∀ st : List Fm, FRM s o N L K g st → FRM s o N L K g (st.map fmT)
  | [], _ => trivial
  | q :: r, ⟨h1, h2, h3, h4⟩ => by
    rw [List.map_cons]
    refine ⟨?_, ?_, ?_, FRM_map r h4⟩ <;> rw [List.length_map]
    · exact h1
    · exact h2
    · exact h3
def tbit (v : Int) (g : Nat) : Prop := v.toNat.testBit g = true
/-- which open ? a signal is connected in -/
def TFR (s : Mem) (g : Nat) : List Fm → Prop → Prop
  | [], _ => True
  | f :: r, b => (f.2.2.2 = true ↔ b) ∧ TFR s g r (b ∨ tbit (s 149 r.length) g)
theorem TFR_put {s s' : Mem} {g : Nat} : ∀ (st : List Fm) (b b' : Prop), (∀ i, i < st.length → s' 149 i = s 149 i) → (b ↔ b') → TFR s g st b → TFR s' g st b'
  | [], _, _, _, _, _ => trivial
  | q :: r, b, b', h, hb, ⟨h1, h2⟩ => ⟨h1.trans hb, TFR_put r _ _ (fun i hi => h i (by rw [List.length_cons]; omega)) (by rw [h r.length (by rw [List.length_cons]; omega)]; exact or_congr hb Iff.rfl) h2⟩
theorem TFR_map {s : Mem} {g : Nat} : ∀ (st : List Fm) (b : Prop), b → TFR s g (st.map fmT) b
  | [], _, _ => trivial
  | q :: r, b, hb => ⟨⟨fun _ => hb, fun _ => rfl⟩, TFR_map r _ (Or.inl hb)⟩
/-- which open ? hold a connection at all -/
def GFl : List Bool → List Fm → Prop
  | b :: bs, f :: fs => (f.2.2.2 = true → b = true) ∧ GFl bs fs
  | _, _ => True
theorem GFl_true : ∀ (n : Nat) (st : List Fm), GFl (List.replicate n true) st
  | 0, _ => by unfold GFl; trivial
  | n + 1, [] => by rw [List.replicate_succ]; unfold GFl; trivial
  | n + 1, f :: fs => by rw [List.replicate_succ]; exact ⟨fun _ => rfl, GFl_true n fs⟩
def GS (s : Mem) (o N L K g : Nat) (now : Jvm.Term) (st : List Fm) : Prop := CN1 s o N L K now (s 139 g) ∧ FRM s o N L K g st ∧ TFR s g st (tbit (s 137 10) g)
/-- the class between two steps of the lowering -/
def LGS (s : Mem) (o N L K e : Nat) (now : Nat → Jvm.Term) (stk : Nat → List Fm) (gf : List Bool) : Prop :=
  s 137 9 = e ∧ e ≤ 3 ∧ gf.length = e ∧ s (58 + o) 6 = K ∧ K ≤ 840 ∧ (∃ t : Nat, s 137 10 = t ∧ t < 2 ^ 24) ∧ (∀ i, i < e → ∃ t : Nat, s 149 i = t ∧ t < 2 ^ 24) ∧ NS s o N ∧ ∀ g, g < 24 → (stk g).length = e ∧ GS s o N L K g (now g) (stk g) ∧ GFl gf (stk g)
/-- what the lowering's steps write -/
def LWF (o k j : Nat) : Prop := (k = 137 ∧ (j = 9 ∨ j = 10)) ∨ (k = 138 ∧ 225 ≤ j) ∨ k = 139 ∨ (141 ≤ k ∧ k ≤ 143) ∨ (145 ≤ k ∧ k ≤ 149) ∨ (k = 58 + o ∧ j = 6) ∨ (74 + o ≤ k ∧ k ≤ 76 + o)
/-- what is known of the choices below K stays -/
def KP (o K : Nat) (s s' : Mem) : Prop := (∀ c j, 74 ≤ c → c ≤ 76 → j < K → s' (c + o) j = s (c + o) j) ∧ ∀ j, j < 225 + K → s' 138 j = s 138 j
theorem KP_tr {o K K' : Nat} {s s1 s2 : Mem} (h : KP o K s s1) (hK : K ≤ K') (h2 : KP o K' s1 s2) : KP o K s s2 := ⟨fun c j a b d => by rw [h2.1 c j a b (by omega), h.1 c j a b d], fun j a => by rw [h2.2 j (by omega), h.2 j a]⟩
theorem KP_rf {o K : Nat} {s : Mem} : KP o K s s := ⟨fun _ _ _ _ _ => rfl, fun _ _ => rfl⟩
