/-! THE CLASS: its state between two calls -/
theorem CIR_off {s s' : Mem} {o N K : Nat} {sg : List Sg} {lo : List Lo} {W : Nat → Nat} (h : CIR s o N K sg lo W) (f : ∀ k j, 58 + o ≤ k → k ≤ 83 + o → s' k j = s k j) : CIR s' o N K sg lo W := by
  obtain ⟨h1, h2, h3, h4, h5, h6, h7, h8⟩ := h
  refine ⟨SGA_put h1 (f _ _ (by omega) (by omega)) (fun j => ⟨f _ _ (by omega) (by omega), f _ _ (by omega) (by omega)⟩), fun g hg => by rw [f _ _ (by omega) (by omega)]; exact h2 g hg, WAc_fr h3 (fun k j hk => f _ _ (by omega) (by omega)), h4, by rw [f _ _ (by omega) (by omega), h5], h6, fun g x hx hs => ?_, ND_put h8 (fun j => f _ _ (by omega) (by omega))⟩
  obtain ⟨v, v1, v2⟩ := h7 g x hx hs
  exact ⟨v, by rw [f _ _ (by omega) (by omega), v1], CD_put (K0 := K) (fun k j hk _ _ => f _ _ (by omega) (by omega)) (fun c j c1 c2 _ => f _ _ (by omega) (by omega)) K _ v K (Nat.le_refl _) (Nat.le_refl _) v2⟩
theorem RUK_off {s s' : Mem} {o N K : Nat} {sg : List Sg} {lo : List Lo} {W : Nat → Nat} {l : List Nat} {st val bf ch : Nat → Int} {ck : Int} (h : RUK s o N K sg lo W l st val bf ch ck) (f : ∀ k j, 58 + o ≤ k → k ≤ 83 + o → s' k j = s k j) : RUK s' o N K sg lo W l st val bf ch ck := by
  obtain ⟨h1, h2, h3, h4, h5, h6, h7, h8, h9, h10⟩ := h
  exact ⟨CIR_off h1 f, h2, h3, h4, ⟨by rw [f _ _ (by omega) (by omega)]; exact h5.1, fun i x hx => by rw [f _ _ (by omega) (by omega)]; exact h5.2 i x hx⟩, fun g hg => by rw [f _ _ (by omega) (by omega)]; exact h6 g hg, h7, h8, fun j hj => by rw [f _ _ (by omega) (by omega), f _ _ (by omega) (by omega)]; exact h9 j hj, by rw [f _ _ (by omega) (by omega), h10]⟩
/-- the text and which circuit is which -/
def RKB (s : Mem) (T : Tx) (o : Nat) : Prop := (o = 0 ∨ o = 26) ∧ T.2 ≤ 200 ∧ s 56 1 = (T.2 : Nat) ∧ (∀ j, j < T.2 → s 57 j = T.1 j ∧ 32 ≤ T.1 j ∧ T.1 j ≤ 126) ∧ s 56 4 = ((58 + o : Nat) : Int) ∧ s 56 5 = ((58 + (26 - o) : Nat) : Int)
/-- what a compile writes before it is sure, p the spare circuit -/
def CPK (p k j : Nat) : Prop := ¬ (58 + (26 - p) ≤ k ∧ k ≤ 83 + (26 - p)) ∧ k ≠ 57 ∧ (k = 56 → j = 2)
theorem RKB_put {s s' : Mem} {T : Tx} {o : Nat} (h : RKB s T o) (f : Fr (CPK (26 - o)) s s') : RKB s' T o := by
  obtain ⟨h1, h2, h3, h4, h5, h6⟩ := h
  have q : ∀ j, j ≠ 2 → s' 56 j = s 56 j := fun j hj => f _ _ (fun z => hj (z.2.2 rfl))
  exact ⟨h1, h2, by rw [q _ (by decide), h3], fun j hj => by rw [f _ _ (fun z => z.2.1 rfl)]; exact h4 j hj, by rw [q _ (by decide), h5], by rw [q _ (by decide), h6]⟩
/-- all of it -/
def RK (s : Mem) (T : Tx) (w : Int) (cp : Bool) (lv : Live) (st val bf ch : Nat → Int) (ck cn : Int) (o N K : Nat) (l : List Nat) : Prop := RKB s T o ∧ s 56 2 = w ∧ s 56 3 = b2i cp ∧ RUK s o N K lv.1 lv.2.1 lv.2.2 l st val bf ch ck ∧ NMc s o lv.1 ∧ s (58 + o) 2 = cn
theorem RK_fail {s s' : Mem} {T : Tx} {w w' : Int} {cp : Bool} {lv : Live} {st val bf ch : Nat → Int} {ck cn : Int} {o N K : Nat} {l : List Nat} (h : RK s T w cp lv st val bf ch ck cn o N K l) (f : Fr (CPK (26 - o)) s s') (hw : s' 56 2 = w') : RK s' T w' cp lv st val bf ch ck cn o N K l := by
  obtain ⟨h1, h2, h3, h4, h5, h6⟩ := h
  have ho := h1.1
  have q : ∀ k j, 58 + o ≤ k → k ≤ 83 + o → s' k j = s k j := fun k j a b => f _ _ (fun z => z.1 ⟨by omega, by omega⟩)
  exact ⟨RKB_put h1 f, hw, by rw [f _ _ (fun z => by have := z.2.2 rfl; omega), h3], RUK_off h4 q, fun i x hx => by rw [q _ _ (by omega) (by omega)]; exact h5 i x hx, by rw [q _ _ (by omega) (by omega), h6]⟩
theorem FTK_K {p : Nat} {s s' : Mem} (hp : p = 0 ∨ p = 26) (f : Fr FTK s s') : Fr (CPK p) s s' := f.mono (fun k j h => by unfold FTK at h; unfold CPK; omega)
theorem PB_K {p : Nat} {s s' : Mem} (hp : p = 0 ∨ p = 26) (f : Fr (PB p) s s') : Fr (CPK p) s s' := f.mono (fun k j h => by unfold PB PGX PG PC XF YF at h; unfold CPK; omega)
theorem CKG_K {p : Nat} {s s' : Mem} (hp : p = 0 ∨ p = 26) (f : Fr (fun c j => CKG p c j ∨ c = 133) s s') : Fr (CPK p) s s' := f.mono (fun k j h => by unfold CKG SGF at h; unfold CPK; omega)
theorem WZ_K {p : Nat} {s s' : Mem} (hp : p = 0 ∨ p = 26) (f : Fr (WZ p) s s') : Fr (CPK p) s s' := f.mono (fun k j h => by unfold WZ at h; unfold CPK; omega)
theorem LWY_K {p : Nat} {s s' : Mem} (hp : p = 0 ∨ p = 26) (f : Fr (LWY p) s s') : Fr (CPK p) s s' := f.mono (fun k j h => by unfold LWY at h; unfold CPK; omega)
theorem LIF_K {p : Nat} {s s' : Mem} (hp : p = 0 ∨ p = 26) (f : Fr LIF s s') : Fr (CPK p) s s' := f.mono (fun k j h => by unfold LIF at h; unfold CPK; omega)
theorem plc_K {p : Nat} {s : Mem} {v : Int} (hp : p = 0 ∨ p = 26) : Fr (CPK p) s (mu s 56 2 v) := (Fr.rf s).mu ⟨by omega, by omega, fun _ => rfl⟩
