/-! the kinds of signals -/
theorem ckA_k4 : ∀ (its : List It) (env : EnvT) (sg : List Sg) (lo lo2 : List Lo) (sg' : List Sg), (∀ i, i ∈ its → i.1 = 4 → i.2.2.2.1 < 4) → (∀ x, x ∈ sg → x.1 ≤ 4) → ckA env sg lo its = .ok (sg', lo2) → ∀ x, x ∈ sg' → x.1 ≤ 4 := by
  intro its
  induction its with
  | nil =>
    intro env sg lo lo2 sg' _ hs h
    rw [ckA] at h
    injection h with h
    injection h with h1 h2
    subst h1
    exact hs
  | cons i r ih =>
    intro env sg lo lo2 sg' hI hs h
    rw [ckA] at h
    cases hc : ck1 env sg i with
    | none => rw [hc] at h; cases h
    | some y =>
      obtain ⟨env1, sg1, lo1⟩ := y
      rw [hc] at h
      dsimp only at h
      refine ih env1 sg1 _ lo2 sg' (fun i hi => hI i (List.mem_cons_of_mem _ hi)) (fun x hx => ?_) h
      rcases ck1_sg hc with e | ⟨e4, e⟩ | ⟨e5, nm, e', e⟩
      · rw [e] at hx; exact hs x hx
      · rw [e] at hx
        rcases List.mem_append.mp hx with z | z
        · exact hs x z
        · obtain ⟨j, hj⟩ := List.getElem?_of_mem z
          obtain ⟨-, hx2⟩ := sgOf_get hj
          have := hI i List.mem_cons_self e4
          rw [hx2]
          dsimp only
          omega
      · rw [e] at hx
        rcases List.mem_append.mp hx with z | z
        · exact hs x z
        · have : x = (4, nm, 0, 0, e') := by simpa using z
          rw [this]
          exact Nat.le_refl 4
theorem pAll_k4 {T : Tx} {its : List It} (h : pAll T = .ok its) : ∀ i, i ∈ its → i.1 = 4 → i.2.2.2.1 < 4 := fun i hi h4 => by
  have h' : pIts T (T.2 + 1) [] (sk T 0) = .ok its := h
  obtain ⟨a1, -, -⟩ := pIts_ok (T.2 + 1) [] _ its (sk_le T (Nat.zero_le _)) (fun b hb => (nomatch hb)) h'
  rcases a1 i hi with ⟨a, -⟩ | ⟨a, -⟩ | a | a | ⟨a, b, -⟩ | ⟨a, -⟩
  · omega
  · omega
  · omega
  · omega
  · exact b
  · omega
/-- what is compiled has no kinds above 4 -/
theorem CMP_k4 {T : Tx} {w th : Int} {lv : Live} (h : CMP T w th (some lv)) : ∀ x, x ∈ lv.1 → x.1 ≤ 4 := by
  unfold CMP at h
  cases hp : pAll T with
  | error p => rw [hp] at h; exact (nomatch h.2.2)
  | ok its =>
    rw [hp] at h
    dsimp only at h
    cases hc : ckA (fun _ => none) [] [] its with
    | error p => rw [hc] at h; exact (nomatch h.2.2)
    | ok y =>
      obtain ⟨sg, lo⟩ := y
      rw [hc] at h
      dsimp only at h
      rcases h with ⟨-, -, -, h⟩ | ⟨W, -, ⟨k, -, -, -, -, -, h⟩ | ⟨-, ⟨k, -, -, -, -, -, h⟩ | ⟨-, -, -, h⟩⟩⟩
      · exact (nomatch h)
      · exact (nomatch h)
      · exact (nomatch h)
      · injection h with h
        subst h
        intro x hx
        obtain ⟨j, hj⟩ := List.getElem?_of_mem hx
        obtain ⟨z, hz, rfl⟩ := sgW_get hj
        exact ckA_k4 its (fun _ => none) [] [] lo sg (pAll_k4 hp) (fun x hx => (nomatch hx)) hc z (List.mem_of_getElem? hz)
theorem fre_iff {lv : Live} {n : Nat} (h : ∀ x, x ∈ lv.1 → x.1 ≤ 4) : fre lv n ↔ isFree lv n := by
  constructor
  · rintro ⟨x, hx, h2⟩
    refine ⟨x, hx, ?_, fun z => h2 (Or.inl z)⟩
    have h4 := h x (List.mem_of_getElem? hx)
    have h5 : ¬ x.1 = 4 := fun z => h2 (Or.inr z)
    have h6 : ¬ (x.1 = 2 ∨ x.1 = 3) := fun z => h2 (Or.inl (by unfold isSk; omega))
    omega
  · rintro ⟨x, hx, h1, h2⟩
    exact ⟨x, hx, fun z => z.elim h2 (fun z => by omega)⟩
