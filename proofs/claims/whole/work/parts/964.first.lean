/-! the first memory: what the constructors leave, as the small machine has it -/
def cZ (v : AV) : Int := if v.1 = 0 then v.2 else if v.1 = 1 then ((ivo v.2.toNat : Nat) : Int) else -1
def cvl (k j : Nat) : AV := (cF2.getD (ord k) []).getD j (0, 0)
def w0 : Mem := fun k j => if (kd k).1 = 0 then cZ (cvl k j) else 0
def chk1 (k : Nat) : Bool := decide (kl (ord k) = kd k) && decide (ord k < 151) && decide (ivo (ord k) = k) && decide ((kd k).1 < 5) && (decide (¬ (kd k).1 = 0) || (decide ((cF2.getD (ord k) []).length = nfZ (kd k).2) && (List.range (nfZ (kd k).2)).all fun j =>
  (decide (fkd (kd k).2 j < 2) && decide ((cvl k j).1 = 0)) || (decide (fkd (kd k).2 j = 2) && ((decide ((cvl k j).1 = 1) && decide (ord (ivo (cvl k j).2.toNat) = (cvl k j).2.toNat)) || decide (cvl k j = aJ))) || (decide (fkd (kd k).2 j = 3) && decide ((cvl k j).1 = 1) && decide (ord (fcn k j) = (cvl k j).2.toNat))))
theorem chk_1 : (List.range 151).all chk1 = true := by decide +kernel
theorem chk_2 : (cF2.all fun r => r.all fun v => decide (-1000 ≤ cZ v) && decide (cZ v ≤ 1000)) = true := by decide +kernel
theorem cF2_len : cF2.length = 151 := by decide +kernel
theorem w0_ok : MOK w0 := fun k j => by
  unfold w0
  split
  · have key : -1000 ≤ cZ (cvl k j) ∧ cZ (cvl k j) ≤ 1000 := by
      unfold cvl
      rw [List.getD_eq_getElem?_getD]
      cases h : (cF2.getD (ord k) [])[j]? with
      | none => exact ⟨by decide, by decide⟩
      | some v =>
        have h1 : v ∈ cF2.getD (ord k) [] := List.mem_of_getElem? h
        rw [List.getD_eq_getElem?_getD] at h1
        cases h2 : cF2[ord k]? with
        | none => rw [h2] at h1; exact absurd h1 List.not_mem_nil
        | some r =>
          rw [h2] at h1
          have := List.all_eq_true.mp (List.all_eq_true.mp chk_2 r (List.mem_of_getElem? h2)) v h1
          simpa using this
    unfold inI
    omega
  · exact inI_0
def adF (B : Nat) : Nat → Nat := fun k => B + ord k
theorem chk_k {k : Nat} (h : k < 151) : kl (ord k) = kd k ∧ ord k < 151 ∧ ivo (ord k) = k ∧ (kd k).1 < 5 ∧ ((kd k).1 = 0 → (cF2.getD (ord k) []).length = nfZ (kd k).2 ∧ ∀ j, j < nfZ (kd k).2 → (fkd (kd k).2 j < 2 ∧ (cvl k j).1 = 0) ∨ (fkd (kd k).2 j = 2 ∧ ((cvl k j).1 = 1 ∧ ord (ivo (cvl k j).2.toNat) = (cvl k j).2.toNat ∨ cvl k j = aJ)) ∨ (fkd (kd k).2 j = 3 ∧ (cvl k j).1 = 1 ∧ ord (fcn k j) = (cvl k j).2.toNat)) := by
  have h1 := List.all_eq_true.mp chk_1 k (List.mem_range.mpr h)
  unfold chk1 at h1
  simp only [Bool.and_eq_true, Bool.or_eq_true, decide_eq_true_eq, List.all_eq_true, List.mem_range, and_assoc, or_assoc] at h1
  obtain ⟨a1, a2, a3, a4, a5⟩ := h1
  refine ⟨a1, a2, a3, a4, fun h0 => ?_⟩
  rcases a5 with z | z
  · exact absurd h0 z
  · exact z
theorem eC_cE {B : Nat} {cT : Nat → ClassId} {k : Nat} (h : k < 151) : eC B cT cF2 (ord k) = cE (adF B) cT w0 k := by
  obtain ⟨a1, a2, a3, a4, a5⟩ := chk_k h
  unfold eC
  rw [a1]
  by_cases h0 : (kd k).1 = 0
  · rw [if_pos h0, cE_0 h0]
    obtain ⟨b1, b2⟩ := a5 h0
    refine congrArg (fun x => (Sum.inr ((kd k).2, x) : va_E)) ?_
    apply List.ext_getElem?
    intro j
    rw [List.getElem?_map, List.getElem?_map]
    by_cases hj : j < nfZ (kd k).2
    · rw [List.getElem?_range hj]
      have hv : (cF2.getD (ord k) [])[j]? = some (cvl k j) := by
        unfold cvl
        rw [List.getD_eq_getElem?_getD (l := cF2.getD (ord k) []), List.getElem?_eq_getElem (by omega)]
        rfl
      rw [hv]
      refine congrArg some ?_
      have hw : w0 k j = cZ (cvl k j) := by unfold w0; rw [if_pos h0]
      show cV (adB B) (cvl k j) = cF (adF B) (fkd (kd k).2 j) (fcn k j) (w0 k j)
      rw [hw]
      have b3 := b2 j hj
      clear hv hw
      generalize cvl k j = v at b3 ⊢
      obtain ⟨v1, v2⟩ := v
      rcases b3 with ⟨f, hv⟩ | ⟨f, ⟨hv, ho⟩ | hv⟩ | ⟨f, hv, ho⟩
      · obtain rfl : v1 = 0 := hv
        rcases (by omega : fkd (kd k).2 j = 0 ∨ fkd (kd k).2 j = 1) with z | z <;> rw [z] <;> rfl
      · obtain rfl : v1 = 1 := hv
        rw [f]
        show Value.ref (adB B v2.toNat) = if 0 ≤ ((ivo v2.toNat : Nat) : Int) then Value.ref (adF B ((ivo v2.toNat : Nat) : Int).toNat) else .null
        rw [if_pos (Int.natCast_nonneg _), Int.toNat_natCast]
        unfold adF adB
        have ho : ord (ivo v2.toNat) = v2.toNat := ho
        rw [ho]
      · cases hv
        rw [f]
        rfl
      · obtain rfl : v1 = 1 := hv
        rw [f]
        show Value.ref (B + v2.toNat) = Value.ref (B + ord (fcn k j))
        rw [ho]
    · rw [List.getElem?_eq_none (by omega), List.getElem?_eq_none (by rw [List.length_range]; omega)]
      rfl
  · rw [if_neg h0]
    have hw : (fun j => i32 (w0 k j)) = fun _ => (0 : Int32) := funext fun j => by unfold w0; rw [if_neg h0]; rfl
    rcases (by omega : (kd k).1 = 4 ∨ (kd k).1 = 1 ∨ (kd k).1 = 2 ∨ (kd k).1 = 3) with z | z | z | z
    · rw [if_pos z, cE_4 z, a3]
      rfl
    · rw [if_neg (by omega), cE_1 z, z, hw]
    · rw [if_neg (by omega), cE_2 z, z, hw]
    · rw [if_neg (by omega), cE_3 z, z, hw]
theorem wS_key {ad : Nat → Nat} {cT : Nat → ClassId} {w : Mem} {k : Nat} {q : Nat × va_E} (hq : (wS ad cT w)[k]? = some q) : k < 151 ∧ q = (ad k, cE ad cT w k) := by
  have hk : k < lyt.length := by
    have := (List.getElem?_eq_some_iff.mp hq).1
    simpa [wS] using this
  rw [wS_get hk] at hq
  exact ⟨by rw [lyt_len] at hk; exact hk, (Option.some.inj hq).symm⟩
theorem first_P {B : Nat} {D : va_G} {cT : Nat → ClassId} {H : Heap} (hP : va_P D clZ (CW B cT cF2) H) : va_P D clZ (wS (adF B) cT w0) H := fun k q hq => by
  obtain ⟨hk, rfl⟩ := wS_key hq
  obtain ⟨a1, a2, a3, a4, a5⟩ := chk_k hk
  have := hP (ord k) _ (CW_get (by rw [cF2_len]; exact a2))
  rw [eC_cE hk] at this
  exact this
theorem first_D {B : Nat} {cT : Nat → ClassId} {w : Mem} : va_D (fun q => B ≤ q) (wS (adF B) cT w) := by
  refine ⟨fun i j x z hx hz h => ?_, fun k q hq => ?_⟩
  · obtain ⟨h1, rfl⟩ := wS_key hx
    obtain ⟨h2, rfl⟩ := wS_key hz
    have : ord i = ord j := Nat.add_left_cancel h
    rw [← (chk_k h1).2.2.1, ← (chk_k h2).2.2.1, this]
  · obtain ⟨h1, rfl⟩ := wS_key hq
    exact Nat.le_add_right _ _
