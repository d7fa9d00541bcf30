/-! The small machine is right: what it does, the machine does. -/
theorem i32_back {z : Int} (h : inI z) : (i32 z).toInt = z := by
  obtain ⟨h1, h2⟩ := h
  unfold i32
  exact Int32.toInt_ofInt_of_le (by simpa using h1) (by omega)
theorem i32_in (x : Int32) : inI x.toInt := ⟨by have := Int32.le_toInt x; simpa using this, by have := Int32.toInt_lt x; omega⟩
theorem i32_of (x : Int32) : i32 x.toInt = x := Int32.ofInt_toInt x
theorem i32_wrap (z : Int) : i32 (wrap z) = i32 z := by
  apply Int32.toInt_inj.mp
  rw [wrap_def]
  unfold i32
  rw [Int32.toInt_ofInt, Int32.toInt_ofInt]
  simp only [Int32.size]
  rw [Int.bmod_def, Int.bmod_def]
  split <;> split <;> omega
theorem i32_add (a b : Int) : i32 a + i32 b = i32 (a + b) := (Int32.ofInt_add a b).symm
theorem i32_sub (a b : Int) : i32 a - i32 b = i32 (a - b) := (Int32.ofInt_sub a b).symm
theorem i32_mul (a b : Int) : i32 a * i32 b = i32 (a * b) := (Int32.ofInt_mul a b).symm
theorem i32_lt {a b : Int} (ha : inI a) (hb : inI b) : i32 a < i32 b ↔ a < b := by rw [Int32.lt_iff_toInt_lt, i32_back ha, i32_back hb]
theorem i32_le {a b : Int} (ha : inI a) (hb : inI b) : i32 a ≤ i32 b ↔ a ≤ b := by rw [Int32.le_iff_toInt_le, i32_back ha, i32_back hb]
theorem i32_eq {a b : Int} (ha : inI a) (hb : inI b) : i32 a = i32 b ↔ a = b := ⟨fun h => by rw [← i32_back ha, ← i32_back hb, h], fun h => by rw [h]⟩
theorem i32_nat (n : Nat) : i32 (n : Int) = nI n := rfl
theorem i32_0 : i32 0 = 0 := rfl
theorem inI_0 : inI 0 := by unfold inI; omega
theorem i32_clamp {z : Int} (h : inI z) : (i32 z).toNatClampNeg = z.toNat := by
  show (i32 z).toInt.toNat = _
  rw [i32_back h]
theorem i32_vp {z : Int} {n : Nat} (h : inI z) (h0 : 0 ≤ z) (h1 : z < (n : Int)) : vp_in (i32 z) n := by
  unfold vp_in
  rw [i32_clamp h, show (0 : Int32) = i32 0 from rfl, i32_lt h inI_0]
  omega
theorem i32_rem {a b : Int} (ha : inI a) (hb : inI b) (h0 : 0 ≤ a) (h1 : 0 < b) : i32 a - i32 a / i32 b * i32 b = i32 (a % b) := by
  obtain ⟨m, rfl⟩ := Int.eq_ofNat_of_zero_le h0
  obtain ⟨n, rfl⟩ := Int.eq_ofNat_of_zero_le (Int.le_of_lt h1)
  unfold inI at ha hb
  have := pk_rem (a := m) (d := n) (by omega) (by omega) (by omega)
  rw [show (m : Int) % (n : Int) = ((m % n : Nat) : Int) from (Int.natCast_emod m n).symm]
  exact this
theorem i8_back (n : Int) : i32 (Int8.ofInt n).toInt = (Int8.ofInt n).toInt32 := rfl
theorem i16_back (n : Int) : i32 (Int16.ofInt n).toInt = (Int16.ofInt n).toInt32 := rfl
theorem i8_in (x : Int8) : inI x.toInt := by have h1 := Int8.le_toInt x; have h2 := Int8.toInt_lt x; simp at h1 h2; unfold inI; omega
theorem i16_in (x : Int16) : inI x.toInt := by have h1 := Int16.le_toInt x; have h2 := Int16.toInt_lt x; simp at h1 h2; unfold inI; omega

-- values, cells, the world
def cV (ad : Nat → Nat) (v : AV) : Value := match v.1 with
  | 0 => .int (i32 v.2)
  | 1 => .ref (ad v.2.toNat)
  | 2 => .long (Int64.ofInt v.2)
  | 3 => .double (dU v.2)
  | _ => .null
theorem cV_I (ad : Nat → Nat) (z : Int) : cV ad (aI z) = .int (i32 z) := rfl
theorem cV_0 (ad : Nat → Nat) (z : Int) : cV ad (0, z) = .int (i32 z) := rfl
theorem cV_1 (ad : Nat → Nat) (z : Int) : cV ad (1, z) = .ref (ad z.toNat) := rfl
theorem cV_R (ad : Nat → Nat) (k : Nat) : cV ad (aR k) = .ref (ad k) := by
  show Value.ref (ad ((k : Int).toNat)) = _
  rw [Int.toNat_natCast]
def cF (ad : Nat → Nat) (fk cn : Nat) (z : Int) : Value := match fk with
  | 0 => .int (i32 z)
  | 1 => .int (i32 z)
  | 2 => if 0 ≤ z then .ref (ad z.toNat) else .null
  | _ => .ref (ad cn)
def cE (ad : Nat → Nat) (cT : Nat → ClassId) (m : Mem) (k : Nat) : va_E := match (kd k).1 with
  | 0 => .inr ((kd k).2, (List.range (nfZ (kd k).2)).map (fun j => cF ad (fkd (kd k).2 j) (fcn k j) (m k j)))
  | 4 => .inl (cT 4, (kd k).2, .inr (.inr (.inr (.inr (fun j => some (ad (rcn k j)))))))
  | t => .inl (cT t, (kd k).2, .inl (fun j => i32 (m k j)))
def wS (ad : Nat → Nat) (cT : Nat → ClassId) (m : Mem) : va_W := (List.range lyt.length).map (fun k => (ad k, cE ad cT m k))
def tysZ (cT : Nat → ClassId) : List (ClassId × FieldType) := [(cT 1, .int), (cT 2, .boolean), (cT 3, .char), (cT 4, .array .int)]
def MOK (m : Mem) : Prop := ∀ k j, inI (m k j)
def KZ (D : va_G) (cT : Nat → ClassId) (U : State) : Prop := va_K D clZ (tysZ cT) U ∧ ∀ w ∈ nstW, va_Nw w U
theorem wS_get {ad : Nat → Nat} {cT : Nat → ClassId} {m : Mem} {k : Nat} (h : k < lyt.length) : (wS ad cT m)[k]? = some (ad k, cE ad cT m k) := by
  unfold wS
  rw [List.getElem?_map, List.getElem?_range h]
  rfl
theorem wS_set {ad : Nat → Nat} {cT : Nat → ClassId} {m m' : Mem} {k : Nat} {e : va_E} (he : cE ad cT m' k = e) (ho : ∀ q, q ≠ k → ∀ j, m' q j = m q j) : (wS ad cT m).set k (ad k, e) = wS ad cT m' := by
  apply List.ext_getElem?
  intro i
  rw [List.getElem?_set]
  have hlen : (wS ad cT m).length = lyt.length := by simp [wS]
  by_cases hik : k = i
  · subst hik
    rw [if_pos rfl]
    by_cases h : k < lyt.length
    · rw [if_pos (by omega), wS_get h, he]
    · rw [if_neg (by omega)]
      exact (List.getElem?_eq_none (by simp [wS]; omega)).symm
  · rw [if_neg hik]
    by_cases h : i < lyt.length
    · rw [wS_get h, wS_get h]
      unfold cE
      have e1 : (fun j => i32 (m' i j)) = (fun j => i32 (m i j)) := funext fun j => by rw [ho i (fun q => hik q.symm) j]
      rw [e1]
      simp only [ho i (fun q => hik q.symm)]
    · rw [List.getElem?_eq_none (by simp [wS]; omega), List.getElem?_eq_none (by simp [wS]; omega)]
theorem kd_lt {k t : Nat} (h : (kd k).1 = t) (ht : t < 9) : k < lyt.length := by
  rcases Nat.lt_or_ge k lyt.length with q | q
  · exact q
  · unfold kd at h
    rw [List.getD_eq_getElem?_getD, List.getElem?_eq_none q] at h
    subst h
    exact absurd ht (by decide)
theorem obC_k {r ci : Nat} (h : obC r = ci) (hc : ci < 999) : (kd r).1 = 0 ∧ (kd r).2 = ci := by
  unfold obC at h
  split at h
  next q => exact ⟨q, h⟩
  next q => omega
-- the locals
def LRz (ad : Nat → Nat) (lg nL : Nat) (ls : Array Slot) (als : List AV) : Prop := ls.size = nL ∧ als.length = nL ∧ lv_wf ls ∧ ∀ (i : Nat) (v : AV), als[i]? = some v → (v.1 < 2 → ls[i]? = some (.val (cV ad v))) ∧ (v.1 = 2 → i = lg ∧ ls[i]? = some (.val (cV ad v)))
def lvF (ad : Nat → Nat) (q : AV × Nat) : Option (Nat × Value) := if q.1.1 < 3 then some (q.2, cV ad q.1) else none
def lvOf (ad : Nat → Nat) (als : List AV) : List (Nat × Value) := als.zipIdx.filterMap (lvF ad)
theorem lvOf_mem {ad : Nat → Nat} {als : List AV} {j : Nat} {x : Value} : (j, x) ∈ lvOf ad als ↔ ∃ w : AV, als[j]? = some w ∧ w.1 < 3 ∧ x = cV ad w := by
  unfold lvOf
  rw [List.mem_filterMap]
  constructor
  · rintro ⟨⟨w, i⟩, h1, h2⟩
    unfold lvF at h2
    split at h2
    next h3 =>
      cases h2
      exact ⟨w, List.mem_zipIdx_iff_getElem?.mp h1, h3, rfl⟩
    next => cases h2
  · rintro ⟨w, h1, h2, rfl⟩
    exact ⟨(w, j), List.mem_zipIdx_iff_getElem?.mpr h1, by unfold lvF; rw [if_pos h2]⟩
theorem LRz.has {ad : Nat → Nat} {lg nL : Nat} {ls : Array Slot} {als : List AV} (h : LRz ad lg nL ls als) : lv_has ls nL (lvOf ad als) := by
  refine ⟨h.1, h.2.2.1, fun q hq => ?_⟩
  obtain ⟨j, x⟩ := q
  obtain ⟨w, h1, h2, rfl⟩ := lvOf_mem.mp hq
  obtain ⟨a1, a2⟩ := h.2.2.2 j w h1
  rcases (by omega : w.1 < 2 ∨ w.1 = 2) with z | z
  · exact a1 z
  · exact (a2 z).2
theorem cat_2 {ad : Nat → Nat} {w : AV} (h3 : w.1 ≠ 3) (h : (cV ad w).category = 2) : w.1 = 2 := by
  unfold cV at h
  split at h
  · cases h
  · cases h
  next q => exact q
  next q => exact absurd q h3
  · cases h
theorem LRz.set {ad : Nat → Nat} {lg nL i : Nat} {ls ls' : Array Slot} {als : List AV} {v : AV} (h : LRz ad lg nL ls als) (hi : i ≠ lg + 1) (hv : v.1 < 2)
    (h' : lv_has ls' nL ((i, cV ad v) :: (lvOf ad als).filter (fun q => !(q.1 == i) && !(q.1 + 1 == i && q.2.category == 2)))) : LRz ad lg nL ls' (als.set i v) := by
  refine ⟨h'.1, by rw [List.length_set]; exact h.2.1, h'.2.1, fun j w hj => ?_⟩
  rw [List.getElem?_set] at hj
  by_cases hij : i = j
  · subst hij
    rw [if_pos rfl] at hj
    split at hj
    next =>
      cases hj
      exact ⟨fun _ => h'.2.2 (i, cV ad v) List.mem_cons_self, fun z => absurd hv (by omega)⟩
    next => cases hj
  · rw [if_neg hij] at hj
    have key : w.1 < 3 → ls'[j]? = some (.val (cV ad w)) := fun hw => by
      refine h'.2.2 (j, cV ad w) (List.mem_cons_of_mem _ (List.mem_filter.mpr ⟨lvOf_mem.mpr ⟨w, hj, hw, rfl⟩, ?_⟩))
      have e1 : (j == i) = false := by simpa using fun e => hij e.symm
      have e2 : (j + 1 == i && (cV ad w).category == 2) = false := by
        by_cases hc : (cV ad w).category = 2
        · have := ((h.2.2.2 j w hj).2 (cat_2 (by omega) hc)).1
          subst this
          have : (j + 1 == i) = false := by simpa using fun e => hi e.symm
          rw [this]; rfl
        · have : ((cV ad w).category == 2) = false := by simpa using hc
          rw [this, Bool.and_false]
      simp only [e1, e2]; rfl
    exact ⟨fun z => key (by omega), fun z => ⟨((h.2.2.2 j w hj).2 z).1, key (by omega)⟩⟩
def okV (v : AV) : Prop := v.1 = 0 → inI v.2
theorem okV_I {z : Int} (h : inI z) : okV (aI z) := fun _ => h
theorem okV_R (k : Nat) : okV (aR k) := fun h => absurd (show (1 : Nat) = 0 from h) (by decide)
theorem okV_1 (z : Int) : okV (1, z) := fun h => absurd (show (1 : Nat) = 0 from h) (by decide)
theorem okV_2 (z : Int) : okV (2, z) := fun h => absurd (show (2 : Nat) = 0 from h) (by decide)
theorem okV_3 (z : Int) : okV (3, z) := fun h => absurd (show (3 : Nat) = 0 from h) (by decide)
theorem dU_of (u : UInt64) : dU ((u.toNat : Nat) : Int) = u := by unfold dU; rw [Int.toNat_natCast, UInt64.ofNat_toNat]
theorem ok_set {als : List AV} {i : Nat} {v : AV} (h : ∀ w ∈ als, okV w) (hv : okV v) : ∀ w ∈ als.set i v, okV w := fun w hw => by
  rcases List.mem_or_eq_of_mem_set hw with q | q
  · exact h w q
  · rw [q]; exact hv
-- what a pop says
theorem pI_s {α : Type} {st : List AV} {k : Int → List AV → Option α} {a : α} (h : pI st k = some a) : ∃ z r, st = (0, z) :: r ∧ k z r = some a := by
  unfold pI at h
  split at h
  next z r => exact ⟨z, r, rfl, h⟩
  next => cases h
theorem pR_s {α : Type} {st : List AV} {k : Nat → List AV → Option α} {a : α} (h : pR st k = some a) : ∃ (z : Nat) (r : List AV), st = aR z :: r ∧ k z r = some a := by
  unfold pR at h
  split at h
  next z r =>
    split at h
    next h0 => exact ⟨z.toNat, r, by rw [show aR z.toNat = (1, ((z.toNat : Nat) : Int)) from rfl, Int.toNat_of_nonneg h0], h⟩
    next => cases h
  next => cases h
theorem pD_s {α : Type} {st : List AV} {k : Int → List AV → Option α} {a : α} (h : pD st k = some a) : ∃ z r, st = (3, z) :: r ∧ k z r = some a := by
  unfold pD at h
  split at h
  next z r => exact ⟨z, r, rfl, h⟩
  next => cases h
theorem dd_s {α : Type} {c : Prop} {x : Option α} {a : α} (h : @ite _ c (Classical.propDecidable c) x none = some a) : c ∧ x = some a := by
  by_cases q : c
  · rw [if_pos q] at h; exact ⟨q, h⟩
  · rw [if_neg q] at h; cases h
theorem pL_s {α : Type} {st : List AV} {k : Int → List AV → Option α} {a : α} (h : pL st k = some a) : ∃ z r, st = (2, z) :: r ∧ k z r = some a := by
  unfold pL at h
  split at h
  next z r => exact ⟨z, r, rfl, h⟩
  next => cases h
theorem gI_s {α : Type} {ls : List AV} {i : Nat} {k : Int → Option α} {a : α} (h : gI ls i k = some a) : ∃ z, ls[i]? = some (0, z) ∧ k z = some a := by
  unfold gI at h
  split at h
  next z e => exact ⟨z, e, h⟩
  next => cases h
theorem gR_s {α : Type} {ls : List AV} {i : Nat} {k : AV → Option α} {a : α} (h : gR ls i k = some a) : ∃ z, ls[i]? = some (1, z) ∧ k (1, z) = some a := by
  unfold gR at h
  split at h
  next z e => exact ⟨z, e, h⟩
  next => cases h
theorem gL_s {α : Type} {ls : List AV} {i : Nat} {k : AV → Option α} {a : α} (h : gL ls i k = some a) : ∃ z, ls[i]? = some (2, z) ∧ k (2, z) = some a := by
  unfold gL at h
  split at h
  next z e => exact ⟨z, e, h⟩
  next => cases h
theorem stL_s {α : Type} {lg : Nat} {ls : List AV} {i : Nat} {v : AV} {k : List AV → Option α} {a : α} (h : stL lg ls i v k = some a) : (i < ls.length ∧ i ≠ lg ∧ i ≠ lg + 1) ∧ k (ls.set i v) = some a := by
  unfold stL at h
  split at h
  next h0 => exact ⟨h0, h⟩
  next => cases h
theorem if_s {α : Type} {c : Prop} [Decidable c] {x : Option α} {a : α} (h : (if c then x else none) = some a) : c ∧ x = some a := by
  split at h
  next h0 => exact ⟨h0, h⟩
  next => cases h
