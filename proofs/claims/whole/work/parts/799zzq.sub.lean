/-! bits that are not known -/
theorem b_m1 : (i32 (-1)).toBitVec = BitVec.allOnes 32 := by decide
theorem q_sub {n m : Nat} (hn : n < 2 ^ 24) (hm : m < 2 ^ 24) : iand n (ixor m (-1)) = 0 ↔ ∀ h, h < 24 → n.testBit h = true → m.testBit h = true := by
  have e1 : i32 (ixor m (-1)) = nI m ^^^ i32 (-1) := by
    rw [ixor_def, b_i32]
    exact Int32.ofInt_toInt _
  rw [iand_def, b_i32, e1]
  have bn : ∀ i, (nI n).toBitVec.getLsbD i = (decide (i < 32) && n.testBit i) := fun i => by
    by_cases h : i < 32
    · rw [BitVec.getLsbD, pk_tn (by omega)]
      simp [h]
    · rw [BitVec.getLsbD_of_ge _ _ (by omega)]
      simp [h]
  have bm : ∀ i, (nI m).toBitVec.getLsbD i = (decide (i < 32) && m.testBit i) := fun i => by
    by_cases h : i < 32
    · rw [BitVec.getLsbD, pk_tn (by omega)]
      simp [h]
    · rw [BitVec.getLsbD_of_ge _ _ (by omega)]
      simp [h]
  have bo : ∀ i, (i32 (-1)).toBitVec.getLsbD i = decide (i < 32) := fun i => by rw [b_m1, BitVec.getLsbD_allOnes]
  have e2 : (nI n &&& (nI m ^^^ i32 (-1))).toInt = 0 ↔ nI n &&& (nI m ^^^ i32 (-1)) = 0 := by
    constructor
    · intro h
      exact Int32.toInt_inj.mp (h.trans Int32.toInt_zero.symm)
    · intro h
      rw [h]; rfl
  rw [e2]
  constructor
  · intro h i hi hb
    have h1 := congrArg (fun z => z.toBitVec.getLsbD i) h
    simp only [Int32.toBitVec_and, Int32.toBitVec_xor, BitVec.getLsbD_and, BitVec.getLsbD_xor, bo, bn, bm] at h1
    have h32 : i < 32 := by omega
    simp [h32, hb] at h1
    exact h1
  · intro h
    apply Int32.toBitVec_inj.mp
    apply BitVec.eq_of_getLsbD_eq
    intro i hi
    simp only [Int32.toBitVec_and, Int32.toBitVec_xor, BitVec.getLsbD_and, BitVec.getLsbD_xor, bo, bn, bm]
    by_cases hi24 : i < 24
    · cases hb : n.testBit i with
      | false => simp
      | true => simp [h i hi24 hb, hi]
    · have : n.testBit i = false := Nat.testBit_lt_two_pow (Nat.lt_of_lt_of_le hn (Nat.pow_le_pow_right (by decide) (by omega)))
      simp [this]
