/-! THE DOCUMENT: what each sink is at last. .null: not connected; chc: by a condition -/
def chc (c a b : Jvm.Term) : Jvm.Term := .elem c (.rem a b)
/-- an open ?: what was before, what the first steps made of it (if they are over), its condition, whether the signal is connected in it -/
abbrev Fm : Type := Jvm.Term × Option Jvm.Term × Jvm.Term × Bool
def fmC (now : Jvm.Term) (f : Fm) : Jvm.Term := if f.2.2.2 = true then (match f.2.1 with
  | none => chc f.2.2.1 now f.1
  | some t => chc f.2.2.1 t now) else now
def fmT (f : Fm) : Fm := (f.1, f.2.1, f.2.2.1, true)
def lwF (g : Nat) : List Lo → Jvm.Term → List Fm → Jvm.Term
  | [], now, _ => now
  | (0, sk, e) :: r, now, st => if sk = g then lwF g r e (st.map fmT) else lwF g r now st
  | (1, _, c) :: r, now, st => lwF g r now ((now, none, c, false) :: st)
  | (2, _, _) :: r, now, f :: st => lwF g r f.1 ((f.1, some now, f.2.2.1, f.2.2.2) :: st)
  | (3, _, _) :: r, now, f :: st => lwF g r (fmC now f) st
  | _ :: r, now, st => lwF g r now st
/-- steps as they may stand behind d open ? -/
def wfL : Nat → List Lo → Prop
  | _, [] => True
  | d, (0, _, _) :: r => wfL d r
  | d, (1, _, _) :: r => d < 3 ∧ wfL (d + 1) r
  | d, (2, _, _) :: r => 1 ≤ d ∧ wfL d r
  | d, (3, _, _) :: r => 1 ≤ d ∧ wfL (d - 1) r
  | _, _ => False
/-- the signal h is in it -/
def occ (h : Nat) : Jvm.Term → Prop
  | .index g => h = g
  | .old a => occ h a
  | .mul _ a => occ h a
  | .div _ (.rem a b) => occ h a ∨ occ h b
  | .sub c (.rem a b) => occ h c ∨ occ h a ∨ occ h b
  | .elem c (.rem a b) => occ h c ∨ occ h a ∨ occ h b
  | _ => False
/-- no path of it ends where nothing is connected -/
def ini : Jvm.Term → Bool
  | .null => false
  | .elem _ (.rem a b) => ini a && ini b
  | _ => true
/-- v is the bits of P -/
def BT (v : Int) (P : Nat → Prop) : Prop := ∃ n : Nat, v = n ∧ n < 2 ^ 24 ∧ ∀ h, h < 24 → (n.testBit h = true ↔ P h)
theorem BT_0 : BT 0 (fun _ => False) := ⟨0, rfl, by decide, fun h _ => by rw [Nat.zero_testBit]; exact ⟨fun z => (nomatch z), fun z => z.elim⟩⟩
theorem BT_iff {v : Int} {P Q : Nat → Prop} (h : BT v P) (e : ∀ g, g < 24 → (P g ↔ Q g)) : BT v Q := by
  obtain ⟨n, h1, h2, h3⟩ := h
  exact ⟨n, h1, h2, fun g hg => (h3 g hg).trans (e g hg)⟩
theorem b_or {a b : Nat} (ha : a < 2 ^ 24) (hb : b < 2 ^ 24) : ior a b = ((a ||| b : Nat) : Int) := by
  have hab : a ||| b < 2 ^ 24 := Nat.or_lt_two_pow ha hb
  rw [ior_def, b_i32, b_i32]
  have : nI a ||| nI b = nI (a ||| b) := by
    apply Int32.toBitVec_inj.mp
    rw [Int32.toBitVec_or]
    apply BitVec.eq_of_toNat_eq
    rw [BitVec.toNat_or, pk_tn (by omega), pk_tn (by omega), pk_tn (by omega)]
  rw [this, nI_toInt (by omega)]
theorem BT_or {v w : Int} {P Q : Nat → Prop} (h1 : BT v P) (h2 : BT w Q) : BT (ior v w) (fun h => P h ∨ Q h) := by
  obtain ⟨a, rfl, a2, a3⟩ := h1
  obtain ⟨b, rfl, b2, b3⟩ := h2
  refine ⟨a ||| b, b_or a2 b2, Nat.or_lt_two_pow a2 b2, fun h hh => ?_⟩
  rw [Nat.testBit_or, Bool.or_eq_true, a3 h hh, b3 h hh]
theorem BT_one {g : Nat} (hg : g < 24) : BT (ishl 1 g) (fun h => h = g) := by
  have h1 : (1 : Int) = ((1 : Nat) : Int) := rfl
  have hp : 2 ^ g < 2 ^ 24 := Nat.pow_lt_pow_right (by decide) hg
  refine ⟨2 ^ g, ?_, hp, fun h _ => ?_⟩
  · rw [h1, b_shl (by omega) (by omega), Nat.one_mul]
  · rw [Nat.testBit_two_pow]
    simp only [decide_eq_true_eq]
    exact ⟨fun z => z.symm, fun z => z.symm⟩
/-- refs: the nodes of one expression -/
def RF (d root E : Nat) (s : Mem) (e : Jvm.Term) : Prop := ∀ (n : Nat) (v : Int) (P : Nat → Prop), RR s e n → n + esz e ≤ E → BT v P → ∃ v', Ze d 42 4 [aR 0, aI root, aI v, aI n] [] s = Ze d 42 4 [aR 0, aI root, aI v', aI ((n + esz e : Nat) : Int)] [] s ∧ BT v' (fun h => P h ∨ occ h e)
theorem rf_skip {d root E n : Nat} {s : Mem} {v : Int} (hE : E ≤ 220) (hr : root < 220) (he : s 18 root = E) (hn : n < E) (hk : ¬ s 12 n = 0) : Ze d 42 4 [aR 0, aI root, aI v, aI n] [] s = Ze d 42 4 [aR 0, aI root, aI v, aI ((n + 1 : Nat) : Int)] [] s := by
  rw [show ((n + 1 : Nat) : Int) = (n : Int) + 1 by omega]
  rw [x42_4]
  simp (disch := first | exact obC_0 | omega | (simp only [aN1_12, aN1_15, aN1_18]; omega) | (simp only [List.length_cons, List.length_nil]; omega)) only [en42, x42_0, x42_1, x42_2, x42_3, x42_5, x42_6, x42_9, x42_10, x42_11, x42_14, x42_15, x42_18, x42_19, x42_20, x42_23, x42_24, x42_25, x42_26, x42_29, x42_30, x42_31, x42_32, x42_33, x42_34, x42_37, x42_40, x42_41, fcn_0_19, fcn_0_22, fcn_0_25, if_true, if_false, eq_self, Int.reduceEq, Int.reduceLT, Int.reduceLE, Int.reduceAdd, Int.reduceSub, Int.reduceMul, Int.reduceToNat, Nat.reduceAdd, Nat.reduceMul, Nat.reduceEqDiff, Int.toNat_natCast, wrap_id, he, if_neg hk, if_pos (show (n : Int) < E by omega)]
theorem rf_all {d root E : Nat} {s : Mem} (hE : E ≤ 220) (hr : root < 220) (he : s 18 root = E) (e : Jvm.Term) : RF d root E s e := by
  fun_induction esz e with
  | case1 a ih =>
    intro n v P hR hn hv
    have hsz : esz (.old a) = 1 + esz a := rfl
    obtain ⟨v', q1, q2⟩ := ih (n + 1) v P hR.2.2.2.2 (by omega) hv
    refine ⟨v', ?_, q2⟩
    rw [rf_skip hE hr he (by omega) (by rw [hR.1]; decide), q1, hsz, show n + 1 + esz a = n + (1 + esz a) by omega]
  | case2 x a ih =>
    intro n v P hR hn hv
    have hsz : esz (.mul x a) = 1 + esz a := rfl
    obtain ⟨k, a', e1, -⟩ | ⟨k, h, l, a', e1, -, -, r⟩ | ⟨c', a', b', k, t, e1, -⟩ | ⟨k, c', a', b', e1, -⟩ | ⟨k, g', e1, q⟩ | ⟨k, v', e1, -⟩ := RR_inv hR
    · exact (nomatch e1)
    · cases e1
      obtain ⟨v', q1, q2⟩ := ih (n + 1) v P r (by omega) hv
      refine ⟨v', ?_, q2⟩
      rw [rf_skip hE hr he (by omega) (by rw [k]; decide), q1, hsz, show n + 1 + esz a = n + (1 + esz a) by omega]
    · exact (nomatch e1)
    · exact (nomatch e1)
    · exact (nomatch e1)
    · exact (nomatch e1)
  | case3 c a b iha ihb =>
    intro n v P hR hn hv
    have hsz : esz (.div c (.rem a b)) = 1 + esz a + esz b := rfl
    obtain ⟨k, a', e1, -⟩ | ⟨k, h, l, a', e1, -, -, r⟩ | ⟨c', a', b', k, t, e1, r1, r2⟩ | ⟨k, c', a', b', e1, -⟩ | ⟨k, g', e1, q⟩ | ⟨k, v', e1, -⟩ := RR_inv hR
    · exact (nomatch e1)
    · exact (nomatch e1)
    · cases e1
      obtain ⟨v1, q1, q2⟩ := iha (n + 1) v P r1 (by omega) hv
      obtain ⟨v2, p1, p2⟩ := ihb (n + 1 + esz a) v1 _ r2 (by omega) q2
      refine ⟨v2, ?_, BT_iff p2 (fun g _ => by simp only [occ]; exact or_assoc)⟩
      rw [rf_skip hE hr he (by omega) (by rw [k]; unfold two at t; omega), q1, p1, hsz, show n + 1 + esz a + esz b = n + (1 + esz a + esz b) by omega]
    · exact (nomatch e1)
    · exact (nomatch e1)
    · exact (nomatch e1)
  | case4 c a b ihc iha ihb =>
    intro n v P hR hn hv
    have hsz : esz (.sub c (.rem a b)) = 1 + esz c + esz a + esz b := rfl
    obtain ⟨-, -, -, -, -, r1, r2, r3⟩ := id hR
    obtain ⟨v1, q1, q2⟩ := ihc (n + 1) v P r1 (by omega) hv
    obtain ⟨v2, p1, p2⟩ := iha (n + 1 + esz c) v1 _ r2 (by omega) q2
    obtain ⟨v3, m1, m2⟩ := ihb (n + 1 + esz c + esz a) v2 _ r3 (by omega) p2
    refine ⟨v3, ?_, BT_iff m2 (fun g _ => by simp only [occ, or_assoc])⟩
    rw [rf_skip hE hr he (by omega) (by rw [hR.1]; decide), q1, p1, m1, hsz, show n + 1 + esz c + esz a + esz b = n + (1 + esz c + esz a + esz b) by omega]
  | case5 e h1 h2 h3 h4 =>
    intro n v P hR hn hv
    obtain ⟨g, rfl, g1, g2, g3, g4⟩ | ⟨w, rfl, g1, g2, g3, g4⟩ := RR_leaf hR h1 h2 h3 h4
    · have hsz : esz (.index g) = 1 := rfl
      refine ⟨ior v (ishl 1 g), ?_, BT_or hv (BT_one g3)⟩
      rw [hsz, show ((n + 1 : Nat) : Int) = (n : Int) + 1 by omega]
      rw [x42_4]
      simp (disch := first | exact obC_0 | omega | (simp only [aN1_12, aN1_15, aN1_18]; omega) | (simp only [List.length_cons, List.length_nil]; omega)) only [en42, x42_0, x42_1, x42_2, x42_3, x42_5, x42_6, x42_9, x42_10, x42_11, x42_14, x42_15, x42_18, x42_19, x42_20, x42_23, x42_24, x42_25, x42_26, x42_29, x42_30, x42_31, x42_32, x42_33, x42_34, x42_37, x42_40, x42_41, fcn_0_19, fcn_0_22, fcn_0_25, if_true, if_false, eq_self, Int.reduceEq, Int.reduceLT, Int.reduceLE, Int.reduceAdd, Int.reduceSub, Int.reduceMul, Int.reduceToNat, Nat.reduceAdd, Nat.reduceMul, Nat.reduceEqDiff, Int.toNat_natCast, wrap_id, he, g1, g2, if_pos (show (n : Int) < E by omega)]
    · have hsz : esz (.arg w) = 1 := rfl
      refine ⟨v, ?_, BT_iff hv (fun g _ => ⟨Or.inl, fun z => z.resolve_right id⟩)⟩
      rw [hsz]
      exact rf_skip hE hr he (by omega) (by rw [g1]; decide)
theorem RR_end {s : Mem} {e : Jvm.Term} {n : Nat} (h : RR s e n) : s 18 n = ((n + esz e : Nat) : Int) := by
  revert h
  fun_cases RR s e n with
  | case1 a => intro h; rw [h.2.2.2.1]; simp only [esz]; omega
  | case2 h l a => intro h; rw [h.2.2.2.2.2.2.1]; simp only [esz]; omega
  | case3 c a b => intro h; rw [h.2.2.2.2.1]; simp only [esz]; omega
  | case4 c a b => intro h; rw [h.2.2.2.2.1]; simp only [esz]; omega
  | case5 g => intro h; rw [h.2.2.2]; rfl
  | case6 v => intro h; rw [h.2.2.2]; rfl
  | case7 => intro h; exact h.elim
theorem t_refs {d n : Nat} {e : Jvm.Term} {s : Mem} (hd : 1 ≤ d) (hR : RR s e n) (hn : n + esz e ≤ 220) : ∃ v, Zc d 42 [aR 0, aI n] s = rI v s ∧ BT v (fun h => occ h e) := by
  obtain ⟨d, rfl⟩ : ∃ e, d = e + 1 := ⟨d - 1, by omega⟩
  have hp := esz_pos e
  have he := RR_end hR
  obtain ⟨v, q1, q2⟩ := rf_all (d := d) hn (show n < 220 by omega) he e n 0 (fun _ => False) hR (Nat.le_refl _) BT_0
  refine ⟨v, ?_, BT_iff q2 (fun g _ => ⟨fun z => z.resolve_left id, Or.inr⟩)⟩
  have h0 : Zc (d + 1) 42 [aR 0, aI n] s = Ze d 42 4 [aR 0, aI n, aI 0, aI n] [] s := by
    simp (disch := first | exact obC_0 | omega | (simp only [aN1_12, aN1_15, aN1_18]; omega) | (simp only [List.length_cons, List.length_nil]; omega)) only [en42, x42_0, x42_1, x42_2, x42_3, x42_5, x42_6, x42_9, x42_10, x42_11, x42_14, x42_15, x42_18, x42_19, x42_20, x42_23, x42_24, x42_25, x42_26, x42_29, x42_30, x42_31, x42_32, x42_33, x42_34, x42_37, x42_40, x42_41, fcn_0_19, fcn_0_22, fcn_0_25, if_true, if_false, eq_self, Int.reduceEq, Int.reduceLT, Int.reduceLE, Int.reduceAdd, Int.reduceSub, Int.reduceMul, Int.reduceToNat, Nat.reduceAdd, Nat.reduceMul, Nat.reduceEqDiff, Int.toNat_natCast, wrap_id]
  rw [h0, q1, x42_4]
  simp (disch := first | exact obC_0 | omega | (simp only [aN1_12, aN1_15, aN1_18]; omega) | (simp only [List.length_cons, List.length_nil]; omega)) only [en42, x42_0, x42_1, x42_2, x42_3, x42_5, x42_6, x42_9, x42_10, x42_11, x42_14, x42_15, x42_18, x42_19, x42_20, x42_23, x42_24, x42_25, x42_26, x42_29, x42_30, x42_31, x42_32, x42_33, x42_34, x42_37, x42_40, x42_41, fcn_0_19, fcn_0_22, fcn_0_25, if_true, if_false, eq_self, Int.reduceEq, Int.reduceLT, Int.reduceLE, Int.reduceAdd, Int.reduceSub, Int.reduceMul, Int.reduceToNat, Nat.reduceAdd, Nat.reduceMul, Nat.reduceEqDiff, Int.toNat_natCast, wrap_id, he, if_neg (show ¬ ((n + esz e : Nat) : Int) < ((n + esz e : Nat) : Int) by omega)]
