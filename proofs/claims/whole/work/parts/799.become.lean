/-! THE DOCUMENT: the value of what a sink is at last -/
noncomputable def vF (val : Nat → Int) (W : Nat → Nat) (v0 : Int) : Jvm.Term → Int
  | .elem c (.rem a b) => if vE val W c = 0 then vF val W v0 b else vF val W v0 a
  | .null => v0
  | e => vE val W e
noncomputable def act (val : Nat → Int) (W : Nat → Nat) (f : Fm) : Bool := decide (¬ vE val W f.2.2.1 = 0)
def par (f : Fm) (a : Bool) : Bool := match f.2.1 with
  | none => a
  | some _ => !a
noncomputable def flg (val : Nat → Int) (W : Nat → Nat) : List Fm → Bool
  | [] => true
  | f :: st => flg val W st && par f (act val W f)
def fOf (f : Fm) : Jvm.Term := match f.2.1 with
  | none => f.1
  | some t => t
/-- v is right, for what has been read and for what is open -/
def VC (val : Nat → Int) (W : Nat → Nat) (v0 v : Int) : Jvm.Term → List Fm → Prop
  | now, [] => v = vF val W v0 now
  | now, f :: st => (flg val W st = true → (par f (act val W f) = true → v = vF val W v0 now) ∧ (par f (act val W f) = false → v = vF val W v0 (fOf f))) ∧ (flg val W st = false → VC val W v0 v f.1 st)
theorem VC_off {val : Nat → Int} {W : Nat → Nat} {v0 v : Int} {st : List Fm} {n1 n2 : Jvm.Term} (h : flg val W st = false) (c : VC val W v0 v n1 st) : VC val W v0 v n2 st := by
  cases st with
  | nil => exact (nomatch h)
  | cons f st =>
    refine ⟨fun z => ⟨fun y => ?_, (c.1 z).2⟩, c.2⟩
    unfold flg at h
    rw [z, y] at h
    exact (nomatch h)
theorem VC_on {val : Nat → Int} {W : Nat → Nat} {v0 v : Int} {st : List Fm} {now : Jvm.Term} (h : flg val W st = true) (c : VC val W v0 v now st) : v = vF val W v0 now := by
  cases st with
  | nil => exact c
  | cons f st =>
    unfold flg at h
    rw [Bool.and_eq_true] at h
    exact (c.1 h.1).1 h.2
theorem VC_set {val : Nat → Int} {W : Nat → Nat} {v0 v : Int} {st : List Fm} {now : Jvm.Term} (h : flg val W st = true) (hv : v = vF val W v0 now) : VC val W v0 v now st := by
  cases st with
  | nil => exact hv
  | cons f st =>
    unfold flg at h
    rw [Bool.and_eq_true] at h
    exact ⟨fun _ => ⟨fun _ => hv, fun z => by rw [h.2] at z; exact (nomatch z)⟩, fun z => by rw [h.1] at z; exact (nomatch z)⟩
theorem flg_map {val : Nat → Int} {W : Nat → Nat} : ∀ (st : List Fm), flg val W (st.map fmT) = flg val W st
  | [] => rfl
  | f :: st => by
    have := flg_map (val := val) (W := W) st
    rw [List.map_cons]
    unfold flg
    rw [this]
    rfl
theorem VC_map {val : Nat → Int} {W : Nat → Nat} {v0 v : Int} : ∀ {st : List Fm} {now : Jvm.Term}, VC val W v0 v now st → VC val W v0 v now (st.map fmT)
  | [], _, h => h
  | f :: st, now, h => by
    rw [List.map_cons]
    refine ⟨fun z => h.1 (by rw [← flg_map]; exact z), fun z => VC_map (h.2 (by rw [← flg_map]; exact z))⟩
theorem VC_close {val : Nat → Int} {W : Nat → Nat} {v0 v : Int} {f : Fm} {st : List Fm} {now : Jvm.Term} (hU : UT now (f :: st)) (h : VC val W v0 v now (f :: st)) : VC val W v0 v (fmC now f) st := by
  obtain ⟨h1, h2⟩ := h
  cases hf : flg val W st with
  | false => exact VC_off hf (h2 hf)
  | true =>
    refine VC_set hf ?_
    obtain ⟨g1, g2⟩ := h1 hf
    obtain ⟨k, t, c, b⟩ := f
    unfold fmC
    cases b with
    | false =>
      obtain ⟨u1, u2⟩ := hU.1 rfl
      dsimp only at u1 u2 ⊢
      rw [if_neg (by decide)]
      cases hp : par (k, t, c, false) (act val W (k, t, c, false)) with
      | true => exact g1 hp
      | false =>
        have := g2 hp
        unfold fOf at this
        rcases u2 with rfl | rfl
        · rw [this, u1]
        · rw [this, u1]
    | true =>
      dsimp only
      rw [if_pos rfl]
      cases t with
      | none =>
        dsimp only [chc]
        have hp : par (k, none, c, true) (act val W (k, none, c, true)) = act val W (k, none, c, true) := rfl
        rw [hp] at g1 g2
        unfold vF
        by_cases hc : vE val W c = 0
        · rw [if_pos hc]
          exact g2 (decide_eq_false (fun z => z hc))
        · rw [if_neg hc]
          exact g1 (decide_eq_true hc)
      | some t =>
        dsimp only [chc]
        have hp : par (k, some t, c, true) (act val W (k, some t, c, true)) = !(act val W (k, some t, c, true)) := rfl
        rw [hp] at g1 g2
        unfold vF
        by_cases hc : vE val W c = 0
        · rw [if_pos hc]
          exact g1 (congrArg (fun b => !b) (decide_eq_false (p := ¬ vE val W c = 0) (fun z => z hc)))
        · rw [if_neg hc]
          exact g2 (congrArg (fun b => !b) (decide_eq_true (p := ¬ vE val W c = 0) hc))
/-- steps as they may stand behind open ?: which of them are in their second steps -/
def wfB : List Bool → List Lo → Prop
  | d, [] => d = []
  | d, (0, _, _) :: r => wfB d r
  | d, (1, _, _) :: r => d.length < 3 ∧ wfB (false :: d) r
  | b :: d, (2, _, _) :: r => b = false ∧ wfB (true :: d) r
  | _ :: d, (3, _, _) :: r => wfB d r
  | _, _ => False
def bOf (st : List Fm) : List Bool := st.map fun f => f.2.1.isSome
def SB (s : Mem) (val : Nat → Int) (W : Nat → Nat) : List Fm → Prop
  | [] => True
  | f :: st => s 51 st.length = b2i (flg val W st) ∧ s 50 st.length = b2i (act val W f) ∧ SB s val W st
theorem SB_put {s s' : Mem} {val : Nat → Int} {W : Nat → Nat} : ∀ {st : List Fm}, (∀ k j, (k = 51 ∨ k = 50) → j < st.length → s' k j = s k j) → SB s val W st → SB s' val W st
  | [], _, _ => trivial
  | f :: st, g, h => ⟨by rw [g _ _ (Or.inl rfl) (Nat.lt_succ_self _)]; exact h.1, by rw [g _ _ (Or.inr rfl) (Nat.lt_succ_self _)]; exact h.2.1, SB_put (fun k j hk hj => g k j hk (Nat.lt_succ_of_lt hj)) h.2.2⟩
theorem SB_map {s : Mem} {val : Nat → Int} {W : Nat → Nat} : ∀ {st : List Fm}, SB s val W st → SB s val W (st.map fmT)
  | [], _ => trivial
  | f :: st, h => by
    refine ⟨?_, ?_, SB_map h.2.2⟩
    · rw [List.length_map, flg_map]; exact h.1
    · rw [List.length_map]; exact h.2.1
/-- how the reference has the steps that run -/
def LL (s : Mem) (W : Nat → Nat) (lo : List Lo) (L : Nat) : Prop := ∀ (j : Nat) (x : Lo), lo[j]? = some x → s 41 (1100 + j) = x.1 ∧ (x.1 = 0 → s 42 (1100 + j) = x.2.1 ∧ ((∃ g : Nat, x.2.2 = .index g ∧ g < L ∧ s 43 (1100 + j) = -1 - g) ∨ (∃ n : Nat, s 43 (1100 + j) = n ∧ RR (sh s) x.2.2 n ∧ WE (sh s) W x.2.2 n ∧ n + esz x.2.2 ≤ 220))) ∧ (x.1 = 1 → ∃ n : Nat, s 43 (1100 + j) = n ∧ RR (sh s) x.2.2 n ∧ WE (sh s) W x.2.2 n ∧ n + esz x.2.2 ≤ 220)
theorem LL_put {s s' : Mem} {W : Nat → Nat} {lo : List Lo} {L : Nat} (g : ∀ k j, 12 ≤ k ∧ k ≤ 19 ∨ 41 ≤ k ∧ k ≤ 43 → s' k j = s k j) (h : LL s W lo L) : LL s' W lo L := fun j x hx => by
  obtain ⟨h1, h2, h3⟩ := h j x hx
  have gs : ∀ k j, 12 ≤ k ∧ k ≤ 19 → s' k j = s k j := fun k j hk => g k j (Or.inl hk)
  refine ⟨by rw [g _ _ (by decide), h1], fun z => ?_, fun z => ?_⟩
  · rw [g _ _ (by decide), g _ _ (by decide)]
    exact ⟨(h2 z).1, (h2 z).2.imp id (fun ⟨n, z1, z2, z3, z4⟩ => ⟨n, z1, sh_RR gs z2, sh_WE gs z3, z4⟩)⟩
  · rw [g _ _ (by decide)]
    obtain ⟨n, z1, z2, z3, z4⟩ := h3 z
    exact ⟨n, z1, sh_RR gs z2, sh_WE gs z3, z4⟩
def FBc (k _j : Nat) : Prop := k = 22 ∨ k = 51 ∨ k = 50
/-- no connected expression is the empty one -/
def srcV (lo : List Lo) : Prop := ∀ (k : Nat) (x : Lo), lo[k]? = some x → x.1 = 0 → ∀ val W v0, vF val W v0 x.2.2 = vE val W x.2.2
theorem vF_src {e : Jvm.Term} (h1 : e ≠ .null) (h2 : ∀ c a b, e ≠ .elem c (.rem a b)) (val : Nat → Int) (W : Nat → Nat) (v0 : Int) : vF val W v0 e = vE val W e := by
  unfold vF
  split
  · exact absurd rfl (h2 _ _ _)
  · exact absurd rfl h1
  · rfl
theorem bc_loop {d g L : Nat} {val : Nat → Int} {W : Nat → Nat} {v0 : Int} {lo : List Lo} (hd : 3 ≤ d) (hl2 : lo.length ≤ 1100) (h0 : srcV lo) (hL : L ≤ 24) (hval : ∀ h, h < L → iand (val h) (msk (W h)) = val h) : ∀ (m k : Nat) (now : Jvm.Term) (v : Int) (st : List Fm) (s : Mem), k + m = lo.length → s 0 72 = lo.length → LL s W lo L → (∀ h, h < 24 → s 44 h = val h) → wfB (bOf st) (lo.drop k) → st.length ≤ 3 → SB s val W st → UT now st → VC val W v0 v now st →
    ∃ s' l2 l4 l5, Ze d 50 17 [aR 0, aI g, aI st.length, aI v, aI (b2i (flg val W st)), aI ((1100 + k : Nat) : Int)] [] s = Ze d 50 231 [aR 0, aI g, l2, aI (vF val W v0 (lwF g (lo.drop k) now st)), l4, l5] [] s' ∧ Fr FBc s s' := by
  intro m
  induction m with
  | zero =>
    intro k now v st s hk hs hlo hvv hw h3 hSB hUT hVC
    have hd : lo.drop k = [] := List.drop_eq_nil_of_le (by omega)
    rw [hd] at hw ⊢
    have hst : st = [] := by
      have hw : bOf st = [] := hw
      unfold bOf at hw
      exact List.map_eq_nil_iff.mp hw
    subst hst
    have hv : v = vF val W v0 now := hVC
    refine ⟨s, aI 0, aI 1, aI ((1100 + k : Nat) : Int), ?_, Fr.rf s⟩
    have e1 : (1100 : Int) + (lo.length : Nat) = ((1100 + k : Nat) : Int) := by omega
    rw [show lwF g [] now [] = now from rfl, ← hv, show b2i (flg val W []) = 1 from rfl, show ((([] : List Fm).length : Nat) : Int) = 0 from rfl]
    rw [x50_17]
    simp (disch := first | exact obC_0 | omega | (simp only [aN1_38, aN1_41, aN1_42, aN1_43, aN1_44, aN1_45, aN2_50, aN2_51]; omega) | (simp only [List.length_cons, List.length_nil]; omega)) only [en50, x50_0, x50_1, x50_2, x50_3, x50_6, x50_7, x50_8, x50_9, x50_10, x50_12, x50_15, x50_19, x50_22, x50_23, x50_26, x50_27, x50_30, x50_31, x50_34, x50_36, x50_37, x50_64, x50_66, x50_69, x50_70, x50_73, x50_75, x50_76, x50_77, x50_80, x50_81, x50_84, x50_86, x50_87, x50_90, x50_91, x50_94, x50_95, x50_96, x50_99, x50_101, x50_102, x50_103, x50_104, x50_107, x50_108, x50_109, x50_112, x50_114, x50_115, x50_118, x50_119, x50_122, x50_123, x50_126, x50_127, x50_129, x50_130, x50_131, x50_134, x50_135, x50_136, x50_137, x50_140, x50_142, x50_143, x50_146, x50_149, x50_150, x50_153, x50_154, x50_155, x50_157, x50_160, x50_161, x50_164, x50_165, x50_166, x50_169, x50_170, x50_173, x50_174, x50_176, x50_179, x50_182, x50_183, x50_186, x50_187, x50_188, x50_189, x50_190, x50_193, x50_194, x50_197, x50_198, x50_199, x50_200, x50_201, x50_204, x50_205, x50_208, x50_209, x50_211, x50_214, x50_217, x50_218, x50_221, x50_222, x50_223, x50_225, x50_228, x50_232, x50_233, x50_236, x50_238, x50_239, x50_240, x50_241, x50_244, x50_245, fcn_0_47, fcn_0_54, fcn_0_55, fcn_0_56, fcn_0_59, fcn_0_60, fcn_0_65, fcn_0_66, if_true, if_false, eq_self, Int.reduceEq, Int.reduceLT, Int.reduceLE, Int.reduceAdd, Int.reduceSub, Int.reduceMul, Int.reduceToNat, Nat.reduceAdd, Nat.reduceMul, Nat.reduceEqDiff, Int.toNat_natCast, wrap_id, hs, e1, if_neg (show ¬ ((1100 + k : Nat) : Int) < ((1100 + k : Nat) : Int) by omega)]
  | succ m ih =>
    intro k now v st s hk hs hlo hvv hw h3 hSB hUT hVC
    have hkl : k < lo.length := by omega
    obtain ⟨x, hx⟩ : ∃ x, lo[k]? = some x := ⟨_, List.getElem?_eq_getElem hkl⟩
    have hdr : lo.drop k = x :: lo.drop (k + 1) := by
      rw [List.drop_eq_getElem_cons hkl]
      have := List.getElem?_eq_getElem hkl
      rw [hx] at this
      cases this
      rfl
    obtain ⟨z1, z2, z3⟩ := hlo k x hx
    have hsv := h0 k x hx
    obtain ⟨o, sk, e⟩ := x
    dsimp only at z1 z2 z3 hsv
    rw [hdr] at hw ⊢
    have hlt : ((1100 + k : Nat) : Int) < 1100 + (lo.length : Nat) := by omega
    have ek : ((1100 + (k + 1) : Nat) : Int) = ((1100 + k : Nat) : Int) + 1 := by omega
    have hfin : ∀ (now' : Jvm.Term) (v' : Int) (st' : List Fm) (s1 : Mem), Ze d 50 17 [aR 0, aI g, aI st.length, aI v, aI (b2i (flg val W st)), aI ((1100 + k : Nat) : Int)] [] s = Ze d 50 17 [aR 0, aI g, aI st'.length, aI v', aI (b2i (flg val W st')), aI ((1100 + (k + 1) : Nat) : Int)] [] s1 → lwF g ((o, sk, e) :: lo.drop (k + 1)) now st = lwF g (lo.drop (k + 1)) now' st' → Fr FBc s s1 → wfB (bOf st') (lo.drop (k + 1)) → st'.length ≤ 3 → SB s1 val W st' → UT now' st' → VC val W v0 v' now' st' →
        ∃ s' l2 l4 l5, Ze d 50 17 [aR 0, aI g, aI st.length, aI v, aI (b2i (flg val W st)), aI ((1100 + k : Nat) : Int)] [] s = Ze d 50 231 [aR 0, aI g, l2, aI (vF val W v0 (lwF g ((o, sk, e) :: lo.drop (k + 1)) now st)), l4, l5] [] s' ∧ Fr FBc s s' := by
      intro now' v' st' s1 hz hl hf hw' h3' hSB' hUT' hVC'
      have fk : ∀ {c j : Nat}, c ≠ 22 ∧ c ≠ 51 ∧ c ≠ 50 → s1 c j = s c j := fun h => hf _ _ (fun z => z.elim h.1 (fun z => z.elim h.2.1 h.2.2))
      obtain ⟨s', l2, l4, l5, q1, q2⟩ := ih (k + 1) now' v' st' s1 (by omega) (by rw [fk (by decide), hs]) (LL_put (fun c j hc => fk (by omega)) hlo) (fun h hh => by rw [fk (by decide), hvv h hh]) hw' h3' hSB' hUT' hVC'
      rw [hl]
      exact ⟨s', l2, l4, l5, hz.trans q1, hf.tr q2⟩
    match o, z1, z2, z3, hsv, hw, hfin with
    | 0, z1, z2, z3, hsv, hw, hfin =>
      have z1 : s 41 (1100 + k) = 0 := z1
      obtain ⟨y1, y2⟩ := z2 rfl
      have hsv := hsv rfl
      have hw : wfB (bOf st) (lo.drop (k + 1)) := hw
      by_cases hg : sk = g
      · have hwm : wfB (bOf (st.map fmT)) (lo.drop (k + 1)) := by
          have : bOf (st.map fmT) = bOf st := by
            unfold bOf
            rw [List.map_map]
            rfl
          rw [this]
          exact hw
        rw [hg] at y1
        cases hf : flg val W st with
        | true =>
          obtain ⟨s1, hz, hW⟩ : ∃ s1, Ze d 50 17 [aR 0, aI g, aI st.length, aI v, aI 1, aI ((1100 + k : Nat) : Int)] [] s = Ze d 50 17 [aR 0, aI g, aI st.length, aI (vE val W e), aI 1, aI ((1100 + (k + 1) : Nat) : Int)] [] s1 ∧ Fr WO s s1 := by
            rcases y2 with ⟨h, rfl, h2, h3⟩ | ⟨n, h1, h2, h3, h4⟩
            · have eh : -1 - (-1 - (h : Int)) = h := by omega
              have h24 : h < 24 := by omega
              have hve : s 44 h = vE val W (.index h) := by rw [hvv h h24]; exact (hval h h2).symm
              refine ⟨s, ?_, Fr.rf s⟩
              rw [ek, x50_17]
              simp (disch := first | exact obC_0 | omega | (simp only [aN1_38, aN1_41, aN1_42, aN1_43, aN1_44, aN1_45, aN2_50, aN2_51]; omega) | (simp only [List.length_cons, List.length_nil]; omega)) only [en50, x50_0, x50_1, x50_2, x50_3, x50_6, x50_7, x50_8, x50_9, x50_10, x50_12, x50_15, x50_19, x50_22, x50_23, x50_26, x50_27, x50_30, x50_31, x50_34, x50_36, x50_37, x50_64, x50_66, x50_69, x50_70, x50_73, x50_75, x50_76, x50_77, x50_80, x50_81, x50_84, x50_86, x50_87, x50_90, x50_91, x50_94, x50_95, x50_96, x50_99, x50_101, x50_102, x50_103, x50_104, x50_107, x50_108, x50_109, x50_112, x50_114, x50_115, x50_118, x50_119, x50_122, x50_123, x50_126, x50_127, x50_129, x50_130, x50_131, x50_134, x50_135, x50_136, x50_137, x50_140, x50_142, x50_143, x50_146, x50_149, x50_150, x50_153, x50_154, x50_155, x50_157, x50_160, x50_161, x50_164, x50_165, x50_166, x50_169, x50_170, x50_173, x50_174, x50_176, x50_179, x50_182, x50_183, x50_186, x50_187, x50_188, x50_189, x50_190, x50_193, x50_194, x50_197, x50_198, x50_199, x50_200, x50_201, x50_204, x50_205, x50_208, x50_209, x50_211, x50_214, x50_217, x50_218, x50_221, x50_222, x50_223, x50_225, x50_228, x50_231, x50_232, x50_233, x50_236, x50_238, x50_239, x50_240, x50_241, x50_244, x50_245, fcn_0_47, fcn_0_54, fcn_0_55, fcn_0_56, fcn_0_59, fcn_0_60, fcn_0_65, fcn_0_66, if_true, if_false, eq_self, Int.reduceEq, Int.reduceLT, Int.reduceLE, Int.reduceAdd, Int.reduceSub, Int.reduceMul, Int.reduceToNat, Nat.reduceAdd, Nat.reduceMul, Nat.reduceEqDiff, Int.toNat_natCast, wrap_id, hs, if_pos hlt, z1, y1, h3, eh, hve, if_pos (show (-1 : Int) - h < 0 by omega)]
            · obtain ⟨s1, q1, q2⟩ := t_worthOf (d := d) hd h2 h3 h4 hvv
              refine ⟨s1, ?_, q2⟩
              rw [ek, x50_17]
              simp (disch := first | exact obC_0 | omega | (simp only [aN1_38, aN1_41, aN1_42, aN1_43, aN1_44, aN1_45, aN2_50, aN2_51]; omega) | (simp only [List.length_cons, List.length_nil]; omega)) only [en50, x50_0, x50_1, x50_2, x50_3, x50_6, x50_7, x50_8, x50_9, x50_10, x50_12, x50_15, x50_19, x50_22, x50_23, x50_26, x50_27, x50_30, x50_31, x50_34, x50_36, x50_37, x50_64, x50_66, x50_69, x50_70, x50_73, x50_75, x50_76, x50_77, x50_80, x50_81, x50_84, x50_86, x50_87, x50_90, x50_91, x50_94, x50_95, x50_96, x50_99, x50_101, x50_102, x50_103, x50_104, x50_107, x50_108, x50_109, x50_112, x50_114, x50_115, x50_118, x50_119, x50_122, x50_123, x50_126, x50_127, x50_129, x50_130, x50_131, x50_134, x50_135, x50_136, x50_137, x50_140, x50_142, x50_143, x50_146, x50_149, x50_150, x50_153, x50_154, x50_155, x50_157, x50_160, x50_161, x50_164, x50_165, x50_166, x50_169, x50_170, x50_173, x50_174, x50_176, x50_179, x50_182, x50_183, x50_186, x50_187, x50_188, x50_189, x50_190, x50_193, x50_194, x50_197, x50_198, x50_199, x50_200, x50_201, x50_204, x50_205, x50_208, x50_209, x50_211, x50_214, x50_217, x50_218, x50_221, x50_222, x50_223, x50_225, x50_228, x50_231, x50_232, x50_233, x50_236, x50_238, x50_239, x50_240, x50_241, x50_244, x50_245, fcn_0_47, fcn_0_54, fcn_0_55, fcn_0_56, fcn_0_59, fcn_0_60, fcn_0_65, fcn_0_66, if_true, if_false, eq_self, Int.reduceEq, Int.reduceLT, Int.reduceLE, Int.reduceAdd, Int.reduceSub, Int.reduceMul, Int.reduceToNat, Nat.reduceAdd, Nat.reduceMul, Nat.reduceEqDiff, Int.toNat_natCast, wrap_id, hs, if_pos hlt, z1, y1, h1, q1, zcI_r, if_neg (show ¬ (n : Int) < 0 by omega)]
          have hF : flg val W (st.map fmT) = true := by rw [flg_map, hf]
          rw [hf] at hfin
          refine hfin e (vE val W e) (st.map fmT) s1 ?_ (by rw [lwF_0, if_pos hg]) (hW.mono (fun c j z => Or.inl z)) hwm (by rw [List.length_map]; exact h3) (SB_map (SB_put (fun c j hc _ => hW _ _ (fun z => by unfold WO at z; omega)) hSB)) (UT_all (allT_map st)) (VC_set hF (hsv val W v0).symm)
          rw [hF, List.length_map, show b2i true = 1 from rfl]
          exact hz
        | false =>
          have hF : flg val W (st.map fmT) = false := by rw [flg_map, hf]
          rw [hf] at hfin
          refine hfin e v (st.map fmT) s ?_ (by rw [lwF_0, if_pos hg]) (Fr.rf s) hwm (by rw [List.length_map]; exact h3) (SB_map hSB) (UT_all (allT_map st)) (VC_off hF (VC_map hVC))
          rw [hF, List.length_map, show b2i false = 0 from rfl, ek, x50_17]
          simp (disch := first | exact obC_0 | omega | (simp only [aN1_38, aN1_41, aN1_42, aN1_43, aN1_44, aN1_45, aN2_50, aN2_51]; omega) | (simp only [List.length_cons, List.length_nil]; omega)) only [en50, x50_0, x50_1, x50_2, x50_3, x50_6, x50_7, x50_8, x50_9, x50_10, x50_12, x50_15, x50_19, x50_22, x50_23, x50_26, x50_27, x50_30, x50_31, x50_34, x50_36, x50_37, x50_64, x50_66, x50_69, x50_70, x50_73, x50_75, x50_76, x50_77, x50_80, x50_81, x50_84, x50_86, x50_87, x50_90, x50_91, x50_94, x50_95, x50_96, x50_99, x50_101, x50_102, x50_103, x50_104, x50_107, x50_108, x50_109, x50_112, x50_114, x50_115, x50_118, x50_119, x50_122, x50_123, x50_126, x50_127, x50_129, x50_130, x50_131, x50_134, x50_135, x50_136, x50_137, x50_140, x50_142, x50_143, x50_146, x50_149, x50_150, x50_153, x50_154, x50_155, x50_157, x50_160, x50_161, x50_164, x50_165, x50_166, x50_169, x50_170, x50_173, x50_174, x50_176, x50_179, x50_182, x50_183, x50_186, x50_187, x50_188, x50_189, x50_190, x50_193, x50_194, x50_197, x50_198, x50_199, x50_200, x50_201, x50_204, x50_205, x50_208, x50_209, x50_211, x50_214, x50_217, x50_218, x50_221, x50_222, x50_223, x50_225, x50_228, x50_231, x50_232, x50_233, x50_236, x50_238, x50_239, x50_240, x50_241, x50_244, x50_245, fcn_0_47, fcn_0_54, fcn_0_55, fcn_0_56, fcn_0_59, fcn_0_60, fcn_0_65, fcn_0_66, if_true, if_false, eq_self, Int.reduceEq, Int.reduceLT, Int.reduceLE, Int.reduceAdd, Int.reduceSub, Int.reduceMul, Int.reduceToNat, Nat.reduceAdd, Nat.reduceMul, Nat.reduceEqDiff, Int.toNat_natCast, wrap_id, hs, if_pos hlt, z1]
      · refine hfin now v st s ?_ (by rw [lwF_0, if_neg hg]) (Fr.rf s) hw h3 hSB hUT hVC
        have hb : b2i (flg val W st) = 0 ∨ b2i (flg val W st) = 1 := by unfold b2i; split <;> simp
        generalize b2i (flg val W st) = b at *
        rw [ek, x50_17]
        rcases hb with rfl | rfl
        · simp (disch := first | exact obC_0 | omega | (simp only [aN1_38, aN1_41, aN1_42, aN1_43, aN1_44, aN1_45, aN2_50, aN2_51]; omega) | (simp only [List.length_cons, List.length_nil]; omega)) only [en50, x50_0, x50_1, x50_2, x50_3, x50_6, x50_7, x50_8, x50_9, x50_10, x50_12, x50_15, x50_19, x50_22, x50_23, x50_26, x50_27, x50_30, x50_31, x50_34, x50_36, x50_37, x50_64, x50_66, x50_69, x50_70, x50_73, x50_75, x50_76, x50_77, x50_80, x50_81, x50_84, x50_86, x50_87, x50_90, x50_91, x50_94, x50_95, x50_96, x50_99, x50_101, x50_102, x50_103, x50_104, x50_107, x50_108, x50_109, x50_112, x50_114, x50_115, x50_118, x50_119, x50_122, x50_123, x50_126, x50_127, x50_129, x50_130, x50_131, x50_134, x50_135, x50_136, x50_137, x50_140, x50_142, x50_143, x50_146, x50_149, x50_150, x50_153, x50_154, x50_155, x50_157, x50_160, x50_161, x50_164, x50_165, x50_166, x50_169, x50_170, x50_173, x50_174, x50_176, x50_179, x50_182, x50_183, x50_186, x50_187, x50_188, x50_189, x50_190, x50_193, x50_194, x50_197, x50_198, x50_199, x50_200, x50_201, x50_204, x50_205, x50_208, x50_209, x50_211, x50_214, x50_217, x50_218, x50_221, x50_222, x50_223, x50_225, x50_228, x50_231, x50_232, x50_233, x50_236, x50_238, x50_239, x50_240, x50_241, x50_244, x50_245, fcn_0_47, fcn_0_54, fcn_0_55, fcn_0_56, fcn_0_59, fcn_0_60, fcn_0_65, fcn_0_66, if_true, if_false, eq_self, Int.reduceEq, Int.reduceLT, Int.reduceLE, Int.reduceAdd, Int.reduceSub, Int.reduceMul, Int.reduceToNat, Nat.reduceAdd, Nat.reduceMul, Nat.reduceEqDiff, Int.toNat_natCast, wrap_id, hs, if_pos hlt, z1, y1, if_neg (show ¬ (sk : Int) = g by omega)]
        · simp (disch := first | exact obC_0 | omega | (simp only [aN1_38, aN1_41, aN1_42, aN1_43, aN1_44, aN1_45, aN2_50, aN2_51]; omega) | (simp only [List.length_cons, List.length_nil]; omega)) only [en50, x50_0, x50_1, x50_2, x50_3, x50_6, x50_7, x50_8, x50_9, x50_10, x50_12, x50_15, x50_19, x50_22, x50_23, x50_26, x50_27, x50_30, x50_31, x50_34, x50_36, x50_37, x50_64, x50_66, x50_69, x50_70, x50_73, x50_75, x50_76, x50_77, x50_80, x50_81, x50_84, x50_86, x50_87, x50_90, x50_91, x50_94, x50_95, x50_96, x50_99, x50_101, x50_102, x50_103, x50_104, x50_107, x50_108, x50_109, x50_112, x50_114, x50_115, x50_118, x50_119, x50_122, x50_123, x50_126, x50_127, x50_129, x50_130, x50_131, x50_134, x50_135, x50_136, x50_137, x50_140, x50_142, x50_143, x50_146, x50_149, x50_150, x50_153, x50_154, x50_155, x50_157, x50_160, x50_161, x50_164, x50_165, x50_166, x50_169, x50_170, x50_173, x50_174, x50_176, x50_179, x50_182, x50_183, x50_186, x50_187, x50_188, x50_189, x50_190, x50_193, x50_194, x50_197, x50_198, x50_199, x50_200, x50_201, x50_204, x50_205, x50_208, x50_209, x50_211, x50_214, x50_217, x50_218, x50_221, x50_222, x50_223, x50_225, x50_228, x50_231, x50_232, x50_233, x50_236, x50_238, x50_239, x50_240, x50_241, x50_244, x50_245, fcn_0_47, fcn_0_54, fcn_0_55, fcn_0_56, fcn_0_59, fcn_0_60, fcn_0_65, fcn_0_66, if_true, if_false, eq_self, Int.reduceEq, Int.reduceLT, Int.reduceLE, Int.reduceAdd, Int.reduceSub, Int.reduceMul, Int.reduceToNat, Nat.reduceAdd, Nat.reduceMul, Nat.reduceEqDiff, Int.toNat_natCast, wrap_id, hs, if_pos hlt, z1, y1, if_neg (show ¬ (sk : Int) = g by omega)]
    | 1, z1, z2, z3, hsv, hw, hfin =>
      have z1 : s 41 (1100 + k) = 1 := z1
      obtain ⟨n, y1, y2, y3, y4⟩ := z3 rfl
      obtain ⟨hw1, hw2⟩ := hw
      generalize hs1 : mu s 51 st.length (b2i (flg val W st)) = s1
      have F1 : Fr FBc s s1 := by rw [← hs1]; exact Fr.mu (S := FBc) (Fr.rf s) (Or.inr (Or.inl rfl))
      have g1 : ∀ c j, c ≠ 51 → s1 c j = s c j := fun c j hc => by rw [← hs1, mu_c hc]
      obtain ⟨s2, q1, q2⟩ := t_worthOf (d := d) (val := val) (W := W) (s := s1) hd (sh_RR (fun c j hc => g1 c j (by omega)) y2) (sh_WE (fun c j hc => g1 c j (by omega)) y3) y4 (fun h hh => by rw [g1 _ _ (by decide), hvv h hh])
      have so1 : s1 43 (1100 + k) = n := by rw [g1 _ _ (by decide), y1]
      generalize hs3 : mu s2 50 st.length (b2i (decide (¬ vE val W e = 0))) = s3
      have F3 : Fr FBc s s3 := by
        rw [← hs3]
        exact Fr.mu (S := FBc) (F1.tr (q2.mono (fun c j z => Or.inl z))) (Or.inr (Or.inr rfl))
      have a3 : s3 50 st.length = b2i (decide (¬ vE val W e = 0)) := by rw [← hs3, mu_s]
      have hfl : flg val W ((now, none, e, false) :: st) = (flg val W st && decide (¬ vE val W e = 0)) := rfl
      refine hfin now v ((now, none, e, false) :: st) s3 ?_ rfl F3 hw2 (by rw [List.length_cons]; unfold bOf at hw1; rw [List.length_map] at hw1; omega) ⟨?_, ?_, ?_⟩ ⟨fun _ => ⟨rfl, Or.inl rfl⟩, fun z => (nomatch z), hUT⟩ ⟨fun z => ⟨fun _ => VC_on z hVC, fun _ => VC_on z hVC⟩, fun _ => hVC⟩
      · have hl3 : st.length < 3 := by unfold bOf at hw1; rw [List.length_map] at hw1; exact hw1
        rw [hfl, List.length_cons, show ((st.length + 1 : Nat) : Int) = (st.length : Int) + 1 from rfl, ek, x50_17]
        generalize flg val W st = bb at hs1 ⊢
        cases bb
        · rw [show b2i false = 0 from rfl] at hs1 ⊢
          rw [Bool.false_and]
          by_cases h0 : vE val W e = 0
          · rw [show b2i (decide (¬ vE val W e = 0)) = 0 by rw [decide_eq_false (fun z => z h0)]; rfl] at hs3
            simp (disch := first | exact obC_0 | omega | (simp only [aN1_38, aN1_41, aN1_42, aN1_43, aN1_44, aN1_45, aN2_50, aN2_51]; omega) | (simp only [List.length_cons, List.length_nil]; omega)) only [en50, x50_0, x50_1, x50_2, x50_3, x50_6, x50_7, x50_8, x50_9, x50_10, x50_12, x50_15, x50_19, x50_22, x50_23, x50_26, x50_27, x50_30, x50_31, x50_34, x50_36, x50_37, x50_64, x50_66, x50_69, x50_70, x50_73, x50_75, x50_76, x50_77, x50_80, x50_81, x50_84, x50_86, x50_87, x50_90, x50_91, x50_94, x50_95, x50_96, x50_99, x50_101, x50_102, x50_103, x50_104, x50_107, x50_108, x50_109, x50_112, x50_114, x50_115, x50_118, x50_119, x50_122, x50_123, x50_126, x50_127, x50_129, x50_130, x50_131, x50_134, x50_135, x50_136, x50_137, x50_140, x50_142, x50_143, x50_146, x50_149, x50_150, x50_153, x50_154, x50_155, x50_157, x50_160, x50_161, x50_164, x50_165, x50_166, x50_169, x50_170, x50_173, x50_174, x50_176, x50_179, x50_182, x50_183, x50_186, x50_187, x50_188, x50_189, x50_190, x50_193, x50_194, x50_197, x50_198, x50_199, x50_200, x50_201, x50_204, x50_205, x50_208, x50_209, x50_211, x50_214, x50_217, x50_218, x50_221, x50_222, x50_223, x50_225, x50_228, x50_231, x50_232, x50_233, x50_236, x50_238, x50_239, x50_240, x50_241, x50_244, x50_245, fcn_0_47, fcn_0_54, fcn_0_55, fcn_0_56, fcn_0_59, fcn_0_60, fcn_0_65, fcn_0_66, if_true, if_false, eq_self, Int.reduceEq, Int.reduceLT, Int.reduceLE, Int.reduceAdd, Int.reduceSub, Int.reduceMul, Int.reduceToNat, Nat.reduceAdd, Nat.reduceMul, Nat.reduceEqDiff, Int.toNat_natCast, wrap_id, hs, if_pos hlt, z1, hs1, so1, q1, zcI_r, if_pos h0, hs3]
            rfl
          · rw [show b2i (decide (¬ vE val W e = 0)) = 1 by rw [decide_eq_true h0]; rfl] at hs3
            simp (disch := first | exact obC_0 | omega | (simp only [aN1_38, aN1_41, aN1_42, aN1_43, aN1_44, aN1_45, aN2_50, aN2_51]; omega) | (simp only [List.length_cons, List.length_nil]; omega)) only [en50, x50_0, x50_1, x50_2, x50_3, x50_6, x50_7, x50_8, x50_9, x50_10, x50_12, x50_15, x50_19, x50_22, x50_23, x50_26, x50_27, x50_30, x50_31, x50_34, x50_36, x50_37, x50_64, x50_66, x50_69, x50_70, x50_73, x50_75, x50_76, x50_77, x50_80, x50_81, x50_84, x50_86, x50_87, x50_90, x50_91, x50_94, x50_95, x50_96, x50_99, x50_101, x50_102, x50_103, x50_104, x50_107, x50_108, x50_109, x50_112, x50_114, x50_115, x50_118, x50_119, x50_122, x50_123, x50_126, x50_127, x50_129, x50_130, x50_131, x50_134, x50_135, x50_136, x50_137, x50_140, x50_142, x50_143, x50_146, x50_149, x50_150, x50_153, x50_154, x50_155, x50_157, x50_160, x50_161, x50_164, x50_165, x50_166, x50_169, x50_170, x50_173, x50_174, x50_176, x50_179, x50_182, x50_183, x50_186, x50_187, x50_188, x50_189, x50_190, x50_193, x50_194, x50_197, x50_198, x50_199, x50_200, x50_201, x50_204, x50_205, x50_208, x50_209, x50_211, x50_214, x50_217, x50_218, x50_221, x50_222, x50_223, x50_225, x50_228, x50_231, x50_232, x50_233, x50_236, x50_238, x50_239, x50_240, x50_241, x50_244, x50_245, fcn_0_47, fcn_0_54, fcn_0_55, fcn_0_56, fcn_0_59, fcn_0_60, fcn_0_65, fcn_0_66, if_true, if_false, eq_self, Int.reduceEq, Int.reduceLT, Int.reduceLE, Int.reduceAdd, Int.reduceSub, Int.reduceMul, Int.reduceToNat, Nat.reduceAdd, Nat.reduceMul, Nat.reduceEqDiff, Int.toNat_natCast, wrap_id, hs, if_pos hlt, z1, hs1, so1, q1, zcI_r, if_neg h0, hs3]
            rfl
        · rw [show b2i true = 1 from rfl] at hs1 ⊢
          rw [Bool.true_and]
          by_cases h0 : vE val W e = 0
          · rw [show b2i (decide (¬ vE val W e = 0)) = 0 by rw [decide_eq_false (fun z => z h0)]; rfl] at hs3 a3 ⊢
            simp (disch := first | exact obC_0 | omega | (simp only [aN1_38, aN1_41, aN1_42, aN1_43, aN1_44, aN1_45, aN2_50, aN2_51]; omega) | (simp only [List.length_cons, List.length_nil]; omega)) only [en50, x50_0, x50_1, x50_2, x50_3, x50_6, x50_7, x50_8, x50_9, x50_10, x50_12, x50_15, x50_19, x50_22, x50_23, x50_26, x50_27, x50_30, x50_31, x50_34, x50_36, x50_37, x50_64, x50_66, x50_69, x50_70, x50_73, x50_75, x50_76, x50_77, x50_80, x50_81, x50_84, x50_86, x50_87, x50_90, x50_91, x50_94, x50_95, x50_96, x50_99, x50_101, x50_102, x50_103, x50_104, x50_107, x50_108, x50_109, x50_112, x50_114, x50_115, x50_118, x50_119, x50_122, x50_123, x50_126, x50_127, x50_129, x50_130, x50_131, x50_134, x50_135, x50_136, x50_137, x50_140, x50_142, x50_143, x50_146, x50_149, x50_150, x50_153, x50_154, x50_155, x50_157, x50_160, x50_161, x50_164, x50_165, x50_166, x50_169, x50_170, x50_173, x50_174, x50_176, x50_179, x50_182, x50_183, x50_186, x50_187, x50_188, x50_189, x50_190, x50_193, x50_194, x50_197, x50_198, x50_199, x50_200, x50_201, x50_204, x50_205, x50_208, x50_209, x50_211, x50_214, x50_217, x50_218, x50_221, x50_222, x50_223, x50_225, x50_228, x50_231, x50_232, x50_233, x50_236, x50_238, x50_239, x50_240, x50_241, x50_244, x50_245, fcn_0_47, fcn_0_54, fcn_0_55, fcn_0_56, fcn_0_59, fcn_0_60, fcn_0_65, fcn_0_66, if_true, if_false, eq_self, Int.reduceEq, Int.reduceLT, Int.reduceLE, Int.reduceAdd, Int.reduceSub, Int.reduceMul, Int.reduceToNat, Nat.reduceAdd, Nat.reduceMul, Nat.reduceEqDiff, Int.toNat_natCast, wrap_id, hs, if_pos hlt, z1, hs1, so1, q1, zcI_r, if_pos h0, hs3, a3]
          · rw [show b2i (decide (¬ vE val W e = 0)) = 1 by rw [decide_eq_true h0]; rfl] at hs3 a3 ⊢
            simp (disch := first | exact obC_0 | omega | (simp only [aN1_38, aN1_41, aN1_42, aN1_43, aN1_44, aN1_45, aN2_50, aN2_51]; omega) | (simp only [List.length_cons, List.length_nil]; omega)) only [en50, x50_0, x50_1, x50_2, x50_3, x50_6, x50_7, x50_8, x50_9, x50_10, x50_12, x50_15, x50_19, x50_22, x50_23, x50_26, x50_27, x50_30, x50_31, x50_34, x50_36, x50_37, x50_64, x50_66, x50_69, x50_70, x50_73, x50_75, x50_76, x50_77, x50_80, x50_81, x50_84, x50_86, x50_87, x50_90, x50_91, x50_94, x50_95, x50_96, x50_99, x50_101, x50_102, x50_103, x50_104, x50_107, x50_108, x50_109, x50_112, x50_114, x50_115, x50_118, x50_119, x50_122, x50_123, x50_126, x50_127, x50_129, x50_130, x50_131, x50_134, x50_135, x50_136, x50_137, x50_140, x50_142, x50_143, x50_146, x50_149, x50_150, x50_153, x50_154, x50_155, x50_157, x50_160, x50_161, x50_164, x50_165, x50_166, x50_169, x50_170, x50_173, x50_174, x50_176, x50_179, x50_182, x50_183, x50_186, x50_187, x50_188, x50_189, x50_190, x50_193, x50_194, x50_197, x50_198, x50_199, x50_200, x50_201, x50_204, x50_205, x50_208, x50_209, x50_211, x50_214, x50_217, x50_218, x50_221, x50_222, x50_223, x50_225, x50_228, x50_231, x50_232, x50_233, x50_236, x50_238, x50_239, x50_240, x50_241, x50_244, x50_245, fcn_0_47, fcn_0_54, fcn_0_55, fcn_0_56, fcn_0_59, fcn_0_60, fcn_0_65, fcn_0_66, if_true, if_false, eq_self, Int.reduceEq, Int.reduceLT, Int.reduceLE, Int.reduceAdd, Int.reduceSub, Int.reduceMul, Int.reduceToNat, Nat.reduceAdd, Nat.reduceMul, Nat.reduceEqDiff, Int.toNat_natCast, wrap_id, hs, if_pos hlt, z1, hs1, so1, q1, zcI_r, if_neg h0, hs3, a3]
      · rw [← hs3, mu_c (by decide), q2 _ _ (by unfold WO; decide), ← hs1, mu_s]
      · exact a3
      · exact SB_put (fun c j hc hj => by rw [← hs3, mu_i (by omega), q2 _ _ (by unfold WO; omega), ← hs1, mu_i (by omega)]) hSB
    | 2, z1, z2, z3, hsv, hw, hfin =>
      have z1 : s 41 (1100 + k) = 2 := z1
      cases st with
      | nil => exact absurd hw (by unfold bOf wfB; exact id)
      | cons f st =>
        obtain ⟨hw1, hw2⟩ := hw
        rw [List.length_cons] at h3
        obtain ⟨a1, a2, a3⟩ := hSB
        obtain ⟨u1, u2, u3⟩ := hUT
        obtain ⟨c1, c2⟩ := hVC
        obtain ⟨kp, tt, cc, bb⟩ := f
        have htt : tt = none := by
          cases tt with
          | none => rfl
          | some t => exact (nomatch hw1)
        subst htt
        have e1 : (((st.length : Int) + 1) - 1).toNat = st.length := by omega
        have hfl : flg val W ((kp, some now, cc, bb) :: st) = (flg val W st && !(act val W (kp, none, cc, bb))) := rfl
        have hp0 : par (kp, none, cc, bb) (act val W (kp, none, cc, bb)) = act val W (kp, none, cc, bb) := rfl
        rw [hp0] at c1
        refine hfin kp v ((kp, some now, cc, bb) :: st) s ?_ rfl (Fr.rf s) hw2 (by rw [List.length_cons]; omega) ⟨a1, a2, a3⟩ ⟨fun z => ⟨rfl, Or.inr (by rw [(u1 z).1])⟩, u2, u3⟩ ⟨fun z => ⟨fun y => ?_, fun y => ?_⟩, c2⟩
        · rw [hfl, List.length_cons, List.length_cons, show ((st.length + 1 : Nat) : Int) = (st.length : Int) + 1 from rfl, ek, x50_17]
          generalize b2i (flg val W ((kp, none, cc, bb) :: st)) = b0
          generalize act val W (kp, none, cc, bb) = b1 at a2
          generalize flg val W st = b2 at a1
          cases b2
          · have a1 : s 51 st.length = 0 := a1
            rw [Bool.false_and, show b2i false = 0 from rfl]
            simp (disch := first | exact obC_0 | omega | (simp only [aN1_38, aN1_41, aN1_42, aN1_43, aN1_44, aN1_45, aN2_50, aN2_51]; omega) | (simp only [List.length_cons, List.length_nil]; omega)) only [en50, x50_0, x50_1, x50_2, x50_3, x50_6, x50_7, x50_8, x50_9, x50_10, x50_12, x50_15, x50_19, x50_22, x50_23, x50_26, x50_27, x50_30, x50_31, x50_34, x50_36, x50_37, x50_64, x50_66, x50_69, x50_70, x50_73, x50_75, x50_76, x50_77, x50_80, x50_81, x50_84, x50_86, x50_87, x50_90, x50_91, x50_94, x50_95, x50_96, x50_99, x50_101, x50_102, x50_103, x50_104, x50_107, x50_108, x50_109, x50_112, x50_114, x50_115, x50_118, x50_119, x50_122, x50_123, x50_126, x50_127, x50_129, x50_130, x50_131, x50_134, x50_135, x50_136, x50_137, x50_140, x50_142, x50_143, x50_146, x50_149, x50_150, x50_153, x50_154, x50_155, x50_157, x50_160, x50_161, x50_164, x50_165, x50_166, x50_169, x50_170, x50_173, x50_174, x50_176, x50_179, x50_182, x50_183, x50_186, x50_187, x50_188, x50_189, x50_190, x50_193, x50_194, x50_197, x50_198, x50_199, x50_200, x50_201, x50_204, x50_205, x50_208, x50_209, x50_211, x50_214, x50_217, x50_218, x50_221, x50_222, x50_223, x50_225, x50_228, x50_231, x50_232, x50_233, x50_236, x50_238, x50_239, x50_240, x50_241, x50_244, x50_245, fcn_0_47, fcn_0_54, fcn_0_55, fcn_0_56, fcn_0_59, fcn_0_60, fcn_0_65, fcn_0_66, if_true, if_false, eq_self, Int.reduceEq, Int.reduceLT, Int.reduceLE, Int.reduceAdd, Int.reduceSub, Int.reduceMul, Int.reduceToNat, Nat.reduceAdd, Nat.reduceMul, Nat.reduceEqDiff, Int.toNat_natCast, wrap_id, hs, if_pos hlt, z1, e1, a1]
          · have a1 : s 51 st.length = 1 := a1
            rw [Bool.true_and]
            cases b1
            · have a2 : s 50 st.length = 0 := a2
              rw [Bool.not_false, show b2i true = 1 from rfl]
              simp (disch := first | exact obC_0 | omega | (simp only [aN1_38, aN1_41, aN1_42, aN1_43, aN1_44, aN1_45, aN2_50, aN2_51]; omega) | (simp only [List.length_cons, List.length_nil]; omega)) only [en50, x50_0, x50_1, x50_2, x50_3, x50_6, x50_7, x50_8, x50_9, x50_10, x50_12, x50_15, x50_19, x50_22, x50_23, x50_26, x50_27, x50_30, x50_31, x50_34, x50_36, x50_37, x50_64, x50_66, x50_69, x50_70, x50_73, x50_75, x50_76, x50_77, x50_80, x50_81, x50_84, x50_86, x50_87, x50_90, x50_91, x50_94, x50_95, x50_96, x50_99, x50_101, x50_102, x50_103, x50_104, x50_107, x50_108, x50_109, x50_112, x50_114, x50_115, x50_118, x50_119, x50_122, x50_123, x50_126, x50_127, x50_129, x50_130, x50_131, x50_134, x50_135, x50_136, x50_137, x50_140, x50_142, x50_143, x50_146, x50_149, x50_150, x50_153, x50_154, x50_155, x50_157, x50_160, x50_161, x50_164, x50_165, x50_166, x50_169, x50_170, x50_173, x50_174, x50_176, x50_179, x50_182, x50_183, x50_186, x50_187, x50_188, x50_189, x50_190, x50_193, x50_194, x50_197, x50_198, x50_199, x50_200, x50_201, x50_204, x50_205, x50_208, x50_209, x50_211, x50_214, x50_217, x50_218, x50_221, x50_222, x50_223, x50_225, x50_228, x50_231, x50_232, x50_233, x50_236, x50_238, x50_239, x50_240, x50_241, x50_244, x50_245, fcn_0_47, fcn_0_54, fcn_0_55, fcn_0_56, fcn_0_59, fcn_0_60, fcn_0_65, fcn_0_66, if_true, if_false, eq_self, Int.reduceEq, Int.reduceLT, Int.reduceLE, Int.reduceAdd, Int.reduceSub, Int.reduceMul, Int.reduceToNat, Nat.reduceAdd, Nat.reduceMul, Nat.reduceEqDiff, Int.toNat_natCast, wrap_id, hs, if_pos hlt, z1, e1, a1, a2]
            · have a2 : s 50 st.length = 1 := a2
              rw [Bool.not_true, show b2i false = 0 from rfl]
              simp (disch := first | exact obC_0 | omega | (simp only [aN1_38, aN1_41, aN1_42, aN1_43, aN1_44, aN1_45, aN2_50, aN2_51]; omega) | (simp only [List.length_cons, List.length_nil]; omega)) only [en50, x50_0, x50_1, x50_2, x50_3, x50_6, x50_7, x50_8, x50_9, x50_10, x50_12, x50_15, x50_19, x50_22, x50_23, x50_26, x50_27, x50_30, x50_31, x50_34, x50_36, x50_37, x50_64, x50_66, x50_69, x50_70, x50_73, x50_75, x50_76, x50_77, x50_80, x50_81, x50_84, x50_86, x50_87, x50_90, x50_91, x50_94, x50_95, x50_96, x50_99, x50_101, x50_102, x50_103, x50_104, x50_107, x50_108, x50_109, x50_112, x50_114, x50_115, x50_118, x50_119, x50_122, x50_123, x50_126, x50_127, x50_129, x50_130, x50_131, x50_134, x50_135, x50_136, x50_137, x50_140, x50_142, x50_143, x50_146, x50_149, x50_150, x50_153, x50_154, x50_155, x50_157, x50_160, x50_161, x50_164, x50_165, x50_166, x50_169, x50_170, x50_173, x50_174, x50_176, x50_179, x50_182, x50_183, x50_186, x50_187, x50_188, x50_189, x50_190, x50_193, x50_194, x50_197, x50_198, x50_199, x50_200, x50_201, x50_204, x50_205, x50_208, x50_209, x50_211, x50_214, x50_217, x50_218, x50_221, x50_222, x50_223, x50_225, x50_228, x50_231, x50_232, x50_233, x50_236, x50_238, x50_239, x50_240, x50_241, x50_244, x50_245, fcn_0_47, fcn_0_54, fcn_0_55, fcn_0_56, fcn_0_59, fcn_0_60, fcn_0_65, fcn_0_66, if_true, if_false, eq_self, Int.reduceEq, Int.reduceLT, Int.reduceLE, Int.reduceAdd, Int.reduceSub, Int.reduceMul, Int.reduceToNat, Nat.reduceAdd, Nat.reduceMul, Nat.reduceEqDiff, Int.toNat_natCast, wrap_id, hs, if_pos hlt, z1, e1, a1, a2]
        · have y : (!(act val W (kp, none, cc, bb))) = true := y
          exact (c1 z).2 (by cases hq : act val W (kp, none, cc, bb) with | true => rw [hq] at y; exact (nomatch y) | false => rfl)
        · have y : (!(act val W (kp, none, cc, bb))) = false := y
          exact (c1 z).1 (by cases hq : act val W (kp, none, cc, bb) with | false => rw [hq] at y; exact (nomatch y) | true => rfl)
    | 3, z1, z2, z3, hsv, hw, hfin =>
      have z1 : s 41 (1100 + k) = 3 := z1
      cases st with
      | nil => exact absurd hw (by unfold bOf wfB; exact id)
      | cons f st =>
        have hw : wfB (bOf st) (lo.drop (k + 1)) := hw
        rw [List.length_cons] at h3
        obtain ⟨a1, a2, a3⟩ := hSB
        have e1 : (st.length : Int) + 1 + -1 = st.length := by omega
        refine hfin (fmC now f) v st s ?_ rfl (Fr.rf s) hw (by omega) a3 (UT_close hUT) (VC_close hUT hVC)
        rw [List.length_cons, show ((st.length + 1 : Nat) : Int) = (st.length : Int) + 1 from rfl, ek, x50_17]
        generalize b2i (flg val W (f :: st)) = b0
        simp (disch := first | exact obC_0 | omega | (simp only [aN1_38, aN1_41, aN1_42, aN1_43, aN1_44, aN1_45, aN2_50, aN2_51]; omega) | (simp only [List.length_cons, List.length_nil]; omega)) only [en50, x50_0, x50_1, x50_2, x50_3, x50_6, x50_7, x50_8, x50_9, x50_10, x50_12, x50_15, x50_19, x50_22, x50_23, x50_26, x50_27, x50_30, x50_31, x50_34, x50_36, x50_37, x50_64, x50_66, x50_69, x50_70, x50_73, x50_75, x50_76, x50_77, x50_80, x50_81, x50_84, x50_86, x50_87, x50_90, x50_91, x50_94, x50_95, x50_96, x50_99, x50_101, x50_102, x50_103, x50_104, x50_107, x50_108, x50_109, x50_112, x50_114, x50_115, x50_118, x50_119, x50_122, x50_123, x50_126, x50_127, x50_129, x50_130, x50_131, x50_134, x50_135, x50_136, x50_137, x50_140, x50_142, x50_143, x50_146, x50_149, x50_150, x50_153, x50_154, x50_155, x50_157, x50_160, x50_161, x50_164, x50_165, x50_166, x50_169, x50_170, x50_173, x50_174, x50_176, x50_179, x50_182, x50_183, x50_186, x50_187, x50_188, x50_189, x50_190, x50_193, x50_194, x50_197, x50_198, x50_199, x50_200, x50_201, x50_204, x50_205, x50_208, x50_209, x50_211, x50_214, x50_217, x50_218, x50_221, x50_222, x50_223, x50_225, x50_228, x50_231, x50_232, x50_233, x50_236, x50_238, x50_239, x50_240, x50_241, x50_244, x50_245, fcn_0_47, fcn_0_54, fcn_0_55, fcn_0_56, fcn_0_59, fcn_0_60, fcn_0_65, fcn_0_66, if_true, if_false, eq_self, Int.reduceEq, Int.reduceLT, Int.reduceLE, Int.reduceAdd, Int.reduceSub, Int.reduceMul, Int.reduceToNat, Nat.reduceAdd, Nat.reduceMul, Nat.reduceEqDiff, Int.toNat_natCast, wrap_id, hs, if_pos hlt, z1, e1, a1]
    | o + 4, z1, z2, z3, hsv, hw, hfin =>
      cases hb : bOf st with
      | nil => rw [hb] at hw; exact absurd hw (by unfold wfB; exact id)
      | cons b r => rw [hb] at hw; exact absurd hw (by unfold wfB; exact id)
theorem t_become {d g L : Nat} {val : Nat → Int} {W : Nat → Nat} {v0 : Int} {lo : List Lo} {s : Mem} {now : Jvm.Term} (hd : 4 ≤ d) (hg : g < 24) (hl2 : lo.length ≤ 1100) (h0 : srcV lo) (hL : L ≤ 24) (hval : ∀ h, h < L → iand (val h) (msk (W h)) = val h) (hs : s 0 72 = lo.length) (hlo : LL s W lo L) (hvv : ∀ h, h < 24 → s 44 h = val h) (hw : wfB [] lo) (hst : s 45 g = v0) (hn : v0 = vF val W v0 now) (hwd : s 38 (24 + g) = W g) : ∃ s', Zc d 50 [aR 0, aI g] s = rI (iand (vF val W v0 (lwF g lo now [])) (msk (W g))) s' ∧ Fr FBc s s' := by
  obtain ⟨d, rfl⟩ : ∃ e, d = e + 1 := ⟨d - 1, by omega⟩
  obtain ⟨s', l2, l4, l5, q1, q2⟩ := bc_loop (d := d) (g := g) (v0 := v0) (by omega) hl2 h0 hL hval lo.length 0 now v0 [] s (Nat.zero_add _) hs hlo hvv hw (Nat.zero_le _) trivial trivial hn
  refine ⟨s', Eq.trans ?_ (q1.trans ?_), q2⟩
  · rw [show b2i (flg val W []) = 1 from rfl, show ((([] : List Fm).length : Nat) : Int) = 0 from rfl, show ((1100 + 0 : Nat) : Int) = 1100 from rfl]
    simp (disch := first | exact obC_0 | omega | (simp only [aN1_38, aN1_41, aN1_42, aN1_43, aN1_44, aN1_45, aN2_50, aN2_51]; omega) | (simp only [List.length_cons, List.length_nil]; omega)) only [en50, x50_0, x50_1, x50_2, x50_3, x50_6, x50_7, x50_8, x50_9, x50_10, x50_12, x50_15, x50_19, x50_22, x50_23, x50_26, x50_27, x50_30, x50_31, x50_34, x50_36, x50_37, x50_64, x50_66, x50_69, x50_70, x50_73, x50_75, x50_76, x50_77, x50_80, x50_81, x50_84, x50_86, x50_87, x50_90, x50_91, x50_94, x50_95, x50_96, x50_99, x50_101, x50_102, x50_103, x50_104, x50_107, x50_108, x50_109, x50_112, x50_114, x50_115, x50_118, x50_119, x50_122, x50_123, x50_126, x50_127, x50_129, x50_130, x50_131, x50_134, x50_135, x50_136, x50_137, x50_140, x50_142, x50_143, x50_146, x50_149, x50_150, x50_153, x50_154, x50_155, x50_157, x50_160, x50_161, x50_164, x50_165, x50_166, x50_169, x50_170, x50_173, x50_174, x50_176, x50_179, x50_182, x50_183, x50_186, x50_187, x50_188, x50_189, x50_190, x50_193, x50_194, x50_197, x50_198, x50_199, x50_200, x50_201, x50_204, x50_205, x50_208, x50_209, x50_211, x50_214, x50_217, x50_218, x50_221, x50_222, x50_223, x50_225, x50_228, x50_231, x50_232, x50_233, x50_236, x50_238, x50_239, x50_240, x50_241, x50_244, x50_245, fcn_0_47, fcn_0_54, fcn_0_55, fcn_0_56, fcn_0_59, fcn_0_60, fcn_0_65, fcn_0_66, if_true, if_false, eq_self, Int.reduceEq, Int.reduceLT, Int.reduceLE, Int.reduceAdd, Int.reduceSub, Int.reduceMul, Int.reduceToNat, Nat.reduceAdd, Nat.reduceMul, Nat.reduceEqDiff, Int.toNat_natCast, wrap_id, hst]
  · have hw' : s' 38 (24 + g) = W g := by rw [q2 _ _ (by unfold FBc; decide), hwd]
    have e1 : (24 : Int) + g = ((24 + g : Nat) : Int) := rfl
    rw [List.drop_zero]
    simp (disch := first | exact obC_0 | omega | (simp only [aN1_38, aN1_41, aN1_42, aN1_43, aN1_44, aN1_45, aN2_50, aN2_51]; omega) | (simp only [List.length_cons, List.length_nil]; omega)) only [en50, x50_0, x50_1, x50_2, x50_3, x50_6, x50_7, x50_8, x50_9, x50_10, x50_12, x50_15, x50_19, x50_22, x50_23, x50_26, x50_27, x50_30, x50_31, x50_34, x50_36, x50_37, x50_64, x50_66, x50_69, x50_70, x50_73, x50_75, x50_76, x50_77, x50_80, x50_81, x50_84, x50_86, x50_87, x50_90, x50_91, x50_94, x50_95, x50_96, x50_99, x50_101, x50_102, x50_103, x50_104, x50_107, x50_108, x50_109, x50_112, x50_114, x50_115, x50_118, x50_119, x50_122, x50_123, x50_126, x50_127, x50_129, x50_130, x50_131, x50_134, x50_135, x50_136, x50_137, x50_140, x50_142, x50_143, x50_146, x50_149, x50_150, x50_153, x50_154, x50_155, x50_157, x50_160, x50_161, x50_164, x50_165, x50_166, x50_169, x50_170, x50_173, x50_174, x50_176, x50_179, x50_182, x50_183, x50_186, x50_187, x50_188, x50_189, x50_190, x50_193, x50_194, x50_197, x50_198, x50_199, x50_200, x50_201, x50_204, x50_205, x50_208, x50_209, x50_211, x50_214, x50_217, x50_218, x50_221, x50_222, x50_223, x50_225, x50_228, x50_231, x50_232, x50_233, x50_236, x50_238, x50_239, x50_240, x50_241, x50_244, x50_245, fcn_0_47, fcn_0_54, fcn_0_55, fcn_0_56, fcn_0_59, fcn_0_60, fcn_0_65, fcn_0_66, if_true, if_false, eq_self, Int.reduceEq, Int.reduceLT, Int.reduceLE, Int.reduceAdd, Int.reduceSub, Int.reduceMul, Int.reduceToNat, Nat.reduceAdd, Nat.reduceMul, Nat.reduceEqDiff, Int.toNat_natCast, wrap_id, e1, hw', t_mask (d := d) (by omega), zcI_r]
