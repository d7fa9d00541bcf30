/-! the document's low steps and the class's come to the same -/
/-- a ? in which a signal is not connected leaves it -/
def UTn : Jvm.Term → List Fm → Prop
  | _, [] => True
  | now, f :: r => (f.2.2.2 = false → now = f.1) ∧ (f.2.2.2 = true → ∀ x, x ∈ r → x.2.2.2 = true) ∧ UTn f.1 r
theorem UTn_T : ∀ (st : List Fm) (now : Jvm.Term), (∀ x, x ∈ st → x.2.2.2 = true) → UTn now st
  | [], _, _ => trivial
  | f :: r, now, h => ⟨fun z => (by rw [h f List.mem_cons_self] at z; cases z), fun _ x hx => h x (List.mem_cons_of_mem _ hx), UTn_T r f.1 (fun x hx => h x (List.mem_cons_of_mem _ hx))⟩
theorem UTn_fmT (st : List Fm) (now : Jvm.Term) : UTn now (st.map fmT) := UTn_T _ now (fun x hx => by
  obtain ⟨y, -, rfl⟩ := List.mem_map.mp hx
  rfl)
theorem UTn_fmC {now : Jvm.Term} {f : Fm} {r : List Fm} (h : UTn now (f :: r)) : UTn (fmC now f) r := by
  obtain ⟨h1, h2, h3⟩ := h
  by_cases ht : f.2.2.2 = true
  · exact UTn_T r _ (h2 ht)
  · have hf : f.2.2.2 = false := by simpa using ht
    unfold fmC
    rw [if_neg ht, h1 hf]
    exact h3
theorem bS_cons1 {st : List Nat} {d : List Bool} (h : bS st = false :: d) : ∃ st', st = 1 :: st' ∧ bS st' = d := by
  cases st with
  | nil => cases h
  | cons b st =>
    injection h with h1 h2
    have : b = 1 := by simpa using h1
    subst this
    exact ⟨st, rfl, h2⟩
theorem bS_cons2 {st : List Nat} {d : List Bool} (hs : ∀ b, b ∈ st → b = 1 ∨ b = 2) (h : bS st = true :: d) : ∃ st', st = 2 :: st' ∧ bS st' = d := by
  cases st with
  | nil => cases h
  | cons b st =>
    injection h with h1 h2
    have h1 : b ≠ 1 := by simpa using h1
    have := hs b List.mem_cons_self
    have : b = 2 := by omega
    subst this
    exact ⟨st, rfl, h2⟩
theorem nrm_both {g : Nat} : ∀ (lo : List Lo) (st : List Nat) (now : Jvm.Term) (stk : List Fm), (∀ b, b ∈ st → b = 1 ∨ b = 2) → wfB (bS st) lo → bOf stk = bS st → UTn now stk → lwF g (nrmL st lo) now stk = lwF g lo now stk ∧ wfN (bS st) (nrmL st lo) := by
  intro lo
  induction lo with
  | nil => intro st now stk hs hw hb hu; exact ⟨rfl, by cases st <;> exact hw⟩
  | cons x r ih =>
    intro st now stk hs hw hb hu
    obtain ⟨k, sk, e⟩ := x
    have htl : ∀ st' b, st = b :: st' → ∀ b, b ∈ st' → b = 1 ∨ b = 2 := fun st' b h c hc => hs c (by rw [h]; exact List.mem_cons_of_mem _ hc)
    by_cases h0 : k = 0
    · subst h0
      have hw' : wfB (bS st) r := by
        revert hw
        cases bS st <;> exact id
      have hn : nrmL st ((0, sk, e) :: r) = (0, sk, e) :: nrmL st r := rfl
      rw [hn]
      refine ⟨?_, ?_⟩
      · rw [lwF, lwF]
        by_cases hg : sk = g
        · rw [if_pos hg, if_pos hg]
          exact (ih st e (stk.map fmT) hs hw' (by rw [← hb]; unfold bOf; rw [List.map_map]; rfl) (UTn_fmT _ _)).1
        · rw [if_neg hg, if_neg hg]
          exact (ih st now stk hs hw' hb hu).1
      · rw [wfN, if_pos rfl]
        exact (ih st now stk hs hw' hb hu).2
    by_cases h1 : k = 1
    · subst h1
      have hw' : (bS st).length < 3 ∧ wfB (false :: bS st) r := by
        revert hw
        cases bS st <;> exact id
      have hn : nrmL st ((1, sk, e) :: r) = (1, sk, e) :: nrmL (1 :: st) r := rfl
      rw [hn]
      have hi := ih (1 :: st) now ((now, none, e, false) :: stk) (fun b hb => (List.mem_cons.mp hb).elim Or.inl (hs b)) hw'.2 (by show _ :: bOf stk = _ :: bS st; rw [hb]; rfl) ⟨fun _ => rfl, fun z => (by cases z), hu⟩
      refine ⟨?_, ?_⟩
      · rw [lwF, lwF]
        exact hi.1
      · rw [wfN, if_neg h0, if_pos rfl]
        exact ⟨hw'.1, hi.2⟩
    by_cases h2 : k = 2
    · subst h2
      cases hbs : bS st with
      | nil => rw [hbs] at hw; exact hw.elim
      | cons b d =>
        rw [hbs] at hw
        obtain ⟨hw1, hw2⟩ : b = false ∧ wfB (true :: d) r := hw
        subst hw1
        obtain ⟨st', rfl, hst'⟩ := bS_cons1 hbs
        obtain ⟨f, rr, rfl, hf, hr⟩ := bOf_cons (hb.trans hbs)
        have hn : nrmL (1 :: st') ((2, sk, e) :: r) = (2, sk, e) :: nrmL (2 :: st') r := rfl
        rw [hn]
        have hi := ih (2 :: st') f.1 ((f.1, some now, f.2.2.1, f.2.2.2) :: rr) (fun b hb => (List.mem_cons.mp hb).elim Or.inr (htl st' 1 rfl b)) (by show wfB (true :: bS st') r; rw [hst']; exact hw2) (by show true :: bOf rr = true :: bS st'; rw [hr, hst']) ⟨fun _ => rfl, hu.2.1, hu.2.2⟩
        refine ⟨?_, ?_⟩
        · rw [lwF, lwF]
          exact hi.1
        · rw [wfN, if_neg h0, if_neg h1, if_pos rfl]
          refine ⟨d, rfl, ?_⟩
          have := hi.2
          rw [show bS (2 :: st') = true :: bS st' from rfl, hst'] at this
          exact this
    by_cases h3 : k = 3
    · subst h3
      cases hbs : bS st with
      | nil => rw [hbs] at hw; exact hw.elim
      | cons b d =>
        rw [hbs] at hw
        have hw2 : wfB d r := hw
        obtain ⟨f, rr, rfl, hf, hr⟩ := bOf_cons (hb.trans hbs)
        cases b with
        | false =>
          obtain ⟨st', rfl, hst'⟩ := bS_cons1 hbs
          have hn : nrmL (1 :: st') ((3, sk, e) :: r) = (2, 0, .null) :: (3, sk, e) :: nrmL st' r := rfl
          rw [hn]
          have hi := ih st' (fmC now f) rr (htl st' 1 rfl) (by rw [hst']; exact hw2) (by rw [hr, hst']) (UTn_fmC hu)
          refine ⟨?_, ?_⟩
          · rw [lwF, lwF, lwF, ← hi.1]
            congr 1
            have hnone : f.2.1 = none := by
              cases hq : f.2.1 with
              | none => rfl
              | some t => rw [hq] at hf; cases hf
            unfold fmC
            by_cases ht : f.2.2.2 = true
            · rw [if_pos ht, if_pos ht, hnone]
            · have hf' : f.2.2.2 = false := by simpa using ht
              rw [if_neg ht, if_neg ht, hu.1 hf']
          · rw [wfN, if_neg (show ¬ (2 : Nat) = 0 by decide), if_neg (show ¬ (2 : Nat) = 1 by decide), if_pos rfl]
            refine ⟨d, rfl, ?_⟩
            rw [wfN, if_neg h0, if_neg h1, if_neg h2]
            refine ⟨rfl, d, rfl, ?_⟩
            rw [← hst']
            exact hi.2
        | true =>
          obtain ⟨st', rfl, hst'⟩ := bS_cons2 hs hbs
          have hn : nrmL (2 :: st') ((3, sk, e) :: r) = (3, sk, e) :: nrmL st' r := rfl
          rw [hn]
          have hi := ih st' (fmC now f) rr (htl st' 2 rfl) (by rw [hst']; exact hw2) (by rw [hr, hst']) (UTn_fmC hu)
          refine ⟨?_, ?_⟩
          · rw [lwF, lwF]
            exact hi.1
          · rw [wfN, if_neg h0, if_neg h1, if_neg h2]
            refine ⟨rfl, d, rfl, ?_⟩
            rw [← hst']
            exact hi.2
    · exfalso
      revert hw
      cases bS st <;> (unfold wfB; intro hw; split at hw <;> simp_all)
theorem lwF_nrm {g : Nat} {lo : List Lo} {now : Jvm.Term} (h : wfB [] lo) : lwF g (nrmL [] lo) now [] = lwF g lo now [] := (nrm_both lo [] now [] (fun b hb => by simp at hb) h rfl trivial).1
theorem wfN_nrm {lo : List Lo} (h : wfB [] lo) : wfN [] (nrmL [] lo) := (nrm_both (g := 0) lo [] .null [] (fun b hb => by simp at hb) h rfl trivial).2
theorem form_nrm {sg : List Sg} {lo : List Lo} (h : wfB [] lo) (g : Nat) : form sg (nrmL [] lo) g = form sg lo g := by
  unfold form
  cases sg[g]? with
  | none => rfl
  | some x =>
    dsimp only
    rw [lwF_nrm h]
theorem nrmL_mem0 : ∀ (lo : List Lo) (st : List Nat) (x : Lo), x.1 = 0 → (x ∈ nrmL st lo ↔ x ∈ lo)
  | [], st, x, _ => Iff.rfl
  | y :: r, st, x, h => by
    have hne : x ≠ ((2, 0, .null) : Lo) := fun z => by rw [z] at h; cases h
    rw [nrmL]
    split
    · split
      · rw [List.mem_cons, List.mem_cons, List.mem_cons, nrmL_mem0 r _ x h]
        exact ⟨fun z => z.elim (fun z => absurd z hne) id, Or.inr⟩
      · rw [List.mem_cons, List.mem_cons, nrmL_mem0 r _ x h]
    · split
      · rw [List.mem_cons, List.mem_cons, nrmL_mem0 r _ x h]
      · split <;> rw [List.mem_cons, List.mem_cons, nrmL_mem0 r _ x h]
theorem nrmL_filter : ∀ (lo : List Lo) (st : List Nat), (nrmL st lo).filter (fun x => x.1 == 0) = lo.filter (fun x => x.1 == 0)
  | [], st => rfl
  | y :: r, st => by
    rw [nrmL]
    split
    · split
      · rw [List.filter_cons, List.filter_cons, List.filter_cons, nrmL_filter r]
        rfl
      · rw [List.filter_cons, List.filter_cons, nrmL_filter r]
    · split
      · rw [List.filter_cons, List.filter_cons, nrmL_filter r]
      · split <;> rw [List.filter_cons, List.filter_cons, nrmL_filter r]
theorem Cl_nrm {sg : List Sg} {lo : List Lo} {V : Nat → Nat} : Cl sg (nrmL [] lo) V ↔ Cl sg lo V := by
  unfold Cl
  constructor
  · rintro ⟨h1, h2⟩
    refine ⟨h1, fun k x hx h0 => ?_⟩
    obtain ⟨j, hj⟩ := List.getElem?_of_mem ((nrmL_mem0 lo [] x h0).mpr (List.mem_of_getElem? hx))
    exact h2 j x hj h0
  · rintro ⟨h1, h2⟩
    refine ⟨h1, fun k x hx h0 => ?_⟩
    obtain ⟨j, hj⟩ := List.getElem?_of_mem ((nrmL_mem0 lo [] x h0).mp (List.mem_of_getElem? hx))
    exact h2 j x hj h0
theorem GW_nrm {sg : List Sg} {lo : List Lo} {cv cv' : List (Option Jvm.Term)} {W : Nat → Nat} (hc : twA W cv' ↔ twA W cv) : GW sg (nrmL [] lo) cv' W ↔ GW sg lo cv W := by
  unfold GW
  rw [Cl_nrm, hc]
  constructor
  · rintro ⟨h1, h2, h3, h4⟩
    exact ⟨h1, h2, fun V a b => h3 V a (Cl_nrm.mpr b), h4⟩
  · rintro ⟨h1, h2, h3, h4⟩
    exact ⟨h1, h2, fun V a b => h3 V a (Cl_nrm.mp b), h4⟩
