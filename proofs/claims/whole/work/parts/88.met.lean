theorem flat_args {ad : Nat → Nat} : ∀ (as : List AV) (o i : Nat) (v : AV), (∀ a ∈ as, a.1 ≠ 3) → (flat as)[i]? = some v → v.1 < 3 → (o + i, cV ad v) ∈ lv_args o (as.map (cV ad)) := by
  intro as
  induction as with
  | nil => intro o i v _ h; simp [flat] at h
  | cons a t ih =>
    intro o i v h3 h hv
    have h3t : ∀ a ∈ t, a.1 ≠ 3 := fun x hx => h3 x (List.mem_cons_of_mem _ hx)
    have hf : flat (a :: t) = (if a.1 = 2 then [a, aU] else [a]) ++ flat t := rfl
    rw [hf] at h
    rw [List.map_cons]
    unfold lv_args
    by_cases ha : a.1 = 2
    · rw [if_pos ha] at h
      have hc : (cV ad a).category = 2 := by unfold cV; rw [ha]; rfl
      rw [if_pos hc]
      match i, h with
      | 0, h => cases h; exact List.mem_cons_self
      | 1, h => cases h; exact absurd hv (by decide)
      | i + 2, h =>
        have := ih (o + 2) i v h3t (by simpa using h) hv
        rw [show o + (i + 2) = o + 2 + i by omega]
        exact List.mem_cons_of_mem _ this
    · rw [if_neg ha] at h
      have hc : ¬ (cV ad a).category = 2 := fun z => ha (cat_2 (h3 _ List.mem_cons_self) z)
      rw [if_neg hc]
      match i, h with
      | 0, h => cases h; exact List.mem_cons_self
      | i + 1, h =>
        have := ih (o + 1) i v h3t (by simpa using h) hv
        rw [show o + (i + 1) = o + 1 + i by omega]
        exact List.mem_cons_of_mem _ this
theorem sl_len {ad : Nat → Nat} : ∀ (as : List AV), (∀ a ∈ as, a.1 ≠ 3) → (lg_sl (as.map (cV ad))).length = (flat as).length := by
  intro as
  induction as with
  | nil => intro _; rfl
  | cons a t ih =>
    intro h3
    have h3t : ∀ a ∈ t, a.1 ≠ 3 := fun x hx => h3 x (List.mem_cons_of_mem _ hx)
    have e1 : lg_sl ((a :: t).map (cV ad)) = (if (cV ad a).category = 2 then [Slot.val (cV ad a), Slot.second] else [Slot.val (cV ad a)]) ++ lg_sl (t.map (cV ad)) := rfl
    have e2 : flat (a :: t) = (if a.1 = 2 then [a, aU] else [a]) ++ flat t := rfl
    rw [e1, e2, List.length_append, List.length_append, ih h3t]
    by_cases ha : a.1 = 2
    · have hc : (cV ad a).category = 2 := by unfold cV; rw [ha]; rfl
      rw [if_pos ha, if_pos hc]
      rfl
    · have hc : ¬ (cV ad a).category = 2 := fun z => ha (cat_2 (h3 _ List.mem_cons_self) z)
      rw [if_neg ha, if_neg hc]
      rfl
theorem entryLR {ad : Nat → Nat} {j : Nat} {as : List AV} (h : argOk j as = true) : LRz ad (mLg j) (mL j) ((lg_sl (as.map (cV ad)) ++ List.replicate (mL j - (lg_sl (as.map (cV ad))).length) Slot.unset).toArray) (entry j as) := by
  unfold argOk at h
  simp only [Bool.and_eq_true, decide_eq_true_eq] at h
  obtain ⟨⟨⟨h1, h2⟩, h3⟩, h4⟩ := h
  have hn3 : ∀ a ∈ as, a.1 ≠ 3 := fun a ha => by have := List.all_eq_true.mp h4 a ha; simpa using this
  obtain ⟨e1, e2, e3⟩ := lv_entry (as.map (cV ad)) (n := mL j) (by rw [sl_len _ hn3]; exact h2)
  have hent : entry j as = flat as ++ List.replicate (mL j - (flat as).length) aU := rfl
  refine ⟨e1, by rw [hent, List.length_append, List.length_replicate]; omega, e2, fun i v hv => ?_⟩
  have key : v.1 < 3 → (flat as)[i]? = some v := fun h0 => by
    rw [hent] at hv
    by_cases hi : i < (flat as).length
    · rw [List.getElem?_append_left hi] at hv
      exact hv
    · rw [List.getElem?_append_right (by omega)] at hv
      have := List.eq_of_mem_replicate (List.mem_of_getElem? hv)
      rw [this] at h0
      exact absurd h0 (by decide)
  have hin : v.1 < 3 → _ := fun h0 => e3 _ (by have := flat_args (ad := ad) as 0 i v hn3 (key h0) h0; rw [Nat.zero_add] at this; exact this)
  refine ⟨fun h0 => hin (by omega), fun h0 => ⟨?_, hin (by omega)⟩⟩
  have := List.all_eq_true.mp h3 (v, i) (List.mem_zipIdx_iff_getElem?.mpr (key (by omega)))
  simp only [h0] at this
  simpa using this
theorem entry_ok {j : Nat} {as : List AV} (h : ∀ v ∈ as, okV v) : ∀ v ∈ entry j as, okV v := fun v hv => by
  unfold entry at hv
  rcases List.mem_append.mp hv with q | q
  · unfold flat at q
    obtain ⟨a, ha, hq⟩ := List.mem_flatMap.mp q
    split at hq
    · simp only [List.mem_cons, List.not_mem_nil, or_false] at hq
      rcases hq with rfl | rfl
      · exact h _ ha
      · exact fun z => absurd z (by decide)
    · simp only [List.mem_cons, List.not_mem_nil, or_false] at hq
      subst hq
      exact h _ ha
  · rw [List.eq_of_mem_replicate q]
    exact fun z => absurd z (by decide)
section ZM
variable {p : Program} {l : Launch} {e : Env} {R : Room} {s : State} {m : MethodId} {args : Array Value} {below : List Frame} {meth : Method} {c : Code}
variable {ad : Nat → Nat} {D : va_G} {cT : Nat → ClassId} {y d : Nat} {C : Nat → List AV → Mem → Option Res}
theorem z_run {r0 : Res} (C0 : CXZ p s m args meth c (wsZ y) (mC y) (mB y) (mL y)) (hr : meth.sig.returnType = retT (mRt y)) (hlocks : meth.locks = false) (hcy : mC y < 15) (hK : KZ D cT s) (hR : d + 1 ≤ R.frames ∧ 40 * (d + 1) ≤ R.locals)
    (hA : ∀ q, s.heap.size ≤ q → AZ ad s.heap.size q) (hC : SND l C d) (h10 : r0.1 < 10) : ∀ (n pc : Nat) (als st : List AV) (w : Mem), runZ C y n (pc, als, st, w) = some r0 →
    Wz p l e R s m args below meth c (MQ below (QZ ad D cT (AZ ad s.heap.size) r0) args s 0 0 (AZ ad s.heap.size)) ad D cT (AZ ad s.heap.size) y pc als st w := by
  intro n
  induction n with
  | zero => intro pc als st w h; cases h
  | succ n ih =>
    intro pc als st w h
    unfold runZ at h
    dsimp only at h
    cases hd : decode (mB y) pc with
    | error x => rw [hd] at h; cases h
    | ok t =>
      obtain ⟨i, len⟩ := t
      rw [hd] at h
      dsimp only at h
      obtain ⟨hk, h⟩ := if_s h
      cases hs : stepZ C y i len pc als st w with
      | none => rw [hs] at h; cases h
      | some q =>
        rw [hs] at h
        refine z_step C0 hr hlocks hcy hK hR hA hC hd hk hs (fun pc' als' st' w' hq => ?_) (fun r hq _ => ?_) (fun idx t hi ht hq => ?_)
        · subst hq
          exact ih pc' als' st' w' h
        · subst hq
          cases h
          rfl
        · subst hq
          cases h
          exact absurd h10 (by show ¬ 10 + t < 10; omega)
end ZM
theorem mtt_c : mtt.all (fun q => decide (q.1 < 15)) = true := by decide +kernel
/-- WHAT THE SMALL MACHINE ANSWERS, THE MACHINE ANSWERS -/
theorem z_met (l : Launch) : ∀ d, SND l (Zc d) d := by
  intro d
  induction d with
  | zero => intro ad D cT j as w r sz hj hb h; cases h
  | succ d ih =>
    intro ad D cT j as w r sz hj hb h hok h10
    unfold Zc at h
    obtain ⟨hao, h⟩ := if_s h
    obtain ⟨n, hn⟩ := Ex_some.mp h
    obtain ⟨f1, f2, f3, f4, f5, f6, f7⟩ := fmAll j (by rw [← mtt_len]; exact hj) hb
    refine Met.ofW (cc := mB j) (maxL := mL j) (ret := retT (mRt j)) f3 rfl ?_
    intro p e s m args below meth c s₁ B hml hv
    obtain ⟨rfl, hsz, hP, hD, hK, hm⟩ := hv
    have hts := atoms_spec (ws := wsZ j) B.pre
    have hown : s.vm.findClass (clsN (mC j)) = some m.cls := by rw [← f4]; exact findClass_of_methodNamed B.named
    have hcy : mC j < 15 := by
      have h1 := List.all_eq_true.mp mtt_c _ (List.getElem_mem hj)
      have e : mth j = mtt[j] := by unfold mth; rw [List.getD_eq_getElem?_getD, List.getElem?_eq_getElem hj]; rfl
      unfold mC
      rw [e]
      simpa using h1
    subst hsz
    have hA : ∀ q, s.heap.size ≤ q → AZ ad s.heap.size q := fun q hq => Or.inr hq
    have hD' : va_D (AZ ad s.heap.size) (wS ad cT w) := ⟨hD.1, fun k q hq => by
      have hk : k < lyt.length := by
        have := (List.getElem?_eq_some_iff.mp hq).1
        simpa [wS] using this
      rw [wS_get hk] at hq
      cases hq
      exact Or.inl ⟨k, hk, rfl⟩⟩
    rw [lg_entry_eq]
    have hw := z_run (R := (headSpec (wsZ j) (rmZ (d + 1))).room) ⟨B.exec, B.bytes, hml, hown, hts, fun q hq => List.mem_cons_of_mem _ hq⟩ B.returns B.notSynchronized hcy hK (d := d) (⟨Nat.le_refl _, Nat.le_refl _⟩) hA ih h10 n 0 (entry j as) [] w hn (e := e) (below := below)
    exact hw _ s.heap [] ⟨entryLR hao, entry_ok hok, (fun v hv => absurd hv List.not_mem_nil), hm, hP, hD', va_S.rf⟩
