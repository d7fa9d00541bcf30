section ST
variable {p : Program} {l : Launch} {e : Env} {R : Room} {s : State} {m : MethodId} {args : Array Value} {below : List Frame} {meth : Method} {c : Code} {T : State} {locs : List Loc} {cells slots : Nat}
theorem mAt_stand (X : Stand p l e R s m args below meth c T locs cells slots) (cO cI : ClassId) : ∀ n, ∃ L, Stand p l e R s m args below meth c (mAt T cO cI n) (locs ++ L) (cells + 1 + n) (slots + 3 + 24 * n) ∧ ∀ q ∈ L, q.base = T.heap.size := by
  intro n
  induction n with
  | zero =>
    refine ⟨[], ?_, fun q hq => absurd hq List.not_mem_nil⟩
    have h := X.pushed (mOut cO T.heap.size 0)
    rw [(mOut_at cO T.heap.size 0).2.2] at h
    rw [List.append_nil]
    exact h
  | succ n ih =>
    obtain ⟨L, h1, h2⟩ := ih
    obtain ⟨a1, a2, -, -, -, -⟩ := mAt_at T cO cI n
    have hcell : ((mAt T cO cI n).pushCell (mIn cI)).heap[T.heap.size]? = some (mOut cO T.heap.size n) := by
      show ((mAt T cO cI n).heap.push _)[_]? = _
      rw [Array.getElem?_push, if_neg (by rw [a1]; omega), a2]
    have h := (h1.pushed (mIn cI)).stored hcell n (.ref (T.heap.size + 1 + n))
    have e1 : (mIn cI).slots.size = 24 := Array.size_replicate
    rw [e1] at h
    refine ⟨L ++ [⟨T.heap.size, n⟩], ?_, fun q hq => ?_⟩
    · rw [← List.append_assoc]
      have e2 : slots + 3 + 24 * (n + 1) = slots + 3 + 24 * n + 24 := by omega
      rw [e2]
      exact h
    · rcases List.mem_append.mp hq with z | z
      · exact h2 q z
      · rw [List.mem_singleton.mp z]
end ST
theorem mOut_3 {cO : ClassId} {a : Nat} {f : Nat → Value} (h0 : f 0 = .ref (a + 1)) (h1 : f 1 = .ref (a + 1 + 1)) (h2 : f 2 = .ref (a + 1 + 2)) : mOut cO a 3 = arrV cO 3 f := by
  show ({ cls := cO, slots := (((Array.replicate 3 Value.null).setIfInBounds 0 (.ref (a + 1 + 0))).setIfInBounds 1 (.ref (a + 1 + 1))).setIfInBounds 2 (.ref (a + 1 + 2)), vm := .none } : Cell) = { cls := cO, slots := Array.ofFn (n := 3) fun j => f j.val, vm := .none }
  congr 1
  apply Array.ext
  · simp
  · intro i g1 g2
    have hi : i < 3 := by simpa using g2
    rcases (by omega : i = 0 ∨ i = 1 ∨ i = 2) with rfl | rfl | rfl
    · simp [h0]
    · simp [h1]
    · simp [h2]
section CM
variable {p : Program} {l : Launch} {e : Env} {R : Room} {s : State} {m : MethodId} {args : Array Value} {below : List Frame} {meth : Method} {c : Code} {Q : State → Prop}
variable {B : Nat} {D : va_G} {cT : Nat → ClassId} {y pc nc ns : Nat} {lv st : List AV} {F : CFl} {Ts : List Cond}
theorem c_multi (C0 : CXZ p s m args meth c Ts 5 (cB 5) (cL 5)) (hK : KZ D cT s) (hM : MAK cT s) (hk : kl F.length = (4, 3)) (hk3 : kl (F.length + 1) = (1, 24) ∧ kl (F.length + 2) = (1, 24) ∧ kl (F.length + 3) = (1, 24)) (hr : ord (rcn (ivo F.length) 0) = F.length + 1 ∧ ord (rcn (ivo F.length) 1) = F.length + 2 ∧ ord (rcn (ivo F.length) 2) = F.length + 3) (hc : nc + 4 ≤ R.cells) (hs : ns + 75 ≤ R.slots) (hd : decode (cB 5) pc = .ok (.multianewarray 18 2, 4))
    (k : Wc p l e R s m args below meth c Q B D cT (cL 5) (pc + 4) lv (aR F.length :: st) (F ++ [[], [], [], []]) (nc + 4) (ns + 75)) : Wc p l e R s m args below meth c Q B D cT (cL 5) pc lv ((0, 24) :: (0, 3) :: st) F nc ns := fun hn ls H locs h => by
  obtain ⟨hx0, hb, hml, hown, hts, hT⟩ := C0
  obtain ⟨h1, h2, h3, h5⟩ := h
  intro T hTH X
  subst hTH
  have hdg : decode c.code pc = .ok (.multianewarray 18 2, 4) := by rw [hb]; exact hd
  have hpl : e.platform.magicAccessors = ({} : Platform).magicAccessors := by rw [X.admits.platform]
  obtain ⟨cO, hfO, hcl⟩ := Cond.classLink_spec hown (hts _ (hT _ cmu)) e.platform hpl
  have hO : cO = cT 4 := Option.some.inj (hfO.symm.trans (hK.1.2 3 _ rfl).2)
  subst hO
  obtain ⟨hg₁, hwarm₁, hready₁⟩ := State.classEntry (e := e) X.warmed hcl
  generalize T.vm.noted m.cls 18 (.cls (cT 4)) = vm₁ at hg₁ hwarm₁ hready₁
  obtain ⟨kO, kI, cc, k1, k2, k3, k4⟩ := MAK.moved (U := T.setVm vm₁) hwarm₁.alike hM
  have X₁ := X.noted hwarm₁
  obtain ⟨L, X₂, hL⟩ := mAt_stand X₁ (cT 4) (cT 1) 3
  obtain ⟨a1, a2, a3, a4, a5, a6⟩ := mAt_at (T.setVm vm₁) (cT 4) (cT 1) 3
  obtain ⟨r1, r2⟩ := X.roomAbove hc hs
  have hz : (T.setVm vm₁).heap.size = B + F.length := h2
  rw [hz] at a1 a2 a5 a6 hL
  have hP : va_P D clZ (CW B cT (F ++ [[], [], [], []])) (mAt (T.setVm vm₁) (cT 4) (cT 1) 3).heap := fun j q hq => by
    obtain ⟨hj, rfl⟩ := CW_key hq
    rw [List.length_append] at hj
    have hj : j < F.length + 4 := hj
    by_cases hlt : j < F.length
    · rw [eC_app hlt]
      refine (h3 j _ (CW_get hlt)).kept ?_
      exact a5 _ (by show B + j < _; omega)
    · rcases (by omega : j = F.length ∨ j = F.length + 1 ∨ j = F.length + 2 ∨ j = F.length + 3) with rfl | rfl | rfl | rfl
      · unfold eC
        rw [hk]
        show (mAt (T.setVm vm₁) (cT 4) (cT 1) 3).heap[B + F.length]? = some (vp_cell (cT 4) (3, .inr (.inr (.inr (.inr (fun i => some (B + ord (rcn (ivo F.length) i))))))))
        rw [a2]
        exact congrArg some (mOut_3 (cO := cT 4) (a := B + F.length) (f := fun i => .ref (B + ord (rcn (ivo F.length) i))) (by show Value.ref (B + ord (rcn (ivo F.length) 0)) = _; rw [hr.1]; rfl) (by show Value.ref (B + ord (rcn (ivo F.length) 1)) = _; rw [hr.2.1]; rfl) (by show Value.ref (B + ord (rcn (ivo F.length) 2)) = _; rw [hr.2.2]; rfl))
      · rw [eC_t hk3.1 (by decide) (by decide)]
        exact (a6 0 (by decide)).trans (congrArg some (arrV_new (cT 1) 24 (.int 0)))
      · rw [eC_t hk3.2.1 (by decide) (by decide)]
        exact (a6 1 (by decide)).trans (congrArg some (arrV_new (cT 1) 24 (.int 0)))
      · rw [eC_t hk3.2.2 (by decide) (by decide)]
        exact (a6 2 (by decide)).trans (congrArg some (arrV_new (cT 1) 24 (.int 0)))
  obtain ⟨t, b1, b2⟩ := k (by rw [List.length_append]; show _ = B + (F.length + 4); omega) ls _ (locs ++ L) ⟨h1, by rw [a1, List.length_append]; show _ = B + (F.length + 4); omega, hP, ⟨by rw [a1]; have := h5.1; omega, fun q q1 q2 => (a5 q (by have := h5.1; omega)).trans (h5.2.1 q q1 q2), fun q hq => by
    rcases List.mem_append.mp hq with z | z
    · exact h5.2.2 q z
    · rw [hL q z]; exact Nat.le_add_right _ _⟩⟩ _ rfl X₂
  refine ⟨t, ?_, b2⟩
  have hlim : ¬ 24 > e.platform.arrayLengthLimit := by rw [Launch.admits_arrayLengthLimit X.admits]; decide
  have hheap : ¬ 24 * 4 > e.platform.maxHeapBytes := by rw [Launch.admits_maxHeapBytes X.admits]; decide
  refine Steps.instr (c := _) (by simpa using X.here) ?_
  simp only [hdg, wpRun, exec, hx0]
  rw [mm_cold X.here.top hg₁ hready₁]
  refine mm_ready (rest := st.map (cV (adB B))) X.here.top hready₁ k1 k2 k3 k4 hlim hheap r1 r2 rfl (fun acts' acts => ?_)
  have hs2 : ((mAt (T.setVm vm₁) (cT 4) (cT 1) 3).topJava?).isSome := X₂.here.top
  simp [jvm, hs2]
  rw [h2]
  exact b1
end CM
