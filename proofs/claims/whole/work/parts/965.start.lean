/-! the first state: nothing compiled, on both sides -/
theorem w0_arr {k : Nat} (h : (kd k).1 ≠ 0) (j : Nat) : w0 k j = 0 := by unfold w0; rw [if_neg h]
theorem fkt_100 : fkt.all (fun r => decide (r.length ≤ 100)) = true := by decide +kernel
theorem fkd_100 {c k : Nat} (h : fkd c k = 2) : k < 100 := by
  unfold fkd at h
  rw [List.getD_eq_getElem?_getD, List.getD_eq_getElem?_getD] at h
  cases h1 : fkt[c]? with
  | none => rw [h1] at h; simp at h
  | some r =>
    rw [h1] at h
    have h2 : r.length ≤ 100 := by simpa using List.all_eq_true.mp fkt_100 r (List.mem_of_getElem? h1)
    rcases Nat.lt_or_ge k r.length with q | q
    · omega
    · dsimp only [Option.getD_some] at h
      rw [List.getElem?_eq_none q] at h
      simp at h
theorem chk_3 : ((List.range 151).all fun r => (List.range 100).all fun k => decide (r < 56) || decide (¬ fkd (obC r) k = 2) || decide (w0 r k < 0) || decide ((56 : Int) ≤ w0 r k)) = true := by decide +kernel
theorem w0_DY : DY HIG w0 := fun r k hr hk h0 => by
  unfold HIG at hr ⊢
  have hk1 := fkd_100 hk
  by_cases hr1 : r < 151
  · have := List.all_eq_true.mp (List.all_eq_true.mp chk_3 r (List.mem_range.mpr hr1)) k (List.mem_range.mpr hk1)
    simp only [Bool.or_eq_true, decide_eq_true_eq] at this
    omega
  · exfalso
    have e : kd r = (9, 0) := by
      unfold kd
      rw [List.getD_eq_getElem?_getD, List.getElem?_eq_none (by rw [lyt_len]; omega)]
      rfl
    unfold obC at hk
    rw [e] at hk
    rw [if_neg (by decide)] at hk
    have : fkd 999 k = 9 := by unfold fkd; rfl
    omega
theorem first_RA : RA w0 (tx w0) (-2) false ([], [], fun _ => 0) (fun _ => 0) (fun _ => 0) (fun _ => 0) (fun _ => 0) 0 0 := by
  have nl : ∀ {α : Type} {P : Prop} {i : Nat} {x : α}, ([] : List α)[i]? = some x → P := fun h => by cases h
  refine ⟨rfl, ⟨by decide +kernel, by decide +kernel, fun j hj => ?_⟩, ⟨by decide +kernel, by decide, by decide +kernel, by decide, fun j x hx => nl hx, rfl, fun k x hx => nl hx, fun g h ⟨x, hx, _⟩ => nl hx, fun g x hx => nl hx⟩, by decide +kernel, by decide +kernel, fun j _ => w0_arr (by decide +kernel) j, fun j _ => w0_arr (by decide +kernel) j, fun g x hx => nl hx, fun g hg => absurd hg (Nat.not_lt_zero g), fun h hh => absurd hh (Nat.not_lt_zero h), fun h hh => absurd hh (Nat.not_lt_zero h), fun j hj => absurd hj (Nat.not_lt_zero j), by decide +kernel, by decide +kernel⟩
  have e : w0 0 1 = 0 := by decide +kernel
  rw [e] at hj
  exact absurd hj (Nat.not_lt_zero j)
theorem first_RK : RK w0 (tx w0) (-2) false ([], [], fun _ => 0) (fun _ => 0) (fun _ => 0) (fun _ => 0) (fun _ => 0) 0 0 0 25 0 [] := by
  have nl : ∀ {α : Type} {P : Prop} {i : Nat} {x : α}, ([] : List α)[i]? = some x → P := fun h => by cases h
  have e : (tx w0).2 = 0 := by
    show (w0 0 1).toNat = 0
    decide +kernel
  refine ⟨⟨Or.inl rfl, by rw [e]; decide, ?_, fun j hj => ?_, by decide +kernel, by decide +kernel⟩, by decide +kernel, by decide +kernel, ⟨⟨⟨by decide +kernel, by decide, fun i x hx => nl hx⟩, fun g hg => absurd hg (Nat.not_lt_zero g), fun t m hc h1 h2 => ?_, by decide, by decide +kernel, by decide, fun g x hx => nl hx, fun g x hx => nl hx⟩, ⟨fun g x hx => nl hx, fun g h ⟨x, hx, _⟩ => nl hx, fun g x hx => nl hx⟩, ⟨List.nodup_nil, fun i x hx => nl hx⟩, fun g hg => absurd hg (Nat.not_lt_zero g), ⟨by decide +kernel, fun i x hx => nl hx⟩, fun g _ => w0_arr (by decide +kernel) g, fun g hg => absurd hg (Nat.not_lt_zero g), fun g x hx => nl hx, fun j hj => absurd hj (Nat.not_lt_zero j), by decide +kernel⟩, fun i x hx => nl hx, by decide +kernel⟩
  · rw [e]
    decide +kernel
  · rw [e] at hj
    exact absurd hj (Nat.not_lt_zero j)
  · have := esz_pos t
    omega
theorem first_CPL : CPL w0 := ⟨tx w0, -2, false, ([], [], fun _ => 0), fun _ => 0, fun _ => 0, fun _ => 0, fun _ => 0, fun _ => 0, fun _ => 0, fun _ => 0, fun _ => 0, 0, 0, 0, 25, 0, [], first_RA, first_RK, AGR.rf _ _, AGR.rf _ _, AGR.rf _ _, AGR.rf _ _, ⟨fun x hx => absurd hx List.not_mem_nil, fun x hx => absurd hx List.not_mem_nil⟩, w0_DY⟩
