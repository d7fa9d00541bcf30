theorem cF1_len : cF1.length = 95 := by decide +kernel
set_option maxHeartbeats 4000000 in
/-- from the entry: the two objects, the two cells for answers, the loop -/
theorem whole_start {p : Program} {e : Env} {s : State} {m : MethodId} {below : List Frame} {meth : Method} {c : Code} (l : Launch) (hl0 : l.stackTraces = false) {b L : Nat} {xs : Nat → Int32} (hL : L ≤ 1536) (C0 : lw_At p s m meth c b L xs) : W p l e room_1 s m #[Value.ref b] below meth c s.heap [] 0 0 (lw_Z below #[Value.ref b] s) (entryFrame m ([Value.ref b] : List Value).toArray 9) := by
  obtain ⟨hx, hb, hr, hml, hown, hts, hX, hbl, hlk, hg⟩ := C0
  obtain ⟨D, cT, hK, hN, hM⟩ := st_K hts
  have hT := st_T hts hg
  have hNC := st_N hg
  have C1 : CXZ p s m #[Value.ref b] meth c lw_tbl 14 code 9 := ⟨hx, hb, hml, hown, hts, lawT⟩
  have hl0' := lv_entry ([.ref b] : List Value) (n := 9) (Nat.le_of_ble_eq_true rfl)
  rw [lg_entry_eq]
  generalize (lg_sl ([.ref b]) ++ List.replicate (9 - (lg_sl ([.ref b])).length) Slot.unset).toArray = ls at hl0' ⊢
  have hl1 : lv_has ls 9 [(0, .ref b)] := hl0'
  refine l_new (F := []) C1 hK lx_8 (by decide +kernel) (by decide +kernel) (by decide +kernel) dl_0 ⟨rfl, fun k q hq => (by cases hq), va_S.rf⟩ (fun H1 h1 => ?_)
  refine lv_dup hx hb dl_3 rfl ?_
  refine l_ctor (j := 1) (z0 := 0) C1 hK hN hM (by decide) ⟨by decide, by decide⟩ lm_53 (by decide +kernel) cc1 (by decide +kernel) (by decide +kernel) hl1.1 (Nat.le_of_ble_eq_true rfl) dl_4 h1 (fun H2 locs2 h2 => ?_)
  refine lv_astore_n hx hb dl_7 rfl hl1 (by decide) rfl (fun ls2 hl2 => ?_)
  refine l_new (F := cF1) C1 hK lx_54 (by rw [cF1_len]; decide +kernel) (by decide +kernel) (by decide +kernel) dl_8 h2 (fun H3 h3 => ?_)
  rw [cF1_len]
  refine lv_dup hx hb dl_11 rfl ?_
  refine l_ctor (j := 0) (z0 := 95) C1 hK hN hM (by decide) ⟨by decide, by decide⟩ lm_56 (by decide +kernel) cc2 (by decide +kernel) (by decide +kernel) hl2.1 (Nat.le_of_ble_eq_true rfl) dl_12 h3 (fun H4 locs4 h4 => ?_)
  refine lv_astore_n hx hb dl_15 rfl hl2 (by decide) rfl (fun ls4 hl4 => ?_)
  obtain ⟨z4, p4, s4⟩ := h4
  rw [cF2_len] at z4
  have hP4 := first_P p4
  refine lv_iconst (v := 1) hx hb dl_16 rfl ?_
  refine va_newaK (atype := .long) (n := 1) (N := 1) (h := s.heap.size + 151) hx hb (hts _ (lawT _ car_long)) rfl dl_17 rfl (by decide) (by decide) (by decide) (by decide +kernel) (by decide +kernel) z4 (fun H5 cL e5 z5 o5 tL nL => ?_)
  refine lv_astore_n hx hb dl_19 rfl hl4 (by decide) rfl (fun ls5 hl5 => ?_)
  refine lv_iconst (v := 1) hx hb dl_20 rfl ?_
  refine va_newaK (atype := .double) (n := 1) (N := 1) (h := s.heap.size + 152) hx hb (hts _ (lawT _ car_double)) rfl dl_21 rfl (by decide) (by decide) (by decide) (by decide +kernel) (by decide +kernel) z5 (fun H6 cD e6 z6 o6 tD nD => ?_)
  refine lv_astore hx hb dl_23 hl5 (by decide) rfl (fun ls6 hl6 => ?_)
  refine lv_iconst (v := i32 0) hx hb dl_25 rfl ?_
  refine lv_istore hx hb dl_26 hl6 (by decide) rfl (fun ls7 hl7 => ?_)
  have a1 : adF s.heap.size 56 = s.heap.size + 0 := congrArg (s.heap.size + ·) (show ord 56 = 0 by decide +kernel)
  have a2 : adF s.heap.size 0 = s.heap.size + 95 := congrArg (s.heap.size + ·) (show ord 0 = 95 by decide +kernel)
  have hl8 : lv_has ls7 9 (LVs b s.heap.size (i32 ((0 : Nat) : Int))) := by
    show lv_has ls7 9 [(0, .ref b), (1, .ref (adF s.heap.size 56)), (2, .ref (adF s.heap.size 0)), (3, .ref (s.heap.size + 151)), (4, .ref (s.heap.size + 152)), (5, .int (i32 0))]
    rw [a1, a2]
    exact lv_sub hl7 [5, 4, 3, 2, 1, 0] rfl
  have C : LC p s m meth c D cT cL cD b L xs := ⟨C1, hK, hT, hNC, tL, tD, hX, hbl, hL⟩
  refine law_loop hl0 C hr hlk 512 (n := 0) (z := 0) (u := 0) (by omega) (by omega) first_CPL ⟨?_, w0_ok, ?_, e6, ?_⟩ hl8 ⟨by decide +kernel, by decide +kernel⟩
  · exact (hP4.kept (fun k x hx => o5 x.1 (by rw [← z4]; exact (hP4 k x hx).lt))).kept (fun k x hx => o6 x.1 (by have := (hP4 k x hx).lt; omega))
  · rw [o6 _ (by omega)]; exact e5
  · refine ⟨by have := s4.1; omega, fun q q1 q2 => ?_, s4.2.2⟩
    rw [o6 q (by omega), o5 q (by omega)]
    exact s4.2.1 q q1 q2
