section LS
variable {p : Program} {l : Launch} {e : Env} {s : State} {m : MethodId} {below : List Frame} {meth : Method} {c : Code} {Q : State → Prop}
variable {D : va_G} {cT : Nat → ClassId} {cL cD : ClassId} {b L : Nat} {xs : Nat → Int32} {pc cells slots n : Nat} {w w1 w2 : Mem} {ls : Array Slot} {H : Heap} {locs : List Loc} {rest st : List Value}
set_option maxHeartbeats 4000000 in
theorem case_clear (hl0 : l.stackTraces = false) (C : LC p s m meth c D cT cL cD b L xs) (hn : n + 3 ≤ L) (hw : CPL w) {z : Int64} {u : UInt64} (hL : LM s D cT cL cD w (.long z) (.double u) H locs) (hl : lv_has ls 9 (LVs b s.heap.size (i32 (n : Int)))) (hc : cells + 1 ≤ 601024 ∧ slots + 6 ≤ 7293034)
    (kn : ∀ (ls1 : Array Slot) (H1 : Heap) (locs1 : List Loc) (w1 : Mem) (z1 : Int64) (u1 : UInt64), CPL w1 → lv_has ls1 9 (LVs b s.heap.size (i32 (n : Int))) → LM s D cT cL cD w1 (.long z1) (.double u1) H1 locs1 → W p l e room_1 s m #[Value.ref b] below meth c H1 locs1 (cells + 1) (slots + 6) Q (F0 m 699 ls1 [])) : W p l e room_1 s m #[Value.ref b] below meth c H locs cells slots Q (F0 m 192 ls []) := by
  have C1 := C
  obtain ⟨⟨hx, hb, hml, hown, hts, hT⟩, -⟩ := C1
  have hc' : cells ≤ 601024 ∧ slots ≤ 7293034 := ⟨by omega, by omega⟩
  obtain ⟨v, w1, w2, h1, h2, -, h4⟩ : ∃ (v : Int) (s1 s2 : Mem), Zc 20 65 (aR 56 :: []) w = rI v s1 ∧ Zc 20 4 (aR 0 :: []) s1 = rI v s2 ∧ s2 0 4 = 0 ∧ CPL s2 := by
    rcases cp_clear hw with h | ⟨q, hq, -⟩
    · exact h
    · exact absurd hq List.not_mem_nil
  refine lv_aload_n hx hb dl_192 rfl (lv_at hl 1 rfl) ?_
  refine callMod (rr := 56) (j := 65) (as' := []) (w := w) (w1 := w1) (rest := []) C (by decide) (by decide) (by decide +kernel) rfl ll_clearF rfl (by decide +kernel) (by decide +kernel) (Nat.zero_le _) dl_193 h1 (fun q hq => absurd hq List.not_mem_nil) hL hl.1 hc' rfl (fun H1 locs1 hL1 => ?_)
  refine lv_aload_n hx hb dl_196 rfl (lv_at hl 2 rfl) ?_
  refine callMod (rr := 0) (j := 4) (as' := []) (w := w1) (w1 := w2) (rest := [.int (i32 v)]) C (by decide) (by decide) (by decide +kernel) rfl ll_clearM rfl (by decide +kernel) (by decide +kernel) (Nat.le_of_ble_eq_true rfl) dl_197 h2 (fun q hq => absurd hq List.not_mem_nil) hL1 hl.1 hc' rfl (fun H2 locs2 hL2 => ?_)
  exact lv_icmp_eq (tgt := 699) hx hb dl_200 (by decide) (fun _ => W.widen (Nat.le_succ _) (Nat.le_add_right _ _) (kn _ _ _ w2 z u h4 hl hL2)) (fun h => absurd rfl h)
set_option maxHeartbeats 4000000 in
theorem case_where (hl0 : l.stackTraces = false) (C : LC p s m meth c D cT cL cD b L xs) (hn : n + 3 ≤ L) (hw : CPL w) {z : Int64} {u : UInt64} (hL : LM s D cT cL cD w (.long z) (.double u) H locs) (hl : lv_has ls 9 (LVs b s.heap.size (i32 (n : Int)))) (hc : cells + 1 ≤ 601024 ∧ slots + 6 ≤ 7293034)
    (kn : ∀ (ls1 : Array Slot) (H1 : Heap) (locs1 : List Loc) (w1 : Mem) (z1 : Int64) (u1 : UInt64), CPL w1 → lv_has ls1 9 (LVs b s.heap.size (i32 (n : Int))) → LM s D cT cL cD w1 (.long z1) (.double u1) H1 locs1 → W p l e room_1 s m #[Value.ref b] below meth c H1 locs1 (cells + 1) (slots + 6) Q (F0 m 699 ls1 [])) : W p l e room_1 s m #[Value.ref b] below meth c H locs cells slots Q (F0 m 249 ls []) := by
  have C1 := C
  obtain ⟨⟨hx, hb, hml, hown, hts, hT⟩, -⟩ := C1
  have hc' : cells ≤ 601024 ∧ slots ≤ 7293034 := ⟨by omega, by omega⟩
  obtain ⟨v, w1, w2, h1, h2, -, h4⟩ : ∃ (v : Int) (s1 s2 : Mem), Zc 20 67 (aR 56 :: []) w = rI v s1 ∧ Zc 20 47 (aR 0 :: []) s1 = rI v s2 ∧ s2 0 4 = 0 ∧ CPL s2 := by
    rcases cp_where hw with h | ⟨q, hq, -⟩
    · exact h
    · exact absurd hq List.not_mem_nil
  refine lv_aload_n hx hb dl_249 rfl (lv_at hl 1 rfl) ?_
  refine callMod (rr := 56) (j := 67) (as' := []) (w := w) (w1 := w1) (rest := []) C (by decide) (by decide) (by decide +kernel) rfl ll_whereF rfl (by decide +kernel) (by decide +kernel) (Nat.zero_le _) dl_250 h1 (fun q hq => absurd hq List.not_mem_nil) hL hl.1 hc' rfl (fun H1 locs1 hL1 => ?_)
  refine lv_aload_n hx hb dl_253 rfl (lv_at hl 2 rfl) ?_
  refine callMod (rr := 0) (j := 47) (as' := []) (w := w1) (w1 := w2) (rest := [.int (i32 v)]) C (by decide) (by decide) (by decide +kernel) rfl ll_whereM rfl (by decide +kernel) (by decide +kernel) (Nat.le_of_ble_eq_true rfl) dl_254 h2 (fun q hq => absurd hq List.not_mem_nil) hL1 hl.1 hc' rfl (fun H2 locs2 hL2 => ?_)
  exact lv_icmp_eq (tgt := 699) hx hb dl_257 (by decide) (fun _ => W.widen (Nat.le_succ _) (Nat.le_add_right _ _) (kn _ _ _ w2 z u h4 hl hL2)) (fun h => absurd rfl h)
set_option maxHeartbeats 4000000 in
/-- one call of the script, made on both -/
theorem law_case (hl0 : l.stackTraces = false) (C : LC p s m meth c D cT cL cD b L xs) (hn : n + 3 ≤ L) (hw : CPL w) {z : Int64} {u : UInt64} (hL : LM s D cT cL cD w (.long z) (.double u) H locs) (hl : lv_has ls 9 (LVs b s.heap.size (i32 (n : Int)))) (hc : cells + 1 ≤ 601024 ∧ slots + 6 ≤ 7293034)
    (kn : ∀ (ls1 : Array Slot) (H1 : Heap) (locs1 : List Loc) (w1 : Mem) (z1 : Int64) (u1 : UInt64), CPL w1 → lv_has ls1 9 (LVs b s.heap.size (i32 (n : Int))) → LM s D cT cL cD w1 (.long z1) (.double u1) H1 locs1 → W p l e room_1 s m #[Value.ref b] below meth c H1 locs1 (cells + 1) (slots + 6) Q (F0 m 699 ls1 [])) : W p l e room_1 s m #[Value.ref b] below meth c H locs cells slots Q (F0 m 37 ls []) := by
  have C1 := C
  obtain ⟨⟨hx, hb, hml, hown, hts, hT⟩, -, -, -, -, -, hX, hbl, hLx⟩ := C1
  have hin : inI (n : Int) := by unfold inI; omega
  have hS := hL.2.2.2.2
  refine lv_aload_n hx hb dl_37 rfl (lv_at hl 0 rfl) ?_
  refine lv_iload hx hb dl_38 (lv_at hl 5 rfl) ?_
  refine va_sld hx hb hX hbl (A := fun q => s.heap.size ≤ q) (by show ¬ s.heap.size ≤ b; omega) hS (i32_vp hin (Int.natCast_nonneg _) (by omega)) dl_40 ?_
  refine lv_bipush (v := 15) hx hb dl_41 (by decide +kernel) ?_
  refine lv_iand hx hb dl_43 ?_
  generalize (xs (i32 (n : Int)).toNatClampNeg &&& 15) = X
  have skip : W p l e room_1 s m #[Value.ref b] below meth c H locs cells slots Q (F0 m 699 ls []) := W.widen (Nat.le_succ _) (Nat.le_add_right _ _) (kn _ _ _ w z u hw hl hL)
  by_cases g1 : X.toInt < 0
  · exact lv_tableOut (tgt := 699) hx hb dl_44 (Or.inl g1) (by decide) skip
  by_cases g2 : 10 < X.toInt
  · exact lv_tableOut (tgt := 699) hx hb dl_44 (Or.inr g2) (by decide) skip
  have key : X.toInt = 0 ∨ X.toInt = 1 ∨ X.toInt = 2 ∨ X.toInt = 3 ∨ X.toInt = 4 ∨ X.toInt = 5 ∨ X.toInt = 6 ∨ X.toInt = 7 ∨ X.toInt = 8 ∨ X.toInt = 9 ∨ X.toInt = 10 := by omega
  rcases key with h | h | h | h | h | h | h | h | h | h | h
  · exact lv_tableIn (off := 60) (tgt := 104) hx hb dl_44 g1 g2 (by rw [h]; rfl) (by decide) (case_text hl0 C hn hw hL hl hc kn)
  · exact lv_tableIn (off := 148) (tgt := 192) hx hb dl_44 g1 g2 (by rw [h]; rfl) (by decide) (case_clear hl0 C hn hw hL hl hc kn)
  · exact lv_tableIn (off := 161) (tgt := 205) hx hb dl_44 g1 g2 (by rw [h]; rfl) (by decide) (case_compile hl0 C hn hw hL hl hc kn)
  · exact lv_tableIn (off := 205) (tgt := 249) hx hb dl_44 g1 g2 (by rw [h]; rfl) (by decide) (case_where hl0 C hn hw hL hl hc kn)
  · exact lv_tableIn (off := 218) (tgt := 262) hx hb dl_44 g1 g2 (by rw [h]; rfl) (by decide) (case_signal hl0 C hn hw hL hl hc kn)
  · exact lv_tableIn (off := 286) (tgt := 330) hx hb dl_44 g1 g2 (by rw [h]; rfl) (by decide) (case_depends hl0 C hn hw hL hl hc kn)
  · exact lv_tableIn (off := 342) (tgt := 386) hx hb dl_44 g1 g2 (by rw [h]; rfl) (by decide) (case_set hl0 C hn hw hL hl hc kn)
  · exact lv_tableIn (off := 410) (tgt := 454) hx hb dl_44 g1 g2 (by rw [h]; rfl) (by decide) (case_value hl0 C hn hw hL hl hc kn)
  · exact lv_tableIn (off := 466) (tgt := 510) hx hb dl_44 g1 g2 (by rw [h]; rfl) (by decide) (case_clock hl0 C hn hw hL hl hc kn)
  · exact lv_tableIn (off := 522) (tgt := 566) hx hb dl_44 g1 g2 (by rw [h]; rfl) (by decide) (case_activity hl0 C hn hw hL hl hc kn)
  · exact lv_tableIn (off := 599) (tgt := 643) hx hb dl_44 g1 g2 (by rw [h]; rfl) (by decide) (case_count hl0 C hn hw hL hl hc kn)
end LS
